theorem d_Md_init_0 : decode b_Md_init 0 = .ok (.aload_n 0, 1) := by decide +kernel
theorem d_Md_init_1 : decode b_Md_init 1 = .ok (.invokespecial 1, 3) := by decide +kernel
theorem d_Md_init_4 : decode b_Md_init 4 = .ok (.aload_n 0, 1) := by decide +kernel
theorem d_Md_init_5 : decode b_Md_init 5 = .ok (.iconst 3, 1) := by decide +kernel
theorem d_Md_init_6 : decode b_Md_init 6 = .ok (.newarray .int, 2) := by decide +kernel
theorem d_Md_init_8 : decode b_Md_init 8 = .ok (.putfield 7, 3) := by decide +kernel
theorem d_Md_init_11 : decode b_Md_init 11 = .ok (.aload_n 0, 1) := by decide +kernel
theorem d_Md_init_12 : decode b_Md_init 12 = .ok (.iconst 3, 1) := by decide +kernel
theorem d_Md_init_13 : decode b_Md_init 13 = .ok (.newarray .int, 2) := by decide +kernel
theorem d_Md_init_15 : decode b_Md_init 15 = .ok (.putfield 13, 3) := by decide +kernel
theorem d_Md_init_18 : decode b_Md_init 18 = .ok (.aload_n 0, 1) := by decide +kernel
theorem d_Md_init_19 : decode b_Md_init 19 = .ok (.iconst 3, 1) := by decide +kernel
theorem d_Md_init_20 : decode b_Md_init 20 = .ok (.newarray .int, 2) := by decide +kernel
theorem d_Md_init_22 : decode b_Md_init 22 = .ok (.putfield 16, 3) := by decide +kernel
theorem d_Md_init_25 : decode b_Md_init 25 = .ok (.aload_n 0, 1) := by decide +kernel
theorem d_Md_init_26 : decode b_Md_init 26 = .ok (.iconst 3, 1) := by decide +kernel
theorem d_Md_init_27 : decode b_Md_init 27 = .ok (.newarray .int, 2) := by decide +kernel
theorem d_Md_init_29 : decode b_Md_init 29 = .ok (.putfield 19, 3) := by decide +kernel
theorem d_Md_init_32 : decode b_Md_init 32 = .ok (.aload_n 0, 1) := by decide +kernel
theorem d_Md_init_33 : decode b_Md_init 33 = .ok (.bipush 24, 2) := by decide +kernel
theorem d_Md_init_35 : decode b_Md_init 35 = .ok (.newarray .int, 2) := by decide +kernel
theorem d_Md_init_37 : decode b_Md_init 37 = .ok (.putfield 22, 3) := by decide +kernel
theorem d_Md_init_40 : decode b_Md_init 40 = .ok (.aload_n 0, 1) := by decide +kernel
theorem d_Md_init_41 : decode b_Md_init 41 = .ok (.bipush 24, 2) := by decide +kernel
theorem d_Md_init_43 : decode b_Md_init 43 = .ok (.newarray .int, 2) := by decide +kernel
theorem d_Md_init_45 : decode b_Md_init 45 = .ok (.putfield 25, 3) := by decide +kernel
theorem d_Md_init_48 : decode b_Md_init 48 = .ok (.aload_n 0, 1) := by decide +kernel
theorem d_Md_init_49 : decode b_Md_init 49 = .ok (.bipush 24, 2) := by decide +kernel
theorem d_Md_init_51 : decode b_Md_init 51 = .ok (.newarray .int, 2) := by decide +kernel
theorem d_Md_init_53 : decode b_Md_init 53 = .ok (.putfield 28, 3) := by decide +kernel
theorem d_Md_init_56 : decode b_Md_init 56 = .ok (.aload_n 0, 1) := by decide +kernel
theorem d_Md_init_57 : decode b_Md_init 57 = .ok (.bipush 36, 2) := by decide +kernel
theorem d_Md_init_59 : decode b_Md_init 59 = .ok (.newarray .int, 2) := by decide +kernel
theorem d_Md_init_61 : decode b_Md_init 61 = .ok (.putfield 31, 3) := by decide +kernel
theorem d_Md_init_64 : decode b_Md_init 64 = .ok (.aload_n 0, 1) := by decide +kernel
theorem d_Md_init_65 : decode b_Md_init 65 = .ok (.bipush 36, 2) := by decide +kernel
theorem d_Md_init_67 : decode b_Md_init 67 = .ok (.newarray .int, 2) := by decide +kernel
theorem d_Md_init_69 : decode b_Md_init 69 = .ok (.putfield 34, 3) := by decide +kernel
theorem d_Md_init_72 : decode b_Md_init 72 = .ok (.aload_n 0, 1) := by decide +kernel
theorem d_Md_init_73 : decode b_Md_init 73 = .ok (.bipush 36, 2) := by decide +kernel
theorem d_Md_init_75 : decode b_Md_init 75 = .ok (.newarray .int, 2) := by decide +kernel
theorem d_Md_init_77 : decode b_Md_init 77 = .ok (.putfield 37, 3) := by decide +kernel
theorem d_Md_init_80 : decode b_Md_init 80 = .ok (.aload_n 0, 1) := by decide +kernel
theorem d_Md_init_81 : decode b_Md_init 81 = .ok (.bipush 108, 2) := by decide +kernel
theorem d_Md_init_83 : decode b_Md_init 83 = .ok (.newarray .boolean, 2) := by decide +kernel
theorem d_Md_init_85 : decode b_Md_init 85 = .ok (.putfield 40, 3) := by decide +kernel
theorem d_Md_init_88 : decode b_Md_init 88 = .ok (.aload_n 0, 1) := by decide +kernel
theorem d_Md_init_89 : decode b_Md_init 89 = .ok (.bipush 36, 2) := by decide +kernel
theorem d_Md_init_91 : decode b_Md_init 91 = .ok (.newarray .int, 2) := by decide +kernel
theorem d_Md_init_93 : decode b_Md_init 93 = .ok (.putfield 44, 3) := by decide +kernel
theorem d_Md_init_96 : decode b_Md_init 96 = .ok (.aload_n 0, 1) := by decide +kernel
theorem d_Md_init_97 : decode b_Md_init 97 = .ok (.iconst 4, 1) := by decide +kernel
theorem d_Md_init_98 : decode b_Md_init 98 = .ok (.newarray .long, 2) := by decide +kernel
theorem d_Md_init_100 : decode b_Md_init 100 = .ok (.putfield 47, 3) := by decide +kernel
theorem d_Md_init_103 : decode b_Md_init 103 = .ok (.aload_n 0, 1) := by decide +kernel
theorem d_Md_init_104 : decode b_Md_init 104 = .ok (.sipush 512, 3) := by decide +kernel
theorem d_Md_init_107 : decode b_Md_init 107 = .ok (.newarray .boolean, 2) := by decide +kernel
theorem d_Md_init_109 : decode b_Md_init 109 = .ok (.putfield 51, 3) := by decide +kernel
theorem d_Md_init_112 : decode b_Md_init 112 = .ok (.aload_n 0, 1) := by decide +kernel
theorem d_Md_init_113 : decode b_Md_init 113 = .ok (.sipush 512, 3) := by decide +kernel
theorem d_Md_init_116 : decode b_Md_init 116 = .ok (.newarray .long, 2) := by decide +kernel
theorem d_Md_init_118 : decode b_Md_init 118 = .ok (.putfield 54, 3) := by decide +kernel
theorem d_Md_init_121 : decode b_Md_init 121 = .ok (.aload_n 0, 1) := by decide +kernel
theorem d_Md_init_122 : decode b_Md_init 122 = .ok (.sipush 512, 3) := by decide +kernel
theorem d_Md_init_125 : decode b_Md_init 125 = .ok (.newarray .int, 2) := by decide +kernel
theorem d_Md_init_127 : decode b_Md_init 127 = .ok (.putfield 57, 3) := by decide +kernel
theorem d_Md_init_130 : decode b_Md_init 130 = .ok (.aload_n 0, 1) := by decide +kernel
theorem d_Md_init_131 : decode b_Md_init 131 = .ok (.sipush 512, 3) := by decide +kernel
theorem d_Md_init_134 : decode b_Md_init 134 = .ok (.newarray .boolean, 2) := by decide +kernel
theorem d_Md_init_136 : decode b_Md_init 136 = .ok (.putfield 60, 3) := by decide +kernel
theorem d_Md_init_139 : decode b_Md_init 139 = .ok (.aload_n 0, 1) := by decide +kernel
theorem d_Md_init_140 : decode b_Md_init 140 = .ok (.sipush 512, 3) := by decide +kernel
theorem d_Md_init_143 : decode b_Md_init 143 = .ok (.newarray .long, 2) := by decide +kernel
theorem d_Md_init_145 : decode b_Md_init 145 = .ok (.putfield 63, 3) := by decide +kernel
theorem d_Md_init_148 : decode b_Md_init 148 = .ok (.aload_n 0, 1) := by decide +kernel
theorem d_Md_init_149 : decode b_Md_init 149 = .ok (.sipush 512, 3) := by decide +kernel
theorem d_Md_init_152 : decode b_Md_init 152 = .ok (.newarray .int, 2) := by decide +kernel
theorem d_Md_init_154 : decode b_Md_init 154 = .ok (.putfield 66, 3) := by decide +kernel
theorem d_Md_init_157 : decode b_Md_init 157 = .ok (.aload_n 0, 1) := by decide +kernel
theorem d_Md_init_158 : decode b_Md_init 158 = .ok (.sipush 18432, 3) := by decide +kernel
theorem d_Md_init_161 : decode b_Md_init 161 = .ok (.newarray .int, 2) := by decide +kernel
theorem d_Md_init_163 : decode b_Md_init 163 = .ok (.putfield 69, 3) := by decide +kernel
theorem d_Md_init_166 : decode b_Md_init 166 = .ok (.aload_n 0, 1) := by decide +kernel
theorem d_Md_init_167 : decode b_Md_init 167 = .ok (.sipush 4096, 3) := by decide +kernel
theorem d_Md_init_170 : decode b_Md_init 170 = .ok (.newarray .boolean, 2) := by decide +kernel
theorem d_Md_init_172 : decode b_Md_init 172 = .ok (.putfield 72, 3) := by decide +kernel
theorem d_Md_init_175 : decode b_Md_init 175 = .ok (.aload_n 0, 1) := by decide +kernel
theorem d_Md_init_176 : decode b_Md_init 176 = .ok (.sipush 4096, 3) := by decide +kernel
theorem d_Md_init_179 : decode b_Md_init 179 = .ok (.newarray .int, 2) := by decide +kernel
theorem d_Md_init_181 : decode b_Md_init 181 = .ok (.putfield 75, 3) := by decide +kernel
theorem d_Md_init_184 : decode b_Md_init 184 = .ok (.aload_n 0, 1) := by decide +kernel
theorem d_Md_init_185 : decode b_Md_init 185 = .ok (.iconst 3, 1) := by decide +kernel
theorem d_Md_init_186 : decode b_Md_init 186 = .ok (.newarray .int, 2) := by decide +kernel
theorem d_Md_init_188 : decode b_Md_init 188 = .ok (.putfield 78, 3) := by decide +kernel
theorem d_Md_init_191 : decode b_Md_init 191 = .ok (.aload_n 0, 1) := by decide +kernel
theorem d_Md_init_192 : decode b_Md_init 192 = .ok (.iconst 3, 1) := by decide +kernel
theorem d_Md_init_193 : decode b_Md_init 193 = .ok (.newarray .int, 2) := by decide +kernel
theorem d_Md_init_195 : decode b_Md_init 195 = .ok (.putfield 81, 3) := by decide +kernel
theorem d_Md_init_198 : decode b_Md_init 198 = .ok (.aload_n 0, 1) := by decide +kernel
theorem d_Md_init_199 : decode b_Md_init 199 = .ok (.bipush 36, 2) := by decide +kernel
theorem d_Md_init_201 : decode b_Md_init 201 = .ok (.newarray .int, 2) := by decide +kernel
theorem d_Md_init_203 : decode b_Md_init 203 = .ok (.putfield 84, 3) := by decide +kernel
theorem d_Md_init_206 : decode b_Md_init 206 = .ok (.aload_n 0, 1) := by decide +kernel
theorem d_Md_init_207 : decode b_Md_init 207 = .ok (.bipush 6, 2) := by decide +kernel
theorem d_Md_init_209 : decode b_Md_init 209 = .ok (.newarray .int, 2) := by decide +kernel
theorem d_Md_init_211 : decode b_Md_init 211 = .ok (.putfield 87, 3) := by decide +kernel
theorem d_Md_init_214 : decode b_Md_init 214 = .ok (.aload_n 0, 1) := by decide +kernel
theorem d_Md_init_215 : decode b_Md_init 215 = .ok (.bipush 6, 2) := by decide +kernel
theorem d_Md_init_217 : decode b_Md_init 217 = .ok (.newarray .int, 2) := by decide +kernel
theorem d_Md_init_219 : decode b_Md_init 219 = .ok (.putfield 90, 3) := by decide +kernel
theorem d_Md_init_222 : decode b_Md_init 222 = .ok (.aload_n 0, 1) := by decide +kernel
theorem d_Md_init_223 : decode b_Md_init 223 = .ok (.bipush 36, 2) := by decide +kernel
theorem d_Md_init_225 : decode b_Md_init 225 = .ok (.newarray .int, 2) := by decide +kernel
theorem d_Md_init_227 : decode b_Md_init 227 = .ok (.putfield 93, 3) := by decide +kernel
theorem d_Md_init_230 : decode b_Md_init 230 = .ok (.aload_n 0, 1) := by decide +kernel
theorem d_Md_init_231 : decode b_Md_init 231 = .ok (.bipush 36, 2) := by decide +kernel
theorem d_Md_init_233 : decode b_Md_init 233 = .ok (.newarray .int, 2) := by decide +kernel
theorem d_Md_init_235 : decode b_Md_init 235 = .ok (.putfield 96, 3) := by decide +kernel
theorem d_Md_init_238 : decode b_Md_init 238 = .ok (.iconst 0, 1) := by decide +kernel
theorem d_Md_init_239 : decode b_Md_init 239 = .ok (.istore_n 1, 1) := by decide +kernel
theorem d_Md_init_240 : decode b_Md_init 240 = .ok (.iload_n 1, 1) := by decide +kernel
theorem d_Md_init_241 : decode b_Md_init 241 = .ok (.bipush 36, 2) := by decide +kernel
theorem d_Md_init_243 : decode b_Md_init 243 = .ok (.if_icmp .ge 17, 3) := by decide +kernel
theorem d_Md_init_246 : decode b_Md_init 246 = .ok (.aload_n 0, 1) := by decide +kernel
theorem d_Md_init_247 : decode b_Md_init 247 = .ok (.getfield 34, 3) := by decide +kernel
theorem d_Md_init_250 : decode b_Md_init 250 = .ok (.iload_n 1, 1) := by decide +kernel
theorem d_Md_init_251 : decode b_Md_init 251 = .ok (.bipush 10, 2) := by decide +kernel
theorem d_Md_init_253 : decode b_Md_init 253 = .ok (.iastore, 1) := by decide +kernel
theorem d_Md_init_254 : decode b_Md_init 254 = .ok (.iinc 1 1, 3) := by decide +kernel
theorem d_Md_init_257 : decode b_Md_init 257 = .ok (.goto (-17), 3) := by decide +kernel
theorem d_Md_init_260 : decode b_Md_init 260 = .ok (.aload_n 0, 1) := by decide +kernel
theorem d_Md_init_261 : decode b_Md_init 261 = .ok (.sipush 219, 3) := by decide +kernel
theorem d_Md_init_264 : decode b_Md_init 264 = .ok (.putfield 99, 3) := by decide +kernel
theorem d_Md_init_267 : decode b_Md_init 267 = .ok (.return_, 1) := by decide +kernel
theorem d_Md_thrown_0 : decode b_Md_thrown 0 = .ok (.aload_n 0, 1) := by decide +kernel
theorem d_Md_thrown_1 : decode b_Md_thrown 1 = .ok (.getfield 103, 3) := by decide +kernel
theorem d_Md_thrown_4 : decode b_Md_thrown 4 = .ok (.ireturn, 1) := by decide +kernel
theorem d_Md_machine_0 : decode b_Md_machine 0 = .ok (.aload_n 0, 1) := by decide +kernel
theorem d_Md_machine_1 : decode b_Md_machine 1 = .ok (.iload_n 1, 1) := by decide +kernel
theorem d_Md_machine_2 : decode b_Md_machine 2 = .ok (.iconst 1, 1) := by decide +kernel
theorem d_Md_machine_3 : decode b_Md_machine 3 = .ok (.iconst 4, 1) := by decide +kernel
theorem d_Md_machine_4 : decode b_Md_machine 4 = .ok (.invokestatic 106, 3) := by decide +kernel
theorem d_Md_machine_7 : decode b_Md_machine 7 = .ok (.ifCond .eq 22, 3) := by decide +kernel
theorem d_Md_machine_10 : decode b_Md_machine 10 = .ok (.iload_n 2, 1) := by decide +kernel
theorem d_Md_machine_11 : decode b_Md_machine 11 = .ok (.iconst 1, 1) := by decide +kernel
theorem d_Md_machine_12 : decode b_Md_machine 12 = .ok (.iconst 4, 1) := by decide +kernel
theorem d_Md_machine_13 : decode b_Md_machine 13 = .ok (.invokestatic 106, 3) := by decide +kernel
theorem d_Md_machine_16 : decode b_Md_machine 16 = .ok (.ifCond .eq 13, 3) := by decide +kernel
theorem d_Md_machine_19 : decode b_Md_machine 19 = .ok (.iload_n 3, 1) := by decide +kernel
theorem d_Md_machine_20 : decode b_Md_machine 20 = .ok (.iconst 0, 1) := by decide +kernel
theorem d_Md_machine_21 : decode b_Md_machine 21 = .ok (.ldc 110, 2) := by decide +kernel
theorem d_Md_machine_23 : decode b_Md_machine 23 = .ok (.invokestatic 106, 3) := by decide +kernel
theorem d_Md_machine_26 : decode b_Md_machine 26 = .ok (.ifCond .ne 7, 3) := by decide +kernel
theorem d_Md_machine_29 : decode b_Md_machine 29 = .ok (.iconst 1, 1) := by decide +kernel
theorem d_Md_machine_30 : decode b_Md_machine 30 = .ok (.goto 23, 3) := by decide +kernel
theorem d_Md_machine_33 : decode b_Md_machine 33 = .ok (.aload_n 0, 1) := by decide +kernel
theorem d_Md_machine_34 : decode b_Md_machine 34 = .ok (.getfield 111, 3) := by decide +kernel
theorem d_Md_machine_37 : decode b_Md_machine 37 = .ok (.iconst 3, 1) := by decide +kernel
theorem d_Md_machine_38 : decode b_Md_machine 38 = .ok (.if_icmp .eq 10, 3) := by decide +kernel
theorem d_Md_machine_41 : decode b_Md_machine 41 = .ok (.aload_n 0, 1) := by decide +kernel
theorem d_Md_machine_42 : decode b_Md_machine 42 = .ok (.getfield 114, 3) := by decide +kernel
theorem d_Md_machine_45 : decode b_Md_machine 45 = .ok (.ifCond .le 7, 3) := by decide +kernel
theorem d_Md_machine_48 : decode b_Md_machine 48 = .ok (.iconst 2, 1) := by decide +kernel
theorem d_Md_machine_49 : decode b_Md_machine 49 = .ok (.goto 4, 3) := by decide +kernel
theorem d_Md_machine_52 : decode b_Md_machine 52 = .ok (.iconst 0, 1) := by decide +kernel
theorem d_Md_machine_53 : decode b_Md_machine 53 = .ok (.putfield 103, 3) := by decide +kernel
theorem d_Md_machine_56 : decode b_Md_machine 56 = .ok (.aload_n 0, 1) := by decide +kernel
theorem d_Md_machine_57 : decode b_Md_machine 57 = .ok (.getfield 103, 3) := by decide +kernel
theorem d_Md_machine_60 : decode b_Md_machine 60 = .ok (.ifCond .le 5, 3) := by decide +kernel
theorem d_Md_machine_63 : decode b_Md_machine 63 = .ok (.iconst 0, 1) := by decide +kernel
theorem d_Md_machine_64 : decode b_Md_machine 64 = .ok (.ireturn, 1) := by decide +kernel
theorem d_Md_machine_65 : decode b_Md_machine 65 = .ok (.aload_n 0, 1) := by decide +kernel
theorem d_Md_machine_66 : decode b_Md_machine 66 = .ok (.getfield 7, 3) := by decide +kernel
theorem d_Md_machine_69 : decode b_Md_machine 69 = .ok (.aload_n 0, 1) := by decide +kernel
theorem d_Md_machine_70 : decode b_Md_machine 70 = .ok (.getfield 111, 3) := by decide +kernel
theorem d_Md_machine_73 : decode b_Md_machine 73 = .ok (.iload_n 1, 1) := by decide +kernel
theorem d_Md_machine_74 : decode b_Md_machine 74 = .ok (.iastore, 1) := by decide +kernel
theorem d_Md_machine_75 : decode b_Md_machine 75 = .ok (.aload_n 0, 1) := by decide +kernel
theorem d_Md_machine_76 : decode b_Md_machine 76 = .ok (.getfield 13, 3) := by decide +kernel
theorem d_Md_machine_79 : decode b_Md_machine 79 = .ok (.aload_n 0, 1) := by decide +kernel
theorem d_Md_machine_80 : decode b_Md_machine 80 = .ok (.getfield 111, 3) := by decide +kernel
theorem d_Md_machine_83 : decode b_Md_machine 83 = .ok (.iload_n 2, 1) := by decide +kernel
theorem d_Md_machine_84 : decode b_Md_machine 84 = .ok (.iastore, 1) := by decide +kernel
theorem d_Md_machine_85 : decode b_Md_machine 85 = .ok (.aload_n 0, 1) := by decide +kernel
theorem d_Md_machine_86 : decode b_Md_machine 86 = .ok (.getfield 16, 3) := by decide +kernel
theorem d_Md_machine_89 : decode b_Md_machine 89 = .ok (.aload_n 0, 1) := by decide +kernel
theorem d_Md_machine_90 : decode b_Md_machine 90 = .ok (.getfield 111, 3) := by decide +kernel
theorem d_Md_machine_93 : decode b_Md_machine 93 = .ok (.iload_n 3, 1) := by decide +kernel
theorem d_Md_machine_94 : decode b_Md_machine 94 = .ok (.iastore, 1) := by decide +kernel
theorem d_Md_machine_95 : decode b_Md_machine 95 = .ok (.aload_n 0, 1) := by decide +kernel
theorem d_Md_machine_96 : decode b_Md_machine 96 = .ok (.dup, 1) := by decide +kernel
theorem d_Md_machine_97 : decode b_Md_machine 97 = .ok (.getfield 111, 3) := by decide +kernel
theorem d_Md_machine_100 : decode b_Md_machine 100 = .ok (.iconst 1, 1) := by decide +kernel
theorem d_Md_machine_101 : decode b_Md_machine 101 = .ok (.iadd, 1) := by decide +kernel
theorem d_Md_machine_102 : decode b_Md_machine 102 = .ok (.putfield 111, 3) := by decide +kernel
theorem d_Md_machine_105 : decode b_Md_machine 105 = .ok (.aload_n 0, 1) := by decide +kernel
theorem d_Md_machine_106 : decode b_Md_machine 106 = .ok (.iconst 0, 1) := by decide +kernel
theorem d_Md_machine_107 : decode b_Md_machine 107 = .ok (.putfield 117, 3) := by decide +kernel
theorem d_Md_machine_110 : decode b_Md_machine 110 = .ok (.aload_n 0, 1) := by decide +kernel
theorem d_Md_machine_111 : decode b_Md_machine 111 = .ok (.getfield 111, 3) := by decide +kernel
theorem d_Md_machine_114 : decode b_Md_machine 114 = .ok (.iconst 1, 1) := by decide +kernel
theorem d_Md_machine_115 : decode b_Md_machine 115 = .ok (.isub, 1) := by decide +kernel
theorem d_Md_machine_116 : decode b_Md_machine 116 = .ok (.ireturn, 1) := by decide +kernel
theorem d_Md_in_0 : decode b_Md_in 0 = .ok (.iload_n 0, 1) := by decide +kernel
theorem d_Md_in_1 : decode b_Md_in 1 = .ok (.iload_n 1, 1) := by decide +kernel
theorem d_Md_in_2 : decode b_Md_in 2 = .ok (.if_icmp .lt 12, 3) := by decide +kernel
theorem d_Md_in_5 : decode b_Md_in 5 = .ok (.iload_n 0, 1) := by decide +kernel
theorem d_Md_in_6 : decode b_Md_in 6 = .ok (.iload_n 2, 1) := by decide +kernel
theorem d_Md_in_7 : decode b_Md_in 7 = .ok (.if_icmp .gt 7, 3) := by decide +kernel
theorem d_Md_in_10 : decode b_Md_in 10 = .ok (.iconst 1, 1) := by decide +kernel
theorem d_Md_in_11 : decode b_Md_in 11 = .ok (.goto 4, 3) := by decide +kernel
theorem d_Md_in_14 : decode b_Md_in 14 = .ok (.iconst 0, 1) := by decide +kernel
theorem d_Md_in_15 : decode b_Md_in 15 = .ok (.ireturn, 1) := by decide +kernel
theorem d_Md_row_0 : decode b_Md_row 0 = .ok (.aload_n 0, 1) := by decide +kernel
theorem d_Md_row_1 : decode b_Md_row 1 = .ok (.iload_n 1, 1) := by decide +kernel
theorem d_Md_row_2 : decode b_Md_row 2 = .ok (.invokevirtual 121, 3) := by decide +kernel
theorem d_Md_row_5 : decode b_Md_row 5 = .ok (.ifCond .eq 41, 3) := by decide +kernel
theorem d_Md_row_8 : decode b_Md_row 8 = .ok (.iload_n 2, 1) := by decide +kernel
theorem d_Md_row_9 : decode b_Md_row 9 = .ok (.sipush (-5000), 3) := by decide +kernel
theorem d_Md_row_12 : decode b_Md_row 12 = .ok (.sipush 5000, 3) := by decide +kernel
theorem d_Md_row_15 : decode b_Md_row 15 = .ok (.invokestatic 106, 3) := by decide +kernel
theorem d_Md_row_18 : decode b_Md_row 18 = .ok (.ifCond .eq 28, 3) := by decide +kernel
theorem d_Md_row_21 : decode b_Md_row 21 = .ok (.iload_n 3, 1) := by decide +kernel
theorem d_Md_row_22 : decode b_Md_row 22 = .ok (.iconst 0, 1) := by decide +kernel
theorem d_Md_row_23 : decode b_Md_row 23 = .ok (.ldc 110, 2) := by decide +kernel
theorem d_Md_row_25 : decode b_Md_row 25 = .ok (.invokestatic 106, 3) := by decide +kernel
theorem d_Md_row_28 : decode b_Md_row 28 = .ok (.ifCond .eq 18, 3) := by decide +kernel
theorem d_Md_row_31 : decode b_Md_row 31 = .ok (.iload 4, 2) := by decide +kernel
theorem d_Md_row_33 : decode b_Md_row 33 = .ok (.iconst 0, 1) := by decide +kernel
theorem d_Md_row_34 : decode b_Md_row 34 = .ok (.ldc 110, 2) := by decide +kernel
theorem d_Md_row_36 : decode b_Md_row 36 = .ok (.invokestatic 106, 3) := by decide +kernel
theorem d_Md_row_39 : decode b_Md_row 39 = .ok (.ifCond .eq 7, 3) := by decide +kernel
theorem d_Md_row_42 : decode b_Md_row 42 = .ok (.iconst 1, 1) := by decide +kernel
theorem d_Md_row_43 : decode b_Md_row 43 = .ok (.goto 4, 3) := by decide +kernel
theorem d_Md_row_46 : decode b_Md_row 46 = .ok (.iconst 0, 1) := by decide +kernel
theorem d_Md_row_47 : decode b_Md_row 47 = .ok (.istore 5, 2) := by decide +kernel
theorem d_Md_row_49 : decode b_Md_row 49 = .ok (.aload_n 0, 1) := by decide +kernel
theorem d_Md_row_50 : decode b_Md_row 50 = .ok (.iload 5, 2) := by decide +kernel
theorem d_Md_row_52 : decode b_Md_row 52 = .ok (.ifCond .ne 7, 3) := by decide +kernel
theorem d_Md_row_55 : decode b_Md_row 55 = .ok (.iconst 1, 1) := by decide +kernel
theorem d_Md_row_56 : decode b_Md_row 56 = .ok (.goto 50, 3) := by decide +kernel
theorem d_Md_row_59 : decode b_Md_row 59 = .ok (.aload_n 0, 1) := by decide +kernel
theorem d_Md_row_60 : decode b_Md_row 60 = .ok (.getfield 19, 3) := by decide +kernel
theorem d_Md_row_63 : decode b_Md_row 63 = .ok (.iload_n 1, 1) := by decide +kernel
theorem d_Md_row_64 : decode b_Md_row 64 = .ok (.iaload, 1) := by decide +kernel
theorem d_Md_row_65 : decode b_Md_row 65 = .ok (.bipush 8, 2) := by decide +kernel
theorem d_Md_row_67 : decode b_Md_row 67 = .ok (.if_icmp .eq 34, 3) := by decide +kernel
theorem d_Md_row_70 : decode b_Md_row 70 = .ok (.aload_n 0, 1) := by decide +kernel
theorem d_Md_row_71 : decode b_Md_row 71 = .ok (.getfield 19, 3) := by decide +kernel
theorem d_Md_row_74 : decode b_Md_row 74 = .ok (.iload_n 1, 1) := by decide +kernel
theorem d_Md_row_75 : decode b_Md_row 75 = .ok (.iaload, 1) := by decide +kernel
theorem d_Md_row_76 : decode b_Md_row 76 = .ok (.ifCond .le 29, 3) := by decide +kernel
theorem d_Md_row_79 : decode b_Md_row 79 = .ok (.iload_n 2, 1) := by decide +kernel
theorem d_Md_row_80 : decode b_Md_row 80 = .ok (.aload_n 0, 1) := by decide +kernel
theorem d_Md_row_81 : decode b_Md_row 81 = .ok (.getfield 22, 3) := by decide +kernel
theorem d_Md_row_84 : decode b_Md_row 84 = .ok (.bipush 8, 2) := by decide +kernel
theorem d_Md_row_86 : decode b_Md_row 86 = .ok (.iload_n 1, 1) := by decide +kernel
theorem d_Md_row_87 : decode b_Md_row 87 = .ok (.imul, 1) := by decide +kernel
theorem d_Md_row_88 : decode b_Md_row 88 = .ok (.aload_n 0, 1) := by decide +kernel
theorem d_Md_row_89 : decode b_Md_row 89 = .ok (.getfield 19, 3) := by decide +kernel
theorem d_Md_row_92 : decode b_Md_row 92 = .ok (.iload_n 1, 1) := by decide +kernel
theorem d_Md_row_93 : decode b_Md_row 93 = .ok (.iaload, 1) := by decide +kernel
theorem d_Md_row_94 : decode b_Md_row 94 = .ok (.iadd, 1) := by decide +kernel
theorem d_Md_row_95 : decode b_Md_row 95 = .ok (.iconst 1, 1) := by decide +kernel
theorem d_Md_row_96 : decode b_Md_row 96 = .ok (.isub, 1) := by decide +kernel
theorem d_Md_row_97 : decode b_Md_row 97 = .ok (.iaload, 1) := by decide +kernel
theorem d_Md_row_98 : decode b_Md_row 98 = .ok (.if_icmp .gt 7, 3) := by decide +kernel
theorem d_Md_row_101 : decode b_Md_row 101 = .ok (.iconst 2, 1) := by decide +kernel
theorem d_Md_row_102 : decode b_Md_row 102 = .ok (.goto 4, 3) := by decide +kernel
theorem d_Md_row_105 : decode b_Md_row 105 = .ok (.iconst 0, 1) := by decide +kernel
theorem d_Md_row_106 : decode b_Md_row 106 = .ok (.putfield 103, 3) := by decide +kernel
theorem d_Md_row_109 : decode b_Md_row 109 = .ok (.aload_n 0, 1) := by decide +kernel
theorem d_Md_row_110 : decode b_Md_row 110 = .ok (.getfield 103, 3) := by decide +kernel
theorem d_Md_row_113 : decode b_Md_row 113 = .ok (.ifCond .le 5, 3) := by decide +kernel
theorem d_Md_row_116 : decode b_Md_row 116 = .ok (.iconst 0, 1) := by decide +kernel
theorem d_Md_row_117 : decode b_Md_row 117 = .ok (.ireturn, 1) := by decide +kernel
theorem d_Md_row_118 : decode b_Md_row 118 = .ok (.bipush 8, 2) := by decide +kernel
theorem d_Md_row_120 : decode b_Md_row 120 = .ok (.iload_n 1, 1) := by decide +kernel
theorem d_Md_row_121 : decode b_Md_row 121 = .ok (.imul, 1) := by decide +kernel
theorem d_Md_row_122 : decode b_Md_row 122 = .ok (.aload_n 0, 1) := by decide +kernel
theorem d_Md_row_123 : decode b_Md_row 123 = .ok (.getfield 19, 3) := by decide +kernel
theorem d_Md_row_126 : decode b_Md_row 126 = .ok (.iload_n 1, 1) := by decide +kernel
theorem d_Md_row_127 : decode b_Md_row 127 = .ok (.iaload, 1) := by decide +kernel
theorem d_Md_row_128 : decode b_Md_row 128 = .ok (.iadd, 1) := by decide +kernel
theorem d_Md_row_129 : decode b_Md_row 129 = .ok (.istore 6, 2) := by decide +kernel
theorem d_Md_row_131 : decode b_Md_row 131 = .ok (.aload_n 0, 1) := by decide +kernel
theorem d_Md_row_132 : decode b_Md_row 132 = .ok (.getfield 22, 3) := by decide +kernel
theorem d_Md_row_135 : decode b_Md_row 135 = .ok (.iload 6, 2) := by decide +kernel
theorem d_Md_row_137 : decode b_Md_row 137 = .ok (.iload_n 2, 1) := by decide +kernel
theorem d_Md_row_138 : decode b_Md_row 138 = .ok (.iastore, 1) := by decide +kernel
theorem d_Md_row_139 : decode b_Md_row 139 = .ok (.aload_n 0, 1) := by decide +kernel
theorem d_Md_row_140 : decode b_Md_row 140 = .ok (.getfield 25, 3) := by decide +kernel
theorem d_Md_row_143 : decode b_Md_row 143 = .ok (.iload 6, 2) := by decide +kernel
theorem d_Md_row_145 : decode b_Md_row 145 = .ok (.iload_n 3, 1) := by decide +kernel
theorem d_Md_row_146 : decode b_Md_row 146 = .ok (.iastore, 1) := by decide +kernel
theorem d_Md_row_147 : decode b_Md_row 147 = .ok (.aload_n 0, 1) := by decide +kernel
theorem d_Md_row_148 : decode b_Md_row 148 = .ok (.getfield 28, 3) := by decide +kernel
theorem d_Md_row_151 : decode b_Md_row 151 = .ok (.iload 6, 2) := by decide +kernel
theorem d_Md_row_153 : decode b_Md_row 153 = .ok (.iload 4, 2) := by decide +kernel
theorem d_Md_row_155 : decode b_Md_row 155 = .ok (.iastore, 1) := by decide +kernel
theorem d_Md_row_156 : decode b_Md_row 156 = .ok (.aload_n 0, 1) := by decide +kernel
theorem d_Md_row_157 : decode b_Md_row 157 = .ok (.getfield 19, 3) := by decide +kernel
theorem d_Md_row_160 : decode b_Md_row 160 = .ok (.iload_n 1, 1) := by decide +kernel
theorem d_Md_row_161 : decode b_Md_row 161 = .ok (.dup2, 1) := by decide +kernel
theorem d_Md_row_162 : decode b_Md_row 162 = .ok (.iaload, 1) := by decide +kernel
theorem d_Md_row_163 : decode b_Md_row 163 = .ok (.iconst 1, 1) := by decide +kernel
theorem d_Md_row_164 : decode b_Md_row 164 = .ok (.iadd, 1) := by decide +kernel
theorem d_Md_row_165 : decode b_Md_row 165 = .ok (.iastore, 1) := by decide +kernel
theorem d_Md_row_166 : decode b_Md_row 166 = .ok (.aload_n 0, 1) := by decide +kernel
theorem d_Md_row_167 : decode b_Md_row 167 = .ok (.iconst 0, 1) := by decide +kernel
theorem d_Md_row_168 : decode b_Md_row 168 = .ok (.putfield 117, 3) := by decide +kernel
theorem d_Md_row_171 : decode b_Md_row 171 = .ok (.aload_n 0, 1) := by decide +kernel
theorem d_Md_row_172 : decode b_Md_row 172 = .ok (.getfield 19, 3) := by decide +kernel
theorem d_Md_row_175 : decode b_Md_row 175 = .ok (.iload_n 1, 1) := by decide +kernel
theorem d_Md_row_176 : decode b_Md_row 176 = .ok (.iaload, 1) := by decide +kernel
theorem d_Md_row_177 : decode b_Md_row 177 = .ok (.ireturn, 1) := by decide +kernel
theorem d_Md_isMachine_0 : decode b_Md_isMachine 0 = .ok (.iload_n 1, 1) := by decide +kernel
theorem d_Md_isMachine_1 : decode b_Md_isMachine 1 = .ok (.ifCond .lt 15, 3) := by decide +kernel
theorem d_Md_isMachine_4 : decode b_Md_isMachine 4 = .ok (.iload_n 1, 1) := by decide +kernel
theorem d_Md_isMachine_5 : decode b_Md_isMachine 5 = .ok (.aload_n 0, 1) := by decide +kernel
theorem d_Md_isMachine_6 : decode b_Md_isMachine 6 = .ok (.getfield 111, 3) := by decide +kernel
theorem d_Md_isMachine_9 : decode b_Md_isMachine 9 = .ok (.if_icmp .ge 7, 3) := by decide +kernel
theorem d_Md_isMachine_12 : decode b_Md_isMachine 12 = .ok (.iconst 1, 1) := by decide +kernel
theorem d_Md_isMachine_13 : decode b_Md_isMachine 13 = .ok (.goto 4, 3) := by decide +kernel
theorem d_Md_isMachine_16 : decode b_Md_isMachine 16 = .ok (.iconst 0, 1) := by decide +kernel
theorem d_Md_isMachine_17 : decode b_Md_isMachine 17 = .ok (.ireturn, 1) := by decide +kernel
theorem d_Md_hour_0 : decode b_Md_hour 0 = .ok (.iload_n 1, 1) := by decide +kernel
theorem d_Md_hour_1 : decode b_Md_hour 1 = .ok (.iconst 0, 1) := by decide +kernel
theorem d_Md_hour_2 : decode b_Md_hour 2 = .ok (.bipush 35, 2) := by decide +kernel
theorem d_Md_hour_4 : decode b_Md_hour 4 = .ok (.invokestatic 106, 3) := by decide +kernel
theorem d_Md_hour_7 : decode b_Md_hour 7 = .ok (.ifCond .eq 55, 3) := by decide +kernel
theorem d_Md_hour_10 : decode b_Md_hour 10 = .ok (.iload_n 2, 1) := by decide +kernel
theorem d_Md_hour_11 : decode b_Md_hour 11 = .ok (.ifCond .ne 16, 3) := by decide +kernel
theorem d_Md_hour_14 : decode b_Md_hour 14 = .ok (.iload_n 3, 1) := by decide +kernel
theorem d_Md_hour_15 : decode b_Md_hour 15 = .ok (.sipush (-5000), 3) := by decide +kernel
theorem d_Md_hour_18 : decode b_Md_hour 18 = .ok (.sipush 5000, 3) := by decide +kernel
theorem d_Md_hour_21 : decode b_Md_hour 21 = .ok (.invokestatic 106, 3) := by decide +kernel
theorem d_Md_hour_24 : decode b_Md_hour 24 = .ok (.ifCond .ne 34, 3) := by decide +kernel
theorem d_Md_hour_27 : decode b_Md_hour 27 = .ok (.iload_n 2, 1) := by decide +kernel
theorem d_Md_hour_28 : decode b_Md_hour 28 = .ok (.iconst 1, 1) := by decide +kernel
theorem d_Md_hour_29 : decode b_Md_hour 29 = .ok (.if_icmp .ne 14, 3) := by decide +kernel
theorem d_Md_hour_32 : decode b_Md_hour 32 = .ok (.iload_n 3, 1) := by decide +kernel
theorem d_Md_hour_33 : decode b_Md_hour 33 = .ok (.iconst 0, 1) := by decide +kernel
theorem d_Md_hour_34 : decode b_Md_hour 34 = .ok (.sipush 1000, 3) := by decide +kernel
theorem d_Md_hour_37 : decode b_Md_hour 37 = .ok (.invokestatic 106, 3) := by decide +kernel
theorem d_Md_hour_40 : decode b_Md_hour 40 = .ok (.ifCond .ne 18, 3) := by decide +kernel
theorem d_Md_hour_43 : decode b_Md_hour 43 = .ok (.iload_n 2, 1) := by decide +kernel
theorem d_Md_hour_44 : decode b_Md_hour 44 = .ok (.iconst 2, 1) := by decide +kernel
theorem d_Md_hour_45 : decode b_Md_hour 45 = .ok (.if_icmp .ne 17, 3) := by decide +kernel
theorem d_Md_hour_48 : decode b_Md_hour 48 = .ok (.iload_n 3, 1) := by decide +kernel
theorem d_Md_hour_49 : decode b_Md_hour 49 = .ok (.iconst 0, 1) := by decide +kernel
theorem d_Md_hour_50 : decode b_Md_hour 50 = .ok (.ldc 110, 2) := by decide +kernel
theorem d_Md_hour_52 : decode b_Md_hour 52 = .ok (.invokestatic 106, 3) := by decide +kernel
theorem d_Md_hour_55 : decode b_Md_hour 55 = .ok (.ifCond .eq 7, 3) := by decide +kernel
theorem d_Md_hour_58 : decode b_Md_hour 58 = .ok (.iconst 1, 1) := by decide +kernel
theorem d_Md_hour_59 : decode b_Md_hour 59 = .ok (.goto 4, 3) := by decide +kernel
theorem d_Md_hour_62 : decode b_Md_hour 62 = .ok (.iconst 0, 1) := by decide +kernel
theorem d_Md_hour_63 : decode b_Md_hour 63 = .ok (.istore 4, 2) := by decide +kernel
theorem d_Md_hour_65 : decode b_Md_hour 65 = .ok (.aload_n 0, 1) := by decide +kernel
theorem d_Md_hour_66 : decode b_Md_hour 66 = .ok (.iload 4, 2) := by decide +kernel
theorem d_Md_hour_68 : decode b_Md_hour 68 = .ok (.ifCond .ne 7, 3) := by decide +kernel
theorem d_Md_hour_71 : decode b_Md_hour 71 = .ok (.iconst 1, 1) := by decide +kernel
theorem d_Md_hour_72 : decode b_Md_hour 72 = .ok (.goto 16, 3) := by decide +kernel
theorem d_Md_hour_75 : decode b_Md_hour 75 = .ok (.iload_n 1, 1) := by decide +kernel
theorem d_Md_hour_76 : decode b_Md_hour 76 = .ok (.aload_n 0, 1) := by decide +kernel
theorem d_Md_hour_77 : decode b_Md_hour 77 = .ok (.getfield 114, 3) := by decide +kernel
theorem d_Md_hour_80 : decode b_Md_hour 80 = .ok (.if_icmp .ge 7, 3) := by decide +kernel
theorem d_Md_hour_83 : decode b_Md_hour 83 = .ok (.iconst 2, 1) := by decide +kernel
theorem d_Md_hour_84 : decode b_Md_hour 84 = .ok (.goto 4, 3) := by decide +kernel
theorem d_Md_hour_87 : decode b_Md_hour 87 = .ok (.iconst 0, 1) := by decide +kernel
theorem d_Md_hour_88 : decode b_Md_hour 88 = .ok (.putfield 103, 3) := by decide +kernel
theorem d_Md_hour_91 : decode b_Md_hour 91 = .ok (.aload_n 0, 1) := by decide +kernel
theorem d_Md_hour_92 : decode b_Md_hour 92 = .ok (.getfield 103, 3) := by decide +kernel
theorem d_Md_hour_95 : decode b_Md_hour 95 = .ok (.ifCond .le 5, 3) := by decide +kernel
theorem d_Md_hour_98 : decode b_Md_hour 98 = .ok (.iconst 0, 1) := by decide +kernel
theorem d_Md_hour_99 : decode b_Md_hour 99 = .ok (.ireturn, 1) := by decide +kernel
theorem d_Md_hour_100 : decode b_Md_hour 100 = .ok (.iload_n 2, 1) := by decide +kernel
theorem d_Md_hour_101 : decode b_Md_hour 101 = .ok (.ifCond .ne 12, 3) := by decide +kernel
theorem d_Md_hour_104 : decode b_Md_hour 104 = .ok (.aload_n 0, 1) := by decide +kernel
theorem d_Md_hour_105 : decode b_Md_hour 105 = .ok (.getfield 31, 3) := by decide +kernel
theorem d_Md_hour_108 : decode b_Md_hour 108 = .ok (.iload_n 1, 1) := by decide +kernel
theorem d_Md_hour_109 : decode b_Md_hour 109 = .ok (.iaload, 1) := by decide +kernel
theorem d_Md_hour_110 : decode b_Md_hour 110 = .ok (.goto 23, 3) := by decide +kernel
theorem d_Md_hour_113 : decode b_Md_hour 113 = .ok (.iload_n 2, 1) := by decide +kernel
theorem d_Md_hour_114 : decode b_Md_hour 114 = .ok (.iconst 1, 1) := by decide +kernel
theorem d_Md_hour_115 : decode b_Md_hour 115 = .ok (.if_icmp .ne 12, 3) := by decide +kernel
theorem d_Md_hour_118 : decode b_Md_hour 118 = .ok (.aload_n 0, 1) := by decide +kernel
theorem d_Md_hour_119 : decode b_Md_hour 119 = .ok (.getfield 34, 3) := by decide +kernel
theorem d_Md_hour_122 : decode b_Md_hour 122 = .ok (.iload_n 1, 1) := by decide +kernel
theorem d_Md_hour_123 : decode b_Md_hour 123 = .ok (.iaload, 1) := by decide +kernel
theorem d_Md_hour_124 : decode b_Md_hour 124 = .ok (.goto 9, 3) := by decide +kernel
theorem d_Md_hour_127 : decode b_Md_hour 127 = .ok (.aload_n 0, 1) := by decide +kernel
theorem d_Md_hour_128 : decode b_Md_hour 128 = .ok (.getfield 37, 3) := by decide +kernel
theorem d_Md_hour_131 : decode b_Md_hour 131 = .ok (.iload_n 1, 1) := by decide +kernel
theorem d_Md_hour_132 : decode b_Md_hour 132 = .ok (.iaload, 1) := by decide +kernel
theorem d_Md_hour_133 : decode b_Md_hour 133 = .ok (.istore 5, 2) := by decide +kernel
theorem d_Md_hour_135 : decode b_Md_hour 135 = .ok (.aload_n 0, 1) := by decide +kernel
theorem d_Md_hour_136 : decode b_Md_hour 136 = .ok (.getfield 31, 3) := by decide +kernel
theorem d_Md_hour_139 : decode b_Md_hour 139 = .ok (.iload_n 1, 1) := by decide +kernel
theorem d_Md_hour_140 : decode b_Md_hour 140 = .ok (.iload_n 2, 1) := by decide +kernel
theorem d_Md_hour_141 : decode b_Md_hour 141 = .ok (.ifCond .ne 7, 3) := by decide +kernel
theorem d_Md_hour_144 : decode b_Md_hour 144 = .ok (.iload_n 3, 1) := by decide +kernel
theorem d_Md_hour_145 : decode b_Md_hour 145 = .ok (.goto 9, 3) := by decide +kernel
theorem d_Md_hour_148 : decode b_Md_hour 148 = .ok (.aload_n 0, 1) := by decide +kernel
theorem d_Md_hour_149 : decode b_Md_hour 149 = .ok (.getfield 31, 3) := by decide +kernel
theorem d_Md_hour_152 : decode b_Md_hour 152 = .ok (.iload_n 1, 1) := by decide +kernel
theorem d_Md_hour_153 : decode b_Md_hour 153 = .ok (.iaload, 1) := by decide +kernel
theorem d_Md_hour_154 : decode b_Md_hour 154 = .ok (.iastore, 1) := by decide +kernel
theorem d_Md_hour_155 : decode b_Md_hour 155 = .ok (.aload_n 0, 1) := by decide +kernel
theorem d_Md_hour_156 : decode b_Md_hour 156 = .ok (.getfield 34, 3) := by decide +kernel
theorem d_Md_hour_159 : decode b_Md_hour 159 = .ok (.iload_n 1, 1) := by decide +kernel
theorem d_Md_hour_160 : decode b_Md_hour 160 = .ok (.iload_n 2, 1) := by decide +kernel
theorem d_Md_hour_161 : decode b_Md_hour 161 = .ok (.iconst 1, 1) := by decide +kernel
theorem d_Md_hour_162 : decode b_Md_hour 162 = .ok (.if_icmp .ne 7, 3) := by decide +kernel
theorem d_Md_hour_165 : decode b_Md_hour 165 = .ok (.iload_n 3, 1) := by decide +kernel
theorem d_Md_hour_166 : decode b_Md_hour 166 = .ok (.goto 9, 3) := by decide +kernel
theorem d_Md_hour_169 : decode b_Md_hour 169 = .ok (.aload_n 0, 1) := by decide +kernel
theorem d_Md_hour_170 : decode b_Md_hour 170 = .ok (.getfield 34, 3) := by decide +kernel
theorem d_Md_hour_173 : decode b_Md_hour 173 = .ok (.iload_n 1, 1) := by decide +kernel
theorem d_Md_hour_174 : decode b_Md_hour 174 = .ok (.iaload, 1) := by decide +kernel
theorem d_Md_hour_175 : decode b_Md_hour 175 = .ok (.iastore, 1) := by decide +kernel
theorem d_Md_hour_176 : decode b_Md_hour 176 = .ok (.aload_n 0, 1) := by decide +kernel
theorem d_Md_hour_177 : decode b_Md_hour 177 = .ok (.getfield 37, 3) := by decide +kernel
theorem d_Md_hour_180 : decode b_Md_hour 180 = .ok (.iload_n 1, 1) := by decide +kernel
theorem d_Md_hour_181 : decode b_Md_hour 181 = .ok (.iload_n 2, 1) := by decide +kernel
theorem d_Md_hour_182 : decode b_Md_hour 182 = .ok (.iconst 2, 1) := by decide +kernel
theorem d_Md_hour_183 : decode b_Md_hour 183 = .ok (.if_icmp .ne 7, 3) := by decide +kernel
theorem d_Md_hour_186 : decode b_Md_hour 186 = .ok (.iload_n 3, 1) := by decide +kernel
theorem d_Md_hour_187 : decode b_Md_hour 187 = .ok (.goto 9, 3) := by decide +kernel
theorem d_Md_hour_190 : decode b_Md_hour 190 = .ok (.aload_n 0, 1) := by decide +kernel
theorem d_Md_hour_191 : decode b_Md_hour 191 = .ok (.getfield 37, 3) := by decide +kernel
theorem d_Md_hour_194 : decode b_Md_hour 194 = .ok (.iload_n 1, 1) := by decide +kernel
theorem d_Md_hour_195 : decode b_Md_hour 195 = .ok (.iaload, 1) := by decide +kernel
theorem d_Md_hour_196 : decode b_Md_hour 196 = .ok (.iastore, 1) := by decide +kernel
theorem d_Md_hour_197 : decode b_Md_hour 197 = .ok (.aload_n 0, 1) := by decide +kernel
theorem d_Md_hour_198 : decode b_Md_hour 198 = .ok (.iconst 0, 1) := by decide +kernel
theorem d_Md_hour_199 : decode b_Md_hour 199 = .ok (.putfield 117, 3) := by decide +kernel
theorem d_Md_hour_202 : decode b_Md_hour 202 = .ok (.iload 5, 2) := by decide +kernel
theorem d_Md_hour_204 : decode b_Md_hour 204 = .ok (.ireturn, 1) := by decide +kernel
theorem d_Md_out_0 : decode b_Md_out 0 = .ok (.aload_n 0, 1) := by decide +kernel
theorem d_Md_out_1 : decode b_Md_out 1 = .ok (.aload_n 0, 1) := by decide +kernel
theorem d_Md_out_2 : decode b_Md_out 2 = .ok (.iload_n 1, 1) := by decide +kernel
theorem d_Md_out_3 : decode b_Md_out 3 = .ok (.invokevirtual 121, 3) := by decide +kernel
theorem d_Md_out_6 : decode b_Md_out 6 = .ok (.ifCond .eq 13, 3) := by decide +kernel
theorem d_Md_out_9 : decode b_Md_out 9 = .ok (.iload_n 2, 1) := by decide +kernel
theorem d_Md_out_10 : decode b_Md_out 10 = .ok (.iconst 0, 1) := by decide +kernel
theorem d_Md_out_11 : decode b_Md_out 11 = .ok (.bipush 35, 2) := by decide +kernel
theorem d_Md_out_13 : decode b_Md_out 13 = .ok (.invokestatic 106, 3) := by decide +kernel
theorem d_Md_out_16 : decode b_Md_out 16 = .ok (.ifCond .ne 7, 3) := by decide +kernel
theorem d_Md_out_19 : decode b_Md_out 19 = .ok (.iconst 1, 1) := by decide +kernel
theorem d_Md_out_20 : decode b_Md_out 20 = .ok (.goto 16, 3) := by decide +kernel
theorem d_Md_out_23 : decode b_Md_out 23 = .ok (.iload_n 2, 1) := by decide +kernel
theorem d_Md_out_24 : decode b_Md_out 24 = .ok (.aload_n 0, 1) := by decide +kernel
theorem d_Md_out_25 : decode b_Md_out 25 = .ok (.getfield 114, 3) := by decide +kernel
theorem d_Md_out_28 : decode b_Md_out 28 = .ok (.if_icmp .ge 7, 3) := by decide +kernel
theorem d_Md_out_31 : decode b_Md_out 31 = .ok (.iconst 2, 1) := by decide +kernel
theorem d_Md_out_32 : decode b_Md_out 32 = .ok (.goto 4, 3) := by decide +kernel
theorem d_Md_out_35 : decode b_Md_out 35 = .ok (.iconst 0, 1) := by decide +kernel
theorem d_Md_out_36 : decode b_Md_out 36 = .ok (.putfield 103, 3) := by decide +kernel
theorem d_Md_out_39 : decode b_Md_out 39 = .ok (.aload_n 0, 1) := by decide +kernel
theorem d_Md_out_40 : decode b_Md_out 40 = .ok (.getfield 103, 3) := by decide +kernel
theorem d_Md_out_43 : decode b_Md_out 43 = .ok (.ifCond .le 5, 3) := by decide +kernel
theorem d_Md_out_46 : decode b_Md_out 46 = .ok (.iconst 0, 1) := by decide +kernel
theorem d_Md_out_47 : decode b_Md_out 47 = .ok (.ireturn, 1) := by decide +kernel
theorem d_Md_out_48 : decode b_Md_out 48 = .ok (.aload_n 0, 1) := by decide +kernel
theorem d_Md_out_49 : decode b_Md_out 49 = .ok (.getfield 40, 3) := by decide +kernel
theorem d_Md_out_52 : decode b_Md_out 52 = .ok (.bipush 36, 2) := by decide +kernel
theorem d_Md_out_54 : decode b_Md_out 54 = .ok (.iload_n 1, 1) := by decide +kernel
theorem d_Md_out_55 : decode b_Md_out 55 = .ok (.imul, 1) := by decide +kernel
theorem d_Md_out_56 : decode b_Md_out 56 = .ok (.iload_n 2, 1) := by decide +kernel
theorem d_Md_out_57 : decode b_Md_out 57 = .ok (.iadd, 1) := by decide +kernel
theorem d_Md_out_58 : decode b_Md_out 58 = .ok (.baload, 1) := by decide +kernel
theorem d_Md_out_59 : decode b_Md_out 59 = .ok (.istore 4, 2) := by decide +kernel
theorem d_Md_out_61 : decode b_Md_out 61 = .ok (.aload_n 0, 1) := by decide +kernel
theorem d_Md_out_62 : decode b_Md_out 62 = .ok (.getfield 40, 3) := by decide +kernel
theorem d_Md_out_65 : decode b_Md_out 65 = .ok (.bipush 36, 2) := by decide +kernel
theorem d_Md_out_67 : decode b_Md_out 67 = .ok (.iload_n 1, 1) := by decide +kernel
theorem d_Md_out_68 : decode b_Md_out 68 = .ok (.imul, 1) := by decide +kernel
theorem d_Md_out_69 : decode b_Md_out 69 = .ok (.iload_n 2, 1) := by decide +kernel
theorem d_Md_out_70 : decode b_Md_out 70 = .ok (.iadd, 1) := by decide +kernel
theorem d_Md_out_71 : decode b_Md_out 71 = .ok (.iload_n 3, 1) := by decide +kernel
theorem d_Md_out_72 : decode b_Md_out 72 = .ok (.bastore, 1) := by decide +kernel
theorem d_Md_out_73 : decode b_Md_out 73 = .ok (.aload_n 0, 1) := by decide +kernel
theorem d_Md_out_74 : decode b_Md_out 74 = .ok (.iconst 0, 1) := by decide +kernel
theorem d_Md_out_75 : decode b_Md_out 75 = .ok (.putfield 117, 3) := by decide +kernel
theorem d_Md_out_78 : decode b_Md_out 78 = .ok (.iload 4, 2) := by decide +kernel
theorem d_Md_out_80 : decode b_Md_out 80 = .ok (.ireturn, 1) := by decide +kernel
theorem d_Md_gives_0 : decode b_Md_gives 0 = .ok (.aload_n 0, 1) := by decide +kernel
theorem d_Md_gives_1 : decode b_Md_gives 1 = .ok (.aload_n 0, 1) := by decide +kernel
theorem d_Md_gives_2 : decode b_Md_gives 2 = .ok (.iload_n 1, 1) := by decide +kernel
theorem d_Md_gives_3 : decode b_Md_gives 3 = .ok (.invokevirtual 121, 3) := by decide +kernel
theorem d_Md_gives_6 : decode b_Md_gives 6 = .ok (.ifCond .eq 29, 3) := by decide +kernel
theorem d_Md_gives_9 : decode b_Md_gives 9 = .ok (.iload_n 2, 1) := by decide +kernel
theorem d_Md_gives_10 : decode b_Md_gives 10 = .ok (.sipush (-5000), 3) := by decide +kernel
theorem d_Md_gives_13 : decode b_Md_gives 13 = .ok (.sipush 5000, 3) := by decide +kernel
theorem d_Md_gives_16 : decode b_Md_gives 16 = .ok (.invokestatic 106, 3) := by decide +kernel
theorem d_Md_gives_19 : decode b_Md_gives 19 = .ok (.ifCond .eq 16, 3) := by decide +kernel
theorem d_Md_gives_22 : decode b_Md_gives 22 = .ok (.iload_n 3, 1) := by decide +kernel
theorem d_Md_gives_23 : decode b_Md_gives 23 = .ok (.iconst 0, 1) := by decide +kernel
theorem d_Md_gives_24 : decode b_Md_gives 24 = .ok (.iconst 1, 1) := by decide +kernel
theorem d_Md_gives_25 : decode b_Md_gives 25 = .ok (.invokestatic 106, 3) := by decide +kernel
theorem d_Md_gives_28 : decode b_Md_gives 28 = .ok (.ifCond .eq 7, 3) := by decide +kernel
theorem d_Md_gives_31 : decode b_Md_gives 31 = .ok (.iconst 0, 1) := by decide +kernel
theorem d_Md_gives_32 : decode b_Md_gives 32 = .ok (.goto 4, 3) := by decide +kernel
theorem d_Md_gives_35 : decode b_Md_gives 35 = .ok (.iconst 1, 1) := by decide +kernel
theorem d_Md_gives_36 : decode b_Md_gives 36 = .ok (.putfield 103, 3) := by decide +kernel
theorem d_Md_gives_39 : decode b_Md_gives 39 = .ok (.aload_n 0, 1) := by decide +kernel
theorem d_Md_gives_40 : decode b_Md_gives 40 = .ok (.getfield 103, 3) := by decide +kernel
theorem d_Md_gives_43 : decode b_Md_gives 43 = .ok (.ifCond .le 7, 3) := by decide +kernel
theorem d_Md_gives_46 : decode b_Md_gives 46 = .ok (.iconst 0, 1) := by decide +kernel
theorem d_Md_gives_47 : decode b_Md_gives 47 = .ok (.goto 19, 3) := by decide +kernel
theorem d_Md_gives_50 : decode b_Md_gives 50 = .ok (.aload_n 0, 1) := by decide +kernel
theorem d_Md_gives_51 : decode b_Md_gives 51 = .ok (.iload_n 1, 1) := by decide +kernel
theorem d_Md_gives_52 : decode b_Md_gives 52 = .ok (.iload_n 2, 1) := by decide +kernel
theorem d_Md_gives_53 : decode b_Md_gives 53 = .ok (.iload_n 3, 1) := by decide +kernel
theorem d_Md_gives_54 : decode b_Md_gives 54 = .ok (.iconst 1, 1) := by decide +kernel
theorem d_Md_gives_55 : decode b_Md_gives 55 = .ok (.if_icmp .ne 7, 3) := by decide +kernel
theorem d_Md_gives_58 : decode b_Md_gives 58 = .ok (.iconst 1, 1) := by decide +kernel
theorem d_Md_gives_59 : decode b_Md_gives 59 = .ok (.goto 4, 3) := by decide +kernel
theorem d_Md_gives_62 : decode b_Md_gives 62 = .ok (.iconst 0, 1) := by decide +kernel
theorem d_Md_gives_63 : decode b_Md_gives 63 = .ok (.invokevirtual 129, 3) := by decide +kernel
theorem d_Md_gives_66 : decode b_Md_gives 66 = .ok (.ireturn, 1) := by decide +kernel
theorem d_Md_given_0 : decode b_Md_given 0 = .ok (.bipush 8, 2) := by decide +kernel
theorem d_Md_given_2 : decode b_Md_given 2 = .ok (.iload_n 1, 1) := by decide +kernel
theorem d_Md_given_3 : decode b_Md_given 3 = .ok (.imul, 1) := by decide +kernel
theorem d_Md_given_4 : decode b_Md_given 4 = .ok (.istore 4, 2) := by decide +kernel
theorem d_Md_given_6 : decode b_Md_given 6 = .ok (.iload 4, 2) := by decide +kernel
theorem d_Md_given_8 : decode b_Md_given 8 = .ok (.bipush 8, 2) := by decide +kernel
theorem d_Md_given_10 : decode b_Md_given 10 = .ok (.iload_n 1, 1) := by decide +kernel
theorem d_Md_given_11 : decode b_Md_given 11 = .ok (.imul, 1) := by decide +kernel
theorem d_Md_given_12 : decode b_Md_given 12 = .ok (.aload_n 0, 1) := by decide +kernel
theorem d_Md_given_13 : decode b_Md_given 13 = .ok (.getfield 19, 3) := by decide +kernel
theorem d_Md_given_16 : decode b_Md_given 16 = .ok (.iload_n 1, 1) := by decide +kernel
theorem d_Md_given_17 : decode b_Md_given 17 = .ok (.iaload, 1) := by decide +kernel
theorem d_Md_given_18 : decode b_Md_given 18 = .ok (.iadd, 1) := by decide +kernel
theorem d_Md_given_19 : decode b_Md_given 19 = .ok (.if_icmp .ge 160, 3) := by decide +kernel
theorem d_Md_given_22 : decode b_Md_given 22 = .ok (.iload_n 3, 1) := by decide +kernel
theorem d_Md_given_23 : decode b_Md_given 23 = .ok (.ifCond .eq 13, 3) := by decide +kernel
theorem d_Md_given_26 : decode b_Md_given 26 = .ok (.aload_n 0, 1) := by decide +kernel
theorem d_Md_given_27 : decode b_Md_given 27 = .ok (.getfield 28, 3) := by decide +kernel
theorem d_Md_given_30 : decode b_Md_given 30 = .ok (.iload 4, 2) := by decide +kernel
theorem d_Md_given_32 : decode b_Md_given 32 = .ok (.iaload, 1) := by decide +kernel
theorem d_Md_given_33 : decode b_Md_given 33 = .ok (.goto 10, 3) := by decide +kernel
theorem d_Md_given_36 : decode b_Md_given 36 = .ok (.aload_n 0, 1) := by decide +kernel
theorem d_Md_given_37 : decode b_Md_given 37 = .ok (.getfield 25, 3) := by decide +kernel
theorem d_Md_given_40 : decode b_Md_given 40 = .ok (.iload 4, 2) := by decide +kernel
theorem d_Md_given_42 : decode b_Md_given 42 = .ok (.iaload, 1) := by decide +kernel
theorem d_Md_given_43 : decode b_Md_given 43 = .ok (.istore 5, 2) := by decide +kernel
theorem d_Md_given_45 : decode b_Md_given 45 = .ok (.aload_n 0, 1) := by decide +kernel
theorem d_Md_given_46 : decode b_Md_given 46 = .ok (.getfield 22, 3) := by decide +kernel
theorem d_Md_given_49 : decode b_Md_given 49 = .ok (.iload 4, 2) := by decide +kernel
theorem d_Md_given_51 : decode b_Md_given 51 = .ok (.iaload, 1) := by decide +kernel
theorem d_Md_given_52 : decode b_Md_given 52 = .ok (.iload_n 2, 1) := by decide +kernel
theorem d_Md_given_53 : decode b_Md_given 53 = .ok (.if_icmp .ne 6, 3) := by decide +kernel
theorem d_Md_given_56 : decode b_Md_given 56 = .ok (.iload 5, 2) := by decide +kernel
theorem d_Md_given_58 : decode b_Md_given 58 = .ok (.ireturn, 1) := by decide +kernel
theorem d_Md_given_59 : decode b_Md_given 59 = .ok (.iload 4, 2) := by decide +kernel
theorem d_Md_given_61 : decode b_Md_given 61 = .ok (.iconst 1, 1) := by decide +kernel
theorem d_Md_given_62 : decode b_Md_given 62 = .ok (.iadd, 1) := by decide +kernel
theorem d_Md_given_63 : decode b_Md_given 63 = .ok (.bipush 8, 2) := by decide +kernel
theorem d_Md_given_65 : decode b_Md_given 65 = .ok (.iload_n 1, 1) := by decide +kernel
theorem d_Md_given_66 : decode b_Md_given 66 = .ok (.imul, 1) := by decide +kernel
theorem d_Md_given_67 : decode b_Md_given 67 = .ok (.aload_n 0, 1) := by decide +kernel
theorem d_Md_given_68 : decode b_Md_given 68 = .ok (.getfield 19, 3) := by decide +kernel
theorem d_Md_given_71 : decode b_Md_given 71 = .ok (.iload_n 1, 1) := by decide +kernel
theorem d_Md_given_72 : decode b_Md_given 72 = .ok (.iaload, 1) := by decide +kernel
theorem d_Md_given_73 : decode b_Md_given 73 = .ok (.iadd, 1) := by decide +kernel
theorem d_Md_given_74 : decode b_Md_given 74 = .ok (.if_icmp .ge 99, 3) := by decide +kernel
theorem d_Md_given_77 : decode b_Md_given 77 = .ok (.iload_n 2, 1) := by decide +kernel
theorem d_Md_given_78 : decode b_Md_given 78 = .ok (.aload_n 0, 1) := by decide +kernel
theorem d_Md_given_79 : decode b_Md_given 79 = .ok (.getfield 22, 3) := by decide +kernel
theorem d_Md_given_82 : decode b_Md_given 82 = .ok (.iload 4, 2) := by decide +kernel
theorem d_Md_given_84 : decode b_Md_given 84 = .ok (.iaload, 1) := by decide +kernel
theorem d_Md_given_85 : decode b_Md_given 85 = .ok (.if_icmp .le 88, 3) := by decide +kernel
theorem d_Md_given_88 : decode b_Md_given 88 = .ok (.iload_n 2, 1) := by decide +kernel
theorem d_Md_given_89 : decode b_Md_given 89 = .ok (.aload_n 0, 1) := by decide +kernel
theorem d_Md_given_90 : decode b_Md_given 90 = .ok (.getfield 22, 3) := by decide +kernel
theorem d_Md_given_93 : decode b_Md_given 93 = .ok (.iload 4, 2) := by decide +kernel
theorem d_Md_given_95 : decode b_Md_given 95 = .ok (.iconst 1, 1) := by decide +kernel
theorem d_Md_given_96 : decode b_Md_given 96 = .ok (.iadd, 1) := by decide +kernel
theorem d_Md_given_97 : decode b_Md_given 97 = .ok (.iaload, 1) := by decide +kernel
theorem d_Md_given_98 : decode b_Md_given 98 = .ok (.if_icmp .ge 75, 3) := by decide +kernel
theorem d_Md_given_101 : decode b_Md_given 101 = .ok (.iload_n 3, 1) := by decide +kernel
theorem d_Md_given_102 : decode b_Md_given 102 = .ok (.ifCond .eq 15, 3) := by decide +kernel
theorem d_Md_given_105 : decode b_Md_given 105 = .ok (.aload_n 0, 1) := by decide +kernel
theorem d_Md_given_106 : decode b_Md_given 106 = .ok (.getfield 28, 3) := by decide +kernel
theorem d_Md_given_109 : decode b_Md_given 109 = .ok (.iload 4, 2) := by decide +kernel
theorem d_Md_given_111 : decode b_Md_given 111 = .ok (.iconst 1, 1) := by decide +kernel
theorem d_Md_given_112 : decode b_Md_given 112 = .ok (.iadd, 1) := by decide +kernel
theorem d_Md_given_113 : decode b_Md_given 113 = .ok (.iaload, 1) := by decide +kernel
theorem d_Md_given_114 : decode b_Md_given 114 = .ok (.goto 12, 3) := by decide +kernel
theorem d_Md_given_117 : decode b_Md_given 117 = .ok (.aload_n 0, 1) := by decide +kernel
theorem d_Md_given_118 : decode b_Md_given 118 = .ok (.getfield 25, 3) := by decide +kernel
theorem d_Md_given_121 : decode b_Md_given 121 = .ok (.iload 4, 2) := by decide +kernel
theorem d_Md_given_123 : decode b_Md_given 123 = .ok (.iconst 1, 1) := by decide +kernel
theorem d_Md_given_124 : decode b_Md_given 124 = .ok (.iadd, 1) := by decide +kernel
theorem d_Md_given_125 : decode b_Md_given 125 = .ok (.iaload, 1) := by decide +kernel
theorem d_Md_given_126 : decode b_Md_given 126 = .ok (.istore 6, 2) := by decide +kernel
theorem d_Md_given_128 : decode b_Md_given 128 = .ok (.iload 5, 2) := by decide +kernel
theorem d_Md_given_130 : decode b_Md_given 130 = .ok (.i2l, 1) := by decide +kernel
theorem d_Md_given_131 : decode b_Md_given 131 = .ok (.iload 6, 2) := by decide +kernel
theorem d_Md_given_133 : decode b_Md_given 133 = .ok (.iload 5, 2) := by decide +kernel
theorem d_Md_given_135 : decode b_Md_given 135 = .ok (.isub, 1) := by decide +kernel
theorem d_Md_given_136 : decode b_Md_given 136 = .ok (.i2l, 1) := by decide +kernel
theorem d_Md_given_137 : decode b_Md_given 137 = .ok (.iload_n 2, 1) := by decide +kernel
theorem d_Md_given_138 : decode b_Md_given 138 = .ok (.aload_n 0, 1) := by decide +kernel
theorem d_Md_given_139 : decode b_Md_given 139 = .ok (.getfield 22, 3) := by decide +kernel
theorem d_Md_given_142 : decode b_Md_given 142 = .ok (.iload 4, 2) := by decide +kernel
theorem d_Md_given_144 : decode b_Md_given 144 = .ok (.iaload, 1) := by decide +kernel
theorem d_Md_given_145 : decode b_Md_given 145 = .ok (.isub, 1) := by decide +kernel
theorem d_Md_given_146 : decode b_Md_given 146 = .ok (.i2l, 1) := by decide +kernel
theorem d_Md_given_147 : decode b_Md_given 147 = .ok (.lmul, 1) := by decide +kernel
theorem d_Md_given_148 : decode b_Md_given 148 = .ok (.aload_n 0, 1) := by decide +kernel
theorem d_Md_given_149 : decode b_Md_given 149 = .ok (.getfield 22, 3) := by decide +kernel
theorem d_Md_given_152 : decode b_Md_given 152 = .ok (.iload 4, 2) := by decide +kernel
theorem d_Md_given_154 : decode b_Md_given 154 = .ok (.iconst 1, 1) := by decide +kernel
theorem d_Md_given_155 : decode b_Md_given 155 = .ok (.iadd, 1) := by decide +kernel
theorem d_Md_given_156 : decode b_Md_given 156 = .ok (.iaload, 1) := by decide +kernel
theorem d_Md_given_157 : decode b_Md_given 157 = .ok (.aload_n 0, 1) := by decide +kernel
theorem d_Md_given_158 : decode b_Md_given 158 = .ok (.getfield 22, 3) := by decide +kernel
theorem d_Md_given_161 : decode b_Md_given 161 = .ok (.iload 4, 2) := by decide +kernel
theorem d_Md_given_163 : decode b_Md_given 163 = .ok (.iaload, 1) := by decide +kernel
theorem d_Md_given_164 : decode b_Md_given 164 = .ok (.isub, 1) := by decide +kernel
theorem d_Md_given_165 : decode b_Md_given 165 = .ok (.i2l, 1) := by decide +kernel
theorem d_Md_given_166 : decode b_Md_given 166 = .ok (.iload_n 3, 1) := by decide +kernel
theorem d_Md_given_167 : decode b_Md_given 167 = .ok (.invokestatic 125, 3) := by decide +kernel
theorem d_Md_given_170 : decode b_Md_given 170 = .ok (.ladd, 1) := by decide +kernel
theorem d_Md_given_171 : decode b_Md_given 171 = .ok (.l2i, 1) := by decide +kernel
theorem d_Md_given_172 : decode b_Md_given 172 = .ok (.ireturn, 1) := by decide +kernel
theorem d_Md_given_173 : decode b_Md_given 173 = .ok (.iinc 4 1, 3) := by decide +kernel
theorem d_Md_given_176 : decode b_Md_given 176 = .ok (.goto (-170), 3) := by decide +kernel
theorem d_Md_given_179 : decode b_Md_given 179 = .ok (.iconst (-1), 1) := by decide +kernel
theorem d_Md_given_180 : decode b_Md_given 180 = .ok (.ireturn, 1) := by decide +kernel
theorem d_Md_quotient_0 : decode b_Md_quotient 0 = .ok (.lload_n 0, 1) := by decide +kernel
theorem d_Md_quotient_1 : decode b_Md_quotient 1 = .ok (.lload_n 2, 1) := by decide +kernel
theorem d_Md_quotient_2 : decode b_Md_quotient 2 = .ok (.ldiv, 1) := by decide +kernel
theorem d_Md_quotient_3 : decode b_Md_quotient 3 = .ok (.lstore 5, 2) := by decide +kernel
theorem d_Md_quotient_5 : decode b_Md_quotient 5 = .ok (.lload_n 0, 1) := by decide +kernel
theorem d_Md_quotient_6 : decode b_Md_quotient 6 = .ok (.lload_n 2, 1) := by decide +kernel
theorem d_Md_quotient_7 : decode b_Md_quotient 7 = .ok (.lrem, 1) := by decide +kernel
theorem d_Md_quotient_8 : decode b_Md_quotient 8 = .ok (.lstore 7, 2) := by decide +kernel
theorem d_Md_quotient_10 : decode b_Md_quotient 10 = .ok (.iload 4, 2) := by decide +kernel
theorem d_Md_quotient_12 : decode b_Md_quotient 12 = .ok (.ifCond .eq 22, 3) := by decide +kernel
theorem d_Md_quotient_15 : decode b_Md_quotient 15 = .ok (.lload 7, 2) := by decide +kernel
theorem d_Md_quotient_17 : decode b_Md_quotient 17 = .ok (.lconst 0, 1) := by decide +kernel
theorem d_Md_quotient_18 : decode b_Md_quotient 18 = .ok (.lcmp, 1) := by decide +kernel
theorem d_Md_quotient_19 : decode b_Md_quotient 19 = .ok (.ifCond .le 10, 3) := by decide +kernel
theorem d_Md_quotient_22 : decode b_Md_quotient 22 = .ok (.lload 5, 2) := by decide +kernel
theorem d_Md_quotient_24 : decode b_Md_quotient 24 = .ok (.lconst 1, 1) := by decide +kernel
theorem d_Md_quotient_25 : decode b_Md_quotient 25 = .ok (.ladd, 1) := by decide +kernel
theorem d_Md_quotient_26 : decode b_Md_quotient 26 = .ok (.goto 24, 3) := by decide +kernel
theorem d_Md_quotient_29 : decode b_Md_quotient 29 = .ok (.lload 5, 2) := by decide +kernel
theorem d_Md_quotient_31 : decode b_Md_quotient 31 = .ok (.goto 19, 3) := by decide +kernel
theorem d_Md_quotient_34 : decode b_Md_quotient 34 = .ok (.lload 7, 2) := by decide +kernel
theorem d_Md_quotient_36 : decode b_Md_quotient 36 = .ok (.lconst 0, 1) := by decide +kernel
theorem d_Md_quotient_37 : decode b_Md_quotient 37 = .ok (.lcmp, 1) := by decide +kernel
theorem d_Md_quotient_38 : decode b_Md_quotient 38 = .ok (.ifCond .ge 10, 3) := by decide +kernel
theorem d_Md_quotient_41 : decode b_Md_quotient 41 = .ok (.lload 5, 2) := by decide +kernel
theorem d_Md_quotient_43 : decode b_Md_quotient 43 = .ok (.lconst 1, 1) := by decide +kernel
theorem d_Md_quotient_44 : decode b_Md_quotient 44 = .ok (.lsub, 1) := by decide +kernel
theorem d_Md_quotient_45 : decode b_Md_quotient 45 = .ok (.goto 5, 3) := by decide +kernel
theorem d_Md_quotient_48 : decode b_Md_quotient 48 = .ok (.lload 5, 2) := by decide +kernel
theorem d_Md_quotient_50 : decode b_Md_quotient 50 = .ok (.lreturn, 1) := by decide +kernel
theorem d_Md_cost_0 : decode b_Md_cost 0 = .ok (.aload_n 0, 1) := by decide +kernel
theorem d_Md_cost_1 : decode b_Md_cost 1 = .ok (.iconst 0, 1) := by decide +kernel
theorem d_Md_cost_2 : decode b_Md_cost 2 = .ok (.putfield 103, 3) := by decide +kernel
theorem d_Md_cost_5 : decode b_Md_cost 5 = .ok (.aload_n 0, 1) := by decide +kernel
theorem d_Md_cost_6 : decode b_Md_cost 6 = .ok (.invokevirtual 169, 3) := by decide +kernel
theorem d_Md_cost_9 : decode b_Md_cost 9 = .ok (.ifCond .eq 10, 3) := by decide +kernel
theorem d_Md_cost_12 : decode b_Md_cost 12 = .ok (.aload_n 0, 1) := by decide +kernel
theorem d_Md_cost_13 : decode b_Md_cost 13 = .ok (.getfield 165, 3) := by decide +kernel
theorem d_Md_cost_16 : decode b_Md_cost 16 = .ok (.goto 6, 3) := by decide +kernel
theorem d_Md_cost_19 : decode b_Md_cost 19 = .ok (.ldc2_w 172, 3) := by decide +kernel
theorem d_Md_cost_22 : decode b_Md_cost 22 = .ok (.lreturn, 1) := by decide +kernel
theorem d_Md_find_0 : decode b_Md_find 0 = .ok (.aload_n 0, 1) := by decide +kernel
theorem d_Md_find_1 : decode b_Md_find 1 = .ok (.getfield 117, 3) := by decide +kernel
theorem d_Md_find_4 : decode b_Md_find 4 = .ok (.ifCond .ne 16, 3) := by decide +kernel
theorem d_Md_find_7 : decode b_Md_find 7 = .ok (.aload_n 0, 1) := by decide +kernel
theorem d_Md_find_8 : decode b_Md_find 8 = .ok (.aload_n 0, 1) := by decide +kernel
theorem d_Md_find_9 : decode b_Md_find 9 = .ok (.invokevirtual 155, 3) := by decide +kernel
theorem d_Md_find_12 : decode b_Md_find 12 = .ok (.putfield 159, 3) := by decide +kernel
theorem d_Md_find_15 : decode b_Md_find 15 = .ok (.aload_n 0, 1) := by decide +kernel
theorem d_Md_find_16 : decode b_Md_find 16 = .ok (.iconst 1, 1) := by decide +kernel
theorem d_Md_find_17 : decode b_Md_find 17 = .ok (.putfield 117, 3) := by decide +kernel
theorem d_Md_find_20 : decode b_Md_find 20 = .ok (.aload_n 0, 1) := by decide +kernel
theorem d_Md_find_21 : decode b_Md_find 21 = .ok (.getfield 159, 3) := by decide +kernel
theorem d_Md_find_24 : decode b_Md_find 24 = .ok (.ireturn, 1) := by decide +kernel
theorem d_Md_search_0 : decode b_Md_search 0 = .ok (.iconst 0, 1) := by decide +kernel
theorem d_Md_search_1 : decode b_Md_search 1 = .ok (.istore_n 1, 1) := by decide +kernel
theorem d_Md_search_2 : decode b_Md_search 2 = .ok (.iload_n 1, 1) := by decide +kernel
theorem d_Md_search_3 : decode b_Md_search 3 = .ok (.sipush 512, 3) := by decide +kernel
theorem d_Md_search_6 : decode b_Md_search 6 = .ok (.if_icmp .ge 42, 3) := by decide +kernel
theorem d_Md_search_9 : decode b_Md_search 9 = .ok (.aload_n 0, 1) := by decide +kernel
theorem d_Md_search_10 : decode b_Md_search 10 = .ok (.getfield 51, 3) := by decide +kernel
theorem d_Md_search_13 : decode b_Md_search 13 = .ok (.iload_n 1, 1) := by decide +kernel
theorem d_Md_search_14 : decode b_Md_search 14 = .ok (.iload_n 1, 1) := by decide +kernel
theorem d_Md_search_15 : decode b_Md_search 15 = .ok (.aload_n 0, 1) := by decide +kernel
theorem d_Md_search_16 : decode b_Md_search 16 = .ok (.getfield 99, 3) := by decide +kernel
theorem d_Md_search_19 : decode b_Md_search 19 = .ok (.if_icmp .ne 7, 3) := by decide +kernel
theorem d_Md_search_22 : decode b_Md_search 22 = .ok (.iconst 1, 1) := by decide +kernel
theorem d_Md_search_23 : decode b_Md_search 23 = .ok (.goto 4, 3) := by decide +kernel
theorem d_Md_search_26 : decode b_Md_search 26 = .ok (.iconst 0, 1) := by decide +kernel
theorem d_Md_search_27 : decode b_Md_search 27 = .ok (.bastore, 1) := by decide +kernel
theorem d_Md_search_28 : decode b_Md_search 28 = .ok (.aload_n 0, 1) := by decide +kernel
theorem d_Md_search_29 : decode b_Md_search 29 = .ok (.getfield 54, 3) := by decide +kernel
theorem d_Md_search_32 : decode b_Md_search 32 = .ok (.iload_n 1, 1) := by decide +kernel
theorem d_Md_search_33 : decode b_Md_search 33 = .ok (.lconst 0, 1) := by decide +kernel
theorem d_Md_search_34 : decode b_Md_search 34 = .ok (.lastore, 1) := by decide +kernel
theorem d_Md_search_35 : decode b_Md_search 35 = .ok (.aload_n 0, 1) := by decide +kernel
theorem d_Md_search_36 : decode b_Md_search 36 = .ok (.getfield 57, 3) := by decide +kernel
theorem d_Md_search_39 : decode b_Md_search 39 = .ok (.iload_n 1, 1) := by decide +kernel
theorem d_Md_search_40 : decode b_Md_search 40 = .ok (.iconst 0, 1) := by decide +kernel
theorem d_Md_search_41 : decode b_Md_search 41 = .ok (.iastore, 1) := by decide +kernel
theorem d_Md_search_42 : decode b_Md_search 42 = .ok (.iinc 1 1, 3) := by decide +kernel
theorem d_Md_search_45 : decode b_Md_search 45 = .ok (.goto (-43), 3) := by decide +kernel
theorem d_Md_search_48 : decode b_Md_search 48 = .ok (.aload_n 0, 1) := by decide +kernel
theorem d_Md_search_49 : decode b_Md_search 49 = .ok (.getfield 114, 3) := by decide +kernel
theorem d_Md_search_52 : decode b_Md_search 52 = .ok (.istore_n 1, 1) := by decide +kernel
theorem d_Md_search_53 : decode b_Md_search 53 = .ok (.iload_n 1, 1) := by decide +kernel
theorem d_Md_search_54 : decode b_Md_search 54 = .ok (.bipush 36, 2) := by decide +kernel
theorem d_Md_search_56 : decode b_Md_search 56 = .ok (.if_icmp .ge 14, 3) := by decide +kernel
theorem d_Md_search_59 : decode b_Md_search 59 = .ok (.aload_n 0, 1) := by decide +kernel
theorem d_Md_search_60 : decode b_Md_search 60 = .ok (.iload_n 1, 1) := by decide +kernel
theorem d_Md_search_61 : decode b_Md_search 61 = .ok (.invokevirtual 162, 3) := by decide +kernel
theorem d_Md_search_64 : decode b_Md_search 64 = .ok (.iinc 1 1, 3) := by decide +kernel
theorem d_Md_search_67 : decode b_Md_search 67 = .ok (.goto (-14), 3) := by decide +kernel
theorem d_Md_search_70 : decode b_Md_search 70 = .ok (.iconst (-1), 1) := by decide +kernel
theorem d_Md_search_71 : decode b_Md_search 71 = .ok (.istore_n 1, 1) := by decide +kernel
theorem d_Md_search_72 : decode b_Md_search 72 = .ok (.iconst 0, 1) := by decide +kernel
theorem d_Md_search_73 : decode b_Md_search 73 = .ok (.istore_n 2, 1) := by decide +kernel
theorem d_Md_search_74 : decode b_Md_search 74 = .ok (.iload_n 2, 1) := by decide +kernel
theorem d_Md_search_75 : decode b_Md_search 75 = .ok (.sipush 512, 3) := by decide +kernel
theorem d_Md_search_78 : decode b_Md_search 78 = .ok (.if_icmp .ge 86, 3) := by decide +kernel
theorem d_Md_search_81 : decode b_Md_search 81 = .ok (.aload_n 0, 1) := by decide +kernel
theorem d_Md_search_82 : decode b_Md_search 82 = .ok (.getfield 51, 3) := by decide +kernel
theorem d_Md_search_85 : decode b_Md_search 85 = .ok (.iload_n 2, 1) := by decide +kernel
theorem d_Md_search_86 : decode b_Md_search 86 = .ok (.baload, 1) := by decide +kernel
theorem d_Md_search_87 : decode b_Md_search 87 = .ok (.ifCond .eq 59, 3) := by decide +kernel
theorem d_Md_search_90 : decode b_Md_search 90 = .ok (.iload_n 1, 1) := by decide +kernel
theorem d_Md_search_91 : decode b_Md_search 91 = .ok (.iconst (-1), 1) := by decide +kernel
theorem d_Md_search_92 : decode b_Md_search 92 = .ok (.if_icmp .eq 50, 3) := by decide +kernel
theorem d_Md_search_95 : decode b_Md_search 95 = .ok (.aload_n 0, 1) := by decide +kernel
theorem d_Md_search_96 : decode b_Md_search 96 = .ok (.getfield 54, 3) := by decide +kernel
theorem d_Md_search_99 : decode b_Md_search 99 = .ok (.iload_n 2, 1) := by decide +kernel
theorem d_Md_search_100 : decode b_Md_search 100 = .ok (.laload, 1) := by decide +kernel
theorem d_Md_search_101 : decode b_Md_search 101 = .ok (.aload_n 0, 1) := by decide +kernel
theorem d_Md_search_102 : decode b_Md_search 102 = .ok (.getfield 54, 3) := by decide +kernel
theorem d_Md_search_105 : decode b_Md_search 105 = .ok (.iload_n 1, 1) := by decide +kernel
theorem d_Md_search_106 : decode b_Md_search 106 = .ok (.laload, 1) := by decide +kernel
theorem d_Md_search_107 : decode b_Md_search 107 = .ok (.lcmp, 1) := by decide +kernel
theorem d_Md_search_108 : decode b_Md_search 108 = .ok (.ifCond .lt 34, 3) := by decide +kernel
theorem d_Md_search_111 : decode b_Md_search 111 = .ok (.aload_n 0, 1) := by decide +kernel
theorem d_Md_search_112 : decode b_Md_search 112 = .ok (.getfield 54, 3) := by decide +kernel
theorem d_Md_search_115 : decode b_Md_search 115 = .ok (.iload_n 2, 1) := by decide +kernel
theorem d_Md_search_116 : decode b_Md_search 116 = .ok (.laload, 1) := by decide +kernel
theorem d_Md_search_117 : decode b_Md_search 117 = .ok (.aload_n 0, 1) := by decide +kernel
theorem d_Md_search_118 : decode b_Md_search 118 = .ok (.getfield 54, 3) := by decide +kernel
theorem d_Md_search_121 : decode b_Md_search 121 = .ok (.iload_n 1, 1) := by decide +kernel
theorem d_Md_search_122 : decode b_Md_search 122 = .ok (.laload, 1) := by decide +kernel
theorem d_Md_search_123 : decode b_Md_search 123 = .ok (.lcmp, 1) := by decide +kernel
theorem d_Md_search_124 : decode b_Md_search 124 = .ok (.ifCond .ne 22, 3) := by decide +kernel
theorem d_Md_search_127 : decode b_Md_search 127 = .ok (.aload_n 0, 1) := by decide +kernel
theorem d_Md_search_128 : decode b_Md_search 128 = .ok (.getfield 57, 3) := by decide +kernel
theorem d_Md_search_131 : decode b_Md_search 131 = .ok (.iload_n 2, 1) := by decide +kernel
theorem d_Md_search_132 : decode b_Md_search 132 = .ok (.iaload, 1) := by decide +kernel
theorem d_Md_search_133 : decode b_Md_search 133 = .ok (.aload_n 0, 1) := by decide +kernel
theorem d_Md_search_134 : decode b_Md_search 134 = .ok (.getfield 57, 3) := by decide +kernel
theorem d_Md_search_137 : decode b_Md_search 137 = .ok (.iload_n 1, 1) := by decide +kernel
theorem d_Md_search_138 : decode b_Md_search 138 = .ok (.iaload, 1) := by decide +kernel
theorem d_Md_search_139 : decode b_Md_search 139 = .ok (.if_icmp .ge 7, 3) := by decide +kernel
theorem d_Md_search_142 : decode b_Md_search 142 = .ok (.iconst 1, 1) := by decide +kernel
theorem d_Md_search_143 : decode b_Md_search 143 = .ok (.goto 4, 3) := by decide +kernel
theorem d_Md_search_146 : decode b_Md_search 146 = .ok (.iconst 0, 1) := by decide +kernel
theorem d_Md_search_147 : decode b_Md_search 147 = .ok (.istore_n 3, 1) := by decide +kernel
theorem d_Md_search_148 : decode b_Md_search 148 = .ok (.iload_n 3, 1) := by decide +kernel
theorem d_Md_search_149 : decode b_Md_search 149 = .ok (.ifCond .eq 7, 3) := by decide +kernel
theorem d_Md_search_152 : decode b_Md_search 152 = .ok (.iload_n 2, 1) := by decide +kernel
theorem d_Md_search_153 : decode b_Md_search 153 = .ok (.goto 4, 3) := by decide +kernel
theorem d_Md_search_156 : decode b_Md_search 156 = .ok (.iload_n 1, 1) := by decide +kernel
theorem d_Md_search_157 : decode b_Md_search 157 = .ok (.istore_n 1, 1) := by decide +kernel
theorem d_Md_search_158 : decode b_Md_search 158 = .ok (.iinc 2 1, 3) := by decide +kernel
theorem d_Md_search_161 : decode b_Md_search 161 = .ok (.goto (-87), 3) := by decide +kernel
theorem d_Md_search_164 : decode b_Md_search 164 = .ok (.iload_n 1, 1) := by decide +kernel
theorem d_Md_search_165 : decode b_Md_search 165 = .ok (.iconst (-1), 1) := by decide +kernel
theorem d_Md_search_166 : decode b_Md_search 166 = .ok (.if_icmp .ne 5, 3) := by decide +kernel
theorem d_Md_search_169 : decode b_Md_search 169 = .ok (.iconst 0, 1) := by decide +kernel
theorem d_Md_search_170 : decode b_Md_search 170 = .ok (.ireturn, 1) := by decide +kernel
theorem d_Md_search_171 : decode b_Md_search 171 = .ok (.aload_n 0, 1) := by decide +kernel
theorem d_Md_search_172 : decode b_Md_search 172 = .ok (.aload_n 0, 1) := by decide +kernel
theorem d_Md_search_173 : decode b_Md_search 173 = .ok (.getfield 54, 3) := by decide +kernel
theorem d_Md_search_176 : decode b_Md_search 176 = .ok (.iload_n 1, 1) := by decide +kernel
theorem d_Md_search_177 : decode b_Md_search 177 = .ok (.laload, 1) := by decide +kernel
theorem d_Md_search_178 : decode b_Md_search 178 = .ok (.putfield 165, 3) := by decide +kernel
theorem d_Md_search_181 : decode b_Md_search 181 = .ok (.iload_n 1, 1) := by decide +kernel
theorem d_Md_search_182 : decode b_Md_search 182 = .ok (.istore_n 2, 1) := by decide +kernel
theorem d_Md_search_183 : decode b_Md_search 183 = .ok (.bipush 35, 2) := by decide +kernel
theorem d_Md_search_185 : decode b_Md_search 185 = .ok (.istore_n 3, 1) := by decide +kernel
theorem d_Md_search_186 : decode b_Md_search 186 = .ok (.iload_n 3, 1) := by decide +kernel
theorem d_Md_search_187 : decode b_Md_search 187 = .ok (.aload_n 0, 1) := by decide +kernel
theorem d_Md_search_188 : decode b_Md_search 188 = .ok (.getfield 114, 3) := by decide +kernel
theorem d_Md_search_191 : decode b_Md_search 191 = .ok (.if_icmp .lt 46, 3) := by decide +kernel
theorem d_Md_search_194 : decode b_Md_search 194 = .ok (.aload_n 0, 1) := by decide +kernel
theorem d_Md_search_195 : decode b_Md_search 195 = .ok (.getfield 84, 3) := by decide +kernel
theorem d_Md_search_198 : decode b_Md_search 198 = .ok (.iload_n 3, 1) := by decide +kernel
theorem d_Md_search_199 : decode b_Md_search 199 = .ok (.aload_n 0, 1) := by decide +kernel
theorem d_Md_search_200 : decode b_Md_search 200 = .ok (.getfield 69, 3) := by decide +kernel
theorem d_Md_search_203 : decode b_Md_search 203 = .ok (.sipush 512, 3) := by decide +kernel
theorem d_Md_search_206 : decode b_Md_search 206 = .ok (.iload_n 3, 1) := by decide +kernel
theorem d_Md_search_207 : decode b_Md_search 207 = .ok (.imul, 1) := by decide +kernel
theorem d_Md_search_208 : decode b_Md_search 208 = .ok (.iload_n 2, 1) := by decide +kernel
theorem d_Md_search_209 : decode b_Md_search 209 = .ok (.iadd, 1) := by decide +kernel
theorem d_Md_search_210 : decode b_Md_search 210 = .ok (.iaload, 1) := by decide +kernel
theorem d_Md_search_211 : decode b_Md_search 211 = .ok (.bipush 8, 2) := by decide +kernel
theorem d_Md_search_213 : decode b_Md_search 213 = .ok (.irem, 1) := by decide +kernel
theorem d_Md_search_214 : decode b_Md_search 214 = .ok (.iastore, 1) := by decide +kernel
theorem d_Md_search_215 : decode b_Md_search 215 = .ok (.aload_n 0, 1) := by decide +kernel
theorem d_Md_search_216 : decode b_Md_search 216 = .ok (.getfield 69, 3) := by decide +kernel
theorem d_Md_search_219 : decode b_Md_search 219 = .ok (.sipush 512, 3) := by decide +kernel
theorem d_Md_search_222 : decode b_Md_search 222 = .ok (.iload_n 3, 1) := by decide +kernel
theorem d_Md_search_223 : decode b_Md_search 223 = .ok (.imul, 1) := by decide +kernel
theorem d_Md_search_224 : decode b_Md_search 224 = .ok (.iload_n 2, 1) := by decide +kernel
theorem d_Md_search_225 : decode b_Md_search 225 = .ok (.iadd, 1) := by decide +kernel
theorem d_Md_search_226 : decode b_Md_search 226 = .ok (.iaload, 1) := by decide +kernel
theorem d_Md_search_227 : decode b_Md_search 227 = .ok (.bipush 8, 2) := by decide +kernel
theorem d_Md_search_229 : decode b_Md_search 229 = .ok (.idiv, 1) := by decide +kernel
theorem d_Md_search_230 : decode b_Md_search 230 = .ok (.istore_n 2, 1) := by decide +kernel
theorem d_Md_search_231 : decode b_Md_search 231 = .ok (.iinc 3 (-1), 3) := by decide +kernel
theorem d_Md_search_234 : decode b_Md_search 234 = .ok (.goto (-48), 3) := by decide +kernel
theorem d_Md_search_237 : decode b_Md_search 237 = .ok (.iconst 1, 1) := by decide +kernel
theorem d_Md_search_238 : decode b_Md_search 238 = .ok (.ireturn, 1) := by decide +kernel
theorem d_Md_hourMore_0 : decode b_Md_hourMore 0 = .ok (.aload_n 0, 1) := by decide +kernel
theorem d_Md_hourMore_1 : decode b_Md_hourMore 1 = .ok (.iload_n 1, 1) := by decide +kernel
theorem d_Md_hourMore_2 : decode b_Md_hourMore 2 = .ok (.invokevirtual 141, 3) := by decide +kernel
theorem d_Md_hourMore_5 : decode b_Md_hourMore 5 = .ok (.iconst 0, 1) := by decide +kernel
theorem d_Md_hourMore_6 : decode b_Md_hourMore 6 = .ok (.istore_n 2, 1) := by decide +kernel
theorem d_Md_hourMore_7 : decode b_Md_hourMore 7 = .ok (.iload_n 2, 1) := by decide +kernel
theorem d_Md_hourMore_8 : decode b_Md_hourMore 8 = .ok (.sipush 512, 3) := by decide +kernel
theorem d_Md_hourMore_11 : decode b_Md_hourMore 11 = .ok (.if_icmp .ge 16, 3) := by decide +kernel
theorem d_Md_hourMore_14 : decode b_Md_hourMore 14 = .ok (.aload_n 0, 1) := by decide +kernel
theorem d_Md_hourMore_15 : decode b_Md_hourMore 15 = .ok (.getfield 60, 3) := by decide +kernel
theorem d_Md_hourMore_18 : decode b_Md_hourMore 18 = .ok (.iload_n 2, 1) := by decide +kernel
theorem d_Md_hourMore_19 : decode b_Md_hourMore 19 = .ok (.iconst 0, 1) := by decide +kernel
theorem d_Md_hourMore_20 : decode b_Md_hourMore 20 = .ok (.bastore, 1) := by decide +kernel
theorem d_Md_hourMore_21 : decode b_Md_hourMore 21 = .ok (.iinc 2 1, 3) := by decide +kernel
theorem d_Md_hourMore_24 : decode b_Md_hourMore 24 = .ok (.goto (-17), 3) := by decide +kernel
theorem d_Md_hourMore_27 : decode b_Md_hourMore 27 = .ok (.iconst 0, 1) := by decide +kernel
theorem d_Md_hourMore_28 : decode b_Md_hourMore 28 = .ok (.istore_n 2, 1) := by decide +kernel
theorem d_Md_hourMore_29 : decode b_Md_hourMore 29 = .ok (.iload_n 2, 1) := by decide +kernel
theorem d_Md_hourMore_30 : decode b_Md_hourMore 30 = .ok (.sipush 4096, 3) := by decide +kernel
theorem d_Md_hourMore_33 : decode b_Md_hourMore 33 = .ok (.if_icmp .ge 16, 3) := by decide +kernel
theorem d_Md_hourMore_36 : decode b_Md_hourMore 36 = .ok (.aload_n 0, 1) := by decide +kernel
theorem d_Md_hourMore_37 : decode b_Md_hourMore 37 = .ok (.getfield 72, 3) := by decide +kernel
theorem d_Md_hourMore_40 : decode b_Md_hourMore 40 = .ok (.iload_n 2, 1) := by decide +kernel
theorem d_Md_hourMore_41 : decode b_Md_hourMore 41 = .ok (.iconst 0, 1) := by decide +kernel
theorem d_Md_hourMore_42 : decode b_Md_hourMore 42 = .ok (.bastore, 1) := by decide +kernel
theorem d_Md_hourMore_43 : decode b_Md_hourMore 43 = .ok (.iinc 2 1, 3) := by decide +kernel
theorem d_Md_hourMore_46 : decode b_Md_hourMore 46 = .ok (.goto (-17), 3) := by decide +kernel
theorem d_Md_hourMore_49 : decode b_Md_hourMore 49 = .ok (.iconst 0, 1) := by decide +kernel
theorem d_Md_hourMore_50 : decode b_Md_hourMore 50 = .ok (.istore_n 2, 1) := by decide +kernel
theorem d_Md_hourMore_51 : decode b_Md_hourMore 51 = .ok (.iload_n 2, 1) := by decide +kernel
theorem d_Md_hourMore_52 : decode b_Md_hourMore 52 = .ok (.sipush 512, 3) := by decide +kernel
theorem d_Md_hourMore_55 : decode b_Md_hourMore 55 = .ok (.if_icmp .ge 176, 3) := by decide +kernel
theorem d_Md_hourMore_58 : decode b_Md_hourMore 58 = .ok (.iconst 0, 1) := by decide +kernel
theorem d_Md_hourMore_59 : decode b_Md_hourMore 59 = .ok (.istore_n 3, 1) := by decide +kernel
theorem d_Md_hourMore_60 : decode b_Md_hourMore 60 = .ok (.iload_n 3, 1) := by decide +kernel
theorem d_Md_hourMore_61 : decode b_Md_hourMore 61 = .ok (.iconst 1, 1) := by decide +kernel
theorem d_Md_hourMore_62 : decode b_Md_hourMore 62 = .ok (.aload_n 0, 1) := by decide +kernel
theorem d_Md_hourMore_63 : decode b_Md_hourMore 63 = .ok (.getfield 111, 3) := by decide +kernel
theorem d_Md_hourMore_66 : decode b_Md_hourMore 66 = .ok (.ishl, 1) := by decide +kernel
theorem d_Md_hourMore_67 : decode b_Md_hourMore 67 = .ok (.if_icmp .ge 158, 3) := by decide +kernel
theorem d_Md_hourMore_70 : decode b_Md_hourMore 70 = .ok (.aload_n 0, 1) := by decide +kernel
theorem d_Md_hourMore_71 : decode b_Md_hourMore 71 = .ok (.getfield 51, 3) := by decide +kernel
theorem d_Md_hourMore_74 : decode b_Md_hourMore 74 = .ok (.iload_n 2, 1) := by decide +kernel
theorem d_Md_hourMore_75 : decode b_Md_hourMore 75 = .ok (.baload, 1) := by decide +kernel
theorem d_Md_hourMore_76 : decode b_Md_hourMore 76 = .ok (.ifCond .eq 149, 3) := by decide +kernel
theorem d_Md_hourMore_79 : decode b_Md_hourMore 79 = .ok (.aload_n 0, 1) := by decide +kernel
theorem d_Md_hourMore_80 : decode b_Md_hourMore 80 = .ok (.iload_n 2, 1) := by decide +kernel
theorem d_Md_hourMore_81 : decode b_Md_hourMore 81 = .ok (.iload_n 1, 1) := by decide +kernel
theorem d_Md_hourMore_82 : decode b_Md_hourMore 82 = .ok (.iload_n 3, 1) := by decide +kernel
theorem d_Md_hourMore_83 : decode b_Md_hourMore 83 = .ok (.invokevirtual 145, 3) := by decide +kernel
theorem d_Md_hourMore_86 : decode b_Md_hourMore 86 = .ok (.ifCond .eq 133, 3) := by decide +kernel
theorem d_Md_hourMore_89 : decode b_Md_hourMore 89 = .ok (.aload_n 0, 1) := by decide +kernel
theorem d_Md_hourMore_90 : decode b_Md_hourMore 90 = .ok (.iload_n 2, 1) := by decide +kernel
theorem d_Md_hourMore_91 : decode b_Md_hourMore 91 = .ok (.iload_n 3, 1) := by decide +kernel
theorem d_Md_hourMore_92 : decode b_Md_hourMore 92 = .ok (.invokevirtual 148, 3) := by decide +kernel
theorem d_Md_hourMore_95 : decode b_Md_hourMore 95 = .ok (.istore 4, 2) := by decide +kernel
theorem d_Md_hourMore_97 : decode b_Md_hourMore 97 = .ok (.aload_n 0, 1) := by decide +kernel
theorem d_Md_hourMore_98 : decode b_Md_hourMore 98 = .ok (.getfield 54, 3) := by decide +kernel
theorem d_Md_hourMore_101 : decode b_Md_hourMore 101 = .ok (.iload_n 2, 1) := by decide +kernel
theorem d_Md_hourMore_102 : decode b_Md_hourMore 102 = .ok (.laload, 1) := by decide +kernel
theorem d_Md_hourMore_103 : decode b_Md_hourMore 103 = .ok (.aload_n 0, 1) := by decide +kernel
theorem d_Md_hourMore_104 : decode b_Md_hourMore 104 = .ok (.iload_n 2, 1) := by decide +kernel
theorem d_Md_hourMore_105 : decode b_Md_hourMore 105 = .ok (.iload_n 1, 1) := by decide +kernel
theorem d_Md_hourMore_106 : decode b_Md_hourMore 106 = .ok (.iload_n 3, 1) := by decide +kernel
theorem d_Md_hourMore_107 : decode b_Md_hourMore 107 = .ok (.invokevirtual 151, 3) := by decide +kernel
theorem d_Md_hourMore_110 : decode b_Md_hourMore 110 = .ok (.ladd, 1) := by decide +kernel
theorem d_Md_hourMore_111 : decode b_Md_hourMore 111 = .ok (.lstore 5, 2) := by decide +kernel
theorem d_Md_hourMore_113 : decode b_Md_hourMore 113 = .ok (.bipush 8, 2) := by decide +kernel
theorem d_Md_hourMore_115 : decode b_Md_hourMore 115 = .ok (.aload_n 0, 1) := by decide +kernel
theorem d_Md_hourMore_116 : decode b_Md_hourMore 116 = .ok (.getfield 57, 3) := by decide +kernel
theorem d_Md_hourMore_119 : decode b_Md_hourMore 119 = .ok (.iload_n 2, 1) := by decide +kernel
theorem d_Md_hourMore_120 : decode b_Md_hourMore 120 = .ok (.iaload, 1) := by decide +kernel
theorem d_Md_hourMore_121 : decode b_Md_hourMore 121 = .ok (.imul, 1) := by decide +kernel
theorem d_Md_hourMore_122 : decode b_Md_hourMore 122 = .ok (.iload_n 3, 1) := by decide +kernel
theorem d_Md_hourMore_123 : decode b_Md_hourMore 123 = .ok (.iadd, 1) := by decide +kernel
theorem d_Md_hourMore_124 : decode b_Md_hourMore 124 = .ok (.istore 7, 2) := by decide +kernel
theorem d_Md_hourMore_126 : decode b_Md_hourMore 126 = .ok (.aload_n 0, 1) := by decide +kernel
theorem d_Md_hourMore_127 : decode b_Md_hourMore 127 = .ok (.getfield 60, 3) := by decide +kernel
theorem d_Md_hourMore_130 : decode b_Md_hourMore 130 = .ok (.iload 4, 2) := by decide +kernel
theorem d_Md_hourMore_132 : decode b_Md_hourMore 132 = .ok (.baload, 1) := by decide +kernel
theorem d_Md_hourMore_133 : decode b_Md_hourMore 133 = .ok (.ifCond .eq 41, 3) := by decide +kernel
theorem d_Md_hourMore_136 : decode b_Md_hourMore 136 = .ok (.lload 5, 2) := by decide +kernel
theorem d_Md_hourMore_138 : decode b_Md_hourMore 138 = .ok (.aload_n 0, 1) := by decide +kernel
theorem d_Md_hourMore_139 : decode b_Md_hourMore 139 = .ok (.getfield 63, 3) := by decide +kernel
theorem d_Md_hourMore_142 : decode b_Md_hourMore 142 = .ok (.iload 4, 2) := by decide +kernel
theorem d_Md_hourMore_144 : decode b_Md_hourMore 144 = .ok (.laload, 1) := by decide +kernel
theorem d_Md_hourMore_145 : decode b_Md_hourMore 145 = .ok (.lcmp, 1) := by decide +kernel
theorem d_Md_hourMore_146 : decode b_Md_hourMore 146 = .ok (.ifCond .lt 28, 3) := by decide +kernel
theorem d_Md_hourMore_149 : decode b_Md_hourMore 149 = .ok (.lload 5, 2) := by decide +kernel
theorem d_Md_hourMore_151 : decode b_Md_hourMore 151 = .ok (.aload_n 0, 1) := by decide +kernel
theorem d_Md_hourMore_152 : decode b_Md_hourMore 152 = .ok (.getfield 63, 3) := by decide +kernel
theorem d_Md_hourMore_155 : decode b_Md_hourMore 155 = .ok (.iload 4, 2) := by decide +kernel
theorem d_Md_hourMore_157 : decode b_Md_hourMore 157 = .ok (.laload, 1) := by decide +kernel
theorem d_Md_hourMore_158 : decode b_Md_hourMore 158 = .ok (.lcmp, 1) := by decide +kernel
theorem d_Md_hourMore_159 : decode b_Md_hourMore 159 = .ok (.ifCond .ne 60, 3) := by decide +kernel
theorem d_Md_hourMore_162 : decode b_Md_hourMore 162 = .ok (.iload 7, 2) := by decide +kernel
theorem d_Md_hourMore_164 : decode b_Md_hourMore 164 = .ok (.aload_n 0, 1) := by decide +kernel
theorem d_Md_hourMore_165 : decode b_Md_hourMore 165 = .ok (.getfield 66, 3) := by decide +kernel
theorem d_Md_hourMore_168 : decode b_Md_hourMore 168 = .ok (.iload 4, 2) := by decide +kernel
theorem d_Md_hourMore_170 : decode b_Md_hourMore 170 = .ok (.iaload, 1) := by decide +kernel
theorem d_Md_hourMore_171 : decode b_Md_hourMore 171 = .ok (.if_icmp .ge 48, 3) := by decide +kernel
theorem d_Md_hourMore_174 : decode b_Md_hourMore 174 = .ok (.aload_n 0, 1) := by decide +kernel
theorem d_Md_hourMore_175 : decode b_Md_hourMore 175 = .ok (.getfield 60, 3) := by decide +kernel
theorem d_Md_hourMore_178 : decode b_Md_hourMore 178 = .ok (.iload 4, 2) := by decide +kernel
theorem d_Md_hourMore_180 : decode b_Md_hourMore 180 = .ok (.iconst 1, 1) := by decide +kernel
theorem d_Md_hourMore_181 : decode b_Md_hourMore 181 = .ok (.bastore, 1) := by decide +kernel
theorem d_Md_hourMore_182 : decode b_Md_hourMore 182 = .ok (.aload_n 0, 1) := by decide +kernel
theorem d_Md_hourMore_183 : decode b_Md_hourMore 183 = .ok (.getfield 63, 3) := by decide +kernel
theorem d_Md_hourMore_186 : decode b_Md_hourMore 186 = .ok (.iload 4, 2) := by decide +kernel
theorem d_Md_hourMore_188 : decode b_Md_hourMore 188 = .ok (.lload 5, 2) := by decide +kernel
theorem d_Md_hourMore_190 : decode b_Md_hourMore 190 = .ok (.lastore, 1) := by decide +kernel
theorem d_Md_hourMore_191 : decode b_Md_hourMore 191 = .ok (.aload_n 0, 1) := by decide +kernel
theorem d_Md_hourMore_192 : decode b_Md_hourMore 192 = .ok (.getfield 66, 3) := by decide +kernel
theorem d_Md_hourMore_195 : decode b_Md_hourMore 195 = .ok (.iload 4, 2) := by decide +kernel
theorem d_Md_hourMore_197 : decode b_Md_hourMore 197 = .ok (.iload 7, 2) := by decide +kernel
theorem d_Md_hourMore_199 : decode b_Md_hourMore 199 = .ok (.iastore, 1) := by decide +kernel
theorem d_Md_hourMore_200 : decode b_Md_hourMore 200 = .ok (.aload_n 0, 1) := by decide +kernel
theorem d_Md_hourMore_201 : decode b_Md_hourMore 201 = .ok (.getfield 69, 3) := by decide +kernel
theorem d_Md_hourMore_204 : decode b_Md_hourMore 204 = .ok (.sipush 512, 3) := by decide +kernel
theorem d_Md_hourMore_207 : decode b_Md_hourMore 207 = .ok (.iload_n 1, 1) := by decide +kernel
theorem d_Md_hourMore_208 : decode b_Md_hourMore 208 = .ok (.imul, 1) := by decide +kernel
theorem d_Md_hourMore_209 : decode b_Md_hourMore 209 = .ok (.iload 4, 2) := by decide +kernel
theorem d_Md_hourMore_211 : decode b_Md_hourMore 211 = .ok (.iadd, 1) := by decide +kernel
theorem d_Md_hourMore_212 : decode b_Md_hourMore 212 = .ok (.bipush 8, 2) := by decide +kernel
theorem d_Md_hourMore_214 : decode b_Md_hourMore 214 = .ok (.iload_n 2, 1) := by decide +kernel
theorem d_Md_hourMore_215 : decode b_Md_hourMore 215 = .ok (.imul, 1) := by decide +kernel
theorem d_Md_hourMore_216 : decode b_Md_hourMore 216 = .ok (.iload_n 3, 1) := by decide +kernel
theorem d_Md_hourMore_217 : decode b_Md_hourMore 217 = .ok (.iadd, 1) := by decide +kernel
theorem d_Md_hourMore_218 : decode b_Md_hourMore 218 = .ok (.iastore, 1) := by decide +kernel
theorem d_Md_hourMore_219 : decode b_Md_hourMore 219 = .ok (.iinc 3 1, 3) := by decide +kernel
theorem d_Md_hourMore_222 : decode b_Md_hourMore 222 = .ok (.goto (-162), 3) := by decide +kernel
theorem d_Md_hourMore_225 : decode b_Md_hourMore 225 = .ok (.iinc 2 1, 3) := by decide +kernel
theorem d_Md_hourMore_228 : decode b_Md_hourMore 228 = .ok (.goto (-177), 3) := by decide +kernel
theorem d_Md_hourMore_231 : decode b_Md_hourMore 231 = .ok (.iconst 0, 1) := by decide +kernel
theorem d_Md_hourMore_232 : decode b_Md_hourMore 232 = .ok (.istore_n 2, 1) := by decide +kernel
theorem d_Md_hourMore_233 : decode b_Md_hourMore 233 = .ok (.iload_n 2, 1) := by decide +kernel
theorem d_Md_hourMore_234 : decode b_Md_hourMore 234 = .ok (.sipush 512, 3) := by decide +kernel
theorem d_Md_hourMore_237 : decode b_Md_hourMore 237 = .ok (.if_icmp .ge 30, 3) := by decide +kernel
theorem d_Md_hourMore_240 : decode b_Md_hourMore 240 = .ok (.aload_n 0, 1) := by decide +kernel
theorem d_Md_hourMore_241 : decode b_Md_hourMore 241 = .ok (.getfield 60, 3) := by decide +kernel
theorem d_Md_hourMore_244 : decode b_Md_hourMore 244 = .ok (.iload_n 2, 1) := by decide +kernel
theorem d_Md_hourMore_245 : decode b_Md_hourMore 245 = .ok (.baload, 1) := by decide +kernel
theorem d_Md_hourMore_246 : decode b_Md_hourMore 246 = .ok (.ifCond .eq 15, 3) := by decide +kernel
theorem d_Md_hourMore_249 : decode b_Md_hourMore 249 = .ok (.aload_n 0, 1) := by decide +kernel
theorem d_Md_hourMore_250 : decode b_Md_hourMore 250 = .ok (.getfield 72, 3) := by decide +kernel
theorem d_Md_hourMore_253 : decode b_Md_hourMore 253 = .ok (.aload_n 0, 1) := by decide +kernel
theorem d_Md_hourMore_254 : decode b_Md_hourMore 254 = .ok (.getfield 66, 3) := by decide +kernel
theorem d_Md_hourMore_257 : decode b_Md_hourMore 257 = .ok (.iload_n 2, 1) := by decide +kernel
theorem d_Md_hourMore_258 : decode b_Md_hourMore 258 = .ok (.iaload, 1) := by decide +kernel
theorem d_Md_hourMore_259 : decode b_Md_hourMore 259 = .ok (.iconst 1, 1) := by decide +kernel
theorem d_Md_hourMore_260 : decode b_Md_hourMore 260 = .ok (.bastore, 1) := by decide +kernel
theorem d_Md_hourMore_261 : decode b_Md_hourMore 261 = .ok (.iinc 2 1, 3) := by decide +kernel
theorem d_Md_hourMore_264 : decode b_Md_hourMore 264 = .ok (.goto (-31), 3) := by decide +kernel
theorem d_Md_hourMore_267 : decode b_Md_hourMore 267 = .ok (.iconst 0, 1) := by decide +kernel
theorem d_Md_hourMore_268 : decode b_Md_hourMore 268 = .ok (.istore_n 2, 1) := by decide +kernel
theorem d_Md_hourMore_269 : decode b_Md_hourMore 269 = .ok (.iconst 0, 1) := by decide +kernel
theorem d_Md_hourMore_270 : decode b_Md_hourMore 270 = .ok (.istore_n 3, 1) := by decide +kernel
theorem d_Md_hourMore_271 : decode b_Md_hourMore 271 = .ok (.iload_n 3, 1) := by decide +kernel
theorem d_Md_hourMore_272 : decode b_Md_hourMore 272 = .ok (.sipush 4096, 3) := by decide +kernel
theorem d_Md_hourMore_275 : decode b_Md_hourMore 275 = .ok (.if_icmp .ge 33, 3) := by decide +kernel
theorem d_Md_hourMore_278 : decode b_Md_hourMore 278 = .ok (.aload_n 0, 1) := by decide +kernel
theorem d_Md_hourMore_279 : decode b_Md_hourMore 279 = .ok (.getfield 75, 3) := by decide +kernel
theorem d_Md_hourMore_282 : decode b_Md_hourMore 282 = .ok (.iload_n 3, 1) := by decide +kernel
theorem d_Md_hourMore_283 : decode b_Md_hourMore 283 = .ok (.iload_n 2, 1) := by decide +kernel
theorem d_Md_hourMore_284 : decode b_Md_hourMore 284 = .ok (.iastore, 1) := by decide +kernel
theorem d_Md_hourMore_285 : decode b_Md_hourMore 285 = .ok (.iload_n 2, 1) := by decide +kernel
theorem d_Md_hourMore_286 : decode b_Md_hourMore 286 = .ok (.aload_n 0, 1) := by decide +kernel
theorem d_Md_hourMore_287 : decode b_Md_hourMore 287 = .ok (.getfield 72, 3) := by decide +kernel
theorem d_Md_hourMore_290 : decode b_Md_hourMore 290 = .ok (.iload_n 3, 1) := by decide +kernel
theorem d_Md_hourMore_291 : decode b_Md_hourMore 291 = .ok (.baload, 1) := by decide +kernel
theorem d_Md_hourMore_292 : decode b_Md_hourMore 292 = .ok (.ifCond .eq 7, 3) := by decide +kernel
theorem d_Md_hourMore_295 : decode b_Md_hourMore 295 = .ok (.iconst 1, 1) := by decide +kernel
theorem d_Md_hourMore_296 : decode b_Md_hourMore 296 = .ok (.goto 4, 3) := by decide +kernel
theorem d_Md_hourMore_299 : decode b_Md_hourMore 299 = .ok (.iconst 0, 1) := by decide +kernel
theorem d_Md_hourMore_300 : decode b_Md_hourMore 300 = .ok (.iadd, 1) := by decide +kernel
theorem d_Md_hourMore_301 : decode b_Md_hourMore 301 = .ok (.istore_n 2, 1) := by decide +kernel
theorem d_Md_hourMore_302 : decode b_Md_hourMore 302 = .ok (.iinc 3 1, 3) := by decide +kernel
theorem d_Md_hourMore_305 : decode b_Md_hourMore 305 = .ok (.goto (-34), 3) := by decide +kernel
theorem d_Md_hourMore_308 : decode b_Md_hourMore 308 = .ok (.iconst 0, 1) := by decide +kernel
theorem d_Md_hourMore_309 : decode b_Md_hourMore 309 = .ok (.istore_n 3, 1) := by decide +kernel
theorem d_Md_hourMore_310 : decode b_Md_hourMore 310 = .ok (.iload_n 3, 1) := by decide +kernel
theorem d_Md_hourMore_311 : decode b_Md_hourMore 311 = .ok (.sipush 512, 3) := by decide +kernel
theorem d_Md_hourMore_314 : decode b_Md_hourMore 314 = .ok (.if_icmp .ge 63, 3) := by decide +kernel
theorem d_Md_hourMore_317 : decode b_Md_hourMore 317 = .ok (.aload_n 0, 1) := by decide +kernel
theorem d_Md_hourMore_318 : decode b_Md_hourMore 318 = .ok (.getfield 51, 3) := by decide +kernel
theorem d_Md_hourMore_321 : decode b_Md_hourMore 321 = .ok (.iload_n 3, 1) := by decide +kernel
theorem d_Md_hourMore_322 : decode b_Md_hourMore 322 = .ok (.aload_n 0, 1) := by decide +kernel
theorem d_Md_hourMore_323 : decode b_Md_hourMore 323 = .ok (.getfield 60, 3) := by decide +kernel
theorem d_Md_hourMore_326 : decode b_Md_hourMore 326 = .ok (.iload_n 3, 1) := by decide +kernel
theorem d_Md_hourMore_327 : decode b_Md_hourMore 327 = .ok (.baload, 1) := by decide +kernel
theorem d_Md_hourMore_328 : decode b_Md_hourMore 328 = .ok (.bastore, 1) := by decide +kernel
theorem d_Md_hourMore_329 : decode b_Md_hourMore 329 = .ok (.aload_n 0, 1) := by decide +kernel
theorem d_Md_hourMore_330 : decode b_Md_hourMore 330 = .ok (.getfield 54, 3) := by decide +kernel
theorem d_Md_hourMore_333 : decode b_Md_hourMore 333 = .ok (.iload_n 3, 1) := by decide +kernel
theorem d_Md_hourMore_334 : decode b_Md_hourMore 334 = .ok (.aload_n 0, 1) := by decide +kernel
theorem d_Md_hourMore_335 : decode b_Md_hourMore 335 = .ok (.getfield 63, 3) := by decide +kernel
theorem d_Md_hourMore_338 : decode b_Md_hourMore 338 = .ok (.iload_n 3, 1) := by decide +kernel
theorem d_Md_hourMore_339 : decode b_Md_hourMore 339 = .ok (.laload, 1) := by decide +kernel
theorem d_Md_hourMore_340 : decode b_Md_hourMore 340 = .ok (.lastore, 1) := by decide +kernel
theorem d_Md_hourMore_341 : decode b_Md_hourMore 341 = .ok (.aload_n 0, 1) := by decide +kernel
theorem d_Md_hourMore_342 : decode b_Md_hourMore 342 = .ok (.getfield 57, 3) := by decide +kernel
theorem d_Md_hourMore_345 : decode b_Md_hourMore 345 = .ok (.iload_n 3, 1) := by decide +kernel
theorem d_Md_hourMore_346 : decode b_Md_hourMore 346 = .ok (.aload_n 0, 1) := by decide +kernel
theorem d_Md_hourMore_347 : decode b_Md_hourMore 347 = .ok (.getfield 60, 3) := by decide +kernel
theorem d_Md_hourMore_350 : decode b_Md_hourMore 350 = .ok (.iload_n 3, 1) := by decide +kernel
theorem d_Md_hourMore_351 : decode b_Md_hourMore 351 = .ok (.baload, 1) := by decide +kernel
theorem d_Md_hourMore_352 : decode b_Md_hourMore 352 = .ok (.ifCond .eq 17, 3) := by decide +kernel
theorem d_Md_hourMore_355 : decode b_Md_hourMore 355 = .ok (.aload_n 0, 1) := by decide +kernel
theorem d_Md_hourMore_356 : decode b_Md_hourMore 356 = .ok (.getfield 75, 3) := by decide +kernel
theorem d_Md_hourMore_359 : decode b_Md_hourMore 359 = .ok (.aload_n 0, 1) := by decide +kernel
theorem d_Md_hourMore_360 : decode b_Md_hourMore 360 = .ok (.getfield 66, 3) := by decide +kernel
theorem d_Md_hourMore_363 : decode b_Md_hourMore 363 = .ok (.iload_n 3, 1) := by decide +kernel
theorem d_Md_hourMore_364 : decode b_Md_hourMore 364 = .ok (.iaload, 1) := by decide +kernel
theorem d_Md_hourMore_365 : decode b_Md_hourMore 365 = .ok (.iaload, 1) := by decide +kernel
theorem d_Md_hourMore_366 : decode b_Md_hourMore 366 = .ok (.goto 4, 3) := by decide +kernel
theorem d_Md_hourMore_369 : decode b_Md_hourMore 369 = .ok (.iconst 0, 1) := by decide +kernel
theorem d_Md_hourMore_370 : decode b_Md_hourMore 370 = .ok (.iastore, 1) := by decide +kernel
theorem d_Md_hourMore_371 : decode b_Md_hourMore 371 = .ok (.iinc 3 1, 3) := by decide +kernel
theorem d_Md_hourMore_374 : decode b_Md_hourMore 374 = .ok (.goto (-64), 3) := by decide +kernel
theorem d_Md_hourMore_377 : decode b_Md_hourMore 377 = .ok (.return_, 1) := by decide +kernel
theorem d_Md_look_0 : decode b_Md_look 0 = .ok (.iconst 0, 1) := by decide +kernel
theorem d_Md_look_1 : decode b_Md_look 1 = .ok (.istore_n 2, 1) := by decide +kernel
theorem d_Md_look_2 : decode b_Md_look 2 = .ok (.iload_n 2, 1) := by decide +kernel
theorem d_Md_look_3 : decode b_Md_look 3 = .ok (.aload_n 0, 1) := by decide +kernel
theorem d_Md_look_4 : decode b_Md_look 4 = .ok (.getfield 111, 3) := by decide +kernel
theorem d_Md_look_7 : decode b_Md_look 7 = .ok (.if_icmp .ge 63, 3) := by decide +kernel
theorem d_Md_look_10 : decode b_Md_look 10 = .ok (.aload_n 0, 1) := by decide +kernel
theorem d_Md_look_11 : decode b_Md_look 11 = .ok (.getfield 78, 3) := by decide +kernel
theorem d_Md_look_14 : decode b_Md_look 14 = .ok (.iload_n 2, 1) := by decide +kernel
theorem d_Md_look_15 : decode b_Md_look 15 = .ok (.aload_n 0, 1) := by decide +kernel
theorem d_Md_look_16 : decode b_Md_look 16 = .ok (.getfield 40, 3) := by decide +kernel
theorem d_Md_look_19 : decode b_Md_look 19 = .ok (.bipush 36, 2) := by decide +kernel
theorem d_Md_look_21 : decode b_Md_look 21 = .ok (.iload_n 2, 1) := by decide +kernel
theorem d_Md_look_22 : decode b_Md_look 22 = .ok (.imul, 1) := by decide +kernel
theorem d_Md_look_23 : decode b_Md_look 23 = .ok (.iload_n 1, 1) := by decide +kernel
theorem d_Md_look_24 : decode b_Md_look 24 = .ok (.iadd, 1) := by decide +kernel
theorem d_Md_look_25 : decode b_Md_look 25 = .ok (.baload, 1) := by decide +kernel
theorem d_Md_look_26 : decode b_Md_look 26 = .ok (.ifCond .eq 7, 3) := by decide +kernel
theorem d_Md_look_29 : decode b_Md_look 29 = .ok (.iconst (-1), 1) := by decide +kernel
theorem d_Md_look_30 : decode b_Md_look 30 = .ok (.goto 15, 3) := by decide +kernel
theorem d_Md_look_33 : decode b_Md_look 33 = .ok (.aload_n 0, 1) := by decide +kernel
theorem d_Md_look_34 : decode b_Md_look 34 = .ok (.iload_n 2, 1) := by decide +kernel
theorem d_Md_look_35 : decode b_Md_look 35 = .ok (.aload_n 0, 1) := by decide +kernel
theorem d_Md_look_36 : decode b_Md_look 36 = .ok (.getfield 31, 3) := by decide +kernel
theorem d_Md_look_39 : decode b_Md_look 39 = .ok (.iload_n 1, 1) := by decide +kernel
theorem d_Md_look_40 : decode b_Md_look 40 = .ok (.iaload, 1) := by decide +kernel
theorem d_Md_look_41 : decode b_Md_look 41 = .ok (.iconst 0, 1) := by decide +kernel
theorem d_Md_look_42 : decode b_Md_look 42 = .ok (.invokevirtual 129, 3) := by decide +kernel
theorem d_Md_look_45 : decode b_Md_look 45 = .ok (.iastore, 1) := by decide +kernel
theorem d_Md_look_46 : decode b_Md_look 46 = .ok (.aload_n 0, 1) := by decide +kernel
theorem d_Md_look_47 : decode b_Md_look 47 = .ok (.getfield 81, 3) := by decide +kernel
theorem d_Md_look_50 : decode b_Md_look 50 = .ok (.iload_n 2, 1) := by decide +kernel
theorem d_Md_look_51 : decode b_Md_look 51 = .ok (.aload_n 0, 1) := by decide +kernel
theorem d_Md_look_52 : decode b_Md_look 52 = .ok (.iload_n 2, 1) := by decide +kernel
theorem d_Md_look_53 : decode b_Md_look 53 = .ok (.aload_n 0, 1) := by decide +kernel
theorem d_Md_look_54 : decode b_Md_look 54 = .ok (.getfield 31, 3) := by decide +kernel
theorem d_Md_look_57 : decode b_Md_look 57 = .ok (.iload_n 1, 1) := by decide +kernel
theorem d_Md_look_58 : decode b_Md_look 58 = .ok (.iaload, 1) := by decide +kernel
theorem d_Md_look_59 : decode b_Md_look 59 = .ok (.iconst 1, 1) := by decide +kernel
theorem d_Md_look_60 : decode b_Md_look 60 = .ok (.invokevirtual 129, 3) := by decide +kernel
theorem d_Md_look_63 : decode b_Md_look 63 = .ok (.iastore, 1) := by decide +kernel
theorem d_Md_look_64 : decode b_Md_look 64 = .ok (.iinc 2 1, 3) := by decide +kernel
theorem d_Md_look_67 : decode b_Md_look 67 = .ok (.goto (-65), 3) := by decide +kernel
theorem d_Md_look_70 : decode b_Md_look 70 = .ok (.return_, 1) := by decide +kernel
theorem d_Md_may_0 : decode b_Md_may 0 = .ok (.iconst 1, 1) := by decide +kernel
theorem d_Md_may_1 : decode b_Md_may 1 = .ok (.istore 4, 2) := by decide +kernel
theorem d_Md_may_3 : decode b_Md_may 3 = .ok (.lconst 0, 1) := by decide +kernel
theorem d_Md_may_4 : decode b_Md_may 4 = .ok (.lstore 5, 2) := by decide +kernel
theorem d_Md_may_6 : decode b_Md_may 6 = .ok (.iconst 0, 1) := by decide +kernel
theorem d_Md_may_7 : decode b_Md_may 7 = .ok (.istore 7, 2) := by decide +kernel
theorem d_Md_may_9 : decode b_Md_may 9 = .ok (.iload 7, 2) := by decide +kernel
theorem d_Md_may_11 : decode b_Md_may 11 = .ok (.aload_n 0, 1) := by decide +kernel
theorem d_Md_may_12 : decode b_Md_may 12 = .ok (.getfield 111, 3) := by decide +kernel
theorem d_Md_may_15 : decode b_Md_may 15 = .ok (.if_icmp .ge 170, 3) := by decide +kernel
theorem d_Md_may_18 : decode b_Md_may 18 = .ok (.aload_n 0, 1) := by decide +kernel
theorem d_Md_may_19 : decode b_Md_may 19 = .ok (.getfield 78, 3) := by decide +kernel
theorem d_Md_may_22 : decode b_Md_may 22 = .ok (.iload 7, 2) := by decide +kernel
theorem d_Md_may_24 : decode b_Md_may 24 = .ok (.iaload, 1) := by decide +kernel
theorem d_Md_may_25 : decode b_Md_may 25 = .ok (.istore 8, 2) := by decide +kernel
theorem d_Md_may_27 : decode b_Md_may 27 = .ok (.iload 8, 2) := by decide +kernel
theorem d_Md_may_29 : decode b_Md_may 29 = .ok (.iconst (-1), 1) := by decide +kernel
theorem d_Md_may_30 : decode b_Md_may 30 = .ok (.if_icmp .eq 7, 3) := by decide +kernel
theorem d_Md_may_33 : decode b_Md_may 33 = .ok (.iconst 1, 1) := by decide +kernel
theorem d_Md_may_34 : decode b_Md_may 34 = .ok (.goto 4, 3) := by decide +kernel
theorem d_Md_may_37 : decode b_Md_may 37 = .ok (.iconst 0, 1) := by decide +kernel
theorem d_Md_may_38 : decode b_Md_may 38 = .ok (.istore 9, 2) := by decide +kernel
theorem d_Md_may_40 : decode b_Md_may 40 = .ok (.iload_n 1, 1) := by decide +kernel
theorem d_Md_may_41 : decode b_Md_may 41 = .ok (.iload 7, 2) := by decide +kernel
theorem d_Md_may_43 : decode b_Md_may 43 = .ok (.invokestatic 133, 3) := by decide +kernel
theorem d_Md_may_46 : decode b_Md_may 46 = .ok (.istore 10, 2) := by decide +kernel
theorem d_Md_may_48 : decode b_Md_may 48 = .ok (.iload 10, 2) := by decide +kernel
theorem d_Md_may_50 : decode b_Md_may 50 = .ok (.iconst 4, 1) := by decide +kernel
theorem d_Md_may_51 : decode b_Md_may 51 = .ok (.irem, 1) := by decide +kernel
theorem d_Md_may_52 : decode b_Md_may 52 = .ok (.iconst 1, 1) := by decide +kernel
theorem d_Md_may_53 : decode b_Md_may 53 = .ok (.iadd, 1) := by decide +kernel
theorem d_Md_may_54 : decode b_Md_may 54 = .ok (.istore 11, 2) := by decide +kernel
theorem d_Md_may_56 : decode b_Md_may 56 = .ok (.iload_n 3, 1) := by decide +kernel
theorem d_Md_may_57 : decode b_Md_may 57 = .ok (.iload 7, 2) := by decide +kernel
theorem d_Md_may_59 : decode b_Md_may 59 = .ok (.invokestatic 137, 3) := by decide +kernel
theorem d_Md_may_62 : decode b_Md_may 62 = .ok (.istore 12, 2) := by decide +kernel
theorem d_Md_may_64 : decode b_Md_may 64 = .ok (.iload 10, 2) := by decide +kernel
theorem d_Md_may_66 : decode b_Md_may 66 = .ok (.iconst 4, 1) := by decide +kernel
theorem d_Md_may_67 : decode b_Md_may 67 = .ok (.if_icmp .lt 19, 3) := by decide +kernel
theorem d_Md_may_70 : decode b_Md_may 70 = .ok (.iload 11, 2) := by decide +kernel
theorem d_Md_may_72 : decode b_Md_may 72 = .ok (.aload_n 0, 1) := by decide +kernel
theorem d_Md_may_73 : decode b_Md_may 73 = .ok (.getfield 7, 3) := by decide +kernel
theorem d_Md_may_76 : decode b_Md_may 76 = .ok (.iload 7, 2) := by decide +kernel
theorem d_Md_may_78 : decode b_Md_may 78 = .ok (.iaload, 1) := by decide +kernel
theorem d_Md_may_79 : decode b_Md_may 79 = .ok (.if_icmp .ge 7, 3) := by decide +kernel
theorem d_Md_may_82 : decode b_Md_may 82 = .ok (.iconst 1, 1) := by decide +kernel
theorem d_Md_may_83 : decode b_Md_may 83 = .ok (.goto 4, 3) := by decide +kernel
theorem d_Md_may_86 : decode b_Md_may 86 = .ok (.iconst 0, 1) := by decide +kernel
theorem d_Md_may_87 : decode b_Md_may 87 = .ok (.istore 13, 2) := by decide +kernel
theorem d_Md_may_89 : decode b_Md_may 89 = .ok (.iload 10, 2) := by decide +kernel
theorem d_Md_may_91 : decode b_Md_may 91 = .ok (.iconst 4, 1) := by decide +kernel
theorem d_Md_may_92 : decode b_Md_may 92 = .ok (.if_icmp .ge 19, 3) := by decide +kernel
theorem d_Md_may_95 : decode b_Md_may 95 = .ok (.iload 11, 2) := by decide +kernel
theorem d_Md_may_97 : decode b_Md_may 97 = .ok (.aload_n 0, 1) := by decide +kernel
theorem d_Md_may_98 : decode b_Md_may 98 = .ok (.getfield 13, 3) := by decide +kernel
theorem d_Md_may_101 : decode b_Md_may 101 = .ok (.iload 7, 2) := by decide +kernel
theorem d_Md_may_103 : decode b_Md_may 103 = .ok (.iaload, 1) := by decide +kernel
theorem d_Md_may_104 : decode b_Md_may 104 = .ok (.if_icmp .ge 7, 3) := by decide +kernel
theorem d_Md_may_107 : decode b_Md_may 107 = .ok (.iconst 1, 1) := by decide +kernel
theorem d_Md_may_108 : decode b_Md_may 108 = .ok (.goto 4, 3) := by decide +kernel
theorem d_Md_may_111 : decode b_Md_may 111 = .ok (.iconst 0, 1) := by decide +kernel
theorem d_Md_may_112 : decode b_Md_may 112 = .ok (.istore 14, 2) := by decide +kernel
theorem d_Md_may_114 : decode b_Md_may 114 = .ok (.iload 4, 2) := by decide +kernel
theorem d_Md_may_116 : decode b_Md_may 116 = .ok (.ifCond .eq 38, 3) := by decide +kernel
theorem d_Md_may_119 : decode b_Md_may 119 = .ok (.iload 9, 2) := by decide +kernel
theorem d_Md_may_121 : decode b_Md_may 121 = .ok (.ifCond .eq 24, 3) := by decide +kernel
theorem d_Md_may_124 : decode b_Md_may 124 = .ok (.iload 12, 2) := by decide +kernel
theorem d_Md_may_126 : decode b_Md_may 126 = .ok (.ifCond .eq 11, 3) := by decide +kernel
theorem d_Md_may_129 : decode b_Md_may 129 = .ok (.iload 14, 2) := by decide +kernel
theorem d_Md_may_131 : decode b_Md_may 131 = .ok (.ifCond .ne 23, 3) := by decide +kernel
theorem d_Md_may_134 : decode b_Md_may 134 = .ok (.goto 16, 3) := by decide +kernel
theorem d_Md_may_137 : decode b_Md_may 137 = .ok (.iload 13, 2) := by decide +kernel
theorem d_Md_may_139 : decode b_Md_may 139 = .ok (.ifCond .ne 15, 3) := by decide +kernel
theorem d_Md_may_142 : decode b_Md_may 142 = .ok (.goto 8, 3) := by decide +kernel
theorem d_Md_may_145 : decode b_Md_may 145 = .ok (.iload 12, 2) := by decide +kernel
theorem d_Md_may_147 : decode b_Md_may 147 = .ok (.ifCond .ne 7, 3) := by decide +kernel
theorem d_Md_may_150 : decode b_Md_may 150 = .ok (.iconst 1, 1) := by decide +kernel
theorem d_Md_may_151 : decode b_Md_may 151 = .ok (.goto 4, 3) := by decide +kernel
theorem d_Md_may_154 : decode b_Md_may 154 = .ok (.iconst 0, 1) := by decide +kernel
theorem d_Md_may_155 : decode b_Md_may 155 = .ok (.istore 4, 2) := by decide +kernel
theorem d_Md_may_157 : decode b_Md_may 157 = .ok (.lload 5, 2) := by decide +kernel
theorem d_Md_may_159 : decode b_Md_may 159 = .ok (.iload 12, 2) := by decide +kernel
theorem d_Md_may_161 : decode b_Md_may 161 = .ok (.ifCond .eq 14, 3) := by decide +kernel
theorem d_Md_may_164 : decode b_Md_may 164 = .ok (.iload 9, 2) := by decide +kernel
theorem d_Md_may_166 : decode b_Md_may 166 = .ok (.ifCond .eq 9, 3) := by decide +kernel
theorem d_Md_may_169 : decode b_Md_may 169 = .ok (.iload 8, 2) := by decide +kernel
theorem d_Md_may_171 : decode b_Md_may 171 = .ok (.i2l, 1) := by decide +kernel
theorem d_Md_may_172 : decode b_Md_may 172 = .ok (.goto 4, 3) := by decide +kernel
theorem d_Md_may_175 : decode b_Md_may 175 = .ok (.lconst 0, 1) := by decide +kernel
theorem d_Md_may_176 : decode b_Md_may 176 = .ok (.ladd, 1) := by decide +kernel
theorem d_Md_may_177 : decode b_Md_may 177 = .ok (.lstore 5, 2) := by decide +kernel
theorem d_Md_may_179 : decode b_Md_may 179 = .ok (.iinc 7 1, 3) := by decide +kernel
theorem d_Md_may_182 : decode b_Md_may 182 = .ok (.goto (-173), 3) := by decide +kernel
theorem d_Md_may_185 : decode b_Md_may 185 = .ok (.iload 4, 2) := by decide +kernel
theorem d_Md_may_187 : decode b_Md_may 187 = .ok (.ifCond .eq 20, 3) := by decide +kernel
theorem d_Md_may_190 : decode b_Md_may 190 = .ok (.lload 5, 2) := by decide +kernel
theorem d_Md_may_192 : decode b_Md_may 192 = .ok (.aload_n 0, 1) := by decide +kernel
theorem d_Md_may_193 : decode b_Md_may 193 = .ok (.getfield 37, 3) := by decide +kernel
theorem d_Md_may_196 : decode b_Md_may 196 = .ok (.iload_n 2, 1) := by decide +kernel
theorem d_Md_may_197 : decode b_Md_may 197 = .ok (.iaload, 1) := by decide +kernel
theorem d_Md_may_198 : decode b_Md_may 198 = .ok (.i2l, 1) := by decide +kernel
theorem d_Md_may_199 : decode b_Md_may 199 = .ok (.lcmp, 1) := by decide +kernel
theorem d_Md_may_200 : decode b_Md_may 200 = .ok (.ifCond .lt 7, 3) := by decide +kernel
theorem d_Md_may_203 : decode b_Md_may 203 = .ok (.iconst 1, 1) := by decide +kernel
theorem d_Md_may_204 : decode b_Md_may 204 = .ok (.goto 4, 3) := by decide +kernel
theorem d_Md_may_207 : decode b_Md_may 207 = .ok (.iconst 0, 1) := by decide +kernel
theorem d_Md_may_208 : decode b_Md_may 208 = .ok (.ireturn, 1) := by decide +kernel
theorem d_Md_standOf_0 : decode b_Md_standOf 0 = .ok (.iload_n 0, 1) := by decide +kernel
theorem d_Md_standOf_1 : decode b_Md_standOf 1 = .ok (.iconst 3, 1) := by decide +kernel
theorem d_Md_standOf_2 : decode b_Md_standOf 2 = .ok (.iload_n 1, 1) := by decide +kernel
theorem d_Md_standOf_3 : decode b_Md_standOf 3 = .ok (.imul, 1) := by decide +kernel
theorem d_Md_standOf_4 : decode b_Md_standOf 4 = .ok (.ishr, 1) := by decide +kernel
theorem d_Md_standOf_5 : decode b_Md_standOf 5 = .ok (.bipush 7, 2) := by decide +kernel
theorem d_Md_standOf_7 : decode b_Md_standOf 7 = .ok (.iand, 1) := by decide +kernel
theorem d_Md_standOf_8 : decode b_Md_standOf 8 = .ok (.ireturn, 1) := by decide +kernel
theorem d_Md_runs_0 : decode b_Md_runs 0 = .ok (.iload_n 0, 1) := by decide +kernel
theorem d_Md_runs_1 : decode b_Md_runs 1 = .ok (.iload_n 1, 1) := by decide +kernel
theorem d_Md_runs_2 : decode b_Md_runs 2 = .ok (.ishr, 1) := by decide +kernel
theorem d_Md_runs_3 : decode b_Md_runs 3 = .ok (.iconst 1, 1) := by decide +kernel
theorem d_Md_runs_4 : decode b_Md_runs 4 = .ok (.iand, 1) := by decide +kernel
theorem d_Md_runs_5 : decode b_Md_runs 5 = .ok (.iconst 1, 1) := by decide +kernel
theorem d_Md_runs_6 : decode b_Md_runs 6 = .ok (.if_icmp .ne 7, 3) := by decide +kernel
theorem d_Md_runs_9 : decode b_Md_runs 9 = .ok (.iconst 1, 1) := by decide +kernel
theorem d_Md_runs_10 : decode b_Md_runs 10 = .ok (.goto 4, 3) := by decide +kernel
theorem d_Md_runs_13 : decode b_Md_runs 13 = .ok (.iconst 0, 1) := by decide +kernel
theorem d_Md_runs_14 : decode b_Md_runs 14 = .ok (.ireturn, 1) := by decide +kernel
theorem d_Md_behind_0 : decode b_Md_behind 0 = .ok (.iconst 0, 1) := by decide +kernel
theorem d_Md_behind_1 : decode b_Md_behind 1 = .ok (.istore_n 3, 1) := by decide +kernel
theorem d_Md_behind_2 : decode b_Md_behind 2 = .ok (.iconst 0, 1) := by decide +kernel
theorem d_Md_behind_3 : decode b_Md_behind 3 = .ok (.istore 4, 2) := by decide +kernel
theorem d_Md_behind_5 : decode b_Md_behind 5 = .ok (.iload 4, 2) := by decide +kernel
theorem d_Md_behind_7 : decode b_Md_behind 7 = .ok (.iconst 3, 1) := by decide +kernel
theorem d_Md_behind_8 : decode b_Md_behind 8 = .ok (.if_icmp .ge 100, 3) := by decide +kernel
theorem d_Md_behind_11 : decode b_Md_behind 11 = .ok (.iload_n 1, 1) := by decide +kernel
theorem d_Md_behind_12 : decode b_Md_behind 12 = .ok (.iload 4, 2) := by decide +kernel
theorem d_Md_behind_14 : decode b_Md_behind 14 = .ok (.invokestatic 133, 3) := by decide +kernel
theorem d_Md_behind_17 : decode b_Md_behind 17 = .ok (.istore 5, 2) := by decide +kernel
theorem d_Md_behind_19 : decode b_Md_behind 19 = .ok (.iload 5, 2) := by decide +kernel
theorem d_Md_behind_21 : decode b_Md_behind 21 = .ok (.iconst 4, 1) := by decide +kernel
theorem d_Md_behind_22 : decode b_Md_behind 22 = .ok (.if_icmp .lt 7, 3) := by decide +kernel
theorem d_Md_behind_25 : decode b_Md_behind 25 = .ok (.iconst 1, 1) := by decide +kernel
theorem d_Md_behind_26 : decode b_Md_behind 26 = .ok (.goto 4, 3) := by decide +kernel
theorem d_Md_behind_29 : decode b_Md_behind 29 = .ok (.iconst 0, 1) := by decide +kernel
theorem d_Md_behind_30 : decode b_Md_behind 30 = .ok (.iload_n 2, 1) := by decide +kernel
theorem d_Md_behind_31 : decode b_Md_behind 31 = .ok (.iload 4, 2) := by decide +kernel
theorem d_Md_behind_33 : decode b_Md_behind 33 = .ok (.invokestatic 137, 3) := by decide +kernel
theorem d_Md_behind_36 : decode b_Md_behind 36 = .ok (.if_icmp .ne 7, 3) := by decide +kernel
theorem d_Md_behind_39 : decode b_Md_behind 39 = .ok (.iconst 1, 1) := by decide +kernel
theorem d_Md_behind_40 : decode b_Md_behind 40 = .ok (.goto 4, 3) := by decide +kernel
theorem d_Md_behind_43 : decode b_Md_behind 43 = .ok (.iconst 0, 1) := by decide +kernel
theorem d_Md_behind_44 : decode b_Md_behind 44 = .ok (.istore 6, 2) := by decide +kernel
theorem d_Md_behind_46 : decode b_Md_behind 46 = .ok (.iload 6, 2) := by decide +kernel
theorem d_Md_behind_48 : decode b_Md_behind 48 = .ok (.ifCond .eq 12, 3) := by decide +kernel
theorem d_Md_behind_51 : decode b_Md_behind 51 = .ok (.iload 5, 2) := by decide +kernel
theorem d_Md_behind_53 : decode b_Md_behind 53 = .ok (.iconst 4, 1) := by decide +kernel
theorem d_Md_behind_54 : decode b_Md_behind 54 = .ok (.irem, 1) := by decide +kernel
theorem d_Md_behind_55 : decode b_Md_behind 55 = .ok (.iconst 1, 1) := by decide +kernel
theorem d_Md_behind_56 : decode b_Md_behind 56 = .ok (.iadd, 1) := by decide +kernel
theorem d_Md_behind_57 : decode b_Md_behind 57 = .ok (.goto 4, 3) := by decide +kernel
theorem d_Md_behind_60 : decode b_Md_behind 60 = .ok (.iconst 0, 1) := by decide +kernel
theorem d_Md_behind_61 : decode b_Md_behind 61 = .ok (.istore 7, 2) := by decide +kernel
theorem d_Md_behind_63 : decode b_Md_behind 63 = .ok (.iload 7, 2) := by decide +kernel
theorem d_Md_behind_65 : decode b_Md_behind 65 = .ok (.iconst 3, 1) := by decide +kernel
theorem d_Md_behind_66 : decode b_Md_behind 66 = .ok (.if_icmp .le 7, 3) := by decide +kernel
theorem d_Md_behind_69 : decode b_Md_behind 69 = .ok (.iconst 3, 1) := by decide +kernel
theorem d_Md_behind_70 : decode b_Md_behind 70 = .ok (.goto 5, 3) := by decide +kernel
theorem d_Md_behind_73 : decode b_Md_behind 73 = .ok (.iload 7, 2) := by decide +kernel
theorem d_Md_behind_75 : decode b_Md_behind 75 = .ok (.istore 7, 2) := by decide +kernel
theorem d_Md_behind_77 : decode b_Md_behind 77 = .ok (.iload_n 3, 1) := by decide +kernel
theorem d_Md_behind_78 : decode b_Md_behind 78 = .ok (.iload 7, 2) := by decide +kernel
theorem d_Md_behind_80 : decode b_Md_behind 80 = .ok (.iload_n 2, 1) := by decide +kernel
theorem d_Md_behind_81 : decode b_Md_behind 81 = .ok (.iload 4, 2) := by decide +kernel
theorem d_Md_behind_83 : decode b_Md_behind 83 = .ok (.invokestatic 137, 3) := by decide +kernel
theorem d_Md_behind_86 : decode b_Md_behind 86 = .ok (.ifCond .eq 7, 3) := by decide +kernel
theorem d_Md_behind_89 : decode b_Md_behind 89 = .ok (.iconst 4, 1) := by decide +kernel
theorem d_Md_behind_90 : decode b_Md_behind 90 = .ok (.goto 4, 3) := by decide +kernel
theorem d_Md_behind_93 : decode b_Md_behind 93 = .ok (.iconst 0, 1) := by decide +kernel
theorem d_Md_behind_94 : decode b_Md_behind 94 = .ok (.iadd, 1) := by decide +kernel
theorem d_Md_behind_95 : decode b_Md_behind 95 = .ok (.iconst 3, 1) := by decide +kernel
theorem d_Md_behind_96 : decode b_Md_behind 96 = .ok (.iload 4, 2) := by decide +kernel
theorem d_Md_behind_98 : decode b_Md_behind 98 = .ok (.imul, 1) := by decide +kernel
theorem d_Md_behind_99 : decode b_Md_behind 99 = .ok (.ishl, 1) := by decide +kernel
theorem d_Md_behind_100 : decode b_Md_behind 100 = .ok (.iadd, 1) := by decide +kernel
theorem d_Md_behind_101 : decode b_Md_behind 101 = .ok (.istore_n 3, 1) := by decide +kernel
theorem d_Md_behind_102 : decode b_Md_behind 102 = .ok (.iinc 4 1, 3) := by decide +kernel
theorem d_Md_behind_105 : decode b_Md_behind 105 = .ok (.goto (-100), 3) := by decide +kernel
theorem d_Md_behind_108 : decode b_Md_behind 108 = .ok (.iload_n 3, 1) := by decide +kernel
theorem d_Md_behind_109 : decode b_Md_behind 109 = .ok (.ireturn, 1) := by decide +kernel
theorem d_Md_costOf_0 : decode b_Md_costOf 0 = .ok (.lconst 0, 1) := by decide +kernel
theorem d_Md_costOf_1 : decode b_Md_costOf 1 = .ok (.lstore 4, 2) := by decide +kernel
theorem d_Md_costOf_3 : decode b_Md_costOf 3 = .ok (.iconst 0, 1) := by decide +kernel
theorem d_Md_costOf_4 : decode b_Md_costOf 4 = .ok (.istore 6, 2) := by decide +kernel
theorem d_Md_costOf_6 : decode b_Md_costOf 6 = .ok (.iload 6, 2) := by decide +kernel
theorem d_Md_costOf_8 : decode b_Md_costOf 8 = .ok (.aload_n 0, 1) := by decide +kernel
theorem d_Md_costOf_9 : decode b_Md_costOf 9 = .ok (.getfield 111, 3) := by decide +kernel
theorem d_Md_costOf_12 : decode b_Md_costOf 12 = .ok (.if_icmp .ge 79, 3) := by decide +kernel
theorem d_Md_costOf_15 : decode b_Md_costOf 15 = .ok (.iload_n 3, 1) := by decide +kernel
theorem d_Md_costOf_16 : decode b_Md_costOf 16 = .ok (.iload 6, 2) := by decide +kernel
theorem d_Md_costOf_18 : decode b_Md_costOf 18 = .ok (.invokestatic 137, 3) := by decide +kernel
theorem d_Md_costOf_21 : decode b_Md_costOf 21 = .ok (.istore 7, 2) := by decide +kernel
theorem d_Md_costOf_23 : decode b_Md_costOf 23 = .ok (.lload 4, 2) := by decide +kernel
theorem d_Md_costOf_25 : decode b_Md_costOf 25 = .ok (.iload 7, 2) := by decide +kernel
theorem d_Md_costOf_27 : decode b_Md_costOf 27 = .ok (.ifCond .eq 22, 3) := by decide +kernel
theorem d_Md_costOf_30 : decode b_Md_costOf 30 = .ok (.aload_n 0, 1) := by decide +kernel
theorem d_Md_costOf_31 : decode b_Md_costOf 31 = .ok (.getfield 81, 3) := by decide +kernel
theorem d_Md_costOf_34 : decode b_Md_costOf 34 = .ok (.iload 6, 2) := by decide +kernel
theorem d_Md_costOf_36 : decode b_Md_costOf 36 = .ok (.iaload, 1) := by decide +kernel
theorem d_Md_costOf_37 : decode b_Md_costOf 37 = .ok (.i2l, 1) := by decide +kernel
theorem d_Md_costOf_38 : decode b_Md_costOf 38 = .ok (.aload_n 0, 1) := by decide +kernel
theorem d_Md_costOf_39 : decode b_Md_costOf 39 = .ok (.getfield 34, 3) := by decide +kernel
theorem d_Md_costOf_42 : decode b_Md_costOf 42 = .ok (.iload_n 2, 1) := by decide +kernel
theorem d_Md_costOf_43 : decode b_Md_costOf 43 = .ok (.iaload, 1) := by decide +kernel
theorem d_Md_costOf_44 : decode b_Md_costOf 44 = .ok (.i2l, 1) := by decide +kernel
theorem d_Md_costOf_45 : decode b_Md_costOf 45 = .ok (.lmul, 1) := by decide +kernel
theorem d_Md_costOf_46 : decode b_Md_costOf 46 = .ok (.goto 4, 3) := by decide +kernel
theorem d_Md_costOf_49 : decode b_Md_costOf 49 = .ok (.lconst 0, 1) := by decide +kernel
theorem d_Md_costOf_50 : decode b_Md_costOf 50 = .ok (.ladd, 1) := by decide +kernel
theorem d_Md_costOf_51 : decode b_Md_costOf 51 = .ok (.lstore 4, 2) := by decide +kernel
theorem d_Md_costOf_53 : decode b_Md_costOf 53 = .ok (.lload 4, 2) := by decide +kernel
theorem d_Md_costOf_55 : decode b_Md_costOf 55 = .ok (.iload 7, 2) := by decide +kernel
theorem d_Md_costOf_57 : decode b_Md_costOf 57 = .ok (.ifCond .eq 24, 3) := by decide +kernel
theorem d_Md_costOf_60 : decode b_Md_costOf 60 = .ok (.iload_n 1, 1) := by decide +kernel
theorem d_Md_costOf_61 : decode b_Md_costOf 61 = .ok (.iload 6, 2) := by decide +kernel
theorem d_Md_costOf_63 : decode b_Md_costOf 63 = .ok (.invokestatic 133, 3) := by decide +kernel
theorem d_Md_costOf_66 : decode b_Md_costOf 66 = .ok (.iconst 4, 1) := by decide +kernel
theorem d_Md_costOf_67 : decode b_Md_costOf 67 = .ok (.if_icmp .ge 14, 3) := by decide +kernel
theorem d_Md_costOf_70 : decode b_Md_costOf 70 = .ok (.aload_n 0, 1) := by decide +kernel
theorem d_Md_costOf_71 : decode b_Md_costOf 71 = .ok (.getfield 16, 3) := by decide +kernel
theorem d_Md_costOf_74 : decode b_Md_costOf 74 = .ok (.iload 6, 2) := by decide +kernel
theorem d_Md_costOf_76 : decode b_Md_costOf 76 = .ok (.iaload, 1) := by decide +kernel
theorem d_Md_costOf_77 : decode b_Md_costOf 77 = .ok (.i2l, 1) := by decide +kernel
theorem d_Md_costOf_78 : decode b_Md_costOf 78 = .ok (.goto 4, 3) := by decide +kernel
theorem d_Md_costOf_81 : decode b_Md_costOf 81 = .ok (.lconst 0, 1) := by decide +kernel
theorem d_Md_costOf_82 : decode b_Md_costOf 82 = .ok (.ladd, 1) := by decide +kernel
theorem d_Md_costOf_83 : decode b_Md_costOf 83 = .ok (.lstore 4, 2) := by decide +kernel
theorem d_Md_costOf_85 : decode b_Md_costOf 85 = .ok (.iinc 6 1, 3) := by decide +kernel
theorem d_Md_costOf_88 : decode b_Md_costOf 88 = .ok (.goto (-82), 3) := by decide +kernel
theorem d_Md_costOf_91 : decode b_Md_costOf 91 = .ok (.lload 4, 2) := by decide +kernel
theorem d_Md_costOf_93 : decode b_Md_costOf 93 = .ok (.lreturn, 1) := by decide +kernel
theorem d_Md_planned_0 : decode b_Md_planned 0 = .ok (.aload_n 0, 1) := by decide +kernel
theorem d_Md_planned_1 : decode b_Md_planned 1 = .ok (.iload_n 1, 1) := by decide +kernel
theorem d_Md_planned_2 : decode b_Md_planned 2 = .ok (.iconst 0, 1) := by decide +kernel
theorem d_Md_planned_3 : decode b_Md_planned 3 = .ok (.bipush 35, 2) := by decide +kernel
theorem d_Md_planned_5 : decode b_Md_planned 5 = .ok (.invokestatic 106, 3) := by decide +kernel
theorem d_Md_planned_8 : decode b_Md_planned 8 = .ok (.ifCond .eq 7, 3) := by decide +kernel
theorem d_Md_planned_11 : decode b_Md_planned 11 = .ok (.iconst 0, 1) := by decide +kernel
theorem d_Md_planned_12 : decode b_Md_planned 12 = .ok (.goto 4, 3) := by decide +kernel
theorem d_Md_planned_15 : decode b_Md_planned 15 = .ok (.iconst 1, 1) := by decide +kernel
theorem d_Md_planned_16 : decode b_Md_planned 16 = .ok (.putfield 103, 3) := by decide +kernel
theorem d_Md_planned_19 : decode b_Md_planned 19 = .ok (.aload_n 0, 1) := by decide +kernel
theorem d_Md_planned_20 : decode b_Md_planned 20 = .ok (.getfield 103, 3) := by decide +kernel
theorem d_Md_planned_23 : decode b_Md_planned 23 = .ok (.ifCond .le 5, 3) := by decide +kernel
theorem d_Md_planned_26 : decode b_Md_planned 26 = .ok (.iconst 0, 1) := by decide +kernel
theorem d_Md_planned_27 : decode b_Md_planned 27 = .ok (.ireturn, 1) := by decide +kernel
theorem d_Md_planned_28 : decode b_Md_planned 28 = .ok (.iload_n 1, 1) := by decide +kernel
theorem d_Md_planned_29 : decode b_Md_planned 29 = .ok (.aload_n 0, 1) := by decide +kernel
theorem d_Md_planned_30 : decode b_Md_planned 30 = .ok (.getfield 114, 3) := by decide +kernel
theorem d_Md_planned_33 : decode b_Md_planned 33 = .ok (.if_icmp .lt 10, 3) := by decide +kernel
theorem d_Md_planned_36 : decode b_Md_planned 36 = .ok (.aload_n 0, 1) := by decide +kernel
theorem d_Md_planned_37 : decode b_Md_planned 37 = .ok (.invokevirtual 169, 3) := by decide +kernel
theorem d_Md_planned_40 : decode b_Md_planned 40 = .ok (.ifCond .ne 7, 3) := by decide +kernel
theorem d_Md_planned_43 : decode b_Md_planned 43 = .ok (.iconst (-1), 1) := by decide +kernel
theorem d_Md_planned_44 : decode b_Md_planned 44 = .ok (.goto 9, 3) := by decide +kernel
theorem d_Md_planned_47 : decode b_Md_planned 47 = .ok (.aload_n 0, 1) := by decide +kernel
theorem d_Md_planned_48 : decode b_Md_planned 48 = .ok (.getfield 84, 3) := by decide +kernel
theorem d_Md_planned_51 : decode b_Md_planned 51 = .ok (.iload_n 1, 1) := by decide +kernel
theorem d_Md_planned_52 : decode b_Md_planned 52 = .ok (.iaload, 1) := by decide +kernel
theorem d_Md_planned_53 : decode b_Md_planned 53 = .ok (.ireturn, 1) := by decide +kernel
theorem d_Md_starts_0 : decode b_Md_starts 0 = .ok (.aload_n 0, 1) := by decide +kernel
theorem d_Md_starts_1 : decode b_Md_starts 1 = .ok (.aload_n 0, 1) := by decide +kernel
theorem d_Md_starts_2 : decode b_Md_starts 2 = .ok (.iload_n 1, 1) := by decide +kernel
theorem d_Md_starts_3 : decode b_Md_starts 3 = .ok (.invokevirtual 121, 3) := by decide +kernel
theorem d_Md_starts_6 : decode b_Md_starts 6 = .ok (.ifCond .eq 7, 3) := by decide +kernel
theorem d_Md_starts_9 : decode b_Md_starts 9 = .ok (.iconst 0, 1) := by decide +kernel
theorem d_Md_starts_10 : decode b_Md_starts 10 = .ok (.goto 4, 3) := by decide +kernel
theorem d_Md_starts_13 : decode b_Md_starts 13 = .ok (.iconst 1, 1) := by decide +kernel
theorem d_Md_starts_14 : decode b_Md_starts 14 = .ok (.putfield 103, 3) := by decide +kernel
theorem d_Md_starts_17 : decode b_Md_starts 17 = .ok (.aload_n 0, 1) := by decide +kernel
theorem d_Md_starts_18 : decode b_Md_starts 18 = .ok (.getfield 103, 3) := by decide +kernel
theorem d_Md_starts_21 : decode b_Md_starts 21 = .ok (.ifCond .le 5, 3) := by decide +kernel
theorem d_Md_starts_24 : decode b_Md_starts 24 = .ok (.iconst 0, 1) := by decide +kernel
theorem d_Md_starts_25 : decode b_Md_starts 25 = .ok (.ireturn, 1) := by decide +kernel
theorem d_Md_starts_26 : decode b_Md_starts 26 = .ok (.aload_n 0, 1) := by decide +kernel
theorem d_Md_starts_27 : decode b_Md_starts 27 = .ok (.invokevirtual 169, 3) := by decide +kernel
theorem d_Md_starts_30 : decode b_Md_starts 30 = .ok (.ifCond .ne 5, 3) := by decide +kernel
theorem d_Md_starts_33 : decode b_Md_starts 33 = .ok (.iconst (-1), 1) := by decide +kernel
theorem d_Md_starts_34 : decode b_Md_starts 34 = .ok (.ireturn, 1) := by decide +kernel
theorem d_Md_starts_35 : decode b_Md_starts 35 = .ok (.iconst 0, 1) := by decide +kernel
theorem d_Md_starts_36 : decode b_Md_starts 36 = .ok (.istore_n 2, 1) := by decide +kernel
theorem d_Md_starts_37 : decode b_Md_starts 37 = .ok (.aload_n 0, 1) := by decide +kernel
theorem d_Md_starts_38 : decode b_Md_starts 38 = .ok (.getfield 99, 3) := by decide +kernel
theorem d_Md_starts_41 : decode b_Md_starts 41 = .ok (.iload_n 1, 1) := by decide +kernel
theorem d_Md_starts_42 : decode b_Md_starts 42 = .ok (.invokestatic 133, 3) := by decide +kernel
theorem d_Md_starts_45 : decode b_Md_starts 45 = .ok (.iconst 4, 1) := by decide +kernel
theorem d_Md_starts_46 : decode b_Md_starts 46 = .ok (.if_icmp .lt 7, 3) := by decide +kernel
theorem d_Md_starts_49 : decode b_Md_starts 49 = .ok (.iconst 1, 1) := by decide +kernel
theorem d_Md_starts_50 : decode b_Md_starts 50 = .ok (.goto 4, 3) := by decide +kernel
theorem d_Md_starts_53 : decode b_Md_starts 53 = .ok (.iconst 0, 1) := by decide +kernel
theorem d_Md_starts_54 : decode b_Md_starts 54 = .ok (.istore_n 3, 1) := by decide +kernel
theorem d_Md_starts_55 : decode b_Md_starts 55 = .ok (.aload_n 0, 1) := by decide +kernel
theorem d_Md_starts_56 : decode b_Md_starts 56 = .ok (.getfield 114, 3) := by decide +kernel
theorem d_Md_starts_59 : decode b_Md_starts 59 = .ok (.istore 4, 2) := by decide +kernel
theorem d_Md_starts_61 : decode b_Md_starts 61 = .ok (.iload 4, 2) := by decide +kernel
theorem d_Md_starts_63 : decode b_Md_starts 63 = .ok (.bipush 36, 2) := by decide +kernel
theorem d_Md_starts_65 : decode b_Md_starts 65 = .ok (.if_icmp .ge 47, 3) := by decide +kernel
theorem d_Md_starts_68 : decode b_Md_starts 68 = .ok (.iload_n 2, 1) := by decide +kernel
theorem d_Md_starts_69 : decode b_Md_starts 69 = .ok (.aload_n 0, 1) := by decide +kernel
theorem d_Md_starts_70 : decode b_Md_starts 70 = .ok (.getfield 84, 3) := by decide +kernel
theorem d_Md_starts_73 : decode b_Md_starts 73 = .ok (.iload 4, 2) := by decide +kernel
theorem d_Md_starts_75 : decode b_Md_starts 75 = .ok (.iaload, 1) := by decide +kernel
theorem d_Md_starts_76 : decode b_Md_starts 76 = .ok (.iload_n 1, 1) := by decide +kernel
theorem d_Md_starts_77 : decode b_Md_starts 77 = .ok (.invokestatic 137, 3) := by decide +kernel
theorem d_Md_starts_80 : decode b_Md_starts 80 = .ok (.ifCond .eq 11, 3) := by decide +kernel
theorem d_Md_starts_83 : decode b_Md_starts 83 = .ok (.iload_n 3, 1) := by decide +kernel
theorem d_Md_starts_84 : decode b_Md_starts 84 = .ok (.ifCond .ne 7, 3) := by decide +kernel
theorem d_Md_starts_87 : decode b_Md_starts 87 = .ok (.iconst 1, 1) := by decide +kernel
theorem d_Md_starts_88 : decode b_Md_starts 88 = .ok (.goto 4, 3) := by decide +kernel
theorem d_Md_starts_91 : decode b_Md_starts 91 = .ok (.iconst 0, 1) := by decide +kernel
theorem d_Md_starts_92 : decode b_Md_starts 92 = .ok (.iadd, 1) := by decide +kernel
theorem d_Md_starts_93 : decode b_Md_starts 93 = .ok (.istore_n 2, 1) := by decide +kernel
theorem d_Md_starts_94 : decode b_Md_starts 94 = .ok (.aload_n 0, 1) := by decide +kernel
theorem d_Md_starts_95 : decode b_Md_starts 95 = .ok (.getfield 84, 3) := by decide +kernel
theorem d_Md_starts_98 : decode b_Md_starts 98 = .ok (.iload 4, 2) := by decide +kernel
theorem d_Md_starts_100 : decode b_Md_starts 100 = .ok (.iaload, 1) := by decide +kernel
theorem d_Md_starts_101 : decode b_Md_starts 101 = .ok (.iload_n 1, 1) := by decide +kernel
theorem d_Md_starts_102 : decode b_Md_starts 102 = .ok (.invokestatic 137, 3) := by decide +kernel
theorem d_Md_starts_105 : decode b_Md_starts 105 = .ok (.istore_n 3, 1) := by decide +kernel
theorem d_Md_starts_106 : decode b_Md_starts 106 = .ok (.iinc 4 1, 3) := by decide +kernel
theorem d_Md_starts_109 : decode b_Md_starts 109 = .ok (.goto (-48), 3) := by decide +kernel
theorem d_Md_starts_112 : decode b_Md_starts 112 = .ok (.iload_n 2, 1) := by decide +kernel
theorem d_Md_starts_113 : decode b_Md_starts 113 = .ok (.ireturn, 1) := by decide +kernel
theorem d_Md_run_0 : decode b_Md_run 0 = .ok (.aload_n 0, 1) := by decide +kernel
theorem d_Md_run_1 : decode b_Md_run 1 = .ok (.iload_n 1, 1) := by decide +kernel
theorem d_Md_run_2 : decode b_Md_run 2 = .ok (.iconst 1, 1) := by decide +kernel
theorem d_Md_run_3 : decode b_Md_run 3 = .ok (.bipush 36, 2) := by decide +kernel
theorem d_Md_run_5 : decode b_Md_run 5 = .ok (.invokestatic 106, 3) := by decide +kernel
theorem d_Md_run_8 : decode b_Md_run 8 = .ok (.ifCond .eq 7, 3) := by decide +kernel
theorem d_Md_run_11 : decode b_Md_run 11 = .ok (.iconst 0, 1) := by decide +kernel
theorem d_Md_run_12 : decode b_Md_run 12 = .ok (.goto 4, 3) := by decide +kernel
theorem d_Md_run_15 : decode b_Md_run 15 = .ok (.iconst 1, 1) := by decide +kernel
theorem d_Md_run_16 : decode b_Md_run 16 = .ok (.putfield 103, 3) := by decide +kernel
theorem d_Md_run_19 : decode b_Md_run 19 = .ok (.aload_n 0, 1) := by decide +kernel
theorem d_Md_run_20 : decode b_Md_run 20 = .ok (.getfield 103, 3) := by decide +kernel
theorem d_Md_run_23 : decode b_Md_run 23 = .ok (.ifCond .le 5, 3) := by decide +kernel
theorem d_Md_run_26 : decode b_Md_run 26 = .ok (.iconst 0, 1) := by decide +kernel
theorem d_Md_run_27 : decode b_Md_run 27 = .ok (.ireturn, 1) := by decide +kernel
theorem d_Md_run_28 : decode b_Md_run 28 = .ok (.iconst 0, 1) := by decide +kernel
theorem d_Md_run_29 : decode b_Md_run 29 = .ok (.istore_n 2, 1) := by decide +kernel
theorem d_Md_run_30 : decode b_Md_run 30 = .ok (.iload_n 2, 1) := by decide +kernel
theorem d_Md_run_31 : decode b_Md_run 31 = .ok (.iload_n 1, 1) := by decide +kernel
theorem d_Md_run_32 : decode b_Md_run 32 = .ok (.if_icmp .ge 200, 3) := by decide +kernel
theorem d_Md_run_35 : decode b_Md_run 35 = .ok (.aload_n 0, 1) := by decide +kernel
theorem d_Md_run_36 : decode b_Md_run 36 = .ok (.getfield 114, 3) := by decide +kernel
theorem d_Md_run_39 : decode b_Md_run 39 = .ok (.bipush 36, 2) := by decide +kernel
theorem d_Md_run_41 : decode b_Md_run 41 = .ok (.if_icmp .ge 191, 3) := by decide +kernel
theorem d_Md_run_44 : decode b_Md_run 44 = .ok (.aload_n 0, 1) := by decide +kernel
theorem d_Md_run_45 : decode b_Md_run 45 = .ok (.invokevirtual 169, 3) := by decide +kernel
theorem d_Md_run_48 : decode b_Md_run 48 = .ok (.ifCond .eq 184, 3) := by decide +kernel
theorem d_Md_run_51 : decode b_Md_run 51 = .ok (.aload_n 0, 1) := by decide +kernel
theorem d_Md_run_52 : decode b_Md_run 52 = .ok (.getfield 84, 3) := by decide +kernel
theorem d_Md_run_55 : decode b_Md_run 55 = .ok (.aload_n 0, 1) := by decide +kernel
theorem d_Md_run_56 : decode b_Md_run 56 = .ok (.getfield 114, 3) := by decide +kernel
theorem d_Md_run_59 : decode b_Md_run 59 = .ok (.iaload, 1) := by decide +kernel
theorem d_Md_run_60 : decode b_Md_run 60 = .ok (.istore_n 3, 1) := by decide +kernel
theorem d_Md_run_61 : decode b_Md_run 61 = .ok (.aload_n 0, 1) := by decide +kernel
theorem d_Md_run_62 : decode b_Md_run 62 = .ok (.aload_n 0, 1) := by decide +kernel
theorem d_Md_run_63 : decode b_Md_run 63 = .ok (.getfield 114, 3) := by decide +kernel
theorem d_Md_run_66 : decode b_Md_run 66 = .ok (.invokevirtual 141, 3) := by decide +kernel
theorem d_Md_run_69 : decode b_Md_run 69 = .ok (.aload_n 0, 1) := by decide +kernel
theorem d_Md_run_70 : decode b_Md_run 70 = .ok (.getfield 47, 3) := by decide +kernel
theorem d_Md_run_73 : decode b_Md_run 73 = .ok (.iconst 0, 1) := by decide +kernel
theorem d_Md_run_74 : decode b_Md_run 74 = .ok (.dup2, 1) := by decide +kernel
theorem d_Md_run_75 : decode b_Md_run 75 = .ok (.laload, 1) := by decide +kernel
theorem d_Md_run_76 : decode b_Md_run 76 = .ok (.aload_n 0, 1) := by decide +kernel
theorem d_Md_run_77 : decode b_Md_run 77 = .ok (.aload_n 0, 1) := by decide +kernel
theorem d_Md_run_78 : decode b_Md_run 78 = .ok (.getfield 99, 3) := by decide +kernel
theorem d_Md_run_81 : decode b_Md_run 81 = .ok (.aload_n 0, 1) := by decide +kernel
theorem d_Md_run_82 : decode b_Md_run 82 = .ok (.getfield 114, 3) := by decide +kernel
theorem d_Md_run_85 : decode b_Md_run 85 = .ok (.iload_n 3, 1) := by decide +kernel
theorem d_Md_run_86 : decode b_Md_run 86 = .ok (.invokevirtual 151, 3) := by decide +kernel
theorem d_Md_run_89 : decode b_Md_run 89 = .ok (.ladd, 1) := by decide +kernel
theorem d_Md_run_90 : decode b_Md_run 90 = .ok (.lastore, 1) := by decide +kernel
theorem d_Md_run_91 : decode b_Md_run 91 = .ok (.iconst 0, 1) := by decide +kernel
theorem d_Md_run_92 : decode b_Md_run 92 = .ok (.istore 4, 2) := by decide +kernel
theorem d_Md_run_94 : decode b_Md_run 94 = .ok (.iload 4, 2) := by decide +kernel
theorem d_Md_run_96 : decode b_Md_run 96 = .ok (.aload_n 0, 1) := by decide +kernel
theorem d_Md_run_97 : decode b_Md_run 97 = .ok (.getfield 111, 3) := by decide +kernel
theorem d_Md_run_100 : decode b_Md_run 100 = .ok (.if_icmp .ge 69, 3) := by decide +kernel
theorem d_Md_run_103 : decode b_Md_run 103 = .ok (.aload_n 0, 1) := by decide +kernel
theorem d_Md_run_104 : decode b_Md_run 104 = .ok (.getfield 47, 3) := by decide +kernel
theorem d_Md_run_107 : decode b_Md_run 107 = .ok (.iconst 1, 1) := by decide +kernel
theorem d_Md_run_108 : decode b_Md_run 108 = .ok (.dup2, 1) := by decide +kernel
theorem d_Md_run_109 : decode b_Md_run 109 = .ok (.laload, 1) := by decide +kernel
theorem d_Md_run_110 : decode b_Md_run 110 = .ok (.iload_n 3, 1) := by decide +kernel
theorem d_Md_run_111 : decode b_Md_run 111 = .ok (.iload 4, 2) := by decide +kernel
theorem d_Md_run_113 : decode b_Md_run 113 = .ok (.invokestatic 137, 3) := by decide +kernel
theorem d_Md_run_116 : decode b_Md_run 116 = .ok (.ifCond .eq 14, 3) := by decide +kernel
theorem d_Md_run_119 : decode b_Md_run 119 = .ok (.aload_n 0, 1) := by decide +kernel
theorem d_Md_run_120 : decode b_Md_run 120 = .ok (.getfield 78, 3) := by decide +kernel
theorem d_Md_run_123 : decode b_Md_run 123 = .ok (.iload 4, 2) := by decide +kernel
theorem d_Md_run_125 : decode b_Md_run 125 = .ok (.iaload, 1) := by decide +kernel
theorem d_Md_run_126 : decode b_Md_run 126 = .ok (.i2l, 1) := by decide +kernel
theorem d_Md_run_127 : decode b_Md_run 127 = .ok (.goto 4, 3) := by decide +kernel
theorem d_Md_run_130 : decode b_Md_run 130 = .ok (.lconst 0, 1) := by decide +kernel
theorem d_Md_run_131 : decode b_Md_run 131 = .ok (.ladd, 1) := by decide +kernel
theorem d_Md_run_132 : decode b_Md_run 132 = .ok (.lastore, 1) := by decide +kernel
theorem d_Md_run_133 : decode b_Md_run 133 = .ok (.aload_n 0, 1) := by decide +kernel
theorem d_Md_run_134 : decode b_Md_run 134 = .ok (.getfield 47, 3) := by decide +kernel
theorem d_Md_run_137 : decode b_Md_run 137 = .ok (.iconst 3, 1) := by decide +kernel
theorem d_Md_run_138 : decode b_Md_run 138 = .ok (.dup2, 1) := by decide +kernel
theorem d_Md_run_139 : decode b_Md_run 139 = .ok (.laload, 1) := by decide +kernel
theorem d_Md_run_140 : decode b_Md_run 140 = .ok (.iload_n 3, 1) := by decide +kernel
theorem d_Md_run_141 : decode b_Md_run 141 = .ok (.iload 4, 2) := by decide +kernel
theorem d_Md_run_143 : decode b_Md_run 143 = .ok (.invokestatic 137, 3) := by decide +kernel
theorem d_Md_run_146 : decode b_Md_run 146 = .ok (.ifCond .eq 14, 3) := by decide +kernel
theorem d_Md_run_149 : decode b_Md_run 149 = .ok (.aload_n 0, 1) := by decide +kernel
theorem d_Md_run_150 : decode b_Md_run 150 = .ok (.getfield 81, 3) := by decide +kernel
theorem d_Md_run_153 : decode b_Md_run 153 = .ok (.iload 4, 2) := by decide +kernel
theorem d_Md_run_155 : decode b_Md_run 155 = .ok (.iaload, 1) := by decide +kernel
theorem d_Md_run_156 : decode b_Md_run 156 = .ok (.i2l, 1) := by decide +kernel
theorem d_Md_run_157 : decode b_Md_run 157 = .ok (.goto 4, 3) := by decide +kernel
theorem d_Md_run_160 : decode b_Md_run 160 = .ok (.lconst 0, 1) := by decide +kernel
theorem d_Md_run_161 : decode b_Md_run 161 = .ok (.ladd, 1) := by decide +kernel
theorem d_Md_run_162 : decode b_Md_run 162 = .ok (.lastore, 1) := by decide +kernel
theorem d_Md_run_163 : decode b_Md_run 163 = .ok (.iinc 4 1, 3) := by decide +kernel
theorem d_Md_run_166 : decode b_Md_run 166 = .ok (.goto (-72), 3) := by decide +kernel
theorem d_Md_run_169 : decode b_Md_run 169 = .ok (.aload_n 0, 1) := by decide +kernel
theorem d_Md_run_170 : decode b_Md_run 170 = .ok (.getfield 47, 3) := by decide +kernel
theorem d_Md_run_173 : decode b_Md_run 173 = .ok (.iconst 2, 1) := by decide +kernel
theorem d_Md_run_174 : decode b_Md_run 174 = .ok (.dup2, 1) := by decide +kernel
theorem d_Md_run_175 : decode b_Md_run 175 = .ok (.laload, 1) := by decide +kernel
theorem d_Md_run_176 : decode b_Md_run 176 = .ok (.aload_n 0, 1) := by decide +kernel
theorem d_Md_run_177 : decode b_Md_run 177 = .ok (.getfield 37, 3) := by decide +kernel
theorem d_Md_run_180 : decode b_Md_run 180 = .ok (.aload_n 0, 1) := by decide +kernel
theorem d_Md_run_181 : decode b_Md_run 181 = .ok (.getfield 114, 3) := by decide +kernel
theorem d_Md_run_184 : decode b_Md_run 184 = .ok (.iaload, 1) := by decide +kernel
theorem d_Md_run_185 : decode b_Md_run 185 = .ok (.i2l, 1) := by decide +kernel
theorem d_Md_run_186 : decode b_Md_run 186 = .ok (.ladd, 1) := by decide +kernel
theorem d_Md_run_187 : decode b_Md_run 187 = .ok (.lastore, 1) := by decide +kernel
theorem d_Md_run_188 : decode b_Md_run 188 = .ok (.aload_n 0, 1) := by decide +kernel
theorem d_Md_run_189 : decode b_Md_run 189 = .ok (.aload_n 0, 1) := by decide +kernel
theorem d_Md_run_190 : decode b_Md_run 190 = .ok (.aload_n 0, 1) := by decide +kernel
theorem d_Md_run_191 : decode b_Md_run 191 = .ok (.getfield 99, 3) := by decide +kernel
theorem d_Md_run_194 : decode b_Md_run 194 = .ok (.iload_n 3, 1) := by decide +kernel
theorem d_Md_run_195 : decode b_Md_run 195 = .ok (.invokevirtual 148, 3) := by decide +kernel
theorem d_Md_run_198 : decode b_Md_run 198 = .ok (.putfield 99, 3) := by decide +kernel
theorem d_Md_run_201 : decode b_Md_run 201 = .ok (.aload_n 0, 1) := by decide +kernel
theorem d_Md_run_202 : decode b_Md_run 202 = .ok (.getfield 44, 3) := by decide +kernel
theorem d_Md_run_205 : decode b_Md_run 205 = .ok (.aload_n 0, 1) := by decide +kernel
theorem d_Md_run_206 : decode b_Md_run 206 = .ok (.getfield 114, 3) := by decide +kernel
theorem d_Md_run_209 : decode b_Md_run 209 = .ok (.iload_n 3, 1) := by decide +kernel
theorem d_Md_run_210 : decode b_Md_run 210 = .ok (.iastore, 1) := by decide +kernel
theorem d_Md_run_211 : decode b_Md_run 211 = .ok (.aload_n 0, 1) := by decide +kernel
theorem d_Md_run_212 : decode b_Md_run 212 = .ok (.dup, 1) := by decide +kernel
theorem d_Md_run_213 : decode b_Md_run 213 = .ok (.getfield 114, 3) := by decide +kernel
theorem d_Md_run_216 : decode b_Md_run 216 = .ok (.iconst 1, 1) := by decide +kernel
theorem d_Md_run_217 : decode b_Md_run 217 = .ok (.iadd, 1) := by decide +kernel
theorem d_Md_run_218 : decode b_Md_run 218 = .ok (.putfield 114, 3) := by decide +kernel
theorem d_Md_run_221 : decode b_Md_run 221 = .ok (.aload_n 0, 1) := by decide +kernel
theorem d_Md_run_222 : decode b_Md_run 222 = .ok (.iconst 0, 1) := by decide +kernel
theorem d_Md_run_223 : decode b_Md_run 223 = .ok (.putfield 117, 3) := by decide +kernel
theorem d_Md_run_226 : decode b_Md_run 226 = .ok (.iinc 2 1, 3) := by decide +kernel
theorem d_Md_run_229 : decode b_Md_run 229 = .ok (.goto (-199), 3) := by decide +kernel
theorem d_Md_run_232 : decode b_Md_run 232 = .ok (.aload_n 0, 1) := by decide +kernel
theorem d_Md_run_233 : decode b_Md_run 233 = .ok (.getfield 114, 3) := by decide +kernel
theorem d_Md_run_236 : decode b_Md_run 236 = .ok (.ireturn, 1) := by decide +kernel
theorem d_Md_ran_0 : decode b_Md_ran 0 = .ok (.aload_n 0, 1) := by decide +kernel
theorem d_Md_ran_1 : decode b_Md_ran 1 = .ok (.iload_n 1, 1) := by decide +kernel
theorem d_Md_ran_2 : decode b_Md_ran 2 = .ok (.iconst 0, 1) := by decide +kernel
theorem d_Md_ran_3 : decode b_Md_ran 3 = .ok (.bipush 35, 2) := by decide +kernel
theorem d_Md_ran_5 : decode b_Md_ran 5 = .ok (.invokestatic 106, 3) := by decide +kernel
theorem d_Md_ran_8 : decode b_Md_ran 8 = .ok (.ifCond .eq 7, 3) := by decide +kernel
theorem d_Md_ran_11 : decode b_Md_ran 11 = .ok (.iconst 0, 1) := by decide +kernel
theorem d_Md_ran_12 : decode b_Md_ran 12 = .ok (.goto 4, 3) := by decide +kernel
theorem d_Md_ran_15 : decode b_Md_ran 15 = .ok (.iconst 1, 1) := by decide +kernel
theorem d_Md_ran_16 : decode b_Md_ran 16 = .ok (.putfield 103, 3) := by decide +kernel
theorem d_Md_ran_19 : decode b_Md_ran 19 = .ok (.aload_n 0, 1) := by decide +kernel
theorem d_Md_ran_20 : decode b_Md_ran 20 = .ok (.getfield 103, 3) := by decide +kernel
theorem d_Md_ran_23 : decode b_Md_ran 23 = .ok (.ifCond .le 5, 3) := by decide +kernel
theorem d_Md_ran_26 : decode b_Md_ran 26 = .ok (.iconst 0, 1) := by decide +kernel
theorem d_Md_ran_27 : decode b_Md_ran 27 = .ok (.ireturn, 1) := by decide +kernel
theorem d_Md_ran_28 : decode b_Md_ran 28 = .ok (.iload_n 1, 1) := by decide +kernel
theorem d_Md_ran_29 : decode b_Md_ran 29 = .ok (.aload_n 0, 1) := by decide +kernel
theorem d_Md_ran_30 : decode b_Md_ran 30 = .ok (.getfield 114, 3) := by decide +kernel
theorem d_Md_ran_33 : decode b_Md_ran 33 = .ok (.if_icmp .ge 12, 3) := by decide +kernel
theorem d_Md_ran_36 : decode b_Md_ran 36 = .ok (.aload_n 0, 1) := by decide +kernel
theorem d_Md_ran_37 : decode b_Md_ran 37 = .ok (.getfield 44, 3) := by decide +kernel
theorem d_Md_ran_40 : decode b_Md_ran 40 = .ok (.iload_n 1, 1) := by decide +kernel
theorem d_Md_ran_41 : decode b_Md_ran 41 = .ok (.iaload, 1) := by decide +kernel
theorem d_Md_ran_42 : decode b_Md_ran 42 = .ok (.goto 4, 3) := by decide +kernel
theorem d_Md_ran_45 : decode b_Md_ran 45 = .ok (.iconst (-1), 1) := by decide +kernel
theorem d_Md_ran_46 : decode b_Md_ran 46 = .ok (.ireturn, 1) := by decide +kernel
theorem d_Md_told_0 : decode b_Md_told 0 = .ok (.aload_n 0, 1) := by decide +kernel
theorem d_Md_told_1 : decode b_Md_told 1 = .ok (.iload_n 1, 1) := by decide +kernel
theorem d_Md_told_2 : decode b_Md_told 2 = .ok (.iconst 0, 1) := by decide +kernel
theorem d_Md_told_3 : decode b_Md_told 3 = .ok (.iconst 3, 1) := by decide +kernel
theorem d_Md_told_4 : decode b_Md_told 4 = .ok (.invokestatic 106, 3) := by decide +kernel
theorem d_Md_told_7 : decode b_Md_told 7 = .ok (.ifCond .eq 7, 3) := by decide +kernel
theorem d_Md_told_10 : decode b_Md_told 10 = .ok (.iconst 0, 1) := by decide +kernel
theorem d_Md_told_11 : decode b_Md_told 11 = .ok (.goto 4, 3) := by decide +kernel
theorem d_Md_told_14 : decode b_Md_told 14 = .ok (.iconst 1, 1) := by decide +kernel
theorem d_Md_told_15 : decode b_Md_told 15 = .ok (.putfield 103, 3) := by decide +kernel
theorem d_Md_told_18 : decode b_Md_told 18 = .ok (.aload_n 0, 1) := by decide +kernel
theorem d_Md_told_19 : decode b_Md_told 19 = .ok (.getfield 103, 3) := by decide +kernel
theorem d_Md_told_22 : decode b_Md_told 22 = .ok (.ifCond .le 7, 3) := by decide +kernel
theorem d_Md_told_25 : decode b_Md_told 25 = .ok (.lconst 0, 1) := by decide +kernel
theorem d_Md_told_26 : decode b_Md_told 26 = .ok (.goto 9, 3) := by decide +kernel
theorem d_Md_told_29 : decode b_Md_told 29 = .ok (.aload_n 0, 1) := by decide +kernel
theorem d_Md_told_30 : decode b_Md_told 30 = .ok (.getfield 47, 3) := by decide +kernel
theorem d_Md_told_33 : decode b_Md_told 33 = .ok (.iload_n 1, 1) := by decide +kernel
theorem d_Md_told_34 : decode b_Md_told 34 = .ok (.laload, 1) := by decide +kernel
theorem d_Md_told_35 : decode b_Md_told 35 = .ok (.lreturn, 1) := by decide +kernel
theorem d_Md_corner_0 : decode b_Md_corner 0 = .ok (.aload_n 0, 1) := by decide +kernel
theorem d_Md_corner_1 : decode b_Md_corner 1 = .ok (.iload_n 1, 1) := by decide +kernel
theorem d_Md_corner_2 : decode b_Md_corner 2 = .ok (.sipush (-5000), 3) := by decide +kernel
theorem d_Md_corner_5 : decode b_Md_corner 5 = .ok (.sipush 5000, 3) := by decide +kernel
theorem d_Md_corner_8 : decode b_Md_corner 8 = .ok (.invokestatic 106, 3) := by decide +kernel
theorem d_Md_corner_11 : decode b_Md_corner 11 = .ok (.ifCond .eq 14, 3) := by decide +kernel
theorem d_Md_corner_14 : decode b_Md_corner 14 = .ok (.iload_n 2, 1) := by decide +kernel
theorem d_Md_corner_15 : decode b_Md_corner 15 = .ok (.iconst 0, 1) := by decide +kernel
theorem d_Md_corner_16 : decode b_Md_corner 16 = .ok (.sipush 10000, 3) := by decide +kernel
theorem d_Md_corner_19 : decode b_Md_corner 19 = .ok (.invokestatic 106, 3) := by decide +kernel
theorem d_Md_corner_22 : decode b_Md_corner 22 = .ok (.ifCond .ne 7, 3) := by decide +kernel
theorem d_Md_corner_25 : decode b_Md_corner 25 = .ok (.iconst 1, 1) := by decide +kernel
theorem d_Md_corner_26 : decode b_Md_corner 26 = .ok (.goto 39, 3) := by decide +kernel
theorem d_Md_corner_29 : decode b_Md_corner 29 = .ok (.aload_n 0, 1) := by decide +kernel
theorem d_Md_corner_30 : decode b_Md_corner 30 = .ok (.getfield 174, 3) := by decide +kernel
theorem d_Md_corner_33 : decode b_Md_corner 33 = .ok (.bipush 6, 2) := by decide +kernel
theorem d_Md_corner_35 : decode b_Md_corner 35 = .ok (.if_icmp .eq 25, 3) := by decide +kernel
theorem d_Md_corner_38 : decode b_Md_corner 38 = .ok (.aload_n 0, 1) := by decide +kernel
theorem d_Md_corner_39 : decode b_Md_corner 39 = .ok (.getfield 174, 3) := by decide +kernel
theorem d_Md_corner_42 : decode b_Md_corner 42 = .ok (.ifCond .le 22, 3) := by decide +kernel
theorem d_Md_corner_45 : decode b_Md_corner 45 = .ok (.iload_n 1, 1) := by decide +kernel
theorem d_Md_corner_46 : decode b_Md_corner 46 = .ok (.aload_n 0, 1) := by decide +kernel
theorem d_Md_corner_47 : decode b_Md_corner 47 = .ok (.getfield 87, 3) := by decide +kernel
theorem d_Md_corner_50 : decode b_Md_corner 50 = .ok (.aload_n 0, 1) := by decide +kernel
theorem d_Md_corner_51 : decode b_Md_corner 51 = .ok (.getfield 174, 3) := by decide +kernel
theorem d_Md_corner_54 : decode b_Md_corner 54 = .ok (.iconst 1, 1) := by decide +kernel
theorem d_Md_corner_55 : decode b_Md_corner 55 = .ok (.isub, 1) := by decide +kernel
theorem d_Md_corner_56 : decode b_Md_corner 56 = .ok (.iaload, 1) := by decide +kernel
theorem d_Md_corner_57 : decode b_Md_corner 57 = .ok (.if_icmp .gt 7, 3) := by decide +kernel
theorem d_Md_corner_60 : decode b_Md_corner 60 = .ok (.iconst 2, 1) := by decide +kernel
theorem d_Md_corner_61 : decode b_Md_corner 61 = .ok (.goto 4, 3) := by decide +kernel
theorem d_Md_corner_64 : decode b_Md_corner 64 = .ok (.iconst 0, 1) := by decide +kernel
theorem d_Md_corner_65 : decode b_Md_corner 65 = .ok (.putfield 103, 3) := by decide +kernel
theorem d_Md_corner_68 : decode b_Md_corner 68 = .ok (.aload_n 0, 1) := by decide +kernel
theorem d_Md_corner_69 : decode b_Md_corner 69 = .ok (.getfield 103, 3) := by decide +kernel
theorem d_Md_corner_72 : decode b_Md_corner 72 = .ok (.ifCond .le 5, 3) := by decide +kernel
theorem d_Md_corner_75 : decode b_Md_corner 75 = .ok (.iconst 0, 1) := by decide +kernel
theorem d_Md_corner_76 : decode b_Md_corner 76 = .ok (.ireturn, 1) := by decide +kernel
theorem d_Md_corner_77 : decode b_Md_corner 77 = .ok (.aload_n 0, 1) := by decide +kernel
theorem d_Md_corner_78 : decode b_Md_corner 78 = .ok (.getfield 87, 3) := by decide +kernel
theorem d_Md_corner_81 : decode b_Md_corner 81 = .ok (.aload_n 0, 1) := by decide +kernel
theorem d_Md_corner_82 : decode b_Md_corner 82 = .ok (.getfield 174, 3) := by decide +kernel
theorem d_Md_corner_85 : decode b_Md_corner 85 = .ok (.iload_n 1, 1) := by decide +kernel
theorem d_Md_corner_86 : decode b_Md_corner 86 = .ok (.iastore, 1) := by decide +kernel
theorem d_Md_corner_87 : decode b_Md_corner 87 = .ok (.aload_n 0, 1) := by decide +kernel
theorem d_Md_corner_88 : decode b_Md_corner 88 = .ok (.getfield 90, 3) := by decide +kernel
theorem d_Md_corner_91 : decode b_Md_corner 91 = .ok (.aload_n 0, 1) := by decide +kernel
theorem d_Md_corner_92 : decode b_Md_corner 92 = .ok (.getfield 174, 3) := by decide +kernel
theorem d_Md_corner_95 : decode b_Md_corner 95 = .ok (.iload_n 2, 1) := by decide +kernel
theorem d_Md_corner_96 : decode b_Md_corner 96 = .ok (.iastore, 1) := by decide +kernel
theorem d_Md_corner_97 : decode b_Md_corner 97 = .ok (.aload_n 0, 1) := by decide +kernel
theorem d_Md_corner_98 : decode b_Md_corner 98 = .ok (.dup, 1) := by decide +kernel
theorem d_Md_corner_99 : decode b_Md_corner 99 = .ok (.getfield 174, 3) := by decide +kernel
theorem d_Md_corner_102 : decode b_Md_corner 102 = .ok (.iconst 1, 1) := by decide +kernel
theorem d_Md_corner_103 : decode b_Md_corner 103 = .ok (.iadd, 1) := by decide +kernel
theorem d_Md_corner_104 : decode b_Md_corner 104 = .ok (.putfield 174, 3) := by decide +kernel
theorem d_Md_corner_107 : decode b_Md_corner 107 = .ok (.aload_n 0, 1) := by decide +kernel
theorem d_Md_corner_108 : decode b_Md_corner 108 = .ok (.getfield 174, 3) := by decide +kernel
theorem d_Md_corner_111 : decode b_Md_corner 111 = .ok (.ireturn, 1) := by decide +kernel
theorem d_Md_curve_0 : decode b_Md_curve 0 = .ok (.aload_n 0, 1) := by decide +kernel
theorem d_Md_curve_1 : decode b_Md_curve 1 = .ok (.iload_n 1, 1) := by decide +kernel
theorem d_Md_curve_2 : decode b_Md_curve 2 = .ok (.sipush (-5000), 3) := by decide +kernel
theorem d_Md_curve_5 : decode b_Md_curve 5 = .ok (.sipush 5000, 3) := by decide +kernel
theorem d_Md_curve_8 : decode b_Md_curve 8 = .ok (.invokestatic 106, 3) := by decide +kernel
theorem d_Md_curve_11 : decode b_Md_curve 11 = .ok (.ifCond .eq 7, 3) := by decide +kernel
theorem d_Md_curve_14 : decode b_Md_curve 14 = .ok (.iconst 0, 1) := by decide +kernel
theorem d_Md_curve_15 : decode b_Md_curve 15 = .ok (.goto 4, 3) := by decide +kernel
theorem d_Md_curve_18 : decode b_Md_curve 18 = .ok (.iconst 1, 1) := by decide +kernel
theorem d_Md_curve_19 : decode b_Md_curve 19 = .ok (.putfield 103, 3) := by decide +kernel
theorem d_Md_curve_22 : decode b_Md_curve 22 = .ok (.aload_n 0, 1) := by decide +kernel
theorem d_Md_curve_23 : decode b_Md_curve 23 = .ok (.getfield 103, 3) := by decide +kernel
theorem d_Md_curve_26 : decode b_Md_curve 26 = .ok (.ifCond .le 5, 3) := by decide +kernel
theorem d_Md_curve_29 : decode b_Md_curve 29 = .ok (.iconst 0, 1) := by decide +kernel
theorem d_Md_curve_30 : decode b_Md_curve 30 = .ok (.ireturn, 1) := by decide +kernel
theorem d_Md_curve_31 : decode b_Md_curve 31 = .ok (.aload_n 0, 1) := by decide +kernel
theorem d_Md_curve_32 : decode b_Md_curve 32 = .ok (.getfield 174, 3) := by decide +kernel
theorem d_Md_curve_35 : decode b_Md_curve 35 = .ok (.ifCond .ne 5, 3) := by decide +kernel
theorem d_Md_curve_38 : decode b_Md_curve 38 = .ok (.iconst (-1), 1) := by decide +kernel
theorem d_Md_curve_39 : decode b_Md_curve 39 = .ok (.ireturn, 1) := by decide +kernel
theorem d_Md_curve_40 : decode b_Md_curve 40 = .ok (.aload_n 0, 1) := by decide +kernel
theorem d_Md_curve_41 : decode b_Md_curve 41 = .ok (.getfield 174, 3) := by decide +kernel
theorem d_Md_curve_44 : decode b_Md_curve 44 = .ok (.iconst 1, 1) := by decide +kernel
theorem d_Md_curve_45 : decode b_Md_curve 45 = .ok (.isub, 1) := by decide +kernel
theorem d_Md_curve_46 : decode b_Md_curve 46 = .ok (.istore_n 2, 1) := by decide +kernel
theorem d_Md_curve_47 : decode b_Md_curve 47 = .ok (.iload_n 2, 1) := by decide +kernel
theorem d_Md_curve_48 : decode b_Md_curve 48 = .ok (.ifCond .le 19, 3) := by decide +kernel
theorem d_Md_curve_51 : decode b_Md_curve 51 = .ok (.aload_n 0, 1) := by decide +kernel
theorem d_Md_curve_52 : decode b_Md_curve 52 = .ok (.getfield 87, 3) := by decide +kernel
theorem d_Md_curve_55 : decode b_Md_curve 55 = .ok (.iload_n 2, 1) := by decide +kernel
theorem d_Md_curve_56 : decode b_Md_curve 56 = .ok (.iaload, 1) := by decide +kernel
theorem d_Md_curve_57 : decode b_Md_curve 57 = .ok (.iload_n 1, 1) := by decide +kernel
theorem d_Md_curve_58 : decode b_Md_curve 58 = .ok (.if_icmp .le 9, 3) := by decide +kernel
theorem d_Md_curve_61 : decode b_Md_curve 61 = .ok (.iinc 2 (-1), 3) := by decide +kernel
theorem d_Md_curve_64 : decode b_Md_curve 64 = .ok (.goto (-17), 3) := by decide +kernel
theorem d_Md_curve_67 : decode b_Md_curve 67 = .ok (.iload_n 1, 1) := by decide +kernel
theorem d_Md_curve_68 : decode b_Md_curve 68 = .ok (.aload_n 0, 1) := by decide +kernel
theorem d_Md_curve_69 : decode b_Md_curve 69 = .ok (.getfield 87, 3) := by decide +kernel
theorem d_Md_curve_72 : decode b_Md_curve 72 = .ok (.iload_n 2, 1) := by decide +kernel
theorem d_Md_curve_73 : decode b_Md_curve 73 = .ok (.iaload, 1) := by decide +kernel
theorem d_Md_curve_74 : decode b_Md_curve 74 = .ok (.if_icmp .le 13, 3) := by decide +kernel
theorem d_Md_curve_77 : decode b_Md_curve 77 = .ok (.iload_n 2, 1) := by decide +kernel
theorem d_Md_curve_78 : decode b_Md_curve 78 = .ok (.aload_n 0, 1) := by decide +kernel
theorem d_Md_curve_79 : decode b_Md_curve 79 = .ok (.getfield 174, 3) := by decide +kernel
theorem d_Md_curve_82 : decode b_Md_curve 82 = .ok (.iconst 1, 1) := by decide +kernel
theorem d_Md_curve_83 : decode b_Md_curve 83 = .ok (.isub, 1) := by decide +kernel
theorem d_Md_curve_84 : decode b_Md_curve 84 = .ok (.if_icmp .ne 10, 3) := by decide +kernel
theorem d_Md_curve_87 : decode b_Md_curve 87 = .ok (.aload_n 0, 1) := by decide +kernel
theorem d_Md_curve_88 : decode b_Md_curve 88 = .ok (.getfield 90, 3) := by decide +kernel
theorem d_Md_curve_91 : decode b_Md_curve 91 = .ok (.iload_n 2, 1) := by decide +kernel
theorem d_Md_curve_92 : decode b_Md_curve 92 = .ok (.iaload, 1) := by decide +kernel
theorem d_Md_curve_93 : decode b_Md_curve 93 = .ok (.ireturn, 1) := by decide +kernel
theorem d_Md_curve_94 : decode b_Md_curve 94 = .ok (.aload_n 0, 1) := by decide +kernel
theorem d_Md_curve_95 : decode b_Md_curve 95 = .ok (.getfield 90, 3) := by decide +kernel
theorem d_Md_curve_98 : decode b_Md_curve 98 = .ok (.iload_n 2, 1) := by decide +kernel
theorem d_Md_curve_99 : decode b_Md_curve 99 = .ok (.iconst 1, 1) := by decide +kernel
theorem d_Md_curve_100 : decode b_Md_curve 100 = .ok (.iadd, 1) := by decide +kernel
theorem d_Md_curve_101 : decode b_Md_curve 101 = .ok (.iaload, 1) := by decide +kernel
theorem d_Md_curve_102 : decode b_Md_curve 102 = .ok (.aload_n 0, 1) := by decide +kernel
theorem d_Md_curve_103 : decode b_Md_curve 103 = .ok (.getfield 90, 3) := by decide +kernel
theorem d_Md_curve_106 : decode b_Md_curve 106 = .ok (.iload_n 2, 1) := by decide +kernel
theorem d_Md_curve_107 : decode b_Md_curve 107 = .ok (.iaload, 1) := by decide +kernel
theorem d_Md_curve_108 : decode b_Md_curve 108 = .ok (.isub, 1) := by decide +kernel
theorem d_Md_curve_109 : decode b_Md_curve 109 = .ok (.i2l, 1) := by decide +kernel
theorem d_Md_curve_110 : decode b_Md_curve 110 = .ok (.iload_n 1, 1) := by decide +kernel
theorem d_Md_curve_111 : decode b_Md_curve 111 = .ok (.aload_n 0, 1) := by decide +kernel
theorem d_Md_curve_112 : decode b_Md_curve 112 = .ok (.getfield 87, 3) := by decide +kernel
theorem d_Md_curve_115 : decode b_Md_curve 115 = .ok (.iload_n 2, 1) := by decide +kernel
theorem d_Md_curve_116 : decode b_Md_curve 116 = .ok (.iaload, 1) := by decide +kernel
theorem d_Md_curve_117 : decode b_Md_curve 117 = .ok (.isub, 1) := by decide +kernel
theorem d_Md_curve_118 : decode b_Md_curve 118 = .ok (.i2l, 1) := by decide +kernel
theorem d_Md_curve_119 : decode b_Md_curve 119 = .ok (.lmul, 1) := by decide +kernel
theorem d_Md_curve_120 : decode b_Md_curve 120 = .ok (.lstore_n 3, 1) := by decide +kernel
theorem d_Md_curve_121 : decode b_Md_curve 121 = .ok (.aload_n 0, 1) := by decide +kernel
theorem d_Md_curve_122 : decode b_Md_curve 122 = .ok (.getfield 90, 3) := by decide +kernel
theorem d_Md_curve_125 : decode b_Md_curve 125 = .ok (.iload_n 2, 1) := by decide +kernel
theorem d_Md_curve_126 : decode b_Md_curve 126 = .ok (.iaload, 1) := by decide +kernel
theorem d_Md_curve_127 : decode b_Md_curve 127 = .ok (.i2l, 1) := by decide +kernel
theorem d_Md_curve_128 : decode b_Md_curve 128 = .ok (.lload_n 3, 1) := by decide +kernel
theorem d_Md_curve_129 : decode b_Md_curve 129 = .ok (.aload_n 0, 1) := by decide +kernel
theorem d_Md_curve_130 : decode b_Md_curve 130 = .ok (.getfield 87, 3) := by decide +kernel
theorem d_Md_curve_133 : decode b_Md_curve 133 = .ok (.iload_n 2, 1) := by decide +kernel
theorem d_Md_curve_134 : decode b_Md_curve 134 = .ok (.iconst 1, 1) := by decide +kernel
theorem d_Md_curve_135 : decode b_Md_curve 135 = .ok (.iadd, 1) := by decide +kernel
theorem d_Md_curve_136 : decode b_Md_curve 136 = .ok (.iaload, 1) := by decide +kernel
theorem d_Md_curve_137 : decode b_Md_curve 137 = .ok (.aload_n 0, 1) := by decide +kernel
theorem d_Md_curve_138 : decode b_Md_curve 138 = .ok (.getfield 87, 3) := by decide +kernel
theorem d_Md_curve_141 : decode b_Md_curve 141 = .ok (.iload_n 2, 1) := by decide +kernel
theorem d_Md_curve_142 : decode b_Md_curve 142 = .ok (.iaload, 1) := by decide +kernel
theorem d_Md_curve_143 : decode b_Md_curve 143 = .ok (.isub, 1) := by decide +kernel
theorem d_Md_curve_144 : decode b_Md_curve 144 = .ok (.i2l, 1) := by decide +kernel
theorem d_Md_curve_145 : decode b_Md_curve 145 = .ok (.iconst 0, 1) := by decide +kernel
theorem d_Md_curve_146 : decode b_Md_curve 146 = .ok (.invokestatic 125, 3) := by decide +kernel
theorem d_Md_curve_149 : decode b_Md_curve 149 = .ok (.ladd, 1) := by decide +kernel
theorem d_Md_curve_150 : decode b_Md_curve 150 = .ok (.l2i, 1) := by decide +kernel
theorem d_Md_curve_151 : decode b_Md_curve 151 = .ok (.ireturn, 1) := by decide +kernel
theorem d_Md_ground_0 : decode b_Md_ground 0 = .ok (.aload_n 0, 1) := by decide +kernel
theorem d_Md_ground_1 : decode b_Md_ground 1 = .ok (.iload_n 1, 1) := by decide +kernel
theorem d_Md_ground_2 : decode b_Md_ground 2 = .ok (.iconst 0, 1) := by decide +kernel
theorem d_Md_ground_3 : decode b_Md_ground 3 = .ok (.sipush 1000, 3) := by decide +kernel
theorem d_Md_ground_6 : decode b_Md_ground 6 = .ok (.invokestatic 106, 3) := by decide +kernel
theorem d_Md_ground_9 : decode b_Md_ground 9 = .ok (.ifCond .eq 25, 3) := by decide +kernel
theorem d_Md_ground_12 : decode b_Md_ground 12 = .ok (.aload_n 0, 1) := by decide +kernel
theorem d_Md_ground_13 : decode b_Md_ground 13 = .ok (.getfield 177, 3) := by decide +kernel
theorem d_Md_ground_16 : decode b_Md_ground 16 = .ok (.ifCond .le 22, 3) := by decide +kernel
theorem d_Md_ground_19 : decode b_Md_ground 19 = .ok (.iload_n 1, 1) := by decide +kernel
theorem d_Md_ground_20 : decode b_Md_ground 20 = .ok (.aload_n 0, 1) := by decide +kernel
theorem d_Md_ground_21 : decode b_Md_ground 21 = .ok (.getfield 93, 3) := by decide +kernel
theorem d_Md_ground_24 : decode b_Md_ground 24 = .ok (.aload_n 0, 1) := by decide +kernel
theorem d_Md_ground_25 : decode b_Md_ground 25 = .ok (.getfield 177, 3) := by decide +kernel
theorem d_Md_ground_28 : decode b_Md_ground 28 = .ok (.iconst 1, 1) := by decide +kernel
theorem d_Md_ground_29 : decode b_Md_ground 29 = .ok (.isub, 1) := by decide +kernel
theorem d_Md_ground_30 : decode b_Md_ground 30 = .ok (.iaload, 1) := by decide +kernel
theorem d_Md_ground_31 : decode b_Md_ground 31 = .ok (.if_icmp .ge 7, 3) := by decide +kernel
theorem d_Md_ground_34 : decode b_Md_ground 34 = .ok (.iconst 1, 1) := by decide +kernel
theorem d_Md_ground_35 : decode b_Md_ground 35 = .ok (.goto 17, 3) := by decide +kernel
theorem d_Md_ground_38 : decode b_Md_ground 38 = .ok (.aload_n 0, 1) := by decide +kernel
theorem d_Md_ground_39 : decode b_Md_ground 39 = .ok (.getfield 177, 3) := by decide +kernel
theorem d_Md_ground_42 : decode b_Md_ground 42 = .ok (.bipush 36, 2) := by decide +kernel
theorem d_Md_ground_44 : decode b_Md_ground 44 = .ok (.if_icmp .ne 7, 3) := by decide +kernel
theorem d_Md_ground_47 : decode b_Md_ground 47 = .ok (.iconst 2, 1) := by decide +kernel
theorem d_Md_ground_48 : decode b_Md_ground 48 = .ok (.goto 4, 3) := by decide +kernel
theorem d_Md_ground_51 : decode b_Md_ground 51 = .ok (.iconst 0, 1) := by decide +kernel
theorem d_Md_ground_52 : decode b_Md_ground 52 = .ok (.putfield 103, 3) := by decide +kernel
theorem d_Md_ground_55 : decode b_Md_ground 55 = .ok (.aload_n 0, 1) := by decide +kernel
theorem d_Md_ground_56 : decode b_Md_ground 56 = .ok (.getfield 103, 3) := by decide +kernel
theorem d_Md_ground_59 : decode b_Md_ground 59 = .ok (.ifCond .le 5, 3) := by decide +kernel
theorem d_Md_ground_62 : decode b_Md_ground 62 = .ok (.iconst 0, 1) := by decide +kernel
theorem d_Md_ground_63 : decode b_Md_ground 63 = .ok (.ireturn, 1) := by decide +kernel
theorem d_Md_ground_64 : decode b_Md_ground 64 = .ok (.aload_n 0, 1) := by decide +kernel
theorem d_Md_ground_65 : decode b_Md_ground 65 = .ok (.getfield 93, 3) := by decide +kernel
theorem d_Md_ground_68 : decode b_Md_ground 68 = .ok (.aload_n 0, 1) := by decide +kernel
theorem d_Md_ground_69 : decode b_Md_ground 69 = .ok (.getfield 177, 3) := by decide +kernel
theorem d_Md_ground_72 : decode b_Md_ground 72 = .ok (.iload_n 1, 1) := by decide +kernel
theorem d_Md_ground_73 : decode b_Md_ground 73 = .ok (.iastore, 1) := by decide +kernel
theorem d_Md_ground_74 : decode b_Md_ground 74 = .ok (.aload_n 0, 1) := by decide +kernel
theorem d_Md_ground_75 : decode b_Md_ground 75 = .ok (.dup, 1) := by decide +kernel
theorem d_Md_ground_76 : decode b_Md_ground 76 = .ok (.getfield 177, 3) := by decide +kernel
theorem d_Md_ground_79 : decode b_Md_ground 79 = .ok (.iconst 1, 1) := by decide +kernel
theorem d_Md_ground_80 : decode b_Md_ground 80 = .ok (.iadd, 1) := by decide +kernel
theorem d_Md_ground_81 : decode b_Md_ground 81 = .ok (.putfield 177, 3) := by decide +kernel
theorem d_Md_ground_84 : decode b_Md_ground 84 = .ok (.aload_n 0, 1) := by decide +kernel
theorem d_Md_ground_85 : decode b_Md_ground 85 = .ok (.getfield 177, 3) := by decide +kernel
theorem d_Md_ground_88 : decode b_Md_ground 88 = .ok (.ireturn, 1) := by decide +kernel
theorem d_Md_load_0 : decode b_Md_load 0 = .ok (.aload_n 0, 1) := by decide +kernel
theorem d_Md_load_1 : decode b_Md_load 1 = .ok (.iload_n 1, 1) := by decide +kernel
theorem d_Md_load_2 : decode b_Md_load 2 = .ok (.iconst 0, 1) := by decide +kernel
theorem d_Md_load_3 : decode b_Md_load 3 = .ok (.bipush 35, 2) := by decide +kernel
theorem d_Md_load_5 : decode b_Md_load 5 = .ok (.invokestatic 106, 3) := by decide +kernel
theorem d_Md_load_8 : decode b_Md_load 8 = .ok (.ifCond .eq 20, 3) := by decide +kernel
theorem d_Md_load_11 : decode b_Md_load 11 = .ok (.iload_n 2, 1) := by decide +kernel
theorem d_Md_load_12 : decode b_Md_load 12 = .ok (.sipush (-1000), 3) := by decide +kernel
theorem d_Md_load_15 : decode b_Md_load 15 = .ok (.sipush 1000, 3) := by decide +kernel
theorem d_Md_load_18 : decode b_Md_load 18 = .ok (.invokestatic 106, 3) := by decide +kernel
theorem d_Md_load_21 : decode b_Md_load 21 = .ok (.ifCond .eq 7, 3) := by decide +kernel
theorem d_Md_load_24 : decode b_Md_load 24 = .ok (.iconst 0, 1) := by decide +kernel
theorem d_Md_load_25 : decode b_Md_load 25 = .ok (.goto 4, 3) := by decide +kernel
theorem d_Md_load_28 : decode b_Md_load 28 = .ok (.iconst 1, 1) := by decide +kernel
theorem d_Md_load_29 : decode b_Md_load 29 = .ok (.putfield 103, 3) := by decide +kernel
theorem d_Md_load_32 : decode b_Md_load 32 = .ok (.aload_n 0, 1) := by decide +kernel
theorem d_Md_load_33 : decode b_Md_load 33 = .ok (.getfield 103, 3) := by decide +kernel
theorem d_Md_load_36 : decode b_Md_load 36 = .ok (.ifCond .le 5, 3) := by decide +kernel
theorem d_Md_load_39 : decode b_Md_load 39 = .ok (.iconst 0, 1) := by decide +kernel
theorem d_Md_load_40 : decode b_Md_load 40 = .ok (.ireturn, 1) := by decide +kernel
theorem d_Md_load_41 : decode b_Md_load 41 = .ok (.aload_n 0, 1) := by decide +kernel
theorem d_Md_load_42 : decode b_Md_load 42 = .ok (.getfield 96, 3) := by decide +kernel
theorem d_Md_load_45 : decode b_Md_load 45 = .ok (.iload_n 1, 1) := by decide +kernel
theorem d_Md_load_46 : decode b_Md_load 46 = .ok (.iaload, 1) := by decide +kernel
theorem d_Md_load_47 : decode b_Md_load 47 = .ok (.istore_n 3, 1) := by decide +kernel
theorem d_Md_load_48 : decode b_Md_load 48 = .ok (.aload_n 0, 1) := by decide +kernel
theorem d_Md_load_49 : decode b_Md_load 49 = .ok (.getfield 96, 3) := by decide +kernel
theorem d_Md_load_52 : decode b_Md_load 52 = .ok (.iload_n 1, 1) := by decide +kernel
theorem d_Md_load_53 : decode b_Md_load 53 = .ok (.iload_n 2, 1) := by decide +kernel
theorem d_Md_load_54 : decode b_Md_load 54 = .ok (.iastore, 1) := by decide +kernel
theorem d_Md_load_55 : decode b_Md_load 55 = .ok (.iload_n 3, 1) := by decide +kernel
theorem d_Md_load_56 : decode b_Md_load 56 = .ok (.ireturn, 1) := by decide +kernel
theorem d_Md_fall_0 : decode b_Md_fall 0 = .ok (.aload_n 0, 1) := by decide +kernel
theorem d_Md_fall_1 : decode b_Md_fall 1 = .ok (.iload_n 1, 1) := by decide +kernel
theorem d_Md_fall_2 : decode b_Md_fall 2 = .ok (.iconst 0, 1) := by decide +kernel
theorem d_Md_fall_3 : decode b_Md_fall 3 = .ok (.bipush 35, 2) := by decide +kernel
theorem d_Md_fall_5 : decode b_Md_fall 5 = .ok (.invokestatic 106, 3) := by decide +kernel
theorem d_Md_fall_8 : decode b_Md_fall 8 = .ok (.ifCond .eq 7, 3) := by decide +kernel
theorem d_Md_fall_11 : decode b_Md_fall 11 = .ok (.iconst 0, 1) := by decide +kernel
theorem d_Md_fall_12 : decode b_Md_fall 12 = .ok (.goto 4, 3) := by decide +kernel
theorem d_Md_fall_15 : decode b_Md_fall 15 = .ok (.iconst 1, 1) := by decide +kernel
theorem d_Md_fall_16 : decode b_Md_fall 16 = .ok (.putfield 103, 3) := by decide +kernel
theorem d_Md_fall_19 : decode b_Md_fall 19 = .ok (.aload_n 0, 1) := by decide +kernel
theorem d_Md_fall_20 : decode b_Md_fall 20 = .ok (.getfield 103, 3) := by decide +kernel
theorem d_Md_fall_23 : decode b_Md_fall 23 = .ok (.ifCond .le 5, 3) := by decide +kernel
theorem d_Md_fall_26 : decode b_Md_fall 26 = .ok (.lconst 0, 1) := by decide +kernel
theorem d_Md_fall_27 : decode b_Md_fall 27 = .ok (.lreturn, 1) := by decide +kernel
theorem d_Md_fall_28 : decode b_Md_fall 28 = .ok (.lconst 0, 1) := by decide +kernel
theorem d_Md_fall_29 : decode b_Md_fall 29 = .ok (.lstore_n 2, 1) := by decide +kernel
theorem d_Md_fall_30 : decode b_Md_fall 30 = .ok (.iconst 0, 1) := by decide +kernel
theorem d_Md_fall_31 : decode b_Md_fall 31 = .ok (.istore 4, 2) := by decide +kernel
theorem d_Md_fall_33 : decode b_Md_fall 33 = .ok (.iload 4, 2) := by decide +kernel
theorem d_Md_fall_35 : decode b_Md_fall 35 = .ok (.iload_n 1, 1) := by decide +kernel
theorem d_Md_fall_36 : decode b_Md_fall 36 = .ok (.if_icmp .gt 86, 3) := by decide +kernel
theorem d_Md_fall_39 : decode b_Md_fall 39 = .ok (.aload_n 0, 1) := by decide +kernel
theorem d_Md_fall_40 : decode b_Md_fall 40 = .ok (.getfield 177, 3) := by decide +kernel
theorem d_Md_fall_43 : decode b_Md_fall 43 = .ok (.ifCond .le 79, 3) := by decide +kernel
theorem d_Md_fall_46 : decode b_Md_fall 46 = .ok (.iload_n 1, 1) := by decide +kernel
theorem d_Md_fall_47 : decode b_Md_fall 47 = .ok (.iload 4, 2) := by decide +kernel
theorem d_Md_fall_49 : decode b_Md_fall 49 = .ok (.isub, 1) := by decide +kernel
theorem d_Md_fall_50 : decode b_Md_fall 50 = .ok (.aload_n 0, 1) := by decide +kernel
theorem d_Md_fall_51 : decode b_Md_fall 51 = .ok (.getfield 177, 3) := by decide +kernel
theorem d_Md_fall_54 : decode b_Md_fall 54 = .ok (.if_icmp .ge 15, 3) := by decide +kernel
theorem d_Md_fall_57 : decode b_Md_fall 57 = .ok (.aload_n 0, 1) := by decide +kernel
theorem d_Md_fall_58 : decode b_Md_fall 58 = .ok (.getfield 93, 3) := by decide +kernel
theorem d_Md_fall_61 : decode b_Md_fall 61 = .ok (.iload_n 1, 1) := by decide +kernel
theorem d_Md_fall_62 : decode b_Md_fall 62 = .ok (.iload 4, 2) := by decide +kernel
theorem d_Md_fall_64 : decode b_Md_fall 64 = .ok (.isub, 1) := by decide +kernel
theorem d_Md_fall_65 : decode b_Md_fall 65 = .ok (.iaload, 1) := by decide +kernel
theorem d_Md_fall_66 : decode b_Md_fall 66 = .ok (.goto 14, 3) := by decide +kernel
theorem d_Md_fall_69 : decode b_Md_fall 69 = .ok (.aload_n 0, 1) := by decide +kernel
theorem d_Md_fall_70 : decode b_Md_fall 70 = .ok (.getfield 93, 3) := by decide +kernel
theorem d_Md_fall_73 : decode b_Md_fall 73 = .ok (.aload_n 0, 1) := by decide +kernel
theorem d_Md_fall_74 : decode b_Md_fall 74 = .ok (.getfield 177, 3) := by decide +kernel
theorem d_Md_fall_77 : decode b_Md_fall 77 = .ok (.iconst 1, 1) := by decide +kernel
theorem d_Md_fall_78 : decode b_Md_fall 78 = .ok (.isub, 1) := by decide +kernel
theorem d_Md_fall_79 : decode b_Md_fall 79 = .ok (.iaload, 1) := by decide +kernel
theorem d_Md_fall_80 : decode b_Md_fall 80 = .ok (.istore 5, 2) := by decide +kernel
theorem d_Md_fall_82 : decode b_Md_fall 82 = .ok (.lload_n 2, 1) := by decide +kernel
theorem d_Md_fall_83 : decode b_Md_fall 83 = .ok (.aload_n 0, 1) := by decide +kernel
theorem d_Md_fall_84 : decode b_Md_fall 84 = .ok (.getfield 96, 3) := by decide +kernel
theorem d_Md_fall_87 : decode b_Md_fall 87 = .ok (.iload 4, 2) := by decide +kernel
theorem d_Md_fall_89 : decode b_Md_fall 89 = .ok (.iaload, 1) := by decide +kernel
theorem d_Md_fall_90 : decode b_Md_fall 90 = .ok (.iload 4, 2) := by decide +kernel
theorem d_Md_fall_92 : decode b_Md_fall 92 = .ok (.ifCond .ne 7, 3) := by decide +kernel
theorem d_Md_fall_95 : decode b_Md_fall 95 = .ok (.iconst 0, 1) := by decide +kernel
theorem d_Md_fall_96 : decode b_Md_fall 96 = .ok (.goto 12, 3) := by decide +kernel
theorem d_Md_fall_99 : decode b_Md_fall 99 = .ok (.aload_n 0, 1) := by decide +kernel
theorem d_Md_fall_100 : decode b_Md_fall 100 = .ok (.getfield 96, 3) := by decide +kernel
theorem d_Md_fall_103 : decode b_Md_fall 103 = .ok (.iload 4, 2) := by decide +kernel
theorem d_Md_fall_105 : decode b_Md_fall 105 = .ok (.iconst 1, 1) := by decide +kernel
theorem d_Md_fall_106 : decode b_Md_fall 106 = .ok (.isub, 1) := by decide +kernel
theorem d_Md_fall_107 : decode b_Md_fall 107 = .ok (.iaload, 1) := by decide +kernel
theorem d_Md_fall_108 : decode b_Md_fall 108 = .ok (.isub, 1) := by decide +kernel
theorem d_Md_fall_109 : decode b_Md_fall 109 = .ok (.i2l, 1) := by decide +kernel
theorem d_Md_fall_110 : decode b_Md_fall 110 = .ok (.iload 5, 2) := by decide +kernel
theorem d_Md_fall_112 : decode b_Md_fall 112 = .ok (.i2l, 1) := by decide +kernel
theorem d_Md_fall_113 : decode b_Md_fall 113 = .ok (.lmul, 1) := by decide +kernel
theorem d_Md_fall_114 : decode b_Md_fall 114 = .ok (.ladd, 1) := by decide +kernel
theorem d_Md_fall_115 : decode b_Md_fall 115 = .ok (.lstore_n 2, 1) := by decide +kernel
theorem d_Md_fall_116 : decode b_Md_fall 116 = .ok (.iinc 4 1, 3) := by decide +kernel
theorem d_Md_fall_119 : decode b_Md_fall 119 = .ok (.goto (-86), 3) := by decide +kernel
theorem d_Md_fall_122 : decode b_Md_fall 122 = .ok (.lload_n 2, 1) := by decide +kernel
theorem d_Md_fall_123 : decode b_Md_fall 123 = .ok (.lreturn, 1) := by decide +kernel
