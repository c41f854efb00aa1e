-- the program's names, words and instructions, as printed by TURN
set_option maxRecDepth 20000 in
theorem ggX10_init_X10_sine : GoodIn wsX10_init wsX10_sine := goodIn_r _ [16, 10, 17, 18, 19, 20, 21, 22, 23, 24, 25, 26, 27, 28, 29, 30, 31] (by decide +kernel) (by decide +kernel)
set_option maxRecDepth 20000 in
theorem gX10_init_X10_sine : GoodIn wsX10_init (wsV RX10 31 RX10 yX10_sine wsX10_sine) := goodIn_app (goodIn_of _ (by decide +kernel)) ggX10_init_X10_sine
theorem dX10_init_0 : decode cX10_init 0 = .ok (.aload_n 0, 1) := by decide +kernel
theorem dX10_init_1 : decode cX10_init 1 = .ok (.invokespecial 1, 3) := by decide +kernel
theorem dX10_init_4 : decode cX10_init 4 = .ok (.aload_n 0, 1) := by decide +kernel
theorem dX10_init_5 : decode cX10_init 5 = .ok (.sipush 289, 3) := by decide +kernel
theorem dX10_init_8 : decode cX10_init 8 = .ok (.newarray .int, 2) := by decide +kernel
theorem dX10_init_10 : decode cX10_init 10 = .ok (.putfield 7, 3) := by decide +kernel
theorem dX10_init_13 : decode cX10_init 13 = .ok (.aload_n 0, 1) := by decide +kernel
theorem dX10_init_14 : decode cX10_init 14 = .ok (.sipush 1445, 3) := by decide +kernel
theorem dX10_init_17 : decode cX10_init 17 = .ok (.newarray .int, 2) := by decide +kernel
theorem dX10_init_19 : decode cX10_init 19 = .ok (.putfield 13, 3) := by decide +kernel
theorem dX10_init_22 : decode cX10_init 22 = .ok (.aload_n 0, 1) := by decide +kernel
theorem dX10_init_23 : decode cX10_init 23 = .ok (.sipush 289, 3) := by decide +kernel
theorem dX10_init_26 : decode cX10_init 26 = .ok (.newarray .int, 2) := by decide +kernel
theorem dX10_init_28 : decode cX10_init 28 = .ok (.putfield 16, 3) := by decide +kernel
theorem dX10_init_31 : decode cX10_init 31 = .ok (.aload_n 0, 1) := by decide +kernel
theorem dX10_init_32 : decode cX10_init 32 = .ok (.sipush 289, 3) := by decide +kernel
theorem dX10_init_35 : decode cX10_init 35 = .ok (.newarray .int, 2) := by decide +kernel
theorem dX10_init_37 : decode cX10_init 37 = .ok (.putfield 19, 3) := by decide +kernel
theorem dX10_init_40 : decode cX10_init 40 = .ok (.aload_n 0, 1) := by decide +kernel
theorem dX10_init_41 : decode cX10_init 41 = .ok (.bipush 120, 2) := by decide +kernel
theorem dX10_init_43 : decode cX10_init 43 = .ok (.newarray .int, 2) := by decide +kernel
theorem dX10_init_45 : decode cX10_init 45 = .ok (.putfield 22, 3) := by decide +kernel
theorem dX10_init_48 : decode cX10_init 48 = .ok (.aload_n 0, 1) := by decide +kernel
theorem dX10_init_49 : decode cX10_init 49 = .ok (.bipush 64, 2) := by decide +kernel
theorem dX10_init_51 : decode cX10_init 51 = .ok (.newarray .int, 2) := by decide +kernel
theorem dX10_init_53 : decode cX10_init 53 = .ok (.putfield 25, 3) := by decide +kernel
theorem dX10_init_56 : decode cX10_init 56 = .ok (.aload_n 0, 1) := by decide +kernel
theorem dX10_init_57 : decode cX10_init 57 = .ok (.bipush 64, 2) := by decide +kernel
theorem dX10_init_59 : decode cX10_init 59 = .ok (.newarray .int, 2) := by decide +kernel
theorem dX10_init_61 : decode cX10_init 61 = .ok (.putfield 28, 3) := by decide +kernel
theorem dX10_init_64 : decode cX10_init 64 = .ok (.aload_n 0, 1) := by decide +kernel
theorem dX10_init_65 : decode cX10_init 65 = .ok (.iconst 0, 1) := by decide +kernel
theorem dX10_init_66 : decode cX10_init 66 = .ok (.iconst 0, 1) := by decide +kernel
theorem dX10_init_67 : decode cX10_init 67 = .ok (.bipush 98, 2) := by decide +kernel
theorem dX10_init_69 : decode cX10_init 69 = .ok (.sipush 195, 3) := by decide +kernel
theorem dX10_init_72 : decode cX10_init 72 = .ok (.sipush 290, 3) := by decide +kernel
theorem dX10_init_75 : decode cX10_init 75 = .ok (.invokevirtual 31, 3) := by decide +kernel
theorem dX10_init_78 : decode cX10_init 78 = .ok (.aload_n 0, 1) := by decide +kernel
theorem dX10_init_79 : decode cX10_init 79 = .ok (.iconst 4, 1) := by decide +kernel
theorem dX10_init_80 : decode cX10_init 80 = .ok (.sipush 383, 3) := by decide +kernel
theorem dX10_init_83 : decode cX10_init 83 = .ok (.sipush 471, 3) := by decide +kernel
theorem dX10_init_86 : decode cX10_init 86 = .ok (.sipush 556, 3) := by decide +kernel
theorem dX10_init_89 : decode cX10_init 89 = .ok (.sipush 634, 3) := by decide +kernel
theorem dX10_init_92 : decode cX10_init 92 = .ok (.invokevirtual 31, 3) := by decide +kernel
theorem dX10_init_95 : decode cX10_init 95 = .ok (.aload_n 0, 1) := by decide +kernel
theorem dX10_init_96 : decode cX10_init 96 = .ok (.bipush 8, 2) := by decide +kernel
theorem dX10_init_98 : decode cX10_init 98 = .ok (.sipush 707, 3) := by decide +kernel
theorem dX10_init_101 : decode cX10_init 101 = .ok (.sipush 773, 3) := by decide +kernel
theorem dX10_init_104 : decode cX10_init 104 = .ok (.sipush 831, 3) := by decide +kernel
theorem dX10_init_107 : decode cX10_init 107 = .ok (.sipush 882, 3) := by decide +kernel
theorem dX10_init_110 : decode cX10_init 110 = .ok (.invokevirtual 31, 3) := by decide +kernel
theorem dX10_init_113 : decode cX10_init 113 = .ok (.aload_n 0, 1) := by decide +kernel
theorem dX10_init_114 : decode cX10_init 114 = .ok (.bipush 12, 2) := by decide +kernel
theorem dX10_init_116 : decode cX10_init 116 = .ok (.sipush 924, 3) := by decide +kernel
theorem dX10_init_119 : decode cX10_init 119 = .ok (.sipush 957, 3) := by decide +kernel
theorem dX10_init_122 : decode cX10_init 122 = .ok (.sipush 981, 3) := by decide +kernel
theorem dX10_init_125 : decode cX10_init 125 = .ok (.sipush 995, 3) := by decide +kernel
theorem dX10_init_128 : decode cX10_init 128 = .ok (.invokevirtual 31, 3) := by decide +kernel
theorem dX10_init_131 : decode cX10_init 131 = .ok (.aload_n 0, 1) := by decide +kernel
theorem dX10_init_132 : decode cX10_init 132 = .ok (.getfield 25, 3) := by decide +kernel
theorem dX10_init_135 : decode cX10_init 135 = .ok (.bipush 16, 2) := by decide +kernel
theorem dX10_init_137 : decode cX10_init 137 = .ok (.sipush 1000, 3) := by decide +kernel
theorem dX10_init_140 : decode cX10_init 140 = .ok (.iastore, 1) := by decide +kernel
theorem dX10_init_141 : decode cX10_init 141 = .ok (.iconst 1, 1) := by decide +kernel
theorem dX10_init_142 : decode cX10_init 142 = .ok (.istore_n 1, 1) := by decide +kernel
theorem dX10_init_143 : decode cX10_init 143 = .ok (.iload_n 1, 1) := by decide +kernel
theorem dX10_init_144 : decode cX10_init 144 = .ok (.bipush 16, 2) := by decide +kernel
theorem dX10_init_146 : decode cX10_init 146 = .ok (.if_icmp .ge 24, 3) := by decide +kernel
theorem dX10_init_149 : decode cX10_init 149 = .ok (.aload_n 0, 1) := by decide +kernel
theorem dX10_init_150 : decode cX10_init 150 = .ok (.getfield 25, 3) := by decide +kernel
theorem dX10_init_153 : decode cX10_init 153 = .ok (.bipush 32, 2) := by decide +kernel
theorem dX10_init_155 : decode cX10_init 155 = .ok (.iload_n 1, 1) := by decide +kernel
theorem dX10_init_156 : decode cX10_init 156 = .ok (.isub, 1) := by decide +kernel
theorem dX10_init_157 : decode cX10_init 157 = .ok (.aload_n 0, 1) := by decide +kernel
theorem dX10_init_158 : decode cX10_init 158 = .ok (.getfield 25, 3) := by decide +kernel
theorem dX10_init_161 : decode cX10_init 161 = .ok (.iload_n 1, 1) := by decide +kernel
theorem dX10_init_162 : decode cX10_init 162 = .ok (.iaload, 1) := by decide +kernel
theorem dX10_init_163 : decode cX10_init 163 = .ok (.iastore, 1) := by decide +kernel
theorem dX10_init_164 : decode cX10_init 164 = .ok (.iinc 1 1, 3) := by decide +kernel
theorem dX10_init_167 : decode cX10_init 167 = .ok (.goto (-24), 3) := by decide +kernel
theorem dX10_init_170 : decode cX10_init 170 = .ok (.iconst 0, 1) := by decide +kernel
theorem dX10_init_171 : decode cX10_init 171 = .ok (.istore_n 1, 1) := by decide +kernel
theorem dX10_init_172 : decode cX10_init 172 = .ok (.iload_n 1, 1) := by decide +kernel
theorem dX10_init_173 : decode cX10_init 173 = .ok (.bipush 32, 2) := by decide +kernel
theorem dX10_init_175 : decode cX10_init 175 = .ok (.if_icmp .ge 42, 3) := by decide +kernel
theorem dX10_init_178 : decode cX10_init 178 = .ok (.aload_n 0, 1) := by decide +kernel
theorem dX10_init_179 : decode cX10_init 179 = .ok (.getfield 25, 3) := by decide +kernel
theorem dX10_init_182 : decode cX10_init 182 = .ok (.bipush 32, 2) := by decide +kernel
theorem dX10_init_184 : decode cX10_init 184 = .ok (.iload_n 1, 1) := by decide +kernel
theorem dX10_init_185 : decode cX10_init 185 = .ok (.iadd, 1) := by decide +kernel
theorem dX10_init_186 : decode cX10_init 186 = .ok (.aload_n 0, 1) := by decide +kernel
theorem dX10_init_187 : decode cX10_init 187 = .ok (.getfield 25, 3) := by decide +kernel
theorem dX10_init_190 : decode cX10_init 190 = .ok (.iload_n 1, 1) := by decide +kernel
theorem dX10_init_191 : decode cX10_init 191 = .ok (.iaload, 1) := by decide +kernel
theorem dX10_init_192 : decode cX10_init 192 = .ok (.ineg, 1) := by decide +kernel
theorem dX10_init_193 : decode cX10_init 193 = .ok (.iastore, 1) := by decide +kernel
theorem dX10_init_194 : decode cX10_init 194 = .ok (.aload_n 0, 1) := by decide +kernel
theorem dX10_init_195 : decode cX10_init 195 = .ok (.getfield 7, 3) := by decide +kernel
theorem dX10_init_198 : decode cX10_init 198 = .ok (.iload_n 1, 1) := by decide +kernel
theorem dX10_init_199 : decode cX10_init 199 = .ok (.iconst 1, 1) := by decide +kernel
theorem dX10_init_200 : decode cX10_init 200 = .ok (.iastore, 1) := by decide +kernel
theorem dX10_init_201 : decode cX10_init 201 = .ok (.aload_n 0, 1) := by decide +kernel
theorem dX10_init_202 : decode cX10_init 202 = .ok (.getfield 7, 3) := by decide +kernel
theorem dX10_init_205 : decode cX10_init 205 = .ok (.bipush 32, 2) := by decide +kernel
theorem dX10_init_207 : decode cX10_init 207 = .ok (.iload_n 1, 1) := by decide +kernel
theorem dX10_init_208 : decode cX10_init 208 = .ok (.iadd, 1) := by decide +kernel
theorem dX10_init_209 : decode cX10_init 209 = .ok (.iconst 1, 1) := by decide +kernel
theorem dX10_init_210 : decode cX10_init 210 = .ok (.iastore, 1) := by decide +kernel
theorem dX10_init_211 : decode cX10_init 211 = .ok (.iinc 1 1, 3) := by decide +kernel
theorem dX10_init_214 : decode cX10_init 214 = .ok (.goto (-42), 3) := by decide +kernel
theorem dX10_init_217 : decode cX10_init 217 = .ok (.aload_n 0, 1) := by decide +kernel
theorem dX10_init_218 : decode cX10_init 218 = .ok (.getfield 7, 3) := by decide +kernel
theorem dX10_init_221 : decode cX10_init 221 = .ok (.bipush 64, 2) := by decide +kernel
theorem dX10_init_223 : decode cX10_init 223 = .ok (.iconst 1, 1) := by decide +kernel
theorem dX10_init_224 : decode cX10_init 224 = .ok (.iastore, 1) := by decide +kernel
theorem dX10_init_225 : decode cX10_init 225 = .ok (.aload_n 0, 1) := by decide +kernel
theorem dX10_init_226 : decode cX10_init 226 = .ok (.getfield 7, 3) := by decide +kernel
theorem dX10_init_229 : decode cX10_init 229 = .ok (.bipush 65, 2) := by decide +kernel
theorem dX10_init_231 : decode cX10_init 231 = .ok (.iconst 2, 1) := by decide +kernel
theorem dX10_init_232 : decode cX10_init 232 = .ok (.iastore, 1) := by decide +kernel
theorem dX10_init_233 : decode cX10_init 233 = .ok (.aload_n 0, 1) := by decide +kernel
theorem dX10_init_234 : decode cX10_init 234 = .ok (.getfield 7, 3) := by decide +kernel
theorem dX10_init_237 : decode cX10_init 237 = .ok (.bipush 66, 2) := by decide +kernel
theorem dX10_init_239 : decode cX10_init 239 = .ok (.iconst 2, 1) := by decide +kernel
theorem dX10_init_240 : decode cX10_init 240 = .ok (.iastore, 1) := by decide +kernel
theorem dX10_init_241 : decode cX10_init 241 = .ok (.aload_n 0, 1) := by decide +kernel
theorem dX10_init_242 : decode cX10_init 242 = .ok (.getfield 7, 3) := by decide +kernel
theorem dX10_init_245 : decode cX10_init 245 = .ok (.bipush 114, 2) := by decide +kernel
theorem dX10_init_247 : decode cX10_init 247 = .ok (.iconst 3, 1) := by decide +kernel
theorem dX10_init_248 : decode cX10_init 248 = .ok (.iastore, 1) := by decide +kernel
theorem dX10_init_249 : decode cX10_init 249 = .ok (.aload_n 0, 1) := by decide +kernel
theorem dX10_init_250 : decode cX10_init 250 = .ok (.getfield 7, 3) := by decide +kernel
theorem dX10_init_253 : decode cX10_init 253 = .ok (.bipush 115, 2) := by decide +kernel
theorem dX10_init_255 : decode cX10_init 255 = .ok (.bipush 50, 2) := by decide +kernel
theorem dX10_init_257 : decode cX10_init 257 = .ok (.iastore, 1) := by decide +kernel
theorem dX10_init_258 : decode cX10_init 258 = .ok (.return_, 1) := by decide +kernel
theorem dX10_sine_0 : decode cX10_sine 0 = .ok (.aload_n 0, 1) := by decide +kernel
theorem dX10_sine_1 : decode cX10_sine 1 = .ok (.getfield 25, 3) := by decide +kernel
theorem dX10_sine_4 : decode cX10_sine 4 = .ok (.iload_n 1, 1) := by decide +kernel
theorem dX10_sine_5 : decode cX10_sine 5 = .ok (.iload_n 2, 1) := by decide +kernel
theorem dX10_sine_6 : decode cX10_sine 6 = .ok (.iastore, 1) := by decide +kernel
theorem dX10_sine_7 : decode cX10_sine 7 = .ok (.aload_n 0, 1) := by decide +kernel
theorem dX10_sine_8 : decode cX10_sine 8 = .ok (.getfield 25, 3) := by decide +kernel
theorem dX10_sine_11 : decode cX10_sine 11 = .ok (.iload_n 1, 1) := by decide +kernel
theorem dX10_sine_12 : decode cX10_sine 12 = .ok (.iconst 1, 1) := by decide +kernel
theorem dX10_sine_13 : decode cX10_sine 13 = .ok (.iadd, 1) := by decide +kernel
theorem dX10_sine_14 : decode cX10_sine 14 = .ok (.iload_n 3, 1) := by decide +kernel
theorem dX10_sine_15 : decode cX10_sine 15 = .ok (.iastore, 1) := by decide +kernel
theorem dX10_sine_16 : decode cX10_sine 16 = .ok (.aload_n 0, 1) := by decide +kernel
theorem dX10_sine_17 : decode cX10_sine 17 = .ok (.getfield 25, 3) := by decide +kernel
theorem dX10_sine_20 : decode cX10_sine 20 = .ok (.iload_n 1, 1) := by decide +kernel
theorem dX10_sine_21 : decode cX10_sine 21 = .ok (.iconst 2, 1) := by decide +kernel
theorem dX10_sine_22 : decode cX10_sine 22 = .ok (.iadd, 1) := by decide +kernel
theorem dX10_sine_23 : decode cX10_sine 23 = .ok (.iload 4, 2) := by decide +kernel
theorem dX10_sine_25 : decode cX10_sine 25 = .ok (.iastore, 1) := by decide +kernel
theorem dX10_sine_26 : decode cX10_sine 26 = .ok (.aload_n 0, 1) := by decide +kernel
theorem dX10_sine_27 : decode cX10_sine 27 = .ok (.getfield 25, 3) := by decide +kernel
theorem dX10_sine_30 : decode cX10_sine 30 = .ok (.iload_n 1, 1) := by decide +kernel
theorem dX10_sine_31 : decode cX10_sine 31 = .ok (.iconst 3, 1) := by decide +kernel
theorem dX10_sine_32 : decode cX10_sine 32 = .ok (.iadd, 1) := by decide +kernel
theorem dX10_sine_33 : decode cX10_sine 33 = .ok (.iload 5, 2) := by decide +kernel
theorem dX10_sine_35 : decode cX10_sine 35 = .ok (.iastore, 1) := by decide +kernel
theorem dX10_sine_36 : decode cX10_sine 36 = .ok (.return_, 1) := by decide +kernel
theorem dX10_within_0 : decode cX10_within 0 = .ok (.iload_n 0, 1) := by decide +kernel
theorem dX10_within_1 : decode cX10_within 1 = .ok (.iload_n 1, 1) := by decide +kernel
theorem dX10_within_2 : decode cX10_within 2 = .ok (.if_icmp .lt 12, 3) := by decide +kernel
theorem dX10_within_5 : decode cX10_within 5 = .ok (.iload_n 0, 1) := by decide +kernel
theorem dX10_within_6 : decode cX10_within 6 = .ok (.iload_n 2, 1) := by decide +kernel
theorem dX10_within_7 : decode cX10_within 7 = .ok (.if_icmp .gt 7, 3) := by decide +kernel
theorem dX10_within_10 : decode cX10_within 10 = .ok (.iconst 1, 1) := by decide +kernel
theorem dX10_within_11 : decode cX10_within 11 = .ok (.goto 4, 3) := by decide +kernel
theorem dX10_within_14 : decode cX10_within 14 = .ok (.iconst 0, 1) := by decide +kernel
theorem dX10_within_15 : decode cX10_within 15 = .ok (.ireturn, 1) := by decide +kernel
theorem dX10_bring_0 : decode cX10_bring 0 = .ok (.iconst 0, 1) := by decide +kernel
theorem dX10_bring_1 : decode cX10_bring 1 = .ok (.istore 4, 2) := by decide +kernel
theorem dX10_bring_3 : decode cX10_bring 3 = .ok (.iload 4, 2) := by decide +kernel
theorem dX10_bring_5 : decode cX10_bring 5 = .ok (.sipush 289, 3) := by decide +kernel
theorem dX10_bring_8 : decode cX10_bring 8 = .ok (.if_icmp .ge 21, 3) := by decide +kernel
theorem dX10_bring_11 : decode cX10_bring 11 = .ok (.aload_n 2, 1) := by decide +kernel
theorem dX10_bring_12 : decode cX10_bring 12 = .ok (.iload_n 3, 1) := by decide +kernel
theorem dX10_bring_13 : decode cX10_bring 13 = .ok (.iload 4, 2) := by decide +kernel
theorem dX10_bring_15 : decode cX10_bring 15 = .ok (.iadd, 1) := by decide +kernel
theorem dX10_bring_16 : decode cX10_bring 16 = .ok (.aload_n 0, 1) := by decide +kernel
theorem dX10_bring_17 : decode cX10_bring 17 = .ok (.iload_n 1, 1) := by decide +kernel
theorem dX10_bring_18 : decode cX10_bring 18 = .ok (.iload 4, 2) := by decide +kernel
theorem dX10_bring_20 : decode cX10_bring 20 = .ok (.iadd, 1) := by decide +kernel
theorem dX10_bring_21 : decode cX10_bring 21 = .ok (.iaload, 1) := by decide +kernel
theorem dX10_bring_22 : decode cX10_bring 22 = .ok (.iastore, 1) := by decide +kernel
theorem dX10_bring_23 : decode cX10_bring 23 = .ok (.iinc 4 1, 3) := by decide +kernel
theorem dX10_bring_26 : decode cX10_bring 26 = .ok (.goto (-23), 3) := by decide +kernel
theorem dX10_bring_29 : decode cX10_bring 29 = .ok (.return_, 1) := by decide +kernel
set_option maxRecDepth 20000 in
theorem ggX10_saves_X10_bring : GoodIn wsX10_saves wsX10_bring := goodIn_r _ [7] (by decide +kernel) (by decide +kernel)
set_option maxRecDepth 20000 in
theorem gX10_saves_X10_bring : GoodIn wsX10_saves (va_wsS RX10 39 yX10_bring wsX10_bring) := goodIn_app (goodIn_of _ (by decide +kernel)) ggX10_saves_X10_bring
theorem dX10_saves_0 : decode cX10_saves 0 = .ok (.aload_n 0, 1) := by decide +kernel
theorem dX10_saves_1 : decode cX10_saves 1 = .ok (.getfield 35, 3) := by decide +kernel
theorem dX10_saves_4 : decode cX10_saves 4 = .ok (.iconst 5, 1) := by decide +kernel
theorem dX10_saves_5 : decode cX10_saves 5 = .ok (.if_icmp .ne 44, 3) := by decide +kernel
theorem dX10_saves_8 : decode cX10_saves 8 = .ok (.iconst 0, 1) := by decide +kernel
theorem dX10_saves_9 : decode cX10_saves 9 = .ok (.istore_n 1, 1) := by decide +kernel
theorem dX10_saves_10 : decode cX10_saves 10 = .ok (.iload_n 1, 1) := by decide +kernel
theorem dX10_saves_11 : decode cX10_saves 11 = .ok (.sipush 1156, 3) := by decide +kernel
theorem dX10_saves_14 : decode cX10_saves 14 = .ok (.if_icmp .ge 25, 3) := by decide +kernel
theorem dX10_saves_17 : decode cX10_saves 17 = .ok (.aload_n 0, 1) := by decide +kernel
theorem dX10_saves_18 : decode cX10_saves 18 = .ok (.getfield 13, 3) := by decide +kernel
theorem dX10_saves_21 : decode cX10_saves 21 = .ok (.iload_n 1, 1) := by decide +kernel
theorem dX10_saves_22 : decode cX10_saves 22 = .ok (.aload_n 0, 1) := by decide +kernel
theorem dX10_saves_23 : decode cX10_saves 23 = .ok (.getfield 13, 3) := by decide +kernel
theorem dX10_saves_26 : decode cX10_saves 26 = .ok (.iload_n 1, 1) := by decide +kernel
theorem dX10_saves_27 : decode cX10_saves 27 = .ok (.sipush 289, 3) := by decide +kernel
theorem dX10_saves_30 : decode cX10_saves 30 = .ok (.iadd, 1) := by decide +kernel
theorem dX10_saves_31 : decode cX10_saves 31 = .ok (.iaload, 1) := by decide +kernel
theorem dX10_saves_32 : decode cX10_saves 32 = .ok (.iastore, 1) := by decide +kernel
theorem dX10_saves_33 : decode cX10_saves 33 = .ok (.iinc 1 1, 3) := by decide +kernel
theorem dX10_saves_36 : decode cX10_saves 36 = .ok (.goto (-26), 3) := by decide +kernel
theorem dX10_saves_39 : decode cX10_saves 39 = .ok (.aload_n 0, 1) := by decide +kernel
theorem dX10_saves_40 : decode cX10_saves 40 = .ok (.dup, 1) := by decide +kernel
theorem dX10_saves_41 : decode cX10_saves 41 = .ok (.getfield 35, 3) := by decide +kernel
theorem dX10_saves_44 : decode cX10_saves 44 = .ok (.iconst 1, 1) := by decide +kernel
theorem dX10_saves_45 : decode cX10_saves 45 = .ok (.isub, 1) := by decide +kernel
theorem dX10_saves_46 : decode cX10_saves 46 = .ok (.putfield 35, 3) := by decide +kernel
theorem dX10_saves_49 : decode cX10_saves 49 = .ok (.aload_n 0, 1) := by decide +kernel
theorem dX10_saves_50 : decode cX10_saves 50 = .ok (.getfield 7, 3) := by decide +kernel
theorem dX10_saves_53 : decode cX10_saves 53 = .ok (.iconst 0, 1) := by decide +kernel
theorem dX10_saves_54 : decode cX10_saves 54 = .ok (.aload_n 0, 1) := by decide +kernel
theorem dX10_saves_55 : decode cX10_saves 55 = .ok (.getfield 13, 3) := by decide +kernel
theorem dX10_saves_58 : decode cX10_saves 58 = .ok (.sipush 289, 3) := by decide +kernel
theorem dX10_saves_61 : decode cX10_saves 61 = .ok (.aload_n 0, 1) := by decide +kernel
theorem dX10_saves_62 : decode cX10_saves 62 = .ok (.getfield 35, 3) := by decide +kernel
theorem dX10_saves_65 : decode cX10_saves 65 = .ok (.imul, 1) := by decide +kernel
theorem dX10_saves_66 : decode cX10_saves 66 = .ok (.invokestatic 39, 3) := by decide +kernel
theorem dX10_saves_69 : decode cX10_saves 69 = .ok (.aload_n 0, 1) := by decide +kernel
theorem dX10_saves_70 : decode cX10_saves 70 = .ok (.dup, 1) := by decide +kernel
theorem dX10_saves_71 : decode cX10_saves 71 = .ok (.getfield 35, 3) := by decide +kernel
theorem dX10_saves_74 : decode cX10_saves 74 = .ok (.iconst 1, 1) := by decide +kernel
theorem dX10_saves_75 : decode cX10_saves 75 = .ok (.iadd, 1) := by decide +kernel
theorem dX10_saves_76 : decode cX10_saves 76 = .ok (.putfield 35, 3) := by decide +kernel
theorem dX10_saves_79 : decode cX10_saves 79 = .ok (.return_, 1) := by decide +kernel
set_option maxRecDepth 20000 in
theorem ggX10_undo_X10_bring : GoodIn wsX10_undo wsX10_bring := goodIn_r _ [7] (by decide +kernel) (by decide +kernel)
set_option maxRecDepth 20000 in
theorem gX10_undo_X10_bring : GoodIn wsX10_undo (va_wsS RX10 39 yX10_bring wsX10_bring) := goodIn_app (goodIn_of _ (by decide +kernel)) ggX10_undo_X10_bring
theorem dX10_undo_0 : decode cX10_undo 0 = .ok (.aload_n 0, 1) := by decide +kernel
theorem dX10_undo_1 : decode cX10_undo 1 = .ok (.getfield 35, 3) := by decide +kernel
theorem dX10_undo_4 : decode cX10_undo 4 = .ok (.ifCond .ne 6, 3) := by decide +kernel
theorem dX10_undo_7 : decode cX10_undo 7 = .ok (.bipush (-2), 2) := by decide +kernel
theorem dX10_undo_9 : decode cX10_undo 9 = .ok (.ireturn, 1) := by decide +kernel
theorem dX10_undo_10 : decode cX10_undo 10 = .ok (.aload_n 0, 1) := by decide +kernel
theorem dX10_undo_11 : decode cX10_undo 11 = .ok (.dup, 1) := by decide +kernel
theorem dX10_undo_12 : decode cX10_undo 12 = .ok (.getfield 35, 3) := by decide +kernel
theorem dX10_undo_15 : decode cX10_undo 15 = .ok (.iconst 1, 1) := by decide +kernel
theorem dX10_undo_16 : decode cX10_undo 16 = .ok (.isub, 1) := by decide +kernel
theorem dX10_undo_17 : decode cX10_undo 17 = .ok (.putfield 35, 3) := by decide +kernel
theorem dX10_undo_20 : decode cX10_undo 20 = .ok (.aload_n 0, 1) := by decide +kernel
theorem dX10_undo_21 : decode cX10_undo 21 = .ok (.getfield 13, 3) := by decide +kernel
theorem dX10_undo_24 : decode cX10_undo 24 = .ok (.sipush 289, 3) := by decide +kernel
theorem dX10_undo_27 : decode cX10_undo 27 = .ok (.aload_n 0, 1) := by decide +kernel
theorem dX10_undo_28 : decode cX10_undo 28 = .ok (.getfield 35, 3) := by decide +kernel
theorem dX10_undo_31 : decode cX10_undo 31 = .ok (.imul, 1) := by decide +kernel
theorem dX10_undo_32 : decode cX10_undo 32 = .ok (.aload_n 0, 1) := by decide +kernel
theorem dX10_undo_33 : decode cX10_undo 33 = .ok (.getfield 7, 3) := by decide +kernel
theorem dX10_undo_36 : decode cX10_undo 36 = .ok (.iconst 0, 1) := by decide +kernel
theorem dX10_undo_37 : decode cX10_undo 37 = .ok (.invokestatic 39, 3) := by decide +kernel
theorem dX10_undo_40 : decode cX10_undo 40 = .ok (.aload_n 0, 1) := by decide +kernel
theorem dX10_undo_41 : decode cX10_undo 41 = .ok (.getfield 35, 3) := by decide +kernel
theorem dX10_undo_44 : decode cX10_undo 44 = .ok (.ireturn, 1) := by decide +kernel
theorem dX10_paints_0 : decode cX10_paints 0 = .ok (.iconst 0, 1) := by decide +kernel
theorem dX10_paints_1 : decode cX10_paints 1 = .ok (.istore 4, 2) := by decide +kernel
theorem dX10_paints_3 : decode cX10_paints 3 = .ok (.iload_n 3, 1) := by decide +kernel
theorem dX10_paints_4 : decode cX10_paints 4 = .ok (.iload_n 2, 1) := by decide +kernel
theorem dX10_paints_5 : decode cX10_paints 5 = .ok (.isub, 1) := by decide +kernel
theorem dX10_paints_6 : decode cX10_paints 6 = .ok (.bipush 64, 2) := by decide +kernel
theorem dX10_paints_8 : decode cX10_paints 8 = .ok (.iadd, 1) := by decide +kernel
theorem dX10_paints_9 : decode cX10_paints 9 = .ok (.bipush 64, 2) := by decide +kernel
theorem dX10_paints_11 : decode cX10_paints 11 = .ok (.irem, 1) := by decide +kernel
theorem dX10_paints_12 : decode cX10_paints 12 = .ok (.iconst 1, 1) := by decide +kernel
theorem dX10_paints_13 : decode cX10_paints 13 = .ok (.iadd, 1) := by decide +kernel
theorem dX10_paints_14 : decode cX10_paints 14 = .ok (.istore 5, 2) := by decide +kernel
theorem dX10_paints_16 : decode cX10_paints 16 = .ok (.iconst 0, 1) := by decide +kernel
theorem dX10_paints_17 : decode cX10_paints 17 = .ok (.istore 6, 2) := by decide +kernel
theorem dX10_paints_19 : decode cX10_paints 19 = .ok (.iload 6, 2) := by decide +kernel
theorem dX10_paints_21 : decode cX10_paints 21 = .ok (.iload 5, 2) := by decide +kernel
theorem dX10_paints_23 : decode cX10_paints 23 = .ok (.if_icmp .ge 47, 3) := by decide +kernel
theorem dX10_paints_26 : decode cX10_paints 26 = .ok (.iload_n 2, 1) := by decide +kernel
theorem dX10_paints_27 : decode cX10_paints 27 = .ok (.iload 6, 2) := by decide +kernel
theorem dX10_paints_29 : decode cX10_paints 29 = .ok (.iadd, 1) := by decide +kernel
theorem dX10_paints_30 : decode cX10_paints 30 = .ok (.bipush 64, 2) := by decide +kernel
theorem dX10_paints_32 : decode cX10_paints 32 = .ok (.irem, 1) := by decide +kernel
theorem dX10_paints_33 : decode cX10_paints 33 = .ok (.istore 7, 2) := by decide +kernel
theorem dX10_paints_35 : decode cX10_paints 35 = .ok (.iload 4, 2) := by decide +kernel
theorem dX10_paints_37 : decode cX10_paints 37 = .ok (.aload_n 0, 1) := by decide +kernel
theorem dX10_paints_38 : decode cX10_paints 38 = .ok (.getfield 7, 3) := by decide +kernel
theorem dX10_paints_41 : decode cX10_paints 41 = .ok (.iload 7, 2) := by decide +kernel
theorem dX10_paints_43 : decode cX10_paints 43 = .ok (.iaload, 1) := by decide +kernel
theorem dX10_paints_44 : decode cX10_paints 44 = .ok (.iload_n 1, 1) := by decide +kernel
theorem dX10_paints_45 : decode cX10_paints 45 = .ok (.if_icmp .ne 7, 3) := by decide +kernel
theorem dX10_paints_48 : decode cX10_paints 48 = .ok (.iconst 0, 1) := by decide +kernel
theorem dX10_paints_49 : decode cX10_paints 49 = .ok (.goto 4, 3) := by decide +kernel
theorem dX10_paints_52 : decode cX10_paints 52 = .ok (.iconst 1, 1) := by decide +kernel
theorem dX10_paints_53 : decode cX10_paints 53 = .ok (.iadd, 1) := by decide +kernel
theorem dX10_paints_54 : decode cX10_paints 54 = .ok (.istore 4, 2) := by decide +kernel
theorem dX10_paints_56 : decode cX10_paints 56 = .ok (.aload_n 0, 1) := by decide +kernel
theorem dX10_paints_57 : decode cX10_paints 57 = .ok (.getfield 7, 3) := by decide +kernel
theorem dX10_paints_60 : decode cX10_paints 60 = .ok (.iload 7, 2) := by decide +kernel
theorem dX10_paints_62 : decode cX10_paints 62 = .ok (.iload_n 1, 1) := by decide +kernel
theorem dX10_paints_63 : decode cX10_paints 63 = .ok (.iastore, 1) := by decide +kernel
theorem dX10_paints_64 : decode cX10_paints 64 = .ok (.iinc 6 1, 3) := by decide +kernel
theorem dX10_paints_67 : decode cX10_paints 67 = .ok (.goto (-48), 3) := by decide +kernel
theorem dX10_paints_70 : decode cX10_paints 70 = .ok (.iload 4, 2) := by decide +kernel
theorem dX10_paints_72 : decode cX10_paints 72 = .ok (.ireturn, 1) := by decide +kernel
set_option maxRecDepth 20000 in
theorem ggX10_isPoint_X10_within : GoodIn wsX10_isPoint wsX10_within := goodIn_r _ [4] (by decide +kernel) (by decide +kernel)
set_option maxRecDepth 20000 in
theorem gX10_isPoint_X10_within : GoodIn wsX10_isPoint (va_wsS RX10 43 yX10_within wsX10_within) := goodIn_app (goodIn_of _ (by decide +kernel)) ggX10_isPoint_X10_within
theorem dX10_isPoint_0 : decode cX10_isPoint 0 = .ok (.iload_n 0, 1) := by decide +kernel
theorem dX10_isPoint_1 : decode cX10_isPoint 1 = .ok (.iconst 0, 1) := by decide +kernel
theorem dX10_isPoint_2 : decode cX10_isPoint 2 = .ok (.bipush 63, 2) := by decide +kernel
theorem dX10_isPoint_4 : decode cX10_isPoint 4 = .ok (.invokestatic 43, 3) := by decide +kernel
theorem dX10_isPoint_7 : decode cX10_isPoint 7 = .ok (.ireturn, 1) := by decide +kernel
set_option maxRecDepth 20000 in
theorem ggX10_paint_X10_within : GoodIn wsX10_paint wsX10_within := goodIn_r _ [4] (by decide +kernel) (by decide +kernel)
set_option maxRecDepth 20000 in
theorem gX10_paint_X10_within : GoodIn wsX10_paint (va_wsS RX10 43 yX10_within wsX10_within) := goodIn_app (goodIn_of _ (by decide +kernel)) ggX10_paint_X10_within
set_option maxRecDepth 20000 in
theorem ggX10_paint_X10_isPoint : GoodIn wsX10_paint wsX10_isPoint := goodIn_r _ [7, 1, 2, 3, 4] (by decide +kernel) (by decide +kernel)
set_option maxRecDepth 20000 in
theorem gX10_paint_X10_isPoint : GoodIn wsX10_paint (va_wsS RX10 47 yX10_isPoint wsX10_isPoint) := goodIn_app (goodIn_of _ (by decide +kernel)) ggX10_paint_X10_isPoint
set_option maxRecDepth 20000 in
theorem ggX10_paint_X10_saves : GoodIn wsX10_paint wsX10_saves := goodIn_r _ [11, 12, 13, 14, 15, 16, 3, 17, 22, 23, 24, 25, 26, 27, 28, 29, 30, 31, 32, 33, 34, 35, 36] (by decide +kernel) (by decide +kernel)
set_option maxRecDepth 20000 in
theorem gX10_paint_X10_saves : GoodIn wsX10_paint (wsV RX10 51 RX10 yX10_saves wsX10_saves) := goodIn_app (goodIn_of _ (by decide +kernel)) ggX10_paint_X10_saves
set_option maxRecDepth 20000 in
theorem ggX10_paint_X10_paints : GoodIn wsX10_paint wsX10_paints := goodIn_r _ [21, 14, 22, 23, 24, 25, 26, 27, 28, 29, 30, 31, 32, 33, 34, 35, 36] (by decide +kernel) (by decide +kernel)
set_option maxRecDepth 20000 in
theorem gX10_paint_X10_paints : GoodIn wsX10_paint (wsV RX10 54 RX10 yX10_paints wsX10_paints) := goodIn_app (goodIn_of _ (by decide +kernel)) ggX10_paint_X10_paints
theorem dX10_paint_0 : decode cX10_paint 0 = .ok (.iload_n 1, 1) := by decide +kernel
theorem dX10_paint_1 : decode cX10_paint 1 = .ok (.iconst 0, 1) := by decide +kernel
theorem dX10_paint_2 : decode cX10_paint 2 = .ok (.iconst 3, 1) := by decide +kernel
theorem dX10_paint_3 : decode cX10_paint 3 = .ok (.invokestatic 43, 3) := by decide +kernel
theorem dX10_paint_6 : decode cX10_paint 6 = .ok (.ifCond .eq 17, 3) := by decide +kernel
theorem dX10_paint_9 : decode cX10_paint 9 = .ok (.iload_n 2, 1) := by decide +kernel
theorem dX10_paint_10 : decode cX10_paint 10 = .ok (.invokestatic 47, 3) := by decide +kernel
theorem dX10_paint_13 : decode cX10_paint 13 = .ok (.ifCond .eq 10, 3) := by decide +kernel
theorem dX10_paint_16 : decode cX10_paint 16 = .ok (.iload_n 3, 1) := by decide +kernel
theorem dX10_paint_17 : decode cX10_paint 17 = .ok (.invokestatic 47, 3) := by decide +kernel
theorem dX10_paint_20 : decode cX10_paint 20 = .ok (.ifCond .ne 5, 3) := by decide +kernel
theorem dX10_paint_23 : decode cX10_paint 23 = .ok (.iconst (-1), 1) := by decide +kernel
theorem dX10_paint_24 : decode cX10_paint 24 = .ok (.ireturn, 1) := by decide +kernel
theorem dX10_paint_25 : decode cX10_paint 25 = .ok (.aload_n 0, 1) := by decide +kernel
theorem dX10_paint_26 : decode cX10_paint 26 = .ok (.invokevirtual 51, 3) := by decide +kernel
theorem dX10_paint_29 : decode cX10_paint 29 = .ok (.aload_n 0, 1) := by decide +kernel
theorem dX10_paint_30 : decode cX10_paint 30 = .ok (.iload_n 1, 1) := by decide +kernel
theorem dX10_paint_31 : decode cX10_paint 31 = .ok (.iload_n 2, 1) := by decide +kernel
theorem dX10_paint_32 : decode cX10_paint 32 = .ok (.iload_n 3, 1) := by decide +kernel
theorem dX10_paint_33 : decode cX10_paint 33 = .ok (.invokevirtual 54, 3) := by decide +kernel
theorem dX10_paint_36 : decode cX10_paint 36 = .ok (.ireturn, 1) := by decide +kernel
set_option maxRecDepth 20000 in
theorem ggX10_color_X10_isPoint : GoodIn wsX10_color wsX10_isPoint := goodIn_r _ [5, 6, 7, 4, 8] (by decide +kernel) (by decide +kernel)
set_option maxRecDepth 20000 in
theorem gX10_color_X10_isPoint : GoodIn wsX10_color (va_wsS RX10 47 yX10_isPoint wsX10_isPoint) := goodIn_app (goodIn_of _ (by decide +kernel)) ggX10_color_X10_isPoint
theorem dX10_color_0 : decode cX10_color 0 = .ok (.iload_n 1, 1) := by decide +kernel
theorem dX10_color_1 : decode cX10_color 1 = .ok (.invokestatic 47, 3) := by decide +kernel
theorem dX10_color_4 : decode cX10_color 4 = .ok (.ifCond .eq 12, 3) := by decide +kernel
theorem dX10_color_7 : decode cX10_color 7 = .ok (.aload_n 0, 1) := by decide +kernel
theorem dX10_color_8 : decode cX10_color 8 = .ok (.getfield 7, 3) := by decide +kernel
theorem dX10_color_11 : decode cX10_color 11 = .ok (.iload_n 1, 1) := by decide +kernel
theorem dX10_color_12 : decode cX10_color 12 = .ok (.iaload, 1) := by decide +kernel
theorem dX10_color_13 : decode cX10_color 13 = .ok (.goto 4, 3) := by decide +kernel
theorem dX10_color_16 : decode cX10_color 16 = .ok (.iconst (-1), 1) := by decide +kernel
theorem dX10_color_17 : decode cX10_color 17 = .ok (.ireturn, 1) := by decide +kernel
theorem dX10_begins_0 : decode cX10_begins 0 = .ok (.aload_n 0, 1) := by decide +kernel
theorem dX10_begins_1 : decode cX10_begins 1 = .ok (.getfield 7, 3) := by decide +kernel
theorem dX10_begins_4 : decode cX10_begins 4 = .ok (.iload_n 1, 1) := by decide +kernel
theorem dX10_begins_5 : decode cX10_begins 5 = .ok (.iaload, 1) := by decide +kernel
theorem dX10_begins_6 : decode cX10_begins 6 = .ok (.aload_n 0, 1) := by decide +kernel
theorem dX10_begins_7 : decode cX10_begins 7 = .ok (.getfield 7, 3) := by decide +kernel
theorem dX10_begins_10 : decode cX10_begins 10 = .ok (.iload_n 1, 1) := by decide +kernel
theorem dX10_begins_11 : decode cX10_begins 11 = .ok (.bipush 64, 2) := by decide +kernel
theorem dX10_begins_13 : decode cX10_begins 13 = .ok (.iadd, 1) := by decide +kernel
theorem dX10_begins_14 : decode cX10_begins 14 = .ok (.iconst 1, 1) := by decide +kernel
theorem dX10_begins_15 : decode cX10_begins 15 = .ok (.isub, 1) := by decide +kernel
theorem dX10_begins_16 : decode cX10_begins 16 = .ok (.bipush 64, 2) := by decide +kernel
theorem dX10_begins_18 : decode cX10_begins 18 = .ok (.irem, 1) := by decide +kernel
theorem dX10_begins_19 : decode cX10_begins 19 = .ok (.iaload, 1) := by decide +kernel
theorem dX10_begins_20 : decode cX10_begins 20 = .ok (.if_icmp .eq 7, 3) := by decide +kernel
theorem dX10_begins_23 : decode cX10_begins 23 = .ok (.iconst 1, 1) := by decide +kernel
theorem dX10_begins_24 : decode cX10_begins 24 = .ok (.goto 4, 3) := by decide +kernel
theorem dX10_begins_27 : decode cX10_begins 27 = .ok (.iconst 0, 1) := by decide +kernel
theorem dX10_begins_28 : decode cX10_begins 28 = .ok (.ireturn, 1) := by decide +kernel
set_option maxRecDepth 20000 in
theorem ggX10_sectors_X10_begins : GoodIn wsX10_sectors wsX10_begins := goodIn_r _ [5, 6, 7, 8, 9, 10, 11, 12, 13, 14, 15, 16, 17, 18, 19, 20, 21] (by decide +kernel) (by decide +kernel)
set_option maxRecDepth 20000 in
theorem gX10_sectors_X10_begins : GoodIn wsX10_sectors (wsV RX10 58 RX10 yX10_begins wsX10_begins) := goodIn_app (goodIn_of _ (by decide +kernel)) ggX10_sectors_X10_begins
theorem dX10_sectors_0 : decode cX10_sectors 0 = .ok (.iconst 0, 1) := by decide +kernel
theorem dX10_sectors_1 : decode cX10_sectors 1 = .ok (.istore_n 1, 1) := by decide +kernel
theorem dX10_sectors_2 : decode cX10_sectors 2 = .ok (.iconst 0, 1) := by decide +kernel
theorem dX10_sectors_3 : decode cX10_sectors 3 = .ok (.istore_n 2, 1) := by decide +kernel
theorem dX10_sectors_4 : decode cX10_sectors 4 = .ok (.iload_n 2, 1) := by decide +kernel
theorem dX10_sectors_5 : decode cX10_sectors 5 = .ok (.bipush 64, 2) := by decide +kernel
theorem dX10_sectors_7 : decode cX10_sectors 7 = .ok (.if_icmp .ge 25, 3) := by decide +kernel
theorem dX10_sectors_10 : decode cX10_sectors 10 = .ok (.iload_n 1, 1) := by decide +kernel
theorem dX10_sectors_11 : decode cX10_sectors 11 = .ok (.aload_n 0, 1) := by decide +kernel
theorem dX10_sectors_12 : decode cX10_sectors 12 = .ok (.iload_n 2, 1) := by decide +kernel
theorem dX10_sectors_13 : decode cX10_sectors 13 = .ok (.invokevirtual 58, 3) := by decide +kernel
theorem dX10_sectors_16 : decode cX10_sectors 16 = .ok (.ifCond .eq 7, 3) := by decide +kernel
theorem dX10_sectors_19 : decode cX10_sectors 19 = .ok (.iconst 1, 1) := by decide +kernel
theorem dX10_sectors_20 : decode cX10_sectors 20 = .ok (.goto 4, 3) := by decide +kernel
theorem dX10_sectors_23 : decode cX10_sectors 23 = .ok (.iconst 0, 1) := by decide +kernel
theorem dX10_sectors_24 : decode cX10_sectors 24 = .ok (.iadd, 1) := by decide +kernel
theorem dX10_sectors_25 : decode cX10_sectors 25 = .ok (.istore_n 1, 1) := by decide +kernel
theorem dX10_sectors_26 : decode cX10_sectors 26 = .ok (.iinc 2 1, 3) := by decide +kernel
theorem dX10_sectors_29 : decode cX10_sectors 29 = .ok (.goto (-25), 3) := by decide +kernel
theorem dX10_sectors_32 : decode cX10_sectors 32 = .ok (.iload_n 1, 1) := by decide +kernel
theorem dX10_sectors_33 : decode cX10_sectors 33 = .ok (.ifCond .ne 7, 3) := by decide +kernel
theorem dX10_sectors_36 : decode cX10_sectors 36 = .ok (.iconst 1, 1) := by decide +kernel
theorem dX10_sectors_37 : decode cX10_sectors 37 = .ok (.goto 4, 3) := by decide +kernel
theorem dX10_sectors_40 : decode cX10_sectors 40 = .ok (.iload_n 1, 1) := by decide +kernel
theorem dX10_sectors_41 : decode cX10_sectors 41 = .ok (.ireturn, 1) := by decide +kernel
set_option maxRecDepth 20000 in
theorem ggX10_beginOf_X10_begins : GoodIn wsX10_beginOf wsX10_begins := goodIn_r _ [5, 6, 7, 8, 9, 10, 11, 12, 13, 14, 15, 16, 17, 18, 19, 20, 21] (by decide +kernel) (by decide +kernel)
set_option maxRecDepth 20000 in
theorem gX10_beginOf_X10_begins : GoodIn wsX10_beginOf (wsV RX10 58 RX10 yX10_begins wsX10_begins) := goodIn_app (goodIn_of _ (by decide +kernel)) ggX10_beginOf_X10_begins
theorem dX10_beginOf_0 : decode cX10_beginOf 0 = .ok (.iload_n 1, 1) := by decide +kernel
theorem dX10_beginOf_1 : decode cX10_beginOf 1 = .ok (.istore_n 2, 1) := by decide +kernel
theorem dX10_beginOf_2 : decode cX10_beginOf 2 = .ok (.iconst 0, 1) := by decide +kernel
theorem dX10_beginOf_3 : decode cX10_beginOf 3 = .ok (.istore_n 3, 1) := by decide +kernel
theorem dX10_beginOf_4 : decode cX10_beginOf 4 = .ok (.iload_n 3, 1) := by decide +kernel
theorem dX10_beginOf_5 : decode cX10_beginOf 5 = .ok (.bipush 64, 2) := by decide +kernel
theorem dX10_beginOf_7 : decode cX10_beginOf 7 = .ok (.if_icmp .ge 26, 3) := by decide +kernel
theorem dX10_beginOf_10 : decode cX10_beginOf 10 = .ok (.aload_n 0, 1) := by decide +kernel
theorem dX10_beginOf_11 : decode cX10_beginOf 11 = .ok (.iload_n 3, 1) := by decide +kernel
theorem dX10_beginOf_12 : decode cX10_beginOf 12 = .ok (.invokevirtual 58, 3) := by decide +kernel
theorem dX10_beginOf_15 : decode cX10_beginOf 15 = .ok (.ifCond .eq 12, 3) := by decide +kernel
theorem dX10_beginOf_18 : decode cX10_beginOf 18 = .ok (.iload_n 2, 1) := by decide +kernel
theorem dX10_beginOf_19 : decode cX10_beginOf 19 = .ok (.ifCond .ne 5, 3) := by decide +kernel
theorem dX10_beginOf_22 : decode cX10_beginOf 22 = .ok (.iload_n 3, 1) := by decide +kernel
theorem dX10_beginOf_23 : decode cX10_beginOf 23 = .ok (.ireturn, 1) := by decide +kernel
theorem dX10_beginOf_24 : decode cX10_beginOf 24 = .ok (.iinc 2 (-1), 3) := by decide +kernel
theorem dX10_beginOf_27 : decode cX10_beginOf 27 = .ok (.iinc 3 1, 3) := by decide +kernel
theorem dX10_beginOf_30 : decode cX10_beginOf 30 = .ok (.goto (-26), 3) := by decide +kernel
theorem dX10_beginOf_33 : decode cX10_beginOf 33 = .ok (.iconst 0, 1) := by decide +kernel
theorem dX10_beginOf_34 : decode cX10_beginOf 34 = .ok (.ireturn, 1) := by decide +kernel
set_option maxRecDepth 20000 in
theorem ggX10_sector_X10_within : GoodIn wsX10_sector wsX10_within := goodIn_r _ [5] (by decide +kernel) (by decide +kernel)
set_option maxRecDepth 20000 in
theorem gX10_sector_X10_within : GoodIn wsX10_sector (va_wsS RX10 43 yX10_within wsX10_within) := goodIn_app (goodIn_of _ (by decide +kernel)) ggX10_sector_X10_within
set_option maxRecDepth 20000 in
theorem ggX10_sector_X10_sectors : GoodIn wsX10_sector wsX10_sectors := goodIn_r _ [9, 10, 11, 12, 4, 13, 1, 18, 19, 20, 21, 22, 23, 24, 25, 26, 27, 28, 29, 30, 31, 32] (by decide +kernel) (by decide +kernel)
set_option maxRecDepth 20000 in
theorem gX10_sector_X10_sectors : GoodIn wsX10_sector (wsV RX10 61 RX10 yX10_sectors wsX10_sectors) := goodIn_app (goodIn_of _ (by decide +kernel)) ggX10_sector_X10_sectors
set_option maxRecDepth 20000 in
theorem ggX10_sector_X10_beginOf : GoodIn wsX10_sector wsX10_beginOf := goodIn_r _ [17, 10, 11, 12, 4, 13, 1, 18, 19, 20, 21, 22, 23, 24, 25, 26, 27, 28, 29, 30, 31, 32] (by decide +kernel) (by decide +kernel)
set_option maxRecDepth 20000 in
theorem gX10_sector_X10_beginOf : GoodIn wsX10_sector (wsV RX10 65 RX10 yX10_beginOf wsX10_beginOf) := goodIn_app (goodIn_of _ (by decide +kernel)) ggX10_sector_X10_beginOf
set_option maxRecDepth 20000 in
theorem ggX10_sector_X10_begins : GoodIn wsX10_sector wsX10_begins := goodIn_r _ [13, 1, 18, 19, 20, 21, 22, 23, 24, 25, 26, 27, 28, 29, 30, 31, 32] (by decide +kernel) (by decide +kernel)
set_option maxRecDepth 20000 in
theorem gX10_sector_X10_begins : GoodIn wsX10_sector (wsV RX10 58 RX10 yX10_begins wsX10_begins) := goodIn_app (goodIn_of _ (by decide +kernel)) ggX10_sector_X10_begins
theorem dX10_sector_0 : decode cX10_sector 0 = .ok (.iload_n 2, 1) := by decide +kernel
theorem dX10_sector_1 : decode cX10_sector 1 = .ok (.iconst 0, 1) := by decide +kernel
theorem dX10_sector_2 : decode cX10_sector 2 = .ok (.iconst 2, 1) := by decide +kernel
theorem dX10_sector_3 : decode cX10_sector 3 = .ok (.invokestatic 43, 3) := by decide +kernel
theorem dX10_sector_6 : decode cX10_sector 6 = .ok (.ifCond .eq 7, 3) := by decide +kernel
theorem dX10_sector_9 : decode cX10_sector 9 = .ok (.iload_n 1, 1) := by decide +kernel
theorem dX10_sector_10 : decode cX10_sector 10 = .ok (.ifCond .ge 5, 3) := by decide +kernel
theorem dX10_sector_13 : decode cX10_sector 13 = .ok (.iconst (-1), 1) := by decide +kernel
theorem dX10_sector_14 : decode cX10_sector 14 = .ok (.ireturn, 1) := by decide +kernel
theorem dX10_sector_15 : decode cX10_sector 15 = .ok (.iload_n 1, 1) := by decide +kernel
theorem dX10_sector_16 : decode cX10_sector 16 = .ok (.aload_n 0, 1) := by decide +kernel
theorem dX10_sector_17 : decode cX10_sector 17 = .ok (.invokevirtual 61, 3) := by decide +kernel
theorem dX10_sector_20 : decode cX10_sector 20 = .ok (.if_icmp .lt 6, 3) := by decide +kernel
theorem dX10_sector_23 : decode cX10_sector 23 = .ok (.bipush (-4), 2) := by decide +kernel
theorem dX10_sector_25 : decode cX10_sector 25 = .ok (.ireturn, 1) := by decide +kernel
theorem dX10_sector_26 : decode cX10_sector 26 = .ok (.aload_n 0, 1) := by decide +kernel
theorem dX10_sector_27 : decode cX10_sector 27 = .ok (.iload_n 1, 1) := by decide +kernel
theorem dX10_sector_28 : decode cX10_sector 28 = .ok (.invokevirtual 65, 3) := by decide +kernel
theorem dX10_sector_31 : decode cX10_sector 31 = .ok (.istore_n 3, 1) := by decide +kernel
theorem dX10_sector_32 : decode cX10_sector 32 = .ok (.iconst 1, 1) := by decide +kernel
theorem dX10_sector_33 : decode cX10_sector 33 = .ok (.istore 4, 2) := by decide +kernel
theorem dX10_sector_35 : decode cX10_sector 35 = .ok (.iload 4, 2) := by decide +kernel
theorem dX10_sector_37 : decode cX10_sector 37 = .ok (.bipush 64, 2) := by decide +kernel
theorem dX10_sector_39 : decode cX10_sector 39 = .ok (.if_icmp .ge 23, 3) := by decide +kernel
theorem dX10_sector_42 : decode cX10_sector 42 = .ok (.aload_n 0, 1) := by decide +kernel
theorem dX10_sector_43 : decode cX10_sector 43 = .ok (.iload_n 3, 1) := by decide +kernel
theorem dX10_sector_44 : decode cX10_sector 44 = .ok (.iload 4, 2) := by decide +kernel
theorem dX10_sector_46 : decode cX10_sector 46 = .ok (.iadd, 1) := by decide +kernel
theorem dX10_sector_47 : decode cX10_sector 47 = .ok (.bipush 64, 2) := by decide +kernel
theorem dX10_sector_49 : decode cX10_sector 49 = .ok (.irem, 1) := by decide +kernel
theorem dX10_sector_50 : decode cX10_sector 50 = .ok (.invokevirtual 58, 3) := by decide +kernel
theorem dX10_sector_53 : decode cX10_sector 53 = .ok (.ifCond .ne 9, 3) := by decide +kernel
theorem dX10_sector_56 : decode cX10_sector 56 = .ok (.iinc 4 1, 3) := by decide +kernel
theorem dX10_sector_59 : decode cX10_sector 59 = .ok (.goto (-24), 3) := by decide +kernel
theorem dX10_sector_62 : decode cX10_sector 62 = .ok (.iload_n 2, 1) := by decide +kernel
theorem dX10_sector_63 : decode cX10_sector 63 = .ok (.ifCond .ne 7, 3) := by decide +kernel
theorem dX10_sector_66 : decode cX10_sector 66 = .ok (.iload_n 3, 1) := by decide +kernel
theorem dX10_sector_67 : decode cX10_sector 67 = .ok (.goto 19, 3) := by decide +kernel
theorem dX10_sector_70 : decode cX10_sector 70 = .ok (.iload_n 2, 1) := by decide +kernel
theorem dX10_sector_71 : decode cX10_sector 71 = .ok (.iconst 1, 1) := by decide +kernel
theorem dX10_sector_72 : decode cX10_sector 72 = .ok (.if_icmp .ne 8, 3) := by decide +kernel
theorem dX10_sector_75 : decode cX10_sector 75 = .ok (.iload 4, 2) := by decide +kernel
theorem dX10_sector_77 : decode cX10_sector 77 = .ok (.goto 9, 3) := by decide +kernel
theorem dX10_sector_80 : decode cX10_sector 80 = .ok (.aload_n 0, 1) := by decide +kernel
theorem dX10_sector_81 : decode cX10_sector 81 = .ok (.getfield 7, 3) := by decide +kernel
theorem dX10_sector_84 : decode cX10_sector 84 = .ok (.iload_n 3, 1) := by decide +kernel
theorem dX10_sector_85 : decode cX10_sector 85 = .ok (.iaload, 1) := by decide +kernel
theorem dX10_sector_86 : decode cX10_sector 86 = .ok (.ireturn, 1) := by decide +kernel
set_option maxRecDepth 20000 in
theorem ggX10_isFar_X10_within : GoodIn wsX10_isFar wsX10_within := goodIn_r _ [4] (by decide +kernel) (by decide +kernel)
set_option maxRecDepth 20000 in
theorem gX10_isFar_X10_within : GoodIn wsX10_isFar (va_wsS RX10 43 yX10_within wsX10_within) := goodIn_app (goodIn_of _ (by decide +kernel)) ggX10_isFar_X10_within
theorem dX10_isFar_0 : decode cX10_isFar 0 = .ok (.iload_n 0, 1) := by decide +kernel
theorem dX10_isFar_1 : decode cX10_isFar 1 = .ok (.sipush (-10000), 3) := by decide +kernel
theorem dX10_isFar_4 : decode cX10_isFar 4 = .ok (.sipush 10000, 3) := by decide +kernel
theorem dX10_isFar_7 : decode cX10_isFar 7 = .ok (.invokestatic 43, 3) := by decide +kernel
theorem dX10_isFar_10 : decode cX10_isFar 10 = .ok (.ifCond .eq 16, 3) := by decide +kernel
theorem dX10_isFar_13 : decode cX10_isFar 13 = .ok (.iload_n 1, 1) := by decide +kernel
theorem dX10_isFar_14 : decode cX10_isFar 14 = .ok (.sipush (-10000), 3) := by decide +kernel
theorem dX10_isFar_17 : decode cX10_isFar 17 = .ok (.sipush 10000, 3) := by decide +kernel
theorem dX10_isFar_20 : decode cX10_isFar 20 = .ok (.invokestatic 43, 3) := by decide +kernel
theorem dX10_isFar_23 : decode cX10_isFar 23 = .ok (.ifCond .ne 7, 3) := by decide +kernel
theorem dX10_isFar_26 : decode cX10_isFar 26 = .ok (.iconst 1, 1) := by decide +kernel
theorem dX10_isFar_27 : decode cX10_isFar 27 = .ok (.goto 4, 3) := by decide +kernel
theorem dX10_isFar_30 : decode cX10_isFar 30 = .ok (.iconst 0, 1) := by decide +kernel
theorem dX10_isFar_31 : decode cX10_isFar 31 = .ok (.ireturn, 1) := by decide +kernel
theorem dX10_cross_0 : decode cX10_cross 0 = .ok (.aload_n 0, 1) := by decide +kernel
theorem dX10_cross_1 : decode cX10_cross 1 = .ok (.getfield 25, 3) := by decide +kernel
theorem dX10_cross_4 : decode cX10_cross 4 = .ok (.iload_n 3, 1) := by decide +kernel
theorem dX10_cross_5 : decode cX10_cross 5 = .ok (.bipush 64, 2) := by decide +kernel
theorem dX10_cross_7 : decode cX10_cross 7 = .ok (.irem, 1) := by decide +kernel
theorem dX10_cross_8 : decode cX10_cross 8 = .ok (.iaload, 1) := by decide +kernel
theorem dX10_cross_9 : decode cX10_cross 9 = .ok (.istore 4, 2) := by decide +kernel
theorem dX10_cross_11 : decode cX10_cross 11 = .ok (.aload_n 0, 1) := by decide +kernel
theorem dX10_cross_12 : decode cX10_cross 12 = .ok (.getfield 25, 3) := by decide +kernel
theorem dX10_cross_15 : decode cX10_cross 15 = .ok (.iload_n 3, 1) := by decide +kernel
theorem dX10_cross_16 : decode cX10_cross 16 = .ok (.bipush 16, 2) := by decide +kernel
theorem dX10_cross_18 : decode cX10_cross 18 = .ok (.iadd, 1) := by decide +kernel
theorem dX10_cross_19 : decode cX10_cross 19 = .ok (.bipush 64, 2) := by decide +kernel
theorem dX10_cross_21 : decode cX10_cross 21 = .ok (.irem, 1) := by decide +kernel
theorem dX10_cross_22 : decode cX10_cross 22 = .ok (.iaload, 1) := by decide +kernel
theorem dX10_cross_23 : decode cX10_cross 23 = .ok (.istore 5, 2) := by decide +kernel
theorem dX10_cross_25 : decode cX10_cross 25 = .ok (.iload_n 1, 1) := by decide +kernel
theorem dX10_cross_26 : decode cX10_cross 26 = .ok (.iload 5, 2) := by decide +kernel
theorem dX10_cross_28 : decode cX10_cross 28 = .ok (.imul, 1) := by decide +kernel
theorem dX10_cross_29 : decode cX10_cross 29 = .ok (.iload_n 2, 1) := by decide +kernel
theorem dX10_cross_30 : decode cX10_cross 30 = .ok (.iload 4, 2) := by decide +kernel
theorem dX10_cross_32 : decode cX10_cross 32 = .ok (.imul, 1) := by decide +kernel
theorem dX10_cross_33 : decode cX10_cross 33 = .ok (.isub, 1) := by decide +kernel
theorem dX10_cross_34 : decode cX10_cross 34 = .ok (.ireturn, 1) := by decide +kernel
set_option maxRecDepth 20000 in
theorem ggX10_directionOf_X10_cross : GoodIn wsX10_directionOf wsX10_cross := goodIn_r _ [5, 6, 7, 8, 9, 10, 11, 12, 13, 14, 15, 16, 17, 18, 19, 20, 21] (by decide +kernel) (by decide +kernel)
set_option maxRecDepth 20000 in
theorem gX10_directionOf_X10_cross : GoodIn wsX10_directionOf (wsV RX10 69 RX10 yX10_cross wsX10_cross) := goodIn_app (goodIn_of _ (by decide +kernel)) ggX10_directionOf_X10_cross
theorem dX10_directionOf_0 : decode cX10_directionOf 0 = .ok (.iconst 0, 1) := by decide +kernel
theorem dX10_directionOf_1 : decode cX10_directionOf 1 = .ok (.istore_n 3, 1) := by decide +kernel
theorem dX10_directionOf_2 : decode cX10_directionOf 2 = .ok (.iload_n 3, 1) := by decide +kernel
theorem dX10_directionOf_3 : decode cX10_directionOf 3 = .ok (.bipush 64, 2) := by decide +kernel
theorem dX10_directionOf_5 : decode cX10_directionOf 5 = .ok (.if_icmp .ge 33, 3) := by decide +kernel
theorem dX10_directionOf_8 : decode cX10_directionOf 8 = .ok (.aload_n 0, 1) := by decide +kernel
theorem dX10_directionOf_9 : decode cX10_directionOf 9 = .ok (.iload_n 1, 1) := by decide +kernel
theorem dX10_directionOf_10 : decode cX10_directionOf 10 = .ok (.iload_n 2, 1) := by decide +kernel
theorem dX10_directionOf_11 : decode cX10_directionOf 11 = .ok (.iload_n 3, 1) := by decide +kernel
theorem dX10_directionOf_12 : decode cX10_directionOf 12 = .ok (.invokevirtual 69, 3) := by decide +kernel
theorem dX10_directionOf_15 : decode cX10_directionOf 15 = .ok (.ifCond .lt 17, 3) := by decide +kernel
theorem dX10_directionOf_18 : decode cX10_directionOf 18 = .ok (.aload_n 0, 1) := by decide +kernel
theorem dX10_directionOf_19 : decode cX10_directionOf 19 = .ok (.iload_n 1, 1) := by decide +kernel
theorem dX10_directionOf_20 : decode cX10_directionOf 20 = .ok (.iload_n 2, 1) := by decide +kernel
theorem dX10_directionOf_21 : decode cX10_directionOf 21 = .ok (.iload_n 3, 1) := by decide +kernel
theorem dX10_directionOf_22 : decode cX10_directionOf 22 = .ok (.iconst 1, 1) := by decide +kernel
theorem dX10_directionOf_23 : decode cX10_directionOf 23 = .ok (.iadd, 1) := by decide +kernel
theorem dX10_directionOf_24 : decode cX10_directionOf 24 = .ok (.invokevirtual 69, 3) := by decide +kernel
theorem dX10_directionOf_27 : decode cX10_directionOf 27 = .ok (.ifCond .ge 5, 3) := by decide +kernel
theorem dX10_directionOf_30 : decode cX10_directionOf 30 = .ok (.iload_n 3, 1) := by decide +kernel
theorem dX10_directionOf_31 : decode cX10_directionOf 31 = .ok (.ireturn, 1) := by decide +kernel
theorem dX10_directionOf_32 : decode cX10_directionOf 32 = .ok (.iinc 3 1, 3) := by decide +kernel
theorem dX10_directionOf_35 : decode cX10_directionOf 35 = .ok (.goto (-33), 3) := by decide +kernel
theorem dX10_directionOf_38 : decode cX10_directionOf 38 = .ok (.bipush (-4), 2) := by decide +kernel
theorem dX10_directionOf_40 : decode cX10_directionOf 40 = .ok (.ireturn, 1) := by decide +kernel
set_option maxRecDepth 20000 in
theorem ggX10_direction_X10_isFar : GoodIn wsX10_direction wsX10_isFar := goodIn_r _ [4, 5, 6, 3, 7] (by decide +kernel) (by decide +kernel)
set_option maxRecDepth 20000 in
theorem gX10_direction_X10_isFar : GoodIn wsX10_direction (va_wsS RX10 72 yX10_isFar wsX10_isFar) := goodIn_app (goodIn_of _ (by decide +kernel)) ggX10_direction_X10_isFar
set_option maxRecDepth 20000 in
theorem ggX10_direction_X10_directionOf : GoodIn wsX10_direction wsX10_directionOf := goodIn_r _ [11, 12, 13, 14, 3, 15, 16, 17, 18, 19, 20, 21, 22, 23, 24, 25, 26, 27, 28, 29, 30, 31] (by decide +kernel) (by decide +kernel)
set_option maxRecDepth 20000 in
theorem gX10_direction_X10_directionOf : GoodIn wsX10_direction (wsV RX10 76 RX10 yX10_directionOf wsX10_directionOf) := goodIn_app (goodIn_of _ (by decide +kernel)) ggX10_direction_X10_directionOf
theorem dX10_direction_0 : decode cX10_direction 0 = .ok (.iload_n 1, 1) := by decide +kernel
theorem dX10_direction_1 : decode cX10_direction 1 = .ok (.iload_n 2, 1) := by decide +kernel
theorem dX10_direction_2 : decode cX10_direction 2 = .ok (.invokestatic 72, 3) := by decide +kernel
theorem dX10_direction_5 : decode cX10_direction 5 = .ok (.ifCond .eq 7, 3) := by decide +kernel
theorem dX10_direction_8 : decode cX10_direction 8 = .ok (.iconst (-1), 1) := by decide +kernel
theorem dX10_direction_9 : decode cX10_direction 9 = .ok (.goto 22, 3) := by decide +kernel
theorem dX10_direction_12 : decode cX10_direction 12 = .ok (.iload_n 1, 1) := by decide +kernel
theorem dX10_direction_13 : decode cX10_direction 13 = .ok (.ifCond .ne 12, 3) := by decide +kernel
theorem dX10_direction_16 : decode cX10_direction 16 = .ok (.iload_n 2, 1) := by decide +kernel
theorem dX10_direction_17 : decode cX10_direction 17 = .ok (.ifCond .ne 8, 3) := by decide +kernel
theorem dX10_direction_20 : decode cX10_direction 20 = .ok (.bipush (-4), 2) := by decide +kernel
theorem dX10_direction_22 : decode cX10_direction 22 = .ok (.goto 9, 3) := by decide +kernel
theorem dX10_direction_25 : decode cX10_direction 25 = .ok (.aload_n 0, 1) := by decide +kernel
theorem dX10_direction_26 : decode cX10_direction 26 = .ok (.iload_n 1, 1) := by decide +kernel
theorem dX10_direction_27 : decode cX10_direction 27 = .ok (.iload_n 2, 1) := by decide +kernel
theorem dX10_direction_28 : decode cX10_direction 28 = .ok (.invokevirtual 76, 3) := by decide +kernel
theorem dX10_direction_31 : decode cX10_direction 31 = .ok (.ireturn, 1) := by decide +kernel
set_option maxRecDepth 20000 in
theorem ggX10_again_X10_isFar : GoodIn wsX10_again wsX10_isFar := goodIn_r _ [4, 5, 6, 3, 7] (by decide +kernel) (by decide +kernel)
set_option maxRecDepth 20000 in
theorem gX10_again_X10_isFar : GoodIn wsX10_again (va_wsS RX10 72 yX10_isFar wsX10_isFar) := goodIn_app (goodIn_of _ (by decide +kernel)) ggX10_again_X10_isFar
set_option maxRecDepth 20000 in
theorem ggX10_again_X10_cross : GoodIn wsX10_again wsX10_cross := goodIn_r _ [11, 12, 13, 14, 15, 16, 17, 18, 19, 20, 21, 22, 23, 24, 25, 26, 27] (by decide +kernel) (by decide +kernel)
set_option maxRecDepth 20000 in
theorem gX10_again_X10_cross : GoodIn wsX10_again (wsV RX10 69 RX10 yX10_cross wsX10_cross) := goodIn_app (goodIn_of _ (by decide +kernel)) ggX10_again_X10_cross
theorem dX10_again_0 : decode cX10_again 0 = .ok (.iload_n 1, 1) := by decide +kernel
theorem dX10_again_1 : decode cX10_again 1 = .ok (.iload_n 2, 1) := by decide +kernel
theorem dX10_again_2 : decode cX10_again 2 = .ok (.invokestatic 72, 3) := by decide +kernel
theorem dX10_again_5 : decode cX10_again 5 = .ok (.ifCond .eq 5, 3) := by decide +kernel
theorem dX10_again_8 : decode cX10_again 8 = .ok (.iconst (-1), 1) := by decide +kernel
theorem dX10_again_9 : decode cX10_again 9 = .ok (.ireturn, 1) := by decide +kernel
theorem dX10_again_10 : decode cX10_again 10 = .ok (.iload_n 1, 1) := by decide +kernel
theorem dX10_again_11 : decode cX10_again 11 = .ok (.ifCond .ne 10, 3) := by decide +kernel
theorem dX10_again_14 : decode cX10_again 14 = .ok (.iload_n 2, 1) := by decide +kernel
theorem dX10_again_15 : decode cX10_again 15 = .ok (.ifCond .ne 6, 3) := by decide +kernel
theorem dX10_again_18 : decode cX10_again 18 = .ok (.bipush (-4), 2) := by decide +kernel
theorem dX10_again_20 : decode cX10_again 20 = .ok (.ireturn, 1) := by decide +kernel
theorem dX10_again_21 : decode cX10_again 21 = .ok (.iload_n 1, 1) := by decide +kernel
theorem dX10_again_22 : decode cX10_again 22 = .ok (.ifCond .lt 11, 3) := by decide +kernel
theorem dX10_again_25 : decode cX10_again 25 = .ok (.iload_n 2, 1) := by decide +kernel
theorem dX10_again_26 : decode cX10_again 26 = .ok (.ifCond .le 7, 3) := by decide +kernel
theorem dX10_again_29 : decode cX10_again 29 = .ok (.iconst 0, 1) := by decide +kernel
theorem dX10_again_30 : decode cX10_again 30 = .ok (.goto 20, 3) := by decide +kernel
theorem dX10_again_33 : decode cX10_again 33 = .ok (.iload_n 1, 1) := by decide +kernel
theorem dX10_again_34 : decode cX10_again 34 = .ok (.ifCond .le 7, 3) := by decide +kernel
theorem dX10_again_37 : decode cX10_again 37 = .ok (.iconst 1, 1) := by decide +kernel
theorem dX10_again_38 : decode cX10_again 38 = .ok (.goto 12, 3) := by decide +kernel
theorem dX10_again_41 : decode cX10_again 41 = .ok (.iload_n 2, 1) := by decide +kernel
theorem dX10_again_42 : decode cX10_again 42 = .ok (.ifCond .ge 7, 3) := by decide +kernel
theorem dX10_again_45 : decode cX10_again 45 = .ok (.iconst 2, 1) := by decide +kernel
theorem dX10_again_46 : decode cX10_again 46 = .ok (.goto 4, 3) := by decide +kernel
theorem dX10_again_49 : decode cX10_again 49 = .ok (.iconst 3, 1) := by decide +kernel
theorem dX10_again_50 : decode cX10_again 50 = .ok (.istore_n 3, 1) := by decide +kernel
theorem dX10_again_51 : decode cX10_again 51 = .ok (.iload_n 3, 1) := by decide +kernel
theorem dX10_again_52 : decode cX10_again 52 = .ok (.ifCond .ne 7, 3) := by decide +kernel
theorem dX10_again_55 : decode cX10_again 55 = .ok (.iload_n 1, 1) := by decide +kernel
theorem dX10_again_56 : decode cX10_again 56 = .ok (.goto 24, 3) := by decide +kernel
theorem dX10_again_59 : decode cX10_again 59 = .ok (.iload_n 3, 1) := by decide +kernel
theorem dX10_again_60 : decode cX10_again 60 = .ok (.iconst 1, 1) := by decide +kernel
theorem dX10_again_61 : decode cX10_again 61 = .ok (.if_icmp .ne 8, 3) := by decide +kernel
theorem dX10_again_64 : decode cX10_again 64 = .ok (.iload_n 2, 1) := by decide +kernel
theorem dX10_again_65 : decode cX10_again 65 = .ok (.ineg, 1) := by decide +kernel
theorem dX10_again_66 : decode cX10_again 66 = .ok (.goto 14, 3) := by decide +kernel
theorem dX10_again_69 : decode cX10_again 69 = .ok (.iload_n 3, 1) := by decide +kernel
theorem dX10_again_70 : decode cX10_again 70 = .ok (.iconst 2, 1) := by decide +kernel
theorem dX10_again_71 : decode cX10_again 71 = .ok (.if_icmp .ne 8, 3) := by decide +kernel
theorem dX10_again_74 : decode cX10_again 74 = .ok (.iload_n 1, 1) := by decide +kernel
theorem dX10_again_75 : decode cX10_again 75 = .ok (.ineg, 1) := by decide +kernel
theorem dX10_again_76 : decode cX10_again 76 = .ok (.goto 4, 3) := by decide +kernel
theorem dX10_again_79 : decode cX10_again 79 = .ok (.iload_n 2, 1) := by decide +kernel
theorem dX10_again_80 : decode cX10_again 80 = .ok (.istore 4, 2) := by decide +kernel
theorem dX10_again_82 : decode cX10_again 82 = .ok (.iload_n 3, 1) := by decide +kernel
theorem dX10_again_83 : decode cX10_again 83 = .ok (.ifCond .ne 7, 3) := by decide +kernel
theorem dX10_again_86 : decode cX10_again 86 = .ok (.iload_n 2, 1) := by decide +kernel
theorem dX10_again_87 : decode cX10_again 87 = .ok (.goto 24, 3) := by decide +kernel
theorem dX10_again_90 : decode cX10_again 90 = .ok (.iload_n 3, 1) := by decide +kernel
theorem dX10_again_91 : decode cX10_again 91 = .ok (.iconst 1, 1) := by decide +kernel
theorem dX10_again_92 : decode cX10_again 92 = .ok (.if_icmp .ne 7, 3) := by decide +kernel
theorem dX10_again_95 : decode cX10_again 95 = .ok (.iload_n 1, 1) := by decide +kernel
theorem dX10_again_96 : decode cX10_again 96 = .ok (.goto 15, 3) := by decide +kernel
theorem dX10_again_99 : decode cX10_again 99 = .ok (.iload_n 3, 1) := by decide +kernel
theorem dX10_again_100 : decode cX10_again 100 = .ok (.iconst 2, 1) := by decide +kernel
theorem dX10_again_101 : decode cX10_again 101 = .ok (.if_icmp .ne 8, 3) := by decide +kernel
theorem dX10_again_104 : decode cX10_again 104 = .ok (.iload_n 2, 1) := by decide +kernel
theorem dX10_again_105 : decode cX10_again 105 = .ok (.ineg, 1) := by decide +kernel
theorem dX10_again_106 : decode cX10_again 106 = .ok (.goto 5, 3) := by decide +kernel
theorem dX10_again_109 : decode cX10_again 109 = .ok (.iload_n 1, 1) := by decide +kernel
theorem dX10_again_110 : decode cX10_again 110 = .ok (.ineg, 1) := by decide +kernel
theorem dX10_again_111 : decode cX10_again 111 = .ok (.istore 5, 2) := by decide +kernel
theorem dX10_again_113 : decode cX10_again 113 = .ok (.iconst 0, 1) := by decide +kernel
theorem dX10_again_114 : decode cX10_again 114 = .ok (.istore 6, 2) := by decide +kernel
theorem dX10_again_116 : decode cX10_again 116 = .ok (.iconst 0, 1) := by decide +kernel
theorem dX10_again_117 : decode cX10_again 117 = .ok (.istore 7, 2) := by decide +kernel
theorem dX10_again_119 : decode cX10_again 119 = .ok (.iload 7, 2) := by decide +kernel
theorem dX10_again_121 : decode cX10_again 121 = .ok (.bipush 16, 2) := by decide +kernel
theorem dX10_again_123 : decode cX10_again 123 = .ok (.if_icmp .ge 31, 3) := by decide +kernel
theorem dX10_again_126 : decode cX10_again 126 = .ok (.aload_n 0, 1) := by decide +kernel
theorem dX10_again_127 : decode cX10_again 127 = .ok (.iload 4, 2) := by decide +kernel
theorem dX10_again_129 : decode cX10_again 129 = .ok (.iload 5, 2) := by decide +kernel
theorem dX10_again_131 : decode cX10_again 131 = .ok (.iload 7, 2) := by decide +kernel
theorem dX10_again_133 : decode cX10_again 133 = .ok (.invokevirtual 69, 3) := by decide +kernel
theorem dX10_again_136 : decode cX10_again 136 = .ok (.ifCond .lt 8, 3) := by decide +kernel
theorem dX10_again_139 : decode cX10_again 139 = .ok (.iload 7, 2) := by decide +kernel
theorem dX10_again_141 : decode cX10_again 141 = .ok (.goto 5, 3) := by decide +kernel
theorem dX10_again_144 : decode cX10_again 144 = .ok (.iload 6, 2) := by decide +kernel
theorem dX10_again_146 : decode cX10_again 146 = .ok (.istore 6, 2) := by decide +kernel
theorem dX10_again_148 : decode cX10_again 148 = .ok (.iinc 7 1, 3) := by decide +kernel
theorem dX10_again_151 : decode cX10_again 151 = .ok (.goto (-32), 3) := by decide +kernel
theorem dX10_again_154 : decode cX10_again 154 = .ok (.bipush 16, 2) := by decide +kernel
theorem dX10_again_156 : decode cX10_again 156 = .ok (.iload_n 3, 1) := by decide +kernel
theorem dX10_again_157 : decode cX10_again 157 = .ok (.imul, 1) := by decide +kernel
theorem dX10_again_158 : decode cX10_again 158 = .ok (.iload 6, 2) := by decide +kernel
theorem dX10_again_160 : decode cX10_again 160 = .ok (.iadd, 1) := by decide +kernel
theorem dX10_again_161 : decode cX10_again 161 = .ok (.ireturn, 1) := by decide +kernel
theorem dX10_light_0 : decode cX10_light 0 = .ok (.aload_n 0, 1) := by decide +kernel
theorem dX10_light_1 : decode cX10_light 1 = .ok (.getfield 7, 3) := by decide +kernel
theorem dX10_light_4 : decode cX10_light 4 = .ok (.bipush 65, 2) := by decide +kernel
theorem dX10_light_6 : decode cX10_light 6 = .ok (.iconst 2, 1) := by decide +kernel
theorem dX10_light_7 : decode cX10_light 7 = .ok (.iload_n 1, 1) := by decide +kernel
theorem dX10_light_8 : decode cX10_light 8 = .ok (.imul, 1) := by decide +kernel
theorem dX10_light_9 : decode cX10_light 9 = .ok (.iadd, 1) := by decide +kernel
theorem dX10_light_10 : decode cX10_light 10 = .ok (.iaload, 1) := by decide +kernel
theorem dX10_light_11 : decode cX10_light 11 = .ok (.ireturn, 1) := by decide +kernel
theorem dX10_dark_0 : decode cX10_dark 0 = .ok (.aload_n 0, 1) := by decide +kernel
theorem dX10_dark_1 : decode cX10_dark 1 = .ok (.getfield 7, 3) := by decide +kernel
theorem dX10_dark_4 : decode cX10_dark 4 = .ok (.bipush 65, 2) := by decide +kernel
theorem dX10_dark_6 : decode cX10_dark 6 = .ok (.iconst 2, 1) := by decide +kernel
theorem dX10_dark_7 : decode cX10_dark 7 = .ok (.iload_n 1, 1) := by decide +kernel
theorem dX10_dark_8 : decode cX10_dark 8 = .ok (.imul, 1) := by decide +kernel
theorem dX10_dark_9 : decode cX10_dark 9 = .ok (.iadd, 1) := by decide +kernel
theorem dX10_dark_10 : decode cX10_dark 10 = .ok (.iconst 1, 1) := by decide +kernel
theorem dX10_dark_11 : decode cX10_dark 11 = .ok (.iadd, 1) := by decide +kernel
theorem dX10_dark_12 : decode cX10_dark 12 = .ok (.iaload, 1) := by decide +kernel
theorem dX10_dark_13 : decode cX10_dark 13 = .ok (.ireturn, 1) := by decide +kernel
set_option maxRecDepth 20000 in
theorem ggX10_lights_X10_light : GoodIn wsX10_lights wsX10_light := goodIn_r _ [6, 1, 7, 8, 9, 10, 11, 12, 13, 14, 15, 16, 17, 18, 19, 20, 21] (by decide +kernel) (by decide +kernel)
set_option maxRecDepth 20000 in
theorem gX10_lights_X10_light : GoodIn wsX10_lights (wsV RX10 80 RX10 yX10_light wsX10_light) := goodIn_app (goodIn_of _ (by decide +kernel)) ggX10_lights_X10_light
theorem dX10_lights_0 : decode cX10_lights 0 = .ok (.iconst 0, 1) := by decide +kernel
theorem dX10_lights_1 : decode cX10_lights 1 = .ok (.istore_n 1, 1) := by decide +kernel
theorem dX10_lights_2 : decode cX10_lights 2 = .ok (.iconst 0, 1) := by decide +kernel
theorem dX10_lights_3 : decode cX10_lights 3 = .ok (.istore_n 2, 1) := by decide +kernel
theorem dX10_lights_4 : decode cX10_lights 4 = .ok (.iload_n 2, 1) := by decide +kernel
theorem dX10_lights_5 : decode cX10_lights 5 = .ok (.aload_n 0, 1) := by decide +kernel
theorem dX10_lights_6 : decode cX10_lights 6 = .ok (.getfield 7, 3) := by decide +kernel
theorem dX10_lights_9 : decode cX10_lights 9 = .ok (.bipush 64, 2) := by decide +kernel
theorem dX10_lights_11 : decode cX10_lights 11 = .ok (.iaload, 1) := by decide +kernel
theorem dX10_lights_12 : decode cX10_lights 12 = .ok (.if_icmp .ge 17, 3) := by decide +kernel
theorem dX10_lights_15 : decode cX10_lights 15 = .ok (.iload_n 1, 1) := by decide +kernel
theorem dX10_lights_16 : decode cX10_lights 16 = .ok (.aload_n 0, 1) := by decide +kernel
theorem dX10_lights_17 : decode cX10_lights 17 = .ok (.iload_n 2, 1) := by decide +kernel
theorem dX10_lights_18 : decode cX10_lights 18 = .ok (.invokevirtual 80, 3) := by decide +kernel
theorem dX10_lights_21 : decode cX10_lights 21 = .ok (.iadd, 1) := by decide +kernel
theorem dX10_lights_22 : decode cX10_lights 22 = .ok (.istore_n 1, 1) := by decide +kernel
theorem dX10_lights_23 : decode cX10_lights 23 = .ok (.iinc 2 1, 3) := by decide +kernel
theorem dX10_lights_26 : decode cX10_lights 26 = .ok (.goto (-22), 3) := by decide +kernel
theorem dX10_lights_29 : decode cX10_lights 29 = .ok (.iload_n 1, 1) := by decide +kernel
theorem dX10_lights_30 : decode cX10_lights 30 = .ok (.ireturn, 1) := by decide +kernel
set_option maxRecDepth 20000 in
theorem ggX10_darks_X10_dark : GoodIn wsX10_darks wsX10_dark := goodIn_r _ [6, 1, 7, 8, 9, 10, 11, 12, 13, 14, 15, 16, 17, 18, 19, 20, 21] (by decide +kernel) (by decide +kernel)
set_option maxRecDepth 20000 in
theorem gX10_darks_X10_dark : GoodIn wsX10_darks (wsV RX10 83 RX10 yX10_dark wsX10_dark) := goodIn_app (goodIn_of _ (by decide +kernel)) ggX10_darks_X10_dark
theorem dX10_darks_0 : decode cX10_darks 0 = .ok (.iconst 0, 1) := by decide +kernel
theorem dX10_darks_1 : decode cX10_darks 1 = .ok (.istore_n 1, 1) := by decide +kernel
theorem dX10_darks_2 : decode cX10_darks 2 = .ok (.iconst 0, 1) := by decide +kernel
theorem dX10_darks_3 : decode cX10_darks 3 = .ok (.istore_n 2, 1) := by decide +kernel
theorem dX10_darks_4 : decode cX10_darks 4 = .ok (.iload_n 2, 1) := by decide +kernel
theorem dX10_darks_5 : decode cX10_darks 5 = .ok (.aload_n 0, 1) := by decide +kernel
theorem dX10_darks_6 : decode cX10_darks 6 = .ok (.getfield 7, 3) := by decide +kernel
theorem dX10_darks_9 : decode cX10_darks 9 = .ok (.bipush 64, 2) := by decide +kernel
theorem dX10_darks_11 : decode cX10_darks 11 = .ok (.iaload, 1) := by decide +kernel
theorem dX10_darks_12 : decode cX10_darks 12 = .ok (.if_icmp .ge 17, 3) := by decide +kernel
theorem dX10_darks_15 : decode cX10_darks 15 = .ok (.iload_n 1, 1) := by decide +kernel
theorem dX10_darks_16 : decode cX10_darks 16 = .ok (.aload_n 0, 1) := by decide +kernel
theorem dX10_darks_17 : decode cX10_darks 17 = .ok (.iload_n 2, 1) := by decide +kernel
theorem dX10_darks_18 : decode cX10_darks 18 = .ok (.invokevirtual 83, 3) := by decide +kernel
theorem dX10_darks_21 : decode cX10_darks 21 = .ok (.iadd, 1) := by decide +kernel
theorem dX10_darks_22 : decode cX10_darks 22 = .ok (.istore_n 1, 1) := by decide +kernel
theorem dX10_darks_23 : decode cX10_darks 23 = .ok (.iinc 2 1, 3) := by decide +kernel
theorem dX10_darks_26 : decode cX10_darks 26 = .ok (.goto (-22), 3) := by decide +kernel
theorem dX10_darks_29 : decode cX10_darks 29 = .ok (.iload_n 1, 1) := by decide +kernel
theorem dX10_darks_30 : decode cX10_darks 30 = .ok (.ireturn, 1) := by decide +kernel
set_option maxRecDepth 20000 in
theorem ggX10_period_X10_lights : GoodIn wsX10_period wsX10_lights := goodIn_r _ [5, 6, 7, 8, 9, 4, 10, 19, 20, 21, 22, 23, 24, 25, 26, 27, 28, 29, 30, 31, 32, 33] (by decide +kernel) (by decide +kernel)
set_option maxRecDepth 20000 in
theorem gX10_period_X10_lights : GoodIn wsX10_period (wsV RX10 86 RX10 yX10_lights wsX10_lights) := goodIn_app (goodIn_of _ (by decide +kernel)) ggX10_period_X10_lights
set_option maxRecDepth 20000 in
theorem ggX10_period_X10_darks : GoodIn wsX10_period wsX10_darks := goodIn_r _ [14, 6, 15, 16, 17, 4, 18, 19, 20, 21, 22, 23, 24, 25, 26, 27, 28, 29, 30, 31, 32, 33] (by decide +kernel) (by decide +kernel)
set_option maxRecDepth 20000 in
theorem gX10_period_X10_darks : GoodIn wsX10_period (wsV RX10 89 RX10 yX10_darks wsX10_darks) := goodIn_app (goodIn_of _ (by decide +kernel)) ggX10_period_X10_darks
theorem dX10_period_0 : decode cX10_period 0 = .ok (.aload_n 0, 1) := by decide +kernel
theorem dX10_period_1 : decode cX10_period 1 = .ok (.invokevirtual 86, 3) := by decide +kernel
theorem dX10_period_4 : decode cX10_period 4 = .ok (.aload_n 0, 1) := by decide +kernel
theorem dX10_period_5 : decode cX10_period 5 = .ok (.invokevirtual 89, 3) := by decide +kernel
theorem dX10_period_8 : decode cX10_period 8 = .ok (.iadd, 1) := by decide +kernel
theorem dX10_period_9 : decode cX10_period 9 = .ok (.ireturn, 1) := by decide +kernel
set_option maxRecDepth 20000 in
theorem ggX10_isLitAt_X10_period : GoodIn wsX10_isLitAt wsX10_period := goodIn_r _ [5, 6, 7, 8, 4, 9, 10, 11, 12, 13, 14, 15, 16, 17, 18, 19, 20, 21, 22, 23, 24, 25, 26, 27, 28, 29, 30, 31, 32, 33, 34, 35, 36, 37] (by decide +kernel) (by decide +kernel)
set_option maxRecDepth 20000 in
theorem gX10_isLitAt_X10_period : GoodIn wsX10_isLitAt (wsV RX10 92 RX10 yX10_period wsX10_period) := goodIn_app (goodIn_of _ (by decide +kernel)) ggX10_isLitAt_X10_period
set_option maxRecDepth 20000 in
theorem ggX10_isLitAt_X10_light : GoodIn wsX10_isLitAt wsX10_light := goodIn_r _ [14, 10, 23, 24, 25, 26, 27, 28, 29, 30, 31, 32, 33, 34, 35, 36, 37] (by decide +kernel) (by decide +kernel)
set_option maxRecDepth 20000 in
theorem gX10_isLitAt_X10_light : GoodIn wsX10_isLitAt (wsV RX10 80 RX10 yX10_light wsX10_light) := goodIn_app (goodIn_of _ (by decide +kernel)) ggX10_isLitAt_X10_light
set_option maxRecDepth 20000 in
theorem ggX10_isLitAt_X10_dark : GoodIn wsX10_isLitAt wsX10_dark := goodIn_r _ [22, 10, 23, 24, 25, 26, 27, 28, 29, 30, 31, 32, 33, 34, 35, 36, 37] (by decide +kernel) (by decide +kernel)
set_option maxRecDepth 20000 in
theorem gX10_isLitAt_X10_dark : GoodIn wsX10_isLitAt (wsV RX10 83 RX10 yX10_dark wsX10_dark) := goodIn_app (goodIn_of _ (by decide +kernel)) ggX10_isLitAt_X10_dark
theorem dX10_isLitAt_0 : decode cX10_isLitAt 0 = .ok (.iload_n 1, 1) := by decide +kernel
theorem dX10_isLitAt_1 : decode cX10_isLitAt 1 = .ok (.aload_n 0, 1) := by decide +kernel
theorem dX10_isLitAt_2 : decode cX10_isLitAt 2 = .ok (.invokevirtual 92, 3) := by decide +kernel
theorem dX10_isLitAt_5 : decode cX10_isLitAt 5 = .ok (.irem, 1) := by decide +kernel
theorem dX10_isLitAt_6 : decode cX10_isLitAt 6 = .ok (.istore_n 2, 1) := by decide +kernel
theorem dX10_isLitAt_7 : decode cX10_isLitAt 7 = .ok (.iconst 0, 1) := by decide +kernel
theorem dX10_isLitAt_8 : decode cX10_isLitAt 8 = .ok (.istore_n 3, 1) := by decide +kernel
theorem dX10_isLitAt_9 : decode cX10_isLitAt 9 = .ok (.iload_n 2, 1) := by decide +kernel
theorem dX10_isLitAt_10 : decode cX10_isLitAt 10 = .ok (.aload_n 0, 1) := by decide +kernel
theorem dX10_isLitAt_11 : decode cX10_isLitAt 11 = .ok (.iload_n 3, 1) := by decide +kernel
theorem dX10_isLitAt_12 : decode cX10_isLitAt 12 = .ok (.invokevirtual 80, 3) := by decide +kernel
theorem dX10_isLitAt_15 : decode cX10_isLitAt 15 = .ok (.aload_n 0, 1) := by decide +kernel
theorem dX10_isLitAt_16 : decode cX10_isLitAt 16 = .ok (.iload_n 3, 1) := by decide +kernel
theorem dX10_isLitAt_17 : decode cX10_isLitAt 17 = .ok (.invokevirtual 83, 3) := by decide +kernel
theorem dX10_isLitAt_20 : decode cX10_isLitAt 20 = .ok (.iadd, 1) := by decide +kernel
theorem dX10_isLitAt_21 : decode cX10_isLitAt 21 = .ok (.if_icmp .lt 23, 3) := by decide +kernel
theorem dX10_isLitAt_24 : decode cX10_isLitAt 24 = .ok (.iload_n 2, 1) := by decide +kernel
theorem dX10_isLitAt_25 : decode cX10_isLitAt 25 = .ok (.aload_n 0, 1) := by decide +kernel
theorem dX10_isLitAt_26 : decode cX10_isLitAt 26 = .ok (.iload_n 3, 1) := by decide +kernel
theorem dX10_isLitAt_27 : decode cX10_isLitAt 27 = .ok (.invokevirtual 80, 3) := by decide +kernel
theorem dX10_isLitAt_30 : decode cX10_isLitAt 30 = .ok (.aload_n 0, 1) := by decide +kernel
theorem dX10_isLitAt_31 : decode cX10_isLitAt 31 = .ok (.iload_n 3, 1) := by decide +kernel
theorem dX10_isLitAt_32 : decode cX10_isLitAt 32 = .ok (.invokevirtual 83, 3) := by decide +kernel
theorem dX10_isLitAt_35 : decode cX10_isLitAt 35 = .ok (.iadd, 1) := by decide +kernel
theorem dX10_isLitAt_36 : decode cX10_isLitAt 36 = .ok (.isub, 1) := by decide +kernel
theorem dX10_isLitAt_37 : decode cX10_isLitAt 37 = .ok (.istore_n 2, 1) := by decide +kernel
theorem dX10_isLitAt_38 : decode cX10_isLitAt 38 = .ok (.iinc 3 1, 3) := by decide +kernel
theorem dX10_isLitAt_41 : decode cX10_isLitAt 41 = .ok (.goto (-32), 3) := by decide +kernel
theorem dX10_isLitAt_44 : decode cX10_isLitAt 44 = .ok (.iload_n 2, 1) := by decide +kernel
theorem dX10_isLitAt_45 : decode cX10_isLitAt 45 = .ok (.aload_n 0, 1) := by decide +kernel
theorem dX10_isLitAt_46 : decode cX10_isLitAt 46 = .ok (.iload_n 3, 1) := by decide +kernel
theorem dX10_isLitAt_47 : decode cX10_isLitAt 47 = .ok (.invokevirtual 80, 3) := by decide +kernel
theorem dX10_isLitAt_50 : decode cX10_isLitAt 50 = .ok (.if_icmp .ge 7, 3) := by decide +kernel
theorem dX10_isLitAt_53 : decode cX10_isLitAt 53 = .ok (.iconst 1, 1) := by decide +kernel
theorem dX10_isLitAt_54 : decode cX10_isLitAt 54 = .ok (.goto 4, 3) := by decide +kernel
theorem dX10_isLitAt_57 : decode cX10_isLitAt 57 = .ok (.iconst 0, 1) := by decide +kernel
theorem dX10_isLitAt_58 : decode cX10_isLitAt 58 = .ok (.ireturn, 1) := by decide +kernel
set_option maxRecDepth 20000 in
theorem ggX10_isLight_X10_within : GoodIn wsX10_isLight wsX10_within := goodIn_r _ [4] (by decide +kernel) (by decide +kernel)
set_option maxRecDepth 20000 in
theorem gX10_isLight_X10_within : GoodIn wsX10_isLight (va_wsS RX10 43 yX10_within wsX10_within) := goodIn_app (goodIn_of _ (by decide +kernel)) ggX10_isLight_X10_within
theorem dX10_isLight_0 : decode cX10_isLight 0 = .ok (.iload_n 0, 1) := by decide +kernel
theorem dX10_isLight_1 : decode cX10_isLight 1 = .ok (.iconst 1, 1) := by decide +kernel
theorem dX10_isLight_2 : decode cX10_isLight 2 = .ok (.bipush 60, 2) := by decide +kernel
theorem dX10_isLight_4 : decode cX10_isLight 4 = .ok (.invokestatic 43, 3) := by decide +kernel
theorem dX10_isLight_7 : decode cX10_isLight 7 = .ok (.ireturn, 1) := by decide +kernel
set_option maxRecDepth 20000 in
theorem ggX10_isDark_X10_within : GoodIn wsX10_isDark wsX10_within := goodIn_r _ [4] (by decide +kernel) (by decide +kernel)
set_option maxRecDepth 20000 in
theorem gX10_isDark_X10_within : GoodIn wsX10_isDark (va_wsS RX10 43 yX10_within wsX10_within) := goodIn_app (goodIn_of _ (by decide +kernel)) ggX10_isDark_X10_within
theorem dX10_isDark_0 : decode cX10_isDark 0 = .ok (.iload_n 0, 1) := by decide +kernel
theorem dX10_isDark_1 : decode cX10_isDark 1 = .ok (.iconst 0, 1) := by decide +kernel
theorem dX10_isDark_2 : decode cX10_isDark 2 = .ok (.bipush 60, 2) := by decide +kernel
theorem dX10_isDark_4 : decode cX10_isDark 4 = .ok (.invokestatic 43, 3) := by decide +kernel
theorem dX10_isDark_7 : decode cX10_isDark 7 = .ok (.ireturn, 1) := by decide +kernel
theorem dX10_appends_0 : decode cX10_appends 0 = .ok (.aload_n 0, 1) := by decide +kernel
theorem dX10_appends_1 : decode cX10_appends 1 = .ok (.getfield 7, 3) := by decide +kernel
theorem dX10_appends_4 : decode cX10_appends 4 = .ok (.bipush 65, 2) := by decide +kernel
theorem dX10_appends_6 : decode cX10_appends 6 = .ok (.iconst 2, 1) := by decide +kernel
theorem dX10_appends_7 : decode cX10_appends 7 = .ok (.aload_n 0, 1) := by decide +kernel
theorem dX10_appends_8 : decode cX10_appends 8 = .ok (.getfield 7, 3) := by decide +kernel
theorem dX10_appends_11 : decode cX10_appends 11 = .ok (.bipush 64, 2) := by decide +kernel
theorem dX10_appends_13 : decode cX10_appends 13 = .ok (.iaload, 1) := by decide +kernel
theorem dX10_appends_14 : decode cX10_appends 14 = .ok (.imul, 1) := by decide +kernel
theorem dX10_appends_15 : decode cX10_appends 15 = .ok (.iadd, 1) := by decide +kernel
theorem dX10_appends_16 : decode cX10_appends 16 = .ok (.iload_n 1, 1) := by decide +kernel
theorem dX10_appends_17 : decode cX10_appends 17 = .ok (.iastore, 1) := by decide +kernel
theorem dX10_appends_18 : decode cX10_appends 18 = .ok (.aload_n 0, 1) := by decide +kernel
theorem dX10_appends_19 : decode cX10_appends 19 = .ok (.getfield 7, 3) := by decide +kernel
theorem dX10_appends_22 : decode cX10_appends 22 = .ok (.bipush 65, 2) := by decide +kernel
theorem dX10_appends_24 : decode cX10_appends 24 = .ok (.iconst 2, 1) := by decide +kernel
theorem dX10_appends_25 : decode cX10_appends 25 = .ok (.aload_n 0, 1) := by decide +kernel
theorem dX10_appends_26 : decode cX10_appends 26 = .ok (.getfield 7, 3) := by decide +kernel
theorem dX10_appends_29 : decode cX10_appends 29 = .ok (.bipush 64, 2) := by decide +kernel
theorem dX10_appends_31 : decode cX10_appends 31 = .ok (.iaload, 1) := by decide +kernel
theorem dX10_appends_32 : decode cX10_appends 32 = .ok (.imul, 1) := by decide +kernel
theorem dX10_appends_33 : decode cX10_appends 33 = .ok (.iadd, 1) := by decide +kernel
theorem dX10_appends_34 : decode cX10_appends 34 = .ok (.iconst 1, 1) := by decide +kernel
theorem dX10_appends_35 : decode cX10_appends 35 = .ok (.iadd, 1) := by decide +kernel
theorem dX10_appends_36 : decode cX10_appends 36 = .ok (.iload_n 2, 1) := by decide +kernel
theorem dX10_appends_37 : decode cX10_appends 37 = .ok (.iastore, 1) := by decide +kernel
theorem dX10_appends_38 : decode cX10_appends 38 = .ok (.aload_n 0, 1) := by decide +kernel
theorem dX10_appends_39 : decode cX10_appends 39 = .ok (.getfield 7, 3) := by decide +kernel
theorem dX10_appends_42 : decode cX10_appends 42 = .ok (.bipush 64, 2) := by decide +kernel
theorem dX10_appends_44 : decode cX10_appends 44 = .ok (.dup2, 1) := by decide +kernel
theorem dX10_appends_45 : decode cX10_appends 45 = .ok (.iaload, 1) := by decide +kernel
theorem dX10_appends_46 : decode cX10_appends 46 = .ok (.iconst 1, 1) := by decide +kernel
theorem dX10_appends_47 : decode cX10_appends 47 = .ok (.iadd, 1) := by decide +kernel
theorem dX10_appends_48 : decode cX10_appends 48 = .ok (.iastore, 1) := by decide +kernel
theorem dX10_appends_49 : decode cX10_appends 49 = .ok (.return_, 1) := by decide +kernel
theorem dX10_clearsCode_0 : decode cX10_clearsCode 0 = .ok (.aload_n 0, 1) := by decide +kernel
theorem dX10_clearsCode_1 : decode cX10_clearsCode 1 = .ok (.getfield 7, 3) := by decide +kernel
theorem dX10_clearsCode_4 : decode cX10_clearsCode 4 = .ok (.bipush 64, 2) := by decide +kernel
theorem dX10_clearsCode_6 : decode cX10_clearsCode 6 = .ok (.iconst 0, 1) := by decide +kernel
theorem dX10_clearsCode_7 : decode cX10_clearsCode 7 = .ok (.iastore, 1) := by decide +kernel
theorem dX10_clearsCode_8 : decode cX10_clearsCode 8 = .ok (.iconst 0, 1) := by decide +kernel
theorem dX10_clearsCode_9 : decode cX10_clearsCode 9 = .ok (.istore_n 1, 1) := by decide +kernel
theorem dX10_clearsCode_10 : decode cX10_clearsCode 10 = .ok (.iload_n 1, 1) := by decide +kernel
theorem dX10_clearsCode_11 : decode cX10_clearsCode 11 = .ok (.bipush 16, 2) := by decide +kernel
theorem dX10_clearsCode_13 : decode cX10_clearsCode 13 = .ok (.if_icmp .ge 19, 3) := by decide +kernel
theorem dX10_clearsCode_16 : decode cX10_clearsCode 16 = .ok (.aload_n 0, 1) := by decide +kernel
theorem dX10_clearsCode_17 : decode cX10_clearsCode 17 = .ok (.getfield 7, 3) := by decide +kernel
theorem dX10_clearsCode_20 : decode cX10_clearsCode 20 = .ok (.bipush 65, 2) := by decide +kernel
theorem dX10_clearsCode_22 : decode cX10_clearsCode 22 = .ok (.iload_n 1, 1) := by decide +kernel
theorem dX10_clearsCode_23 : decode cX10_clearsCode 23 = .ok (.iadd, 1) := by decide +kernel
theorem dX10_clearsCode_24 : decode cX10_clearsCode 24 = .ok (.iconst 0, 1) := by decide +kernel
theorem dX10_clearsCode_25 : decode cX10_clearsCode 25 = .ok (.iastore, 1) := by decide +kernel
theorem dX10_clearsCode_26 : decode cX10_clearsCode 26 = .ok (.iinc 1 1, 3) := by decide +kernel
theorem dX10_clearsCode_29 : decode cX10_clearsCode 29 = .ok (.goto (-19), 3) := by decide +kernel
theorem dX10_clearsCode_32 : decode cX10_clearsCode 32 = .ok (.return_, 1) := by decide +kernel
set_option maxRecDepth 20000 in
theorem ggX10_setCode_X10_isLight : GoodIn wsX10_setCode wsX10_isLight := goodIn_r _ [5, 6, 7, 4, 8] (by decide +kernel) (by decide +kernel)
set_option maxRecDepth 20000 in
theorem gX10_setCode_X10_isLight : GoodIn wsX10_setCode (va_wsS RX10 95 yX10_isLight wsX10_isLight) := goodIn_app (goodIn_of _ (by decide +kernel)) ggX10_setCode_X10_isLight
set_option maxRecDepth 20000 in
theorem ggX10_setCode_X10_isDark : GoodIn wsX10_setCode wsX10_isDark := goodIn_r _ [11, 6, 7, 4, 8] (by decide +kernel) (by decide +kernel)
set_option maxRecDepth 20000 in
theorem gX10_setCode_X10_isDark : GoodIn wsX10_setCode (va_wsS RX10 98 yX10_isDark wsX10_isDark) := goodIn_app (goodIn_of _ (by decide +kernel)) ggX10_setCode_X10_isDark
set_option maxRecDepth 20000 in
theorem ggX10_setCode_X10_within : GoodIn wsX10_setCode wsX10_within := goodIn_r _ [8] (by decide +kernel) (by decide +kernel)
set_option maxRecDepth 20000 in
theorem gX10_setCode_X10_within : GoodIn wsX10_setCode (va_wsS RX10 43 yX10_within wsX10_within) := goodIn_app (goodIn_of _ (by decide +kernel)) ggX10_setCode_X10_within
set_option maxRecDepth 20000 in
theorem ggX10_setCode_X10_saves : GoodIn wsX10_setCode wsX10_saves := goodIn_r _ [15, 16, 17, 1, 18, 19, 4, 20, 49, 50, 51, 52, 53, 54, 55, 56, 57, 58, 59, 60, 61, 62, 63] (by decide +kernel) (by decide +kernel)
set_option maxRecDepth 20000 in
theorem gX10_setCode_X10_saves : GoodIn wsX10_setCode (wsV RX10 51 RX10 yX10_saves wsX10_saves) := goodIn_app (goodIn_of _ (by decide +kernel)) ggX10_setCode_X10_saves
set_option maxRecDepth 20000 in
theorem ggX10_setCode_X10_clearsCode : GoodIn wsX10_setCode wsX10_clearsCode := goodIn_r _ [24, 1, 49, 50, 51, 52, 53, 54, 55, 56, 57, 58, 59, 60, 61, 62, 63] (by decide +kernel) (by decide +kernel)
set_option maxRecDepth 20000 in
theorem gX10_setCode_X10_clearsCode : GoodIn wsX10_setCode (wsV RX10 101 RX10 yX10_clearsCode wsX10_clearsCode) := goodIn_app (goodIn_of _ (by decide +kernel)) ggX10_setCode_X10_clearsCode
set_option maxRecDepth 20000 in
theorem ggX10_setCode_X10_appends : GoodIn wsX10_setCode wsX10_appends := goodIn_r _ [28, 1, 49, 50, 51, 52, 53, 54, 55, 56, 57, 58, 59, 60, 61, 62, 63] (by decide +kernel) (by decide +kernel)
set_option maxRecDepth 20000 in
theorem gX10_setCode_X10_appends : GoodIn wsX10_setCode (wsV RX10 104 RX10 yX10_appends wsX10_appends) := goodIn_app (goodIn_of _ (by decide +kernel)) ggX10_setCode_X10_appends
set_option maxRecDepth 20000 in
theorem ggX10_setCode_X10_period : GoodIn wsX10_setCode wsX10_period := goodIn_r _ [32, 33, 34, 35, 4, 36, 1, 37, 38, 39, 40, 41, 42, 43, 44, 45, 46, 47, 48, 49, 50, 51, 52, 53, 54, 55, 56, 57, 58, 59, 60, 61, 62, 63] (by decide +kernel) (by decide +kernel)
set_option maxRecDepth 20000 in
theorem gX10_setCode_X10_period : GoodIn wsX10_setCode (wsV RX10 92 RX10 yX10_period wsX10_period) := goodIn_app (goodIn_of _ (by decide +kernel)) ggX10_setCode_X10_period
theorem dX10_setCode_0 : decode cX10_setCode 0 = .ok (.iload_n 1, 1) := by decide +kernel
theorem dX10_setCode_1 : decode cX10_setCode 1 = .ok (.invokestatic 95, 3) := by decide +kernel
theorem dX10_setCode_4 : decode cX10_setCode 4 = .ok (.ifCond .eq 19, 3) := by decide +kernel
theorem dX10_setCode_7 : decode cX10_setCode 7 = .ok (.iload_n 2, 1) := by decide +kernel
theorem dX10_setCode_8 : decode cX10_setCode 8 = .ok (.invokestatic 98, 3) := by decide +kernel
theorem dX10_setCode_11 : decode cX10_setCode 11 = .ok (.ifCond .eq 12, 3) := by decide +kernel
theorem dX10_setCode_14 : decode cX10_setCode 14 = .ok (.iload_n 3, 1) := by decide +kernel
theorem dX10_setCode_15 : decode cX10_setCode 15 = .ok (.iconst 0, 1) := by decide +kernel
theorem dX10_setCode_16 : decode cX10_setCode 16 = .ok (.iconst 1, 1) := by decide +kernel
theorem dX10_setCode_17 : decode cX10_setCode 17 = .ok (.invokestatic 43, 3) := by decide +kernel
theorem dX10_setCode_20 : decode cX10_setCode 20 = .ok (.ifCond .ne 5, 3) := by decide +kernel
theorem dX10_setCode_23 : decode cX10_setCode 23 = .ok (.iconst (-1), 1) := by decide +kernel
theorem dX10_setCode_24 : decode cX10_setCode 24 = .ok (.ireturn, 1) := by decide +kernel
theorem dX10_setCode_25 : decode cX10_setCode 25 = .ok (.iload_n 3, 1) := by decide +kernel
theorem dX10_setCode_26 : decode cX10_setCode 26 = .ok (.ifCond .ne 18, 3) := by decide +kernel
theorem dX10_setCode_29 : decode cX10_setCode 29 = .ok (.aload_n 0, 1) := by decide +kernel
theorem dX10_setCode_30 : decode cX10_setCode 30 = .ok (.getfield 7, 3) := by decide +kernel
theorem dX10_setCode_33 : decode cX10_setCode 33 = .ok (.bipush 64, 2) := by decide +kernel
theorem dX10_setCode_35 : decode cX10_setCode 35 = .ok (.iaload, 1) := by decide +kernel
theorem dX10_setCode_36 : decode cX10_setCode 36 = .ok (.bipush 8, 2) := by decide +kernel
theorem dX10_setCode_38 : decode cX10_setCode 38 = .ok (.if_icmp .ne 6, 3) := by decide +kernel
theorem dX10_setCode_41 : decode cX10_setCode 41 = .ok (.bipush (-3), 2) := by decide +kernel
theorem dX10_setCode_43 : decode cX10_setCode 43 = .ok (.ireturn, 1) := by decide +kernel
theorem dX10_setCode_44 : decode cX10_setCode 44 = .ok (.aload_n 0, 1) := by decide +kernel
theorem dX10_setCode_45 : decode cX10_setCode 45 = .ok (.invokevirtual 51, 3) := by decide +kernel
theorem dX10_setCode_48 : decode cX10_setCode 48 = .ok (.iload_n 3, 1) := by decide +kernel
theorem dX10_setCode_49 : decode cX10_setCode 49 = .ok (.iconst 1, 1) := by decide +kernel
theorem dX10_setCode_50 : decode cX10_setCode 50 = .ok (.if_icmp .ne 7, 3) := by decide +kernel
theorem dX10_setCode_53 : decode cX10_setCode 53 = .ok (.aload_n 0, 1) := by decide +kernel
theorem dX10_setCode_54 : decode cX10_setCode 54 = .ok (.invokevirtual 101, 3) := by decide +kernel
theorem dX10_setCode_57 : decode cX10_setCode 57 = .ok (.aload_n 0, 1) := by decide +kernel
theorem dX10_setCode_58 : decode cX10_setCode 58 = .ok (.iload_n 1, 1) := by decide +kernel
theorem dX10_setCode_59 : decode cX10_setCode 59 = .ok (.iload_n 2, 1) := by decide +kernel
theorem dX10_setCode_60 : decode cX10_setCode 60 = .ok (.invokevirtual 104, 3) := by decide +kernel
theorem dX10_setCode_63 : decode cX10_setCode 63 = .ok (.aload_n 0, 1) := by decide +kernel
theorem dX10_setCode_64 : decode cX10_setCode 64 = .ok (.invokevirtual 92, 3) := by decide +kernel
theorem dX10_setCode_67 : decode cX10_setCode 67 = .ok (.ireturn, 1) := by decide +kernel
set_option maxRecDepth 20000 in
theorem ggX10_kindOfCode_X10_darks : GoodIn wsX10_kindOfCode wsX10_darks := goodIn_r _ [6, 1, 7, 8, 9, 5, 10, 19, 20, 21, 22, 23, 24, 25, 26, 27, 28, 29, 30, 31, 32, 33] (by decide +kernel) (by decide +kernel)
set_option maxRecDepth 20000 in
theorem gX10_kindOfCode_X10_darks : GoodIn wsX10_kindOfCode (wsV RX10 89 RX10 yX10_darks wsX10_darks) := goodIn_app (goodIn_of _ (by decide +kernel)) ggX10_kindOfCode_X10_darks
set_option maxRecDepth 20000 in
theorem ggX10_kindOfCode_X10_light : GoodIn wsX10_kindOfCode wsX10_light := goodIn_r _ [14, 1, 19, 20, 21, 22, 23, 24, 25, 26, 27, 28, 29, 30, 31, 32, 33] (by decide +kernel) (by decide +kernel)
set_option maxRecDepth 20000 in
theorem gX10_kindOfCode_X10_light : GoodIn wsX10_kindOfCode (wsV RX10 80 RX10 yX10_light wsX10_light) := goodIn_app (goodIn_of _ (by decide +kernel)) ggX10_kindOfCode_X10_light
set_option maxRecDepth 20000 in
theorem ggX10_kindOfCode_X10_dark : GoodIn wsX10_kindOfCode wsX10_dark := goodIn_r _ [10, 1, 19, 20, 21, 22, 23, 24, 25, 26, 27, 28, 29, 30, 31, 32, 33] (by decide +kernel) (by decide +kernel)
set_option maxRecDepth 20000 in
theorem gX10_kindOfCode_X10_dark : GoodIn wsX10_kindOfCode (wsV RX10 83 RX10 yX10_dark wsX10_dark) := goodIn_app (goodIn_of _ (by decide +kernel)) ggX10_kindOfCode_X10_dark
set_option maxRecDepth 20000 in
theorem ggX10_kindOfCode_X10_lights : GoodIn wsX10_kindOfCode wsX10_lights := goodIn_r _ [18, 1, 11, 12, 13, 5, 14, 19, 20, 21, 22, 23, 24, 25, 26, 27, 28, 29, 30, 31, 32, 33] (by decide +kernel) (by decide +kernel)
set_option maxRecDepth 20000 in
theorem gX10_kindOfCode_X10_lights : GoodIn wsX10_kindOfCode (wsV RX10 86 RX10 yX10_lights wsX10_lights) := goodIn_app (goodIn_of _ (by decide +kernel)) ggX10_kindOfCode_X10_lights
theorem dX10_kindOfCode_0 : decode cX10_kindOfCode 0 = .ok (.aload_n 0, 1) := by decide +kernel
theorem dX10_kindOfCode_1 : decode cX10_kindOfCode 1 = .ok (.invokevirtual 89, 3) := by decide +kernel
theorem dX10_kindOfCode_4 : decode cX10_kindOfCode 4 = .ok (.ifCond .ne 5, 3) := by decide +kernel
theorem dX10_kindOfCode_7 : decode cX10_kindOfCode 7 = .ok (.iconst 0, 1) := by decide +kernel
theorem dX10_kindOfCode_8 : decode cX10_kindOfCode 8 = .ok (.ireturn, 1) := by decide +kernel
theorem dX10_kindOfCode_9 : decode cX10_kindOfCode 9 = .ok (.aload_n 0, 1) := by decide +kernel
theorem dX10_kindOfCode_10 : decode cX10_kindOfCode 10 = .ok (.getfield 7, 3) := by decide +kernel
theorem dX10_kindOfCode_13 : decode cX10_kindOfCode 13 = .ok (.bipush 64, 2) := by decide +kernel
theorem dX10_kindOfCode_15 : decode cX10_kindOfCode 15 = .ok (.iaload, 1) := by decide +kernel
theorem dX10_kindOfCode_16 : decode cX10_kindOfCode 16 = .ok (.iconst 1, 1) := by decide +kernel
theorem dX10_kindOfCode_17 : decode cX10_kindOfCode 17 = .ok (.if_icmp .ne 20, 3) := by decide +kernel
theorem dX10_kindOfCode_20 : decode cX10_kindOfCode 20 = .ok (.aload_n 0, 1) := by decide +kernel
theorem dX10_kindOfCode_21 : decode cX10_kindOfCode 21 = .ok (.iconst 0, 1) := by decide +kernel
theorem dX10_kindOfCode_22 : decode cX10_kindOfCode 22 = .ok (.invokevirtual 80, 3) := by decide +kernel
theorem dX10_kindOfCode_25 : decode cX10_kindOfCode 25 = .ok (.aload_n 0, 1) := by decide +kernel
theorem dX10_kindOfCode_26 : decode cX10_kindOfCode 26 = .ok (.iconst 0, 1) := by decide +kernel
theorem dX10_kindOfCode_27 : decode cX10_kindOfCode 27 = .ok (.invokevirtual 83, 3) := by decide +kernel
theorem dX10_kindOfCode_30 : decode cX10_kindOfCode 30 = .ok (.if_icmp .ne 7, 3) := by decide +kernel
theorem dX10_kindOfCode_33 : decode cX10_kindOfCode 33 = .ok (.iconst 1, 1) := by decide +kernel
theorem dX10_kindOfCode_34 : decode cX10_kindOfCode 34 = .ok (.goto 19, 3) := by decide +kernel
theorem dX10_kindOfCode_37 : decode cX10_kindOfCode 37 = .ok (.aload_n 0, 1) := by decide +kernel
theorem dX10_kindOfCode_38 : decode cX10_kindOfCode 38 = .ok (.invokevirtual 89, 3) := by decide +kernel
theorem dX10_kindOfCode_41 : decode cX10_kindOfCode 41 = .ok (.aload_n 0, 1) := by decide +kernel
theorem dX10_kindOfCode_42 : decode cX10_kindOfCode 42 = .ok (.invokevirtual 86, 3) := by decide +kernel
theorem dX10_kindOfCode_45 : decode cX10_kindOfCode 45 = .ok (.if_icmp .le 7, 3) := by decide +kernel
theorem dX10_kindOfCode_48 : decode cX10_kindOfCode 48 = .ok (.iconst 2, 1) := by decide +kernel
theorem dX10_kindOfCode_49 : decode cX10_kindOfCode 49 = .ok (.goto 4, 3) := by decide +kernel
theorem dX10_kindOfCode_52 : decode cX10_kindOfCode 52 = .ok (.iconst 3, 1) := by decide +kernel
theorem dX10_kindOfCode_53 : decode cX10_kindOfCode 53 = .ok (.ireturn, 1) := by decide +kernel
set_option maxRecDepth 20000 in
theorem ggX10_code_X10_period : GoodIn wsX10_code wsX10_period := goodIn_r _ [6, 7, 8, 9, 5, 10, 1, 11, 12, 13, 14, 15, 16, 17, 18, 19, 20, 21, 22, 31, 32, 33, 34, 35, 36, 37, 38, 39, 40, 41, 42, 43, 44, 45] (by decide +kernel) (by decide +kernel)
set_option maxRecDepth 20000 in
theorem gX10_code_X10_period : GoodIn wsX10_code (wsV RX10 92 RX10 yX10_period wsX10_period) := goodIn_app (goodIn_of _ (by decide +kernel)) ggX10_code_X10_period
set_option maxRecDepth 20000 in
theorem ggX10_code_X10_lights : GoodIn wsX10_code wsX10_lights := goodIn_r _ [10, 1, 11, 12, 13, 5, 14, 31, 32, 33, 34, 35, 36, 37, 38, 39, 40, 41, 42, 43, 44, 45] (by decide +kernel) (by decide +kernel)
set_option maxRecDepth 20000 in
theorem gX10_code_X10_lights : GoodIn wsX10_code (wsV RX10 86 RX10 yX10_lights wsX10_lights) := goodIn_app (goodIn_of _ (by decide +kernel)) ggX10_code_X10_lights
set_option maxRecDepth 20000 in
theorem ggX10_code_X10_kindOfCode : GoodIn wsX10_code wsX10_kindOfCode := goodIn_r _ [26, 1, 15, 16, 17, 5, 18, 19, 20, 21, 22, 11, 12, 13, 14, 7, 8, 9, 10, 31, 32, 33, 34, 35, 36, 37, 38, 39, 40, 41, 42, 43, 44, 45] (by decide +kernel) (by decide +kernel)
set_option maxRecDepth 20000 in
theorem gX10_code_X10_kindOfCode : GoodIn wsX10_code (wsV RX10 108 RX10 yX10_kindOfCode wsX10_kindOfCode) := goodIn_app (goodIn_of _ (by decide +kernel)) ggX10_code_X10_kindOfCode
set_option maxRecDepth 20000 in
theorem ggX10_code_X10_isLitAt : GoodIn wsX10_code wsX10_isLitAt := goodIn_r _ [30, 2, 3, 4, 5, 6, 7, 8, 9, 10, 1, 11, 12, 13, 14, 15, 16, 17, 18, 19, 20, 21, 22, 31, 32, 33, 34, 35, 36, 37, 38, 39, 40, 41, 42, 43, 44, 45] (by decide +kernel) (by decide +kernel)
set_option maxRecDepth 20000 in
theorem gX10_code_X10_isLitAt : GoodIn wsX10_code (wsV RX10 111 RX10 yX10_isLitAt wsX10_isLitAt) := goodIn_app (goodIn_of _ (by decide +kernel)) ggX10_code_X10_isLitAt
theorem dX10_code_0 : decode cX10_code 0 = .ok (.iload_n 1, 1) := by decide +kernel
theorem dX10_code_1 : decode cX10_code 1 = .ok (.tableswitch 78 0 4 #[35, 43, 48, 53, 58], 35) := by decide +kernel
theorem dX10_code_36 : decode cX10_code 36 = .ok (.aload_n 0, 1) := by decide +kernel
theorem dX10_code_37 : decode cX10_code 37 = .ok (.getfield 7, 3) := by decide +kernel
theorem dX10_code_40 : decode cX10_code 40 = .ok (.bipush 64, 2) := by decide +kernel
theorem dX10_code_42 : decode cX10_code 42 = .ok (.iaload, 1) := by decide +kernel
theorem dX10_code_43 : decode cX10_code 43 = .ok (.ireturn, 1) := by decide +kernel
theorem dX10_code_44 : decode cX10_code 44 = .ok (.aload_n 0, 1) := by decide +kernel
theorem dX10_code_45 : decode cX10_code 45 = .ok (.invokevirtual 92, 3) := by decide +kernel
theorem dX10_code_48 : decode cX10_code 48 = .ok (.ireturn, 1) := by decide +kernel
theorem dX10_code_49 : decode cX10_code 49 = .ok (.aload_n 0, 1) := by decide +kernel
theorem dX10_code_50 : decode cX10_code 50 = .ok (.invokevirtual 86, 3) := by decide +kernel
theorem dX10_code_53 : decode cX10_code 53 = .ok (.ireturn, 1) := by decide +kernel
theorem dX10_code_54 : decode cX10_code 54 = .ok (.aload_n 0, 1) := by decide +kernel
theorem dX10_code_55 : decode cX10_code 55 = .ok (.invokevirtual 108, 3) := by decide +kernel
theorem dX10_code_58 : decode cX10_code 58 = .ok (.ireturn, 1) := by decide +kernel
theorem dX10_code_59 : decode cX10_code 59 = .ok (.aload_n 0, 1) := by decide +kernel
theorem dX10_code_60 : decode cX10_code 60 = .ok (.aload_n 0, 1) := by decide +kernel
theorem dX10_code_61 : decode cX10_code 61 = .ok (.getfield 7, 3) := by decide +kernel
theorem dX10_code_64 : decode cX10_code 64 = .ok (.bipush 116, 2) := by decide +kernel
theorem dX10_code_66 : decode cX10_code 66 = .ok (.iaload, 1) := by decide +kernel
theorem dX10_code_67 : decode cX10_code 67 = .ok (.invokevirtual 111, 3) := by decide +kernel
theorem dX10_code_70 : decode cX10_code 70 = .ok (.ifCond .eq 7, 3) := by decide +kernel
theorem dX10_code_73 : decode cX10_code 73 = .ok (.iconst 1, 1) := by decide +kernel
theorem dX10_code_74 : decode cX10_code 74 = .ok (.goto 4, 3) := by decide +kernel
theorem dX10_code_77 : decode cX10_code 77 = .ok (.iconst 0, 1) := by decide +kernel
theorem dX10_code_78 : decode cX10_code 78 = .ok (.ireturn, 1) := by decide +kernel
theorem dX10_code_79 : decode cX10_code 79 = .ok (.iconst (-1), 1) := by decide +kernel
theorem dX10_code_80 : decode cX10_code 80 = .ok (.ireturn, 1) := by decide +kernel
set_option maxRecDepth 20000 in
theorem ggX10_shareBits_X10_lights : GoodIn wsX10_shareBits wsX10_lights := goodIn_r _ [8, 9, 10, 11, 12, 7, 13, 26, 27, 28, 29, 30, 31, 32, 33, 34, 35, 36, 37, 38, 39, 40] (by decide +kernel) (by decide +kernel)
set_option maxRecDepth 20000 in
theorem gX10_shareBits_X10_lights : GoodIn wsX10_shareBits (wsV RX10 86 RX10 yX10_lights wsX10_lights) := goodIn_app (goodIn_of _ (by decide +kernel)) ggX10_shareBits_X10_lights
set_option maxRecDepth 20000 in
theorem ggX10_shareBits_X10_period : GoodIn wsX10_shareBits wsX10_period := goodIn_r _ [17, 4, 5, 6, 7, 8, 9, 10, 11, 12, 13, 18, 19, 20, 21, 22, 23, 24, 25, 26, 27, 28, 29, 30, 31, 32, 33, 34, 35, 36, 37, 38, 39, 40] (by decide +kernel) (by decide +kernel)
set_option maxRecDepth 20000 in
theorem gX10_shareBits_X10_period : GoodIn wsX10_shareBits (wsV RX10 92 RX10 yX10_period wsX10_period) := goodIn_app (goodIn_of _ (by decide +kernel)) ggX10_shareBits_X10_period
theorem dX10_shareBits_0 : decode cX10_shareBits 0 = .ok (.aload_n 0, 1) := by decide +kernel
theorem dX10_shareBits_1 : decode cX10_shareBits 1 = .ok (.invokevirtual 86, 3) := by decide +kernel
theorem dX10_shareBits_4 : decode cX10_shareBits 4 = .ok (.i2d, 1) := by decide +kernel
theorem dX10_shareBits_5 : decode cX10_shareBits 5 = .ok (.aload_n 0, 1) := by decide +kernel
theorem dX10_shareBits_6 : decode cX10_shareBits 6 = .ok (.invokevirtual 92, 3) := by decide +kernel
theorem dX10_shareBits_9 : decode cX10_shareBits 9 = .ok (.i2d, 1) := by decide +kernel
theorem dX10_shareBits_10 : decode cX10_shareBits 10 = .ok (.ddiv, 1) := by decide +kernel
theorem dX10_shareBits_11 : decode cX10_shareBits 11 = .ok (.dstore_n 1, 1) := by decide +kernel
theorem dX10_shareBits_12 : decode cX10_shareBits 12 = .ok (.ldc2_w 114, 3) := by decide +kernel
theorem dX10_shareBits_15 : decode cX10_shareBits 15 = .ok (.lstore_n 3, 1) := by decide +kernel
theorem dX10_shareBits_16 : decode cX10_shareBits 16 = .ok (.dload_n 1, 1) := by decide +kernel
theorem dX10_shareBits_17 : decode cX10_shareBits 17 = .ok (.dconst 1, 1) := by decide +kernel
theorem dX10_shareBits_18 : decode cX10_shareBits 18 = .ok (.dcmp .g, 1) := by decide +kernel
theorem dX10_shareBits_19 : decode cX10_shareBits 19 = .ok (.ifCond .ge 16, 3) := by decide +kernel
theorem dX10_shareBits_22 : decode cX10_shareBits 22 = .ok (.dload_n 1, 1) := by decide +kernel
theorem dX10_shareBits_23 : decode cX10_shareBits 23 = .ok (.ldc2_w 116, 3) := by decide +kernel
theorem dX10_shareBits_26 : decode cX10_shareBits 26 = .ok (.dmul, 1) := by decide +kernel
theorem dX10_shareBits_27 : decode cX10_shareBits 27 = .ok (.dstore_n 1, 1) := by decide +kernel
theorem dX10_shareBits_28 : decode cX10_shareBits 28 = .ok (.lload_n 3, 1) := by decide +kernel
theorem dX10_shareBits_29 : decode cX10_shareBits 29 = .ok (.lconst 1, 1) := by decide +kernel
theorem dX10_shareBits_30 : decode cX10_shareBits 30 = .ok (.lsub, 1) := by decide +kernel
theorem dX10_shareBits_31 : decode cX10_shareBits 31 = .ok (.lstore_n 3, 1) := by decide +kernel
theorem dX10_shareBits_32 : decode cX10_shareBits 32 = .ok (.goto (-16), 3) := by decide +kernel
theorem dX10_shareBits_35 : decode cX10_shareBits 35 = .ok (.lload_n 3, 1) := by decide +kernel
theorem dX10_shareBits_36 : decode cX10_shareBits 36 = .ok (.bipush 52, 2) := by decide +kernel
theorem dX10_shareBits_38 : decode cX10_shareBits 38 = .ok (.lshl, 1) := by decide +kernel
theorem dX10_shareBits_39 : decode cX10_shareBits 39 = .ok (.dload_n 1, 1) := by decide +kernel
theorem dX10_shareBits_40 : decode cX10_shareBits 40 = .ok (.dconst 1, 1) := by decide +kernel
theorem dX10_shareBits_41 : decode cX10_shareBits 41 = .ok (.dsub, 1) := by decide +kernel
theorem dX10_shareBits_42 : decode cX10_shareBits 42 = .ok (.ldc2_w 118, 3) := by decide +kernel
theorem dX10_shareBits_45 : decode cX10_shareBits 45 = .ok (.dmul, 1) := by decide +kernel
theorem dX10_shareBits_46 : decode cX10_shareBits 46 = .ok (.d2l, 1) := by decide +kernel
theorem dX10_shareBits_47 : decode cX10_shareBits 47 = .ok (.ladd, 1) := by decide +kernel
theorem dX10_shareBits_48 : decode cX10_shareBits 48 = .ok (.lreturn, 1) := by decide +kernel
set_option maxRecDepth 20000 in
theorem ggX10_next_X10_within : GoodIn wsX10_next wsX10_within := goodIn_r _ [5] (by decide +kernel) (by decide +kernel)
set_option maxRecDepth 20000 in
theorem gX10_next_X10_within : GoodIn wsX10_next (va_wsS RX10 43 yX10_within wsX10_within) := goodIn_app (goodIn_of _ (by decide +kernel)) ggX10_next_X10_within
set_option maxRecDepth 20000 in
theorem ggX10_next_X10_period : GoodIn wsX10_next wsX10_period := goodIn_r _ [9, 10, 11, 12, 4, 13, 1, 14, 15, 16, 17, 18, 19, 20, 21, 22, 23, 24, 25, 30, 31, 32, 33, 34, 35, 36, 37, 38, 39, 40, 41, 42, 43, 44] (by decide +kernel) (by decide +kernel)
set_option maxRecDepth 20000 in
theorem gX10_next_X10_period : GoodIn wsX10_next (wsV RX10 92 RX10 yX10_period wsX10_period) := goodIn_app (goodIn_of _ (by decide +kernel)) ggX10_next_X10_period
set_option maxRecDepth 20000 in
theorem ggX10_next_X10_isLitAt : GoodIn wsX10_next wsX10_isLitAt := goodIn_r _ [29, 6, 7, 8, 4, 9, 10, 11, 12, 13, 1, 14, 15, 16, 17, 18, 19, 20, 21, 22, 23, 24, 25, 30, 31, 32, 33, 34, 35, 36, 37, 38, 39, 40, 41, 42, 43, 44] (by decide +kernel) (by decide +kernel)
set_option maxRecDepth 20000 in
theorem gX10_next_X10_isLitAt : GoodIn wsX10_next (wsV RX10 111 RX10 yX10_isLitAt wsX10_isLitAt) := goodIn_app (goodIn_of _ (by decide +kernel)) ggX10_next_X10_isLitAt
theorem dX10_next_0 : decode cX10_next 0 = .ok (.iload_n 1, 1) := by decide +kernel
theorem dX10_next_1 : decode cX10_next 1 = .ok (.iconst 0, 1) := by decide +kernel
theorem dX10_next_2 : decode cX10_next 2 = .ok (.iconst 1, 1) := by decide +kernel
theorem dX10_next_3 : decode cX10_next 3 = .ok (.invokestatic 43, 3) := by decide +kernel
theorem dX10_next_6 : decode cX10_next 6 = .ok (.ifCond .ne 5, 3) := by decide +kernel
theorem dX10_next_9 : decode cX10_next 9 = .ok (.iconst (-1), 1) := by decide +kernel
theorem dX10_next_10 : decode cX10_next 10 = .ok (.ireturn, 1) := by decide +kernel
theorem dX10_next_11 : decode cX10_next 11 = .ok (.aload_n 0, 1) := by decide +kernel
theorem dX10_next_12 : decode cX10_next 12 = .ok (.getfield 7, 3) := by decide +kernel
theorem dX10_next_15 : decode cX10_next 15 = .ok (.bipush 116, 2) := by decide +kernel
theorem dX10_next_17 : decode cX10_next 17 = .ok (.iaload, 1) := by decide +kernel
theorem dX10_next_18 : decode cX10_next 18 = .ok (.istore_n 2, 1) := by decide +kernel
theorem dX10_next_19 : decode cX10_next 19 = .ok (.iload_n 2, 1) := by decide +kernel
theorem dX10_next_20 : decode cX10_next 20 = .ok (.aload_n 0, 1) := by decide +kernel
theorem dX10_next_21 : decode cX10_next 21 = .ok (.getfield 7, 3) := by decide +kernel
theorem dX10_next_24 : decode cX10_next 24 = .ok (.bipush 116, 2) := by decide +kernel
theorem dX10_next_26 : decode cX10_next 26 = .ok (.iaload, 1) := by decide +kernel
theorem dX10_next_27 : decode cX10_next 27 = .ok (.aload_n 0, 1) := by decide +kernel
theorem dX10_next_28 : decode cX10_next 28 = .ok (.invokevirtual 92, 3) := by decide +kernel
theorem dX10_next_31 : decode cX10_next 31 = .ok (.iadd, 1) := by decide +kernel
theorem dX10_next_32 : decode cX10_next 32 = .ok (.if_icmp .ge 29, 3) := by decide +kernel
theorem dX10_next_35 : decode cX10_next 35 = .ok (.aload_n 0, 1) := by decide +kernel
theorem dX10_next_36 : decode cX10_next 36 = .ok (.iload_n 2, 1) := by decide +kernel
theorem dX10_next_37 : decode cX10_next 37 = .ok (.invokevirtual 111, 3) := by decide +kernel
theorem dX10_next_40 : decode cX10_next 40 = .ok (.iload_n 1, 1) := by decide +kernel
theorem dX10_next_41 : decode cX10_next 41 = .ok (.iconst 1, 1) := by decide +kernel
theorem dX10_next_42 : decode cX10_next 42 = .ok (.if_icmp .ne 7, 3) := by decide +kernel
theorem dX10_next_45 : decode cX10_next 45 = .ok (.iconst 1, 1) := by decide +kernel
theorem dX10_next_46 : decode cX10_next 46 = .ok (.goto 4, 3) := by decide +kernel
theorem dX10_next_49 : decode cX10_next 49 = .ok (.iconst 0, 1) := by decide +kernel
theorem dX10_next_50 : decode cX10_next 50 = .ok (.if_icmp .ne 5, 3) := by decide +kernel
theorem dX10_next_53 : decode cX10_next 53 = .ok (.iload_n 2, 1) := by decide +kernel
theorem dX10_next_54 : decode cX10_next 54 = .ok (.ireturn, 1) := by decide +kernel
theorem dX10_next_55 : decode cX10_next 55 = .ok (.iinc 2 1, 3) := by decide +kernel
theorem dX10_next_58 : decode cX10_next 58 = .ok (.goto (-39), 3) := by decide +kernel
theorem dX10_next_61 : decode cX10_next 61 = .ok (.bipush (-4), 2) := by decide +kernel
theorem dX10_next_63 : decode cX10_next 63 = .ok (.ireturn, 1) := by decide +kernel
theorem dX10_lampAt_0 : decode cX10_lampAt 0 = .ok (.aload_n 0, 1) := by decide +kernel
theorem dX10_lampAt_1 : decode cX10_lampAt 1 = .ok (.getfield 7, 3) := by decide +kernel
theorem dX10_lampAt_4 : decode cX10_lampAt 4 = .ok (.bipush 82, 2) := by decide +kernel
theorem dX10_lampAt_6 : decode cX10_lampAt 6 = .ok (.iconst 5, 1) := by decide +kernel
theorem dX10_lampAt_7 : decode cX10_lampAt 7 = .ok (.iload_n 1, 1) := by decide +kernel
theorem dX10_lampAt_8 : decode cX10_lampAt 8 = .ok (.imul, 1) := by decide +kernel
theorem dX10_lampAt_9 : decode cX10_lampAt 9 = .ok (.iadd, 1) := by decide +kernel
theorem dX10_lampAt_10 : decode cX10_lampAt 10 = .ok (.iload_n 2, 1) := by decide +kernel
theorem dX10_lampAt_11 : decode cX10_lampAt 11 = .ok (.iadd, 1) := by decide +kernel
theorem dX10_lampAt_12 : decode cX10_lampAt 12 = .ok (.iaload, 1) := by decide +kernel
theorem dX10_lampAt_13 : decode cX10_lampAt 13 = .ok (.ireturn, 1) := by decide +kernel
set_option maxRecDepth 20000 in
theorem ggX10_isBurnt_X10_lampAt : GoodIn wsX10_isBurnt wsX10_lampAt := goodIn_r _ [5, 6, 7, 8, 9, 10, 11, 12, 13, 14, 15, 16, 17, 18, 19, 20, 21] (by decide +kernel) (by decide +kernel)
set_option maxRecDepth 20000 in
theorem gX10_isBurnt_X10_lampAt : GoodIn wsX10_isBurnt (wsV RX10 120 RX10 yX10_lampAt wsX10_lampAt) := goodIn_app (goodIn_of _ (by decide +kernel)) ggX10_isBurnt_X10_lampAt
theorem dX10_isBurnt_0 : decode cX10_isBurnt 0 = .ok (.aload_n 0, 1) := by decide +kernel
theorem dX10_isBurnt_1 : decode cX10_isBurnt 1 = .ok (.iload_n 1, 1) := by decide +kernel
theorem dX10_isBurnt_2 : decode cX10_isBurnt 2 = .ok (.iconst 4, 1) := by decide +kernel
theorem dX10_isBurnt_3 : decode cX10_isBurnt 3 = .ok (.invokevirtual 120, 3) := by decide +kernel
theorem dX10_isBurnt_6 : decode cX10_isBurnt 6 = .ok (.aload_n 0, 1) := by decide +kernel
theorem dX10_isBurnt_7 : decode cX10_isBurnt 7 = .ok (.iload_n 1, 1) := by decide +kernel
theorem dX10_isBurnt_8 : decode cX10_isBurnt 8 = .ok (.iconst 3, 1) := by decide +kernel
theorem dX10_isBurnt_9 : decode cX10_isBurnt 9 = .ok (.invokevirtual 120, 3) := by decide +kernel
theorem dX10_isBurnt_12 : decode cX10_isBurnt 12 = .ok (.if_icmp .lt 7, 3) := by decide +kernel
theorem dX10_isBurnt_15 : decode cX10_isBurnt 15 = .ok (.iconst 1, 1) := by decide +kernel
theorem dX10_isBurnt_16 : decode cX10_isBurnt 16 = .ok (.goto 4, 3) := by decide +kernel
theorem dX10_isBurnt_19 : decode cX10_isBurnt 19 = .ok (.iconst 0, 1) := by decide +kernel
theorem dX10_isBurnt_20 : decode cX10_isBurnt 20 = .ok (.ireturn, 1) := by decide +kernel
set_option maxRecDepth 20000 in
theorem ggX10_isGood_X10_lampAt : GoodIn wsX10_isGood wsX10_lampAt := goodIn_r _ [5, 6, 11, 12, 13, 14, 15, 16, 17, 18, 19, 20, 21, 22, 23, 24, 25] (by decide +kernel) (by decide +kernel)
set_option maxRecDepth 20000 in
theorem gX10_isGood_X10_lampAt : GoodIn wsX10_isGood (wsV RX10 120 RX10 yX10_lampAt wsX10_lampAt) := goodIn_app (goodIn_of _ (by decide +kernel)) ggX10_isGood_X10_lampAt
set_option maxRecDepth 20000 in
theorem ggX10_isGood_X10_isBurnt : GoodIn wsX10_isGood wsX10_isBurnt := goodIn_r _ [10, 1, 2, 3, 4, 5, 6, 11, 12, 13, 14, 15, 16, 17, 18, 19, 20, 21, 22, 23, 24, 25] (by decide +kernel) (by decide +kernel)
set_option maxRecDepth 20000 in
theorem gX10_isGood_X10_isBurnt : GoodIn wsX10_isGood (wsV RX10 123 RX10 yX10_isBurnt wsX10_isBurnt) := goodIn_app (goodIn_of _ (by decide +kernel)) ggX10_isGood_X10_isBurnt
theorem dX10_isGood_0 : decode cX10_isGood 0 = .ok (.aload_n 0, 1) := by decide +kernel
theorem dX10_isGood_1 : decode cX10_isGood 1 = .ok (.iload_n 1, 1) := by decide +kernel
theorem dX10_isGood_2 : decode cX10_isGood 2 = .ok (.iconst 0, 1) := by decide +kernel
theorem dX10_isGood_3 : decode cX10_isGood 3 = .ok (.invokevirtual 120, 3) := by decide +kernel
theorem dX10_isGood_6 : decode cX10_isGood 6 = .ok (.iconst 1, 1) := by decide +kernel
theorem dX10_isGood_7 : decode cX10_isGood 7 = .ok (.if_icmp .ne 15, 3) := by decide +kernel
theorem dX10_isGood_10 : decode cX10_isGood 10 = .ok (.aload_n 0, 1) := by decide +kernel
theorem dX10_isGood_11 : decode cX10_isGood 11 = .ok (.iload_n 1, 1) := by decide +kernel
theorem dX10_isGood_12 : decode cX10_isGood 12 = .ok (.invokevirtual 123, 3) := by decide +kernel
theorem dX10_isGood_15 : decode cX10_isGood 15 = .ok (.ifCond .ne 7, 3) := by decide +kernel
theorem dX10_isGood_18 : decode cX10_isGood 18 = .ok (.iconst 1, 1) := by decide +kernel
theorem dX10_isGood_19 : decode cX10_isGood 19 = .ok (.goto 4, 3) := by decide +kernel
theorem dX10_isGood_22 : decode cX10_isGood 22 = .ok (.iconst 0, 1) := by decide +kernel
theorem dX10_isGood_23 : decode cX10_isGood 23 = .ok (.ireturn, 1) := by decide +kernel
set_option maxRecDepth 20000 in
theorem ggX10_lamps_X10_lampAt : GoodIn wsX10_lamps wsX10_lampAt := goodIn_r _ [5, 6, 7, 8, 9, 10, 11, 12, 13, 14, 15, 16, 17, 18, 19, 20, 21] (by decide +kernel) (by decide +kernel)
set_option maxRecDepth 20000 in
theorem gX10_lamps_X10_lampAt : GoodIn wsX10_lamps (wsV RX10 120 RX10 yX10_lampAt wsX10_lampAt) := goodIn_app (goodIn_of _ (by decide +kernel)) ggX10_lamps_X10_lampAt
theorem dX10_lamps_0 : decode cX10_lamps 0 = .ok (.iconst 0, 1) := by decide +kernel
theorem dX10_lamps_1 : decode cX10_lamps 1 = .ok (.istore_n 1, 1) := by decide +kernel
theorem dX10_lamps_2 : decode cX10_lamps 2 = .ok (.iconst 0, 1) := by decide +kernel
theorem dX10_lamps_3 : decode cX10_lamps 3 = .ok (.istore_n 2, 1) := by decide +kernel
theorem dX10_lamps_4 : decode cX10_lamps 4 = .ok (.iload_n 2, 1) := by decide +kernel
theorem dX10_lamps_5 : decode cX10_lamps 5 = .ok (.bipush 6, 2) := by decide +kernel
theorem dX10_lamps_7 : decode cX10_lamps 7 = .ok (.if_icmp .ge 18, 3) := by decide +kernel
theorem dX10_lamps_10 : decode cX10_lamps 10 = .ok (.iload_n 1, 1) := by decide +kernel
theorem dX10_lamps_11 : decode cX10_lamps 11 = .ok (.aload_n 0, 1) := by decide +kernel
theorem dX10_lamps_12 : decode cX10_lamps 12 = .ok (.iload_n 2, 1) := by decide +kernel
theorem dX10_lamps_13 : decode cX10_lamps 13 = .ok (.iconst 0, 1) := by decide +kernel
theorem dX10_lamps_14 : decode cX10_lamps 14 = .ok (.invokevirtual 120, 3) := by decide +kernel
theorem dX10_lamps_17 : decode cX10_lamps 17 = .ok (.iadd, 1) := by decide +kernel
theorem dX10_lamps_18 : decode cX10_lamps 18 = .ok (.istore_n 1, 1) := by decide +kernel
theorem dX10_lamps_19 : decode cX10_lamps 19 = .ok (.iinc 2 1, 3) := by decide +kernel
theorem dX10_lamps_22 : decode cX10_lamps 22 = .ok (.goto (-18), 3) := by decide +kernel
theorem dX10_lamps_25 : decode cX10_lamps 25 = .ok (.iload_n 1, 1) := by decide +kernel
theorem dX10_lamps_26 : decode cX10_lamps 26 = .ok (.ireturn, 1) := by decide +kernel
set_option maxRecDepth 20000 in
theorem ggX10_good_X10_isGood : GoodIn wsX10_good wsX10_isGood := goodIn_r _ [5, 6, 7, 8, 4, 9, 10, 11, 12, 13, 14, 15, 16, 17, 18, 19, 20, 21, 22, 23, 24, 25, 26, 27, 28, 29] (by decide +kernel) (by decide +kernel)
set_option maxRecDepth 20000 in
theorem gX10_good_X10_isGood : GoodIn wsX10_good (wsV RX10 126 RX10 yX10_isGood wsX10_isGood) := goodIn_app (goodIn_of _ (by decide +kernel)) ggX10_good_X10_isGood
theorem dX10_good_0 : decode cX10_good 0 = .ok (.iconst 0, 1) := by decide +kernel
theorem dX10_good_1 : decode cX10_good 1 = .ok (.istore_n 1, 1) := by decide +kernel
theorem dX10_good_2 : decode cX10_good 2 = .ok (.iconst 0, 1) := by decide +kernel
theorem dX10_good_3 : decode cX10_good 3 = .ok (.istore_n 2, 1) := by decide +kernel
theorem dX10_good_4 : decode cX10_good 4 = .ok (.iload_n 2, 1) := by decide +kernel
theorem dX10_good_5 : decode cX10_good 5 = .ok (.bipush 6, 2) := by decide +kernel
theorem dX10_good_7 : decode cX10_good 7 = .ok (.if_icmp .ge 25, 3) := by decide +kernel
theorem dX10_good_10 : decode cX10_good 10 = .ok (.iload_n 1, 1) := by decide +kernel
theorem dX10_good_11 : decode cX10_good 11 = .ok (.aload_n 0, 1) := by decide +kernel
theorem dX10_good_12 : decode cX10_good 12 = .ok (.iload_n 2, 1) := by decide +kernel
theorem dX10_good_13 : decode cX10_good 13 = .ok (.invokevirtual 126, 3) := by decide +kernel
theorem dX10_good_16 : decode cX10_good 16 = .ok (.ifCond .eq 7, 3) := by decide +kernel
theorem dX10_good_19 : decode cX10_good 19 = .ok (.iconst 1, 1) := by decide +kernel
theorem dX10_good_20 : decode cX10_good 20 = .ok (.goto 4, 3) := by decide +kernel
theorem dX10_good_23 : decode cX10_good 23 = .ok (.iconst 0, 1) := by decide +kernel
theorem dX10_good_24 : decode cX10_good 24 = .ok (.iadd, 1) := by decide +kernel
theorem dX10_good_25 : decode cX10_good 25 = .ok (.istore_n 1, 1) := by decide +kernel
theorem dX10_good_26 : decode cX10_good 26 = .ok (.iinc 2 1, 3) := by decide +kernel
theorem dX10_good_29 : decode cX10_good 29 = .ok (.goto (-25), 3) := by decide +kernel
theorem dX10_good_32 : decode cX10_good 32 = .ok (.iload_n 1, 1) := by decide +kernel
theorem dX10_good_33 : decode cX10_good 33 = .ok (.ireturn, 1) := by decide +kernel
set_option maxRecDepth 20000 in
theorem ggX10_setsChanger_X10_lamps : GoodIn wsX10_setsChanger wsX10_lamps := goodIn_r _ [6, 7, 8, 9, 5, 10, 1, 11, 12, 13, 14, 15, 16, 17, 18, 19, 20, 21, 22, 23, 24, 25] (by decide +kernel) (by decide +kernel)
set_option maxRecDepth 20000 in
theorem gX10_setsChanger_X10_lamps : GoodIn wsX10_setsChanger (wsV RX10 129 RX10 yX10_lamps wsX10_lamps) := goodIn_app (goodIn_of _ (by decide +kernel)) ggX10_setsChanger_X10_lamps
theorem dX10_setsChanger_0 : decode cX10_setsChanger 0 = .ok (.aload_n 0, 1) := by decide +kernel
theorem dX10_setsChanger_1 : decode cX10_setsChanger 1 = .ok (.invokevirtual 129, 3) := by decide +kernel
theorem dX10_setsChanger_4 : decode cX10_setsChanger 4 = .ok (.istore_n 2, 1) := by decide +kernel
theorem dX10_setsChanger_5 : decode cX10_setsChanger 5 = .ok (.iconst 0, 1) := by decide +kernel
theorem dX10_setsChanger_6 : decode cX10_setsChanger 6 = .ok (.istore_n 3, 1) := by decide +kernel
theorem dX10_setsChanger_7 : decode cX10_setsChanger 7 = .ok (.iload_n 3, 1) := by decide +kernel
theorem dX10_setsChanger_8 : decode cX10_setsChanger 8 = .ok (.bipush 30, 2) := by decide +kernel
theorem dX10_setsChanger_10 : decode cX10_setsChanger 10 = .ok (.if_icmp .ge 19, 3) := by decide +kernel
theorem dX10_setsChanger_13 : decode cX10_setsChanger 13 = .ok (.aload_n 0, 1) := by decide +kernel
theorem dX10_setsChanger_14 : decode cX10_setsChanger 14 = .ok (.getfield 7, 3) := by decide +kernel
theorem dX10_setsChanger_17 : decode cX10_setsChanger 17 = .ok (.bipush 82, 2) := by decide +kernel
theorem dX10_setsChanger_19 : decode cX10_setsChanger 19 = .ok (.iload_n 3, 1) := by decide +kernel
theorem dX10_setsChanger_20 : decode cX10_setsChanger 20 = .ok (.iadd, 1) := by decide +kernel
theorem dX10_setsChanger_21 : decode cX10_setsChanger 21 = .ok (.iconst 0, 1) := by decide +kernel
theorem dX10_setsChanger_22 : decode cX10_setsChanger 22 = .ok (.iastore, 1) := by decide +kernel
theorem dX10_setsChanger_23 : decode cX10_setsChanger 23 = .ok (.iinc 3 1, 3) := by decide +kernel
theorem dX10_setsChanger_26 : decode cX10_setsChanger 26 = .ok (.goto (-19), 3) := by decide +kernel
theorem dX10_setsChanger_29 : decode cX10_setsChanger 29 = .ok (.aload_n 0, 1) := by decide +kernel
theorem dX10_setsChanger_30 : decode cX10_setsChanger 30 = .ok (.getfield 7, 3) := by decide +kernel
theorem dX10_setsChanger_33 : decode cX10_setsChanger 33 = .ok (.bipush 81, 2) := by decide +kernel
theorem dX10_setsChanger_35 : decode cX10_setsChanger 35 = .ok (.iload_n 1, 1) := by decide +kernel
theorem dX10_setsChanger_36 : decode cX10_setsChanger 36 = .ok (.iastore, 1) := by decide +kernel
theorem dX10_setsChanger_37 : decode cX10_setsChanger 37 = .ok (.aload_n 0, 1) := by decide +kernel
theorem dX10_setsChanger_38 : decode cX10_setsChanger 38 = .ok (.getfield 7, 3) := by decide +kernel
theorem dX10_setsChanger_41 : decode cX10_setsChanger 41 = .ok (.bipush 112, 2) := by decide +kernel
theorem dX10_setsChanger_43 : decode cX10_setsChanger 43 = .ok (.iconst 0, 1) := by decide +kernel
theorem dX10_setsChanger_44 : decode cX10_setsChanger 44 = .ok (.iastore, 1) := by decide +kernel
theorem dX10_setsChanger_45 : decode cX10_setsChanger 45 = .ok (.aload_n 0, 1) := by decide +kernel
theorem dX10_setsChanger_46 : decode cX10_setsChanger 46 = .ok (.getfield 7, 3) := by decide +kernel
theorem dX10_setsChanger_49 : decode cX10_setsChanger 49 = .ok (.bipush 113, 2) := by decide +kernel
theorem dX10_setsChanger_51 : decode cX10_setsChanger 51 = .ok (.iconst 0, 1) := by decide +kernel
theorem dX10_setsChanger_52 : decode cX10_setsChanger 52 = .ok (.iastore, 1) := by decide +kernel
theorem dX10_setsChanger_53 : decode cX10_setsChanger 53 = .ok (.iload_n 2, 1) := by decide +kernel
theorem dX10_setsChanger_54 : decode cX10_setsChanger 54 = .ok (.ireturn, 1) := by decide +kernel
set_option maxRecDepth 20000 in
theorem ggX10_setChanger_X10_within : GoodIn wsX10_setChanger wsX10_within := goodIn_r _ [4] (by decide +kernel) (by decide +kernel)
set_option maxRecDepth 20000 in
theorem gX10_setChanger_X10_within : GoodIn wsX10_setChanger (va_wsS RX10 43 yX10_within wsX10_within) := goodIn_app (goodIn_of _ (by decide +kernel)) ggX10_setChanger_X10_within
set_option maxRecDepth 20000 in
theorem ggX10_setChanger_X10_saves : GoodIn wsX10_setChanger wsX10_saves := goodIn_r _ [8, 9, 10, 11, 12, 13, 3, 14, 27, 28, 29, 30, 31, 32, 33, 34, 35, 36, 37, 38, 39, 40, 41] (by decide +kernel) (by decide +kernel)
set_option maxRecDepth 20000 in
theorem gX10_setChanger_X10_saves : GoodIn wsX10_setChanger (wsV RX10 51 RX10 yX10_saves wsX10_saves) := goodIn_app (goodIn_of _ (by decide +kernel)) ggX10_setChanger_X10_saves
set_option maxRecDepth 20000 in
theorem ggX10_setChanger_X10_setsChanger : GoodIn wsX10_setChanger wsX10_setsChanger := goodIn_r _ [18, 11, 19, 20, 21, 3, 22, 23, 24, 25, 26, 27, 28, 29, 30, 31, 32, 33, 34, 35, 36, 37, 38, 39, 40, 41] (by decide +kernel) (by decide +kernel)
set_option maxRecDepth 20000 in
theorem gX10_setChanger_X10_setsChanger : GoodIn wsX10_setChanger (wsV RX10 132 RX10 yX10_setsChanger wsX10_setsChanger) := goodIn_app (goodIn_of _ (by decide +kernel)) ggX10_setChanger_X10_setsChanger
theorem dX10_setChanger_0 : decode cX10_setChanger 0 = .ok (.iload_n 1, 1) := by decide +kernel
theorem dX10_setChanger_1 : decode cX10_setChanger 1 = .ok (.iconst 0, 1) := by decide +kernel
theorem dX10_setChanger_2 : decode cX10_setChanger 2 = .ok (.iconst 1, 1) := by decide +kernel
theorem dX10_setChanger_3 : decode cX10_setChanger 3 = .ok (.invokestatic 43, 3) := by decide +kernel
theorem dX10_setChanger_6 : decode cX10_setChanger 6 = .ok (.ifCond .ne 5, 3) := by decide +kernel
theorem dX10_setChanger_9 : decode cX10_setChanger 9 = .ok (.iconst (-1), 1) := by decide +kernel
theorem dX10_setChanger_10 : decode cX10_setChanger 10 = .ok (.ireturn, 1) := by decide +kernel
theorem dX10_setChanger_11 : decode cX10_setChanger 11 = .ok (.aload_n 0, 1) := by decide +kernel
theorem dX10_setChanger_12 : decode cX10_setChanger 12 = .ok (.invokevirtual 51, 3) := by decide +kernel
theorem dX10_setChanger_15 : decode cX10_setChanger 15 = .ok (.aload_n 0, 1) := by decide +kernel
theorem dX10_setChanger_16 : decode cX10_setChanger 16 = .ok (.iload_n 1, 1) := by decide +kernel
theorem dX10_setChanger_17 : decode cX10_setChanger 17 = .ok (.invokevirtual 132, 3) := by decide +kernel
theorem dX10_setChanger_20 : decode cX10_setChanger 20 = .ok (.ireturn, 1) := by decide +kernel
set_option maxRecDepth 20000 in
theorem ggX10_empty_X10_lampAt : GoodIn wsX10_empty wsX10_lampAt := goodIn_r _ [5, 6, 7, 8, 9, 10, 11, 12, 13, 14, 15, 16, 17, 18, 19, 20, 21] (by decide +kernel) (by decide +kernel)
set_option maxRecDepth 20000 in
theorem gX10_empty_X10_lampAt : GoodIn wsX10_empty (wsV RX10 120 RX10 yX10_lampAt wsX10_lampAt) := goodIn_app (goodIn_of _ (by decide +kernel)) ggX10_empty_X10_lampAt
theorem dX10_empty_0 : decode cX10_empty 0 = .ok (.iconst 0, 1) := by decide +kernel
theorem dX10_empty_1 : decode cX10_empty 1 = .ok (.istore_n 1, 1) := by decide +kernel
theorem dX10_empty_2 : decode cX10_empty 2 = .ok (.iload_n 1, 1) := by decide +kernel
theorem dX10_empty_3 : decode cX10_empty 3 = .ok (.bipush 6, 2) := by decide +kernel
theorem dX10_empty_5 : decode cX10_empty 5 = .ok (.if_icmp .ge 20, 3) := by decide +kernel
theorem dX10_empty_8 : decode cX10_empty 8 = .ok (.aload_n 0, 1) := by decide +kernel
theorem dX10_empty_9 : decode cX10_empty 9 = .ok (.iload_n 1, 1) := by decide +kernel
theorem dX10_empty_10 : decode cX10_empty 10 = .ok (.iconst 0, 1) := by decide +kernel
theorem dX10_empty_11 : decode cX10_empty 11 = .ok (.invokevirtual 120, 3) := by decide +kernel
theorem dX10_empty_14 : decode cX10_empty 14 = .ok (.ifCond .ne 5, 3) := by decide +kernel
theorem dX10_empty_17 : decode cX10_empty 17 = .ok (.iload_n 1, 1) := by decide +kernel
theorem dX10_empty_18 : decode cX10_empty 18 = .ok (.ireturn, 1) := by decide +kernel
theorem dX10_empty_19 : decode cX10_empty 19 = .ok (.iinc 1 1, 3) := by decide +kernel
theorem dX10_empty_22 : decode cX10_empty 22 = .ok (.goto (-20), 3) := by decide +kernel
theorem dX10_empty_25 : decode cX10_empty 25 = .ok (.bipush (-4), 2) := by decide +kernel
theorem dX10_empty_27 : decode cX10_empty 27 = .ok (.ireturn, 1) := by decide +kernel
theorem dX10_puts_0 : decode cX10_puts 0 = .ok (.bipush 82, 2) := by decide +kernel
theorem dX10_puts_2 : decode cX10_puts 2 = .ok (.iconst 5, 1) := by decide +kernel
theorem dX10_puts_3 : decode cX10_puts 3 = .ok (.iload_n 1, 1) := by decide +kernel
theorem dX10_puts_4 : decode cX10_puts 4 = .ok (.imul, 1) := by decide +kernel
theorem dX10_puts_5 : decode cX10_puts 5 = .ok (.iadd, 1) := by decide +kernel
theorem dX10_puts_6 : decode cX10_puts 6 = .ok (.istore 4, 2) := by decide +kernel
theorem dX10_puts_8 : decode cX10_puts 8 = .ok (.aload_n 0, 1) := by decide +kernel
theorem dX10_puts_9 : decode cX10_puts 9 = .ok (.getfield 7, 3) := by decide +kernel
theorem dX10_puts_12 : decode cX10_puts 12 = .ok (.iload 4, 2) := by decide +kernel
theorem dX10_puts_14 : decode cX10_puts 14 = .ok (.iconst 1, 1) := by decide +kernel
theorem dX10_puts_15 : decode cX10_puts 15 = .ok (.iastore, 1) := by decide +kernel
theorem dX10_puts_16 : decode cX10_puts 16 = .ok (.aload_n 0, 1) := by decide +kernel
theorem dX10_puts_17 : decode cX10_puts 17 = .ok (.getfield 7, 3) := by decide +kernel
theorem dX10_puts_20 : decode cX10_puts 20 = .ok (.iload 4, 2) := by decide +kernel
theorem dX10_puts_22 : decode cX10_puts 22 = .ok (.iconst 1, 1) := by decide +kernel
theorem dX10_puts_23 : decode cX10_puts 23 = .ok (.iadd, 1) := by decide +kernel
theorem dX10_puts_24 : decode cX10_puts 24 = .ok (.aload_n 0, 1) := by decide +kernel
theorem dX10_puts_25 : decode cX10_puts 25 = .ok (.getfield 7, 3) := by decide +kernel
theorem dX10_puts_28 : decode cX10_puts 28 = .ok (.bipush 81, 2) := by decide +kernel
theorem dX10_puts_30 : decode cX10_puts 30 = .ok (.iaload, 1) := by decide +kernel
theorem dX10_puts_31 : decode cX10_puts 31 = .ok (.iastore, 1) := by decide +kernel
theorem dX10_puts_32 : decode cX10_puts 32 = .ok (.aload_n 0, 1) := by decide +kernel
theorem dX10_puts_33 : decode cX10_puts 33 = .ok (.getfield 7, 3) := by decide +kernel
theorem dX10_puts_36 : decode cX10_puts 36 = .ok (.iload 4, 2) := by decide +kernel
theorem dX10_puts_38 : decode cX10_puts 38 = .ok (.iconst 2, 1) := by decide +kernel
theorem dX10_puts_39 : decode cX10_puts 39 = .ok (.iadd, 1) := by decide +kernel
theorem dX10_puts_40 : decode cX10_puts 40 = .ok (.iload_n 2, 1) := by decide +kernel
theorem dX10_puts_41 : decode cX10_puts 41 = .ok (.iastore, 1) := by decide +kernel
theorem dX10_puts_42 : decode cX10_puts 42 = .ok (.aload_n 0, 1) := by decide +kernel
theorem dX10_puts_43 : decode cX10_puts 43 = .ok (.getfield 7, 3) := by decide +kernel
theorem dX10_puts_46 : decode cX10_puts 46 = .ok (.iload 4, 2) := by decide +kernel
theorem dX10_puts_48 : decode cX10_puts 48 = .ok (.iconst 3, 1) := by decide +kernel
theorem dX10_puts_49 : decode cX10_puts 49 = .ok (.iadd, 1) := by decide +kernel
theorem dX10_puts_50 : decode cX10_puts 50 = .ok (.iload_n 3, 1) := by decide +kernel
theorem dX10_puts_51 : decode cX10_puts 51 = .ok (.iastore, 1) := by decide +kernel
theorem dX10_puts_52 : decode cX10_puts 52 = .ok (.aload_n 0, 1) := by decide +kernel
theorem dX10_puts_53 : decode cX10_puts 53 = .ok (.getfield 7, 3) := by decide +kernel
theorem dX10_puts_56 : decode cX10_puts 56 = .ok (.iload 4, 2) := by decide +kernel
theorem dX10_puts_58 : decode cX10_puts 58 = .ok (.iconst 4, 1) := by decide +kernel
theorem dX10_puts_59 : decode cX10_puts 59 = .ok (.iadd, 1) := by decide +kernel
theorem dX10_puts_60 : decode cX10_puts 60 = .ok (.iconst 0, 1) := by decide +kernel
theorem dX10_puts_61 : decode cX10_puts 61 = .ok (.iastore, 1) := by decide +kernel
theorem dX10_puts_62 : decode cX10_puts 62 = .ok (.return_, 1) := by decide +kernel
set_option maxRecDepth 20000 in
theorem ggX10_isLamp_X10_within : GoodIn wsX10_isLamp wsX10_within := goodIn_r _ [4] (by decide +kernel) (by decide +kernel)
set_option maxRecDepth 20000 in
theorem gX10_isLamp_X10_within : GoodIn wsX10_isLamp (va_wsS RX10 43 yX10_within wsX10_within) := goodIn_app (goodIn_of _ (by decide +kernel)) ggX10_isLamp_X10_within
theorem dX10_isLamp_0 : decode cX10_isLamp 0 = .ok (.iload_n 0, 1) := by decide +kernel
theorem dX10_isLamp_1 : decode cX10_isLamp 1 = .ok (.iconst 1, 1) := by decide +kernel
theorem dX10_isLamp_2 : decode cX10_isLamp 2 = .ok (.sipush 2000, 3) := by decide +kernel
theorem dX10_isLamp_5 : decode cX10_isLamp 5 = .ok (.invokestatic 43, 3) := by decide +kernel
theorem dX10_isLamp_8 : decode cX10_isLamp 8 = .ok (.ifCond .eq 18, 3) := by decide +kernel
theorem dX10_isLamp_11 : decode cX10_isLamp 11 = .ok (.iload_n 1, 1) := by decide +kernel
theorem dX10_isLamp_12 : decode cX10_isLamp 12 = .ok (.iconst 1, 1) := by decide +kernel
theorem dX10_isLamp_13 : decode cX10_isLamp 13 = .ok (.sipush 5000, 3) := by decide +kernel
theorem dX10_isLamp_16 : decode cX10_isLamp 16 = .ok (.invokestatic 43, 3) := by decide +kernel
theorem dX10_isLamp_19 : decode cX10_isLamp 19 = .ok (.ifCond .eq 7, 3) := by decide +kernel
theorem dX10_isLamp_22 : decode cX10_isLamp 22 = .ok (.iconst 1, 1) := by decide +kernel
theorem dX10_isLamp_23 : decode cX10_isLamp 23 = .ok (.goto 4, 3) := by decide +kernel
theorem dX10_isLamp_26 : decode cX10_isLamp 26 = .ok (.iconst 0, 1) := by decide +kernel
theorem dX10_isLamp_27 : decode cX10_isLamp 27 = .ok (.ireturn, 1) := by decide +kernel
set_option maxRecDepth 20000 in
theorem ggX10_addLamp_X10_within : GoodIn wsX10_addLamp wsX10_within := goodIn_r _ [5] (by decide +kernel) (by decide +kernel)
set_option maxRecDepth 20000 in
theorem gX10_addLamp_X10_within : GoodIn wsX10_addLamp (va_wsS RX10 43 yX10_within wsX10_within) := goodIn_app (goodIn_of _ (by decide +kernel)) ggX10_addLamp_X10_within
set_option maxRecDepth 20000 in
theorem ggX10_addLamp_X10_isLamp : GoodIn wsX10_addLamp wsX10_isLamp := goodIn_r _ [8, 2, 3, 4, 5] (by decide +kernel) (by decide +kernel)
set_option maxRecDepth 20000 in
theorem gX10_addLamp_X10_isLamp : GoodIn wsX10_addLamp (va_wsS RX10 135 yX10_isLamp wsX10_isLamp) := goodIn_app (goodIn_of _ (by decide +kernel)) ggX10_addLamp_X10_isLamp
set_option maxRecDepth 20000 in
theorem ggX10_addLamp_X10_empty : GoodIn wsX10_addLamp wsX10_empty := goodIn_r _ [12, 13, 14, 15, 4, 16, 1, 30, 31, 32, 33, 34, 35, 36, 37, 38, 39, 40, 41, 42, 43, 44] (by decide +kernel) (by decide +kernel)
set_option maxRecDepth 20000 in
theorem gX10_addLamp_X10_empty : GoodIn wsX10_addLamp (wsV RX10 138 RX10 yX10_empty wsX10_empty) := goodIn_app (goodIn_of _ (by decide +kernel)) ggX10_addLamp_X10_empty
set_option maxRecDepth 20000 in
theorem ggX10_addLamp_X10_saves : GoodIn wsX10_addLamp wsX10_saves := goodIn_r _ [20, 21, 22, 1, 23, 24, 4, 25, 30, 31, 32, 33, 34, 35, 36, 37, 38, 39, 40, 41, 42, 43, 44] (by decide +kernel) (by decide +kernel)
set_option maxRecDepth 20000 in
theorem gX10_addLamp_X10_saves : GoodIn wsX10_addLamp (wsV RX10 51 RX10 yX10_saves wsX10_saves) := goodIn_app (goodIn_of _ (by decide +kernel)) ggX10_addLamp_X10_saves
set_option maxRecDepth 20000 in
theorem ggX10_addLamp_X10_puts : GoodIn wsX10_addLamp wsX10_puts := goodIn_r _ [29, 1, 30, 31, 32, 33, 34, 35, 36, 37, 38, 39, 40, 41, 42, 43, 44] (by decide +kernel) (by decide +kernel)
set_option maxRecDepth 20000 in
theorem gX10_addLamp_X10_puts : GoodIn wsX10_addLamp (wsV RX10 141 RX10 yX10_puts wsX10_puts) := goodIn_app (goodIn_of _ (by decide +kernel)) ggX10_addLamp_X10_puts
theorem dX10_addLamp_0 : decode cX10_addLamp 0 = .ok (.iload_n 1, 1) := by decide +kernel
theorem dX10_addLamp_1 : decode cX10_addLamp 1 = .ok (.iconst 0, 1) := by decide +kernel
theorem dX10_addLamp_2 : decode cX10_addLamp 2 = .ok (.iconst 1, 1) := by decide +kernel
theorem dX10_addLamp_3 : decode cX10_addLamp 3 = .ok (.invokestatic 43, 3) := by decide +kernel
theorem dX10_addLamp_6 : decode cX10_addLamp 6 = .ok (.ifCond .eq 11, 3) := by decide +kernel
theorem dX10_addLamp_9 : decode cX10_addLamp 9 = .ok (.iload_n 2, 1) := by decide +kernel
theorem dX10_addLamp_10 : decode cX10_addLamp 10 = .ok (.iload_n 3, 1) := by decide +kernel
theorem dX10_addLamp_11 : decode cX10_addLamp 11 = .ok (.invokestatic 135, 3) := by decide +kernel
theorem dX10_addLamp_14 : decode cX10_addLamp 14 = .ok (.ifCond .ne 5, 3) := by decide +kernel
theorem dX10_addLamp_17 : decode cX10_addLamp 17 = .ok (.iconst (-1), 1) := by decide +kernel
theorem dX10_addLamp_18 : decode cX10_addLamp 18 = .ok (.ireturn, 1) := by decide +kernel
theorem dX10_addLamp_19 : decode cX10_addLamp 19 = .ok (.iload_n 1, 1) := by decide +kernel
theorem dX10_addLamp_20 : decode cX10_addLamp 20 = .ok (.aload_n 0, 1) := by decide +kernel
theorem dX10_addLamp_21 : decode cX10_addLamp 21 = .ok (.getfield 7, 3) := by decide +kernel
theorem dX10_addLamp_24 : decode cX10_addLamp 24 = .ok (.bipush 81, 2) := by decide +kernel
theorem dX10_addLamp_26 : decode cX10_addLamp 26 = .ok (.iaload, 1) := by decide +kernel
theorem dX10_addLamp_27 : decode cX10_addLamp 27 = .ok (.if_icmp .eq 6, 3) := by decide +kernel
theorem dX10_addLamp_30 : decode cX10_addLamp 30 = .ok (.bipush (-2), 2) := by decide +kernel
theorem dX10_addLamp_32 : decode cX10_addLamp 32 = .ok (.ireturn, 1) := by decide +kernel
theorem dX10_addLamp_33 : decode cX10_addLamp 33 = .ok (.aload_n 0, 1) := by decide +kernel
theorem dX10_addLamp_34 : decode cX10_addLamp 34 = .ok (.invokevirtual 138, 3) := by decide +kernel
theorem dX10_addLamp_37 : decode cX10_addLamp 37 = .ok (.istore 4, 2) := by decide +kernel
theorem dX10_addLamp_39 : decode cX10_addLamp 39 = .ok (.iload 4, 2) := by decide +kernel
theorem dX10_addLamp_41 : decode cX10_addLamp 41 = .ok (.bipush (-4), 2) := by decide +kernel
theorem dX10_addLamp_43 : decode cX10_addLamp 43 = .ok (.if_icmp .ne 6, 3) := by decide +kernel
theorem dX10_addLamp_46 : decode cX10_addLamp 46 = .ok (.bipush (-3), 2) := by decide +kernel
theorem dX10_addLamp_48 : decode cX10_addLamp 48 = .ok (.ireturn, 1) := by decide +kernel
theorem dX10_addLamp_49 : decode cX10_addLamp 49 = .ok (.aload_n 0, 1) := by decide +kernel
theorem dX10_addLamp_50 : decode cX10_addLamp 50 = .ok (.invokevirtual 51, 3) := by decide +kernel
theorem dX10_addLamp_53 : decode cX10_addLamp 53 = .ok (.aload_n 0, 1) := by decide +kernel
theorem dX10_addLamp_54 : decode cX10_addLamp 54 = .ok (.iload 4, 2) := by decide +kernel
theorem dX10_addLamp_56 : decode cX10_addLamp 56 = .ok (.iload_n 2, 1) := by decide +kernel
theorem dX10_addLamp_57 : decode cX10_addLamp 57 = .ok (.iload_n 3, 1) := by decide +kernel
theorem dX10_addLamp_58 : decode cX10_addLamp 58 = .ok (.invokevirtual 141, 3) := by decide +kernel
theorem dX10_addLamp_61 : decode cX10_addLamp 61 = .ok (.iload 4, 2) := by decide +kernel
theorem dX10_addLamp_63 : decode cX10_addLamp 63 = .ok (.ireturn, 1) := by decide +kernel
set_option maxRecDepth 20000 in
theorem ggX10_takeLamp_X10_within : GoodIn wsX10_takeLamp wsX10_within := goodIn_r _ [5] (by decide +kernel) (by decide +kernel)
set_option maxRecDepth 20000 in
theorem gX10_takeLamp_X10_within : GoodIn wsX10_takeLamp (va_wsS RX10 43 yX10_within wsX10_within) := goodIn_app (goodIn_of _ (by decide +kernel)) ggX10_takeLamp_X10_within
set_option maxRecDepth 20000 in
theorem ggX10_takeLamp_X10_lampAt : GoodIn wsX10_takeLamp wsX10_lampAt := goodIn_r _ [9, 1, 19, 20, 21, 22, 23, 24, 25, 26, 27, 28, 29, 30, 31, 32, 33] (by decide +kernel) (by decide +kernel)
set_option maxRecDepth 20000 in
theorem gX10_takeLamp_X10_lampAt : GoodIn wsX10_takeLamp (wsV RX10 120 RX10 yX10_lampAt wsX10_lampAt) := goodIn_app (goodIn_of _ (by decide +kernel)) ggX10_takeLamp_X10_lampAt
set_option maxRecDepth 20000 in
theorem ggX10_takeLamp_X10_saves : GoodIn wsX10_takeLamp wsX10_saves := goodIn_r _ [13, 14, 15, 1, 16, 17, 4, 18, 19, 20, 21, 22, 23, 24, 25, 26, 27, 28, 29, 30, 31, 32, 33] (by decide +kernel) (by decide +kernel)
set_option maxRecDepth 20000 in
theorem gX10_takeLamp_X10_saves : GoodIn wsX10_takeLamp (wsV RX10 51 RX10 yX10_saves wsX10_saves) := goodIn_app (goodIn_of _ (by decide +kernel)) ggX10_takeLamp_X10_saves
theorem dX10_takeLamp_0 : decode cX10_takeLamp 0 = .ok (.iload_n 1, 1) := by decide +kernel
theorem dX10_takeLamp_1 : decode cX10_takeLamp 1 = .ok (.iconst 0, 1) := by decide +kernel
theorem dX10_takeLamp_2 : decode cX10_takeLamp 2 = .ok (.iconst 5, 1) := by decide +kernel
theorem dX10_takeLamp_3 : decode cX10_takeLamp 3 = .ok (.invokestatic 43, 3) := by decide +kernel
theorem dX10_takeLamp_6 : decode cX10_takeLamp 6 = .ok (.ifCond .ne 5, 3) := by decide +kernel
theorem dX10_takeLamp_9 : decode cX10_takeLamp 9 = .ok (.iconst (-1), 1) := by decide +kernel
theorem dX10_takeLamp_10 : decode cX10_takeLamp 10 = .ok (.ireturn, 1) := by decide +kernel
theorem dX10_takeLamp_11 : decode cX10_takeLamp 11 = .ok (.aload_n 0, 1) := by decide +kernel
theorem dX10_takeLamp_12 : decode cX10_takeLamp 12 = .ok (.iload_n 1, 1) := by decide +kernel
theorem dX10_takeLamp_13 : decode cX10_takeLamp 13 = .ok (.iconst 0, 1) := by decide +kernel
theorem dX10_takeLamp_14 : decode cX10_takeLamp 14 = .ok (.invokevirtual 120, 3) := by decide +kernel
theorem dX10_takeLamp_17 : decode cX10_takeLamp 17 = .ok (.ifCond .ne 6, 3) := by decide +kernel
theorem dX10_takeLamp_20 : decode cX10_takeLamp 20 = .ok (.bipush (-4), 2) := by decide +kernel
theorem dX10_takeLamp_22 : decode cX10_takeLamp 22 = .ok (.ireturn, 1) := by decide +kernel
theorem dX10_takeLamp_23 : decode cX10_takeLamp 23 = .ok (.aload_n 0, 1) := by decide +kernel
theorem dX10_takeLamp_24 : decode cX10_takeLamp 24 = .ok (.iload_n 1, 1) := by decide +kernel
theorem dX10_takeLamp_25 : decode cX10_takeLamp 25 = .ok (.iconst 4, 1) := by decide +kernel
theorem dX10_takeLamp_26 : decode cX10_takeLamp 26 = .ok (.invokevirtual 120, 3) := by decide +kernel
theorem dX10_takeLamp_29 : decode cX10_takeLamp 29 = .ok (.istore_n 2, 1) := by decide +kernel
theorem dX10_takeLamp_30 : decode cX10_takeLamp 30 = .ok (.aload_n 0, 1) := by decide +kernel
theorem dX10_takeLamp_31 : decode cX10_takeLamp 31 = .ok (.invokevirtual 51, 3) := by decide +kernel
theorem dX10_takeLamp_34 : decode cX10_takeLamp 34 = .ok (.iconst 0, 1) := by decide +kernel
theorem dX10_takeLamp_35 : decode cX10_takeLamp 35 = .ok (.istore_n 3, 1) := by decide +kernel
theorem dX10_takeLamp_36 : decode cX10_takeLamp 36 = .ok (.iload_n 3, 1) := by decide +kernel
theorem dX10_takeLamp_37 : decode cX10_takeLamp 37 = .ok (.iconst 5, 1) := by decide +kernel
theorem dX10_takeLamp_38 : decode cX10_takeLamp 38 = .ok (.if_icmp .ge 23, 3) := by decide +kernel
theorem dX10_takeLamp_41 : decode cX10_takeLamp 41 = .ok (.aload_n 0, 1) := by decide +kernel
theorem dX10_takeLamp_42 : decode cX10_takeLamp 42 = .ok (.getfield 7, 3) := by decide +kernel
theorem dX10_takeLamp_45 : decode cX10_takeLamp 45 = .ok (.bipush 82, 2) := by decide +kernel
theorem dX10_takeLamp_47 : decode cX10_takeLamp 47 = .ok (.iconst 5, 1) := by decide +kernel
theorem dX10_takeLamp_48 : decode cX10_takeLamp 48 = .ok (.iload_n 1, 1) := by decide +kernel
theorem dX10_takeLamp_49 : decode cX10_takeLamp 49 = .ok (.imul, 1) := by decide +kernel
theorem dX10_takeLamp_50 : decode cX10_takeLamp 50 = .ok (.iadd, 1) := by decide +kernel
theorem dX10_takeLamp_51 : decode cX10_takeLamp 51 = .ok (.iload_n 3, 1) := by decide +kernel
theorem dX10_takeLamp_52 : decode cX10_takeLamp 52 = .ok (.iadd, 1) := by decide +kernel
theorem dX10_takeLamp_53 : decode cX10_takeLamp 53 = .ok (.iconst 0, 1) := by decide +kernel
theorem dX10_takeLamp_54 : decode cX10_takeLamp 54 = .ok (.iastore, 1) := by decide +kernel
theorem dX10_takeLamp_55 : decode cX10_takeLamp 55 = .ok (.iinc 3 1, 3) := by decide +kernel
theorem dX10_takeLamp_58 : decode cX10_takeLamp 58 = .ok (.goto (-22), 3) := by decide +kernel
theorem dX10_takeLamp_61 : decode cX10_takeLamp 61 = .ok (.iload_n 2, 1) := by decide +kernel
theorem dX10_takeLamp_62 : decode cX10_takeLamp 62 = .ok (.ireturn, 1) := by decide +kernel
set_option maxRecDepth 20000 in
theorem ggX10_brightness_X10_lampAt : GoodIn wsX10_brightness wsX10_lampAt := goodIn_r _ [5, 6, 7, 8, 9, 10, 11, 12, 13, 14, 15, 16, 17, 18, 19, 20, 21] (by decide +kernel) (by decide +kernel)
set_option maxRecDepth 20000 in
theorem gX10_brightness_X10_lampAt : GoodIn wsX10_brightness (wsV RX10 120 RX10 yX10_lampAt wsX10_lampAt) := goodIn_app (goodIn_of _ (by decide +kernel)) ggX10_brightness_X10_lampAt
theorem dX10_brightness_0 : decode cX10_brightness 0 = .ok (.aload_n 0, 1) := by decide +kernel
theorem dX10_brightness_1 : decode cX10_brightness 1 = .ok (.iload_n 1, 1) := by decide +kernel
theorem dX10_brightness_2 : decode cX10_brightness 2 = .ok (.iconst 2, 1) := by decide +kernel
theorem dX10_brightness_3 : decode cX10_brightness 3 = .ok (.invokevirtual 120, 3) := by decide +kernel
theorem dX10_brightness_6 : decode cX10_brightness 6 = .ok (.istore_n 2, 1) := by decide +kernel
theorem dX10_brightness_7 : decode cX10_brightness 7 = .ok (.aload_n 0, 1) := by decide +kernel
theorem dX10_brightness_8 : decode cX10_brightness 8 = .ok (.iload_n 1, 1) := by decide +kernel
theorem dX10_brightness_9 : decode cX10_brightness 9 = .ok (.iconst 0, 1) := by decide +kernel
theorem dX10_brightness_10 : decode cX10_brightness 10 = .ok (.invokevirtual 120, 3) := by decide +kernel
theorem dX10_brightness_13 : decode cX10_brightness 13 = .ok (.ifCond .ne 7, 3) := by decide +kernel
theorem dX10_brightness_16 : decode cX10_brightness 16 = .ok (.iconst 0, 1) := by decide +kernel
theorem dX10_brightness_17 : decode cX10_brightness 17 = .ok (.goto 22, 3) := by decide +kernel
theorem dX10_brightness_20 : decode cX10_brightness 20 = .ok (.iload_n 2, 1) := by decide +kernel
theorem dX10_brightness_21 : decode cX10_brightness 21 = .ok (.iload_n 2, 1) := by decide +kernel
theorem dX10_brightness_22 : decode cX10_brightness 22 = .ok (.aload_n 0, 1) := by decide +kernel
theorem dX10_brightness_23 : decode cX10_brightness 23 = .ok (.iload_n 1, 1) := by decide +kernel
theorem dX10_brightness_24 : decode cX10_brightness 24 = .ok (.iconst 4, 1) := by decide +kernel
theorem dX10_brightness_25 : decode cX10_brightness 25 = .ok (.invokevirtual 120, 3) := by decide +kernel
theorem dX10_brightness_28 : decode cX10_brightness 28 = .ok (.imul, 1) := by decide +kernel
theorem dX10_brightness_29 : decode cX10_brightness 29 = .ok (.iconst 2, 1) := by decide +kernel
theorem dX10_brightness_30 : decode cX10_brightness 30 = .ok (.aload_n 0, 1) := by decide +kernel
theorem dX10_brightness_31 : decode cX10_brightness 31 = .ok (.iload_n 1, 1) := by decide +kernel
theorem dX10_brightness_32 : decode cX10_brightness 32 = .ok (.iconst 3, 1) := by decide +kernel
theorem dX10_brightness_33 : decode cX10_brightness 33 = .ok (.invokevirtual 120, 3) := by decide +kernel
theorem dX10_brightness_36 : decode cX10_brightness 36 = .ok (.imul, 1) := by decide +kernel
theorem dX10_brightness_37 : decode cX10_brightness 37 = .ok (.idiv, 1) := by decide +kernel
theorem dX10_brightness_38 : decode cX10_brightness 38 = .ok (.isub, 1) := by decide +kernel
theorem dX10_brightness_39 : decode cX10_brightness 39 = .ok (.ireturn, 1) := by decide +kernel
set_option maxRecDepth 20000 in
theorem ggX10_lamp_X10_within : GoodIn wsX10_lamp wsX10_within := goodIn_r _ [4] (by decide +kernel) (by decide +kernel)
set_option maxRecDepth 20000 in
theorem gX10_lamp_X10_within : GoodIn wsX10_lamp (va_wsS RX10 43 yX10_within wsX10_within) := goodIn_app (goodIn_of _ (by decide +kernel)) ggX10_lamp_X10_within
set_option maxRecDepth 20000 in
theorem ggX10_lamp_X10_lampAt : GoodIn wsX10_lamp wsX10_lampAt := goodIn_r _ [8, 9, 18, 19, 20, 21, 22, 23, 24, 25, 26, 27, 28, 29, 30, 31, 32] (by decide +kernel) (by decide +kernel)
set_option maxRecDepth 20000 in
theorem gX10_lamp_X10_lampAt : GoodIn wsX10_lamp (wsV RX10 120 RX10 yX10_lampAt wsX10_lampAt) := goodIn_app (goodIn_of _ (by decide +kernel)) ggX10_lamp_X10_lampAt
set_option maxRecDepth 20000 in
theorem ggX10_lamp_X10_brightness : GoodIn wsX10_lamp wsX10_brightness := goodIn_r _ [13, 5, 6, 7, 3, 8, 9, 18, 19, 20, 21, 22, 23, 24, 25, 26, 27, 28, 29, 30, 31, 32] (by decide +kernel) (by decide +kernel)
set_option maxRecDepth 20000 in
theorem gX10_lamp_X10_brightness : GoodIn wsX10_lamp (wsV RX10 145 RX10 yX10_brightness wsX10_brightness) := goodIn_app (goodIn_of _ (by decide +kernel)) ggX10_lamp_X10_brightness
set_option maxRecDepth 20000 in
theorem ggX10_lamp_X10_isBurnt : GoodIn wsX10_lamp wsX10_isBurnt := goodIn_r _ [17, 5, 6, 7, 3, 8, 9, 18, 19, 20, 21, 22, 23, 24, 25, 26, 27, 28, 29, 30, 31, 32] (by decide +kernel) (by decide +kernel)
set_option maxRecDepth 20000 in
theorem gX10_lamp_X10_isBurnt : GoodIn wsX10_lamp (wsV RX10 123 RX10 yX10_isBurnt wsX10_isBurnt) := goodIn_app (goodIn_of _ (by decide +kernel)) ggX10_lamp_X10_isBurnt
theorem dX10_lamp_0 : decode cX10_lamp 0 = .ok (.iload_n 1, 1) := by decide +kernel
theorem dX10_lamp_1 : decode cX10_lamp 1 = .ok (.iconst 0, 1) := by decide +kernel
theorem dX10_lamp_2 : decode cX10_lamp 2 = .ok (.iconst 5, 1) := by decide +kernel
theorem dX10_lamp_3 : decode cX10_lamp 3 = .ok (.invokestatic 43, 3) := by decide +kernel
theorem dX10_lamp_6 : decode cX10_lamp 6 = .ok (.ifCond .eq 12, 3) := by decide +kernel
theorem dX10_lamp_9 : decode cX10_lamp 9 = .ok (.iload_n 2, 1) := by decide +kernel
theorem dX10_lamp_10 : decode cX10_lamp 10 = .ok (.iconst 0, 1) := by decide +kernel
theorem dX10_lamp_11 : decode cX10_lamp 11 = .ok (.iconst 5, 1) := by decide +kernel
theorem dX10_lamp_12 : decode cX10_lamp 12 = .ok (.invokestatic 43, 3) := by decide +kernel
theorem dX10_lamp_15 : decode cX10_lamp 15 = .ok (.ifCond .ne 5, 3) := by decide +kernel
theorem dX10_lamp_18 : decode cX10_lamp 18 = .ok (.iconst (-1), 1) := by decide +kernel
theorem dX10_lamp_19 : decode cX10_lamp 19 = .ok (.ireturn, 1) := by decide +kernel
theorem dX10_lamp_20 : decode cX10_lamp 20 = .ok (.aload_n 0, 1) := by decide +kernel
theorem dX10_lamp_21 : decode cX10_lamp 21 = .ok (.iload_n 1, 1) := by decide +kernel
theorem dX10_lamp_22 : decode cX10_lamp 22 = .ok (.iconst 0, 1) := by decide +kernel
theorem dX10_lamp_23 : decode cX10_lamp 23 = .ok (.invokevirtual 120, 3) := by decide +kernel
theorem dX10_lamp_26 : decode cX10_lamp 26 = .ok (.ifCond .ne 6, 3) := by decide +kernel
theorem dX10_lamp_29 : decode cX10_lamp 29 = .ok (.bipush (-4), 2) := by decide +kernel
theorem dX10_lamp_31 : decode cX10_lamp 31 = .ok (.ireturn, 1) := by decide +kernel
theorem dX10_lamp_32 : decode cX10_lamp 32 = .ok (.iload_n 2, 1) := by decide +kernel
theorem dX10_lamp_33 : decode cX10_lamp 33 = .ok (.iconst 4, 1) := by decide +kernel
theorem dX10_lamp_34 : decode cX10_lamp 34 = .ok (.if_icmp .ne 11, 3) := by decide +kernel
theorem dX10_lamp_37 : decode cX10_lamp 37 = .ok (.aload_n 0, 1) := by decide +kernel
theorem dX10_lamp_38 : decode cX10_lamp 38 = .ok (.iload_n 1, 1) := by decide +kernel
theorem dX10_lamp_39 : decode cX10_lamp 39 = .ok (.invokevirtual 145, 3) := by decide +kernel
theorem dX10_lamp_42 : decode cX10_lamp 42 = .ok (.goto 32, 3) := by decide +kernel
theorem dX10_lamp_45 : decode cX10_lamp 45 = .ok (.iload_n 2, 1) := by decide +kernel
theorem dX10_lamp_46 : decode cX10_lamp 46 = .ok (.iconst 5, 1) := by decide +kernel
theorem dX10_lamp_47 : decode cX10_lamp 47 = .ok (.if_icmp .ne 19, 3) := by decide +kernel
theorem dX10_lamp_50 : decode cX10_lamp 50 = .ok (.aload_n 0, 1) := by decide +kernel
theorem dX10_lamp_51 : decode cX10_lamp 51 = .ok (.iload_n 1, 1) := by decide +kernel
theorem dX10_lamp_52 : decode cX10_lamp 52 = .ok (.invokevirtual 123, 3) := by decide +kernel
theorem dX10_lamp_55 : decode cX10_lamp 55 = .ok (.ifCond .eq 7, 3) := by decide +kernel
theorem dX10_lamp_58 : decode cX10_lamp 58 = .ok (.iconst 1, 1) := by decide +kernel
theorem dX10_lamp_59 : decode cX10_lamp 59 = .ok (.goto 15, 3) := by decide +kernel
theorem dX10_lamp_62 : decode cX10_lamp 62 = .ok (.iconst 0, 1) := by decide +kernel
theorem dX10_lamp_63 : decode cX10_lamp 63 = .ok (.goto 11, 3) := by decide +kernel
theorem dX10_lamp_66 : decode cX10_lamp 66 = .ok (.aload_n 0, 1) := by decide +kernel
theorem dX10_lamp_67 : decode cX10_lamp 67 = .ok (.iload_n 1, 1) := by decide +kernel
theorem dX10_lamp_68 : decode cX10_lamp 68 = .ok (.iload_n 2, 1) := by decide +kernel
theorem dX10_lamp_69 : decode cX10_lamp 69 = .ok (.iconst 1, 1) := by decide +kernel
theorem dX10_lamp_70 : decode cX10_lamp 70 = .ok (.iadd, 1) := by decide +kernel
theorem dX10_lamp_71 : decode cX10_lamp 71 = .ok (.invokevirtual 120, 3) := by decide +kernel
theorem dX10_lamp_74 : decode cX10_lamp 74 = .ok (.ireturn, 1) := by decide +kernel
set_option maxRecDepth 20000 in
theorem ggX10_canSet_X10_within : GoodIn wsX10_canSet wsX10_within := goodIn_r _ [4] (by decide +kernel) (by decide +kernel)
set_option maxRecDepth 20000 in
theorem gX10_canSet_X10_within : GoodIn wsX10_canSet (va_wsS RX10 43 yX10_within wsX10_within) := goodIn_app (goodIn_of _ (by decide +kernel)) ggX10_canSet_X10_within
theorem dX10_canSet_0 : decode cX10_canSet 0 = .ok (.iload_n 0, 1) := by decide +kernel
theorem dX10_canSet_1 : decode cX10_canSet 1 = .ok (.ifCond .ne 13, 3) := by decide +kernel
theorem dX10_canSet_4 : decode cX10_canSet 4 = .ok (.iload_n 1, 1) := by decide +kernel
theorem dX10_canSet_5 : decode cX10_canSet 5 = .ok (.iconst 0, 1) := by decide +kernel
theorem dX10_canSet_6 : decode cX10_canSet 6 = .ok (.bipush 50, 2) := by decide +kernel
theorem dX10_canSet_8 : decode cX10_canSet 8 = .ok (.invokestatic 43, 3) := by decide +kernel
theorem dX10_canSet_11 : decode cX10_canSet 11 = .ok (.ifCond .ne 18, 3) := by decide +kernel
theorem dX10_canSet_14 : decode cX10_canSet 14 = .ok (.iload_n 0, 1) := by decide +kernel
theorem dX10_canSet_15 : decode cX10_canSet 15 = .ok (.iconst 1, 1) := by decide +kernel
theorem dX10_canSet_16 : decode cX10_canSet 16 = .ok (.if_icmp .ne 17, 3) := by decide +kernel
theorem dX10_canSet_19 : decode cX10_canSet 19 = .ok (.iload_n 1, 1) := by decide +kernel
theorem dX10_canSet_20 : decode cX10_canSet 20 = .ok (.iconst 1, 1) := by decide +kernel
theorem dX10_canSet_21 : decode cX10_canSet 21 = .ok (.bipush 100, 2) := by decide +kernel
theorem dX10_canSet_23 : decode cX10_canSet 23 = .ok (.invokestatic 43, 3) := by decide +kernel
theorem dX10_canSet_26 : decode cX10_canSet 26 = .ok (.ifCond .eq 7, 3) := by decide +kernel
theorem dX10_canSet_29 : decode cX10_canSet 29 = .ok (.iconst 1, 1) := by decide +kernel
theorem dX10_canSet_30 : decode cX10_canSet 30 = .ok (.goto 4, 3) := by decide +kernel
theorem dX10_canSet_33 : decode cX10_canSet 33 = .ok (.iconst 0, 1) := by decide +kernel
theorem dX10_canSet_34 : decode cX10_canSet 34 = .ok (.ireturn, 1) := by decide +kernel
set_option maxRecDepth 20000 in
theorem ggX10_set_X10_canSet : GoodIn wsX10_set wsX10_canSet := goodIn_r _ [5, 6, 7, 4, 8] (by decide +kernel) (by decide +kernel)
set_option maxRecDepth 20000 in
theorem gX10_set_X10_canSet : GoodIn wsX10_set (va_wsS RX10 148 yX10_canSet wsX10_canSet) := goodIn_app (goodIn_of _ (by decide +kernel)) ggX10_set_X10_canSet
set_option maxRecDepth 20000 in
theorem ggX10_set_X10_saves : GoodIn wsX10_set wsX10_saves := goodIn_r _ [12, 13, 14, 1, 15, 16, 4, 17, 18, 19, 20, 21, 22, 23, 24, 25, 26, 27, 28, 29, 30, 31, 32] (by decide +kernel) (by decide +kernel)
set_option maxRecDepth 20000 in
theorem gX10_set_X10_saves : GoodIn wsX10_set (wsV RX10 51 RX10 yX10_saves wsX10_saves) := goodIn_app (goodIn_of _ (by decide +kernel)) ggX10_set_X10_saves
theorem dX10_set_0 : decode cX10_set 0 = .ok (.iload_n 1, 1) := by decide +kernel
theorem dX10_set_1 : decode cX10_set 1 = .ok (.iload_n 2, 1) := by decide +kernel
theorem dX10_set_2 : decode cX10_set 2 = .ok (.invokestatic 148, 3) := by decide +kernel
theorem dX10_set_5 : decode cX10_set 5 = .ok (.ifCond .ne 5, 3) := by decide +kernel
theorem dX10_set_8 : decode cX10_set 8 = .ok (.iconst (-1), 1) := by decide +kernel
theorem dX10_set_9 : decode cX10_set 9 = .ok (.ireturn, 1) := by decide +kernel
theorem dX10_set_10 : decode cX10_set 10 = .ok (.aload_n 0, 1) := by decide +kernel
theorem dX10_set_11 : decode cX10_set 11 = .ok (.getfield 7, 3) := by decide +kernel
theorem dX10_set_14 : decode cX10_set 14 = .ok (.bipush 114, 2) := by decide +kernel
theorem dX10_set_16 : decode cX10_set 16 = .ok (.iload_n 1, 1) := by decide +kernel
theorem dX10_set_17 : decode cX10_set 17 = .ok (.iadd, 1) := by decide +kernel
theorem dX10_set_18 : decode cX10_set 18 = .ok (.iaload, 1) := by decide +kernel
theorem dX10_set_19 : decode cX10_set 19 = .ok (.istore_n 3, 1) := by decide +kernel
theorem dX10_set_20 : decode cX10_set 20 = .ok (.aload_n 0, 1) := by decide +kernel
theorem dX10_set_21 : decode cX10_set 21 = .ok (.invokevirtual 51, 3) := by decide +kernel
theorem dX10_set_24 : decode cX10_set 24 = .ok (.aload_n 0, 1) := by decide +kernel
theorem dX10_set_25 : decode cX10_set 25 = .ok (.getfield 7, 3) := by decide +kernel
theorem dX10_set_28 : decode cX10_set 28 = .ok (.bipush 114, 2) := by decide +kernel
theorem dX10_set_30 : decode cX10_set 30 = .ok (.iload_n 1, 1) := by decide +kernel
theorem dX10_set_31 : decode cX10_set 31 = .ok (.iadd, 1) := by decide +kernel
theorem dX10_set_32 : decode cX10_set 32 = .ok (.iload_n 2, 1) := by decide +kernel
theorem dX10_set_33 : decode cX10_set 33 = .ok (.iastore, 1) := by decide +kernel
theorem dX10_set_34 : decode cX10_set 34 = .ok (.iload_n 3, 1) := by decide +kernel
theorem dX10_set_35 : decode cX10_set 35 = .ok (.ireturn, 1) := by decide +kernel
theorem dX10_percent_0 : decode cX10_percent 0 = .ok (.iload_n 0, 1) := by decide +kernel
theorem dX10_percent_1 : decode cX10_percent 1 = .ok (.ifCond .ne 7, 3) := by decide +kernel
theorem dX10_percent_4 : decode cX10_percent 4 = .ok (.iconst 0, 1) := by decide +kernel
theorem dX10_percent_5 : decode cX10_percent 5 = .ok (.goto 25, 3) := by decide +kernel
theorem dX10_percent_8 : decode cX10_percent 8 = .ok (.iload_n 0, 1) := by decide +kernel
theorem dX10_percent_9 : decode cX10_percent 9 = .ok (.iconst 1, 1) := by decide +kernel
theorem dX10_percent_10 : decode cX10_percent 10 = .ok (.if_icmp .ne 8, 3) := by decide +kernel
theorem dX10_percent_13 : decode cX10_percent 13 = .ok (.bipush 100, 2) := by decide +kernel
theorem dX10_percent_15 : decode cX10_percent 15 = .ok (.goto 15, 3) := by decide +kernel
theorem dX10_percent_18 : decode cX10_percent 18 = .ok (.iload_n 0, 1) := by decide +kernel
theorem dX10_percent_19 : decode cX10_percent 19 = .ok (.iconst 2, 1) := by decide +kernel
theorem dX10_percent_20 : decode cX10_percent 20 = .ok (.if_icmp .ne 8, 3) := by decide +kernel
theorem dX10_percent_23 : decode cX10_percent 23 = .ok (.bipush 40, 2) := by decide +kernel
theorem dX10_percent_25 : decode cX10_percent 25 = .ok (.goto 5, 3) := by decide +kernel
theorem dX10_percent_28 : decode cX10_percent 28 = .ok (.bipush 55, 2) := by decide +kernel
theorem dX10_percent_30 : decode cX10_percent 30 = .ok (.ireturn, 1) := by decide +kernel
set_option maxRecDepth 20000 in
theorem ggX10_range_X10_brightness : GoodIn wsX10_range wsX10_brightness := goodIn_r _ [8, 9, 10, 11, 7, 12, 1, 16, 17, 18, 19, 20, 21, 22, 23, 24, 25, 26, 27, 28, 29, 30] (by decide +kernel) (by decide +kernel)
set_option maxRecDepth 20000 in
theorem gX10_range_X10_brightness : GoodIn wsX10_range (wsV RX10 145 RX10 yX10_brightness wsX10_brightness) := goodIn_app (goodIn_of _ (by decide +kernel)) ggX10_range_X10_brightness
set_option maxRecDepth 20000 in
theorem ggX10_range_X10_percent : GoodIn wsX10_range wsX10_percent := goodIn_r _ [15] (by decide +kernel) (by decide +kernel)
set_option maxRecDepth 20000 in
theorem gX10_range_X10_percent : GoodIn wsX10_range (va_wsS RX10 151 yX10_percent wsX10_percent) := goodIn_app (goodIn_of _ (by decide +kernel)) ggX10_range_X10_percent
theorem dX10_range_0 : decode cX10_range 0 = .ok (.aload_n 0, 1) := by decide +kernel
theorem dX10_range_1 : decode cX10_range 1 = .ok (.aload_n 0, 1) := by decide +kernel
theorem dX10_range_2 : decode cX10_range 2 = .ok (.getfield 7, 3) := by decide +kernel
theorem dX10_range_5 : decode cX10_range 5 = .ok (.bipush 112, 2) := by decide +kernel
theorem dX10_range_7 : decode cX10_range 7 = .ok (.iaload, 1) := by decide +kernel
theorem dX10_range_8 : decode cX10_range 8 = .ok (.invokevirtual 145, 3) := by decide +kernel
theorem dX10_range_11 : decode cX10_range 11 = .ok (.i2f, 1) := by decide +kernel
theorem dX10_range_12 : decode cX10_range 12 = .ok (.iload_n 1, 1) := by decide +kernel
theorem dX10_range_13 : decode cX10_range 13 = .ok (.invokestatic 151, 3) := by decide +kernel
theorem dX10_range_16 : decode cX10_range 16 = .ok (.i2f, 1) := by decide +kernel
theorem dX10_range_17 : decode cX10_range 17 = .ok (.fmul, 1) := by decide +kernel
theorem dX10_range_18 : decode cX10_range 18 = .ok (.ldc 154, 2) := by decide +kernel
theorem dX10_range_20 : decode cX10_range 20 = .ok (.fdiv, 1) := by decide +kernel
theorem dX10_range_21 : decode cX10_range 21 = .ok (.aload_n 0, 1) := by decide +kernel
theorem dX10_range_22 : decode cX10_range 22 = .ok (.getfield 7, 3) := by decide +kernel
theorem dX10_range_25 : decode cX10_range 25 = .ok (.bipush 115, 2) := by decide +kernel
theorem dX10_range_27 : decode cX10_range 27 = .ok (.iaload, 1) := by decide +kernel
theorem dX10_range_28 : decode cX10_range 28 = .ok (.i2f, 1) := by decide +kernel
theorem dX10_range_29 : decode cX10_range 29 = .ok (.fmul, 1) := by decide +kernel
theorem dX10_range_30 : decode cX10_range 30 = .ok (.ldc 155, 2) := by decide +kernel
theorem dX10_range_32 : decode cX10_range 32 = .ok (.fdiv, 1) := by decide +kernel
theorem dX10_range_33 : decode cX10_range 33 = .ok (.freturn, 1) := by decide +kernel
set_option maxRecDepth 20000 in
theorem ggX10_rangeBits_X10_within : GoodIn wsX10_rangeBits wsX10_within := goodIn_r _ [6] (by decide +kernel) (by decide +kernel)
set_option maxRecDepth 20000 in
theorem gX10_rangeBits_X10_within : GoodIn wsX10_rangeBits (va_wsS RX10 43 yX10_within wsX10_within) := goodIn_app (goodIn_of _ (by decide +kernel)) ggX10_rangeBits_X10_within
set_option maxRecDepth 20000 in
theorem ggX10_rangeBits_X10_range : GoodIn wsX10_rangeBits wsX10_range := goodIn_r _ [10, 11, 12, 13, 14, 15, 16, 5, 17, 18, 19, 20, 21, 22, 23, 24, 25, 26, 27, 28, 29, 30, 31, 32, 33, 34, 35, 36, 37, 38, 39] (by decide +kernel) (by decide +kernel)
set_option maxRecDepth 20000 in
theorem gX10_rangeBits_X10_range : GoodIn wsX10_rangeBits (wsV RX10 156 RX10 yX10_range wsX10_range) := goodIn_app (goodIn_of _ (by decide +kernel)) ggX10_rangeBits_X10_range
theorem dX10_rangeBits_0 : decode cX10_rangeBits 0 = .ok (.iload_n 1, 1) := by decide +kernel
theorem dX10_rangeBits_1 : decode cX10_rangeBits 1 = .ok (.iconst 0, 1) := by decide +kernel
theorem dX10_rangeBits_2 : decode cX10_rangeBits 2 = .ok (.iconst 3, 1) := by decide +kernel
theorem dX10_rangeBits_3 : decode cX10_rangeBits 3 = .ok (.invokestatic 43, 3) := by decide +kernel
theorem dX10_rangeBits_6 : decode cX10_rangeBits 6 = .ok (.ifCond .ne 5, 3) := by decide +kernel
theorem dX10_rangeBits_9 : decode cX10_rangeBits 9 = .ok (.iconst (-1), 1) := by decide +kernel
theorem dX10_rangeBits_10 : decode cX10_rangeBits 10 = .ok (.ireturn, 1) := by decide +kernel
theorem dX10_rangeBits_11 : decode cX10_rangeBits 11 = .ok (.aload_n 0, 1) := by decide +kernel
theorem dX10_rangeBits_12 : decode cX10_rangeBits 12 = .ok (.iload_n 1, 1) := by decide +kernel
theorem dX10_rangeBits_13 : decode cX10_rangeBits 13 = .ok (.invokevirtual 156, 3) := by decide +kernel
theorem dX10_rangeBits_16 : decode cX10_rangeBits 16 = .ok (.f2d, 1) := by decide +kernel
theorem dX10_rangeBits_17 : decode cX10_rangeBits 17 = .ok (.dstore_n 2, 1) := by decide +kernel
theorem dX10_rangeBits_18 : decode cX10_rangeBits 18 = .ok (.dload_n 2, 1) := by decide +kernel
theorem dX10_rangeBits_19 : decode cX10_rangeBits 19 = .ok (.dconst 0, 1) := by decide +kernel
theorem dX10_rangeBits_20 : decode cX10_rangeBits 20 = .ok (.dcmp .l, 1) := by decide +kernel
theorem dX10_rangeBits_21 : decode cX10_rangeBits 21 = .ok (.ifCond .ne 5, 3) := by decide +kernel
theorem dX10_rangeBits_24 : decode cX10_rangeBits 24 = .ok (.iconst 0, 1) := by decide +kernel
theorem dX10_rangeBits_25 : decode cX10_rangeBits 25 = .ok (.ireturn, 1) := by decide +kernel
theorem dX10_rangeBits_26 : decode cX10_rangeBits 26 = .ok (.bipush 127, 2) := by decide +kernel
theorem dX10_rangeBits_28 : decode cX10_rangeBits 28 = .ok (.istore 4, 2) := by decide +kernel
theorem dX10_rangeBits_30 : decode cX10_rangeBits 30 = .ok (.dload_n 2, 1) := by decide +kernel
theorem dX10_rangeBits_31 : decode cX10_rangeBits 31 = .ok (.ldc2_w 116, 3) := by decide +kernel
theorem dX10_rangeBits_34 : decode cX10_rangeBits 34 = .ok (.dcmp .l, 1) := by decide +kernel
theorem dX10_rangeBits_35 : decode cX10_rangeBits 35 = .ok (.ifCond .lt 15, 3) := by decide +kernel
theorem dX10_rangeBits_38 : decode cX10_rangeBits 38 = .ok (.dload_n 2, 1) := by decide +kernel
theorem dX10_rangeBits_39 : decode cX10_rangeBits 39 = .ok (.ldc2_w 116, 3) := by decide +kernel
theorem dX10_rangeBits_42 : decode cX10_rangeBits 42 = .ok (.ddiv, 1) := by decide +kernel
theorem dX10_rangeBits_43 : decode cX10_rangeBits 43 = .ok (.dstore_n 2, 1) := by decide +kernel
theorem dX10_rangeBits_44 : decode cX10_rangeBits 44 = .ok (.iinc 4 1, 3) := by decide +kernel
theorem dX10_rangeBits_47 : decode cX10_rangeBits 47 = .ok (.goto (-17), 3) := by decide +kernel
theorem dX10_rangeBits_50 : decode cX10_rangeBits 50 = .ok (.dload_n 2, 1) := by decide +kernel
theorem dX10_rangeBits_51 : decode cX10_rangeBits 51 = .ok (.dconst 1, 1) := by decide +kernel
theorem dX10_rangeBits_52 : decode cX10_rangeBits 52 = .ok (.dcmp .g, 1) := by decide +kernel
theorem dX10_rangeBits_53 : decode cX10_rangeBits 53 = .ok (.ifCond .ge 15, 3) := by decide +kernel
theorem dX10_rangeBits_56 : decode cX10_rangeBits 56 = .ok (.dload_n 2, 1) := by decide +kernel
theorem dX10_rangeBits_57 : decode cX10_rangeBits 57 = .ok (.ldc2_w 116, 3) := by decide +kernel
theorem dX10_rangeBits_60 : decode cX10_rangeBits 60 = .ok (.dmul, 1) := by decide +kernel
theorem dX10_rangeBits_61 : decode cX10_rangeBits 61 = .ok (.dstore_n 2, 1) := by decide +kernel
theorem dX10_rangeBits_62 : decode cX10_rangeBits 62 = .ok (.iinc 4 (-1), 3) := by decide +kernel
theorem dX10_rangeBits_65 : decode cX10_rangeBits 65 = .ok (.goto (-15), 3) := by decide +kernel
theorem dX10_rangeBits_68 : decode cX10_rangeBits 68 = .ok (.iload 4, 2) := by decide +kernel
theorem dX10_rangeBits_70 : decode cX10_rangeBits 70 = .ok (.bipush 23, 2) := by decide +kernel
theorem dX10_rangeBits_72 : decode cX10_rangeBits 72 = .ok (.ishl, 1) := by decide +kernel
theorem dX10_rangeBits_73 : decode cX10_rangeBits 73 = .ok (.dload_n 2, 1) := by decide +kernel
theorem dX10_rangeBits_74 : decode cX10_rangeBits 74 = .ok (.dconst 1, 1) := by decide +kernel
theorem dX10_rangeBits_75 : decode cX10_rangeBits 75 = .ok (.dsub, 1) := by decide +kernel
theorem dX10_rangeBits_76 : decode cX10_rangeBits 76 = .ok (.ldc2_w 160, 3) := by decide +kernel
theorem dX10_rangeBits_79 : decode cX10_rangeBits 79 = .ok (.dmul, 1) := by decide +kernel
theorem dX10_rangeBits_80 : decode cX10_rangeBits 80 = .ok (.d2i, 1) := by decide +kernel
theorem dX10_rangeBits_81 : decode cX10_rangeBits 81 = .ok (.iadd, 1) := by decide +kernel
theorem dX10_rangeBits_82 : decode cX10_rangeBits 82 = .ok (.ireturn, 1) := by decide +kernel
set_option maxRecDepth 20000 in
theorem ggX10_looks_X10_isGood : GoodIn wsX10_looks wsX10_isGood := goodIn_r _ [6, 7, 8, 9, 5, 10, 1, 11, 12, 13, 14, 39, 40, 41, 42, 43, 44, 45, 46, 47, 48, 49, 50, 51, 52, 53] (by decide +kernel) (by decide +kernel)
set_option maxRecDepth 20000 in
theorem gX10_looks_X10_isGood : GoodIn wsX10_looks (wsV RX10 126 RX10 yX10_isGood wsX10_isGood) := goodIn_app (goodIn_of _ (by decide +kernel)) ggX10_looks_X10_isGood
set_option maxRecDepth 20000 in
theorem ggX10_looks_X10_isLitAt : GoodIn wsX10_looks wsX10_isLitAt := goodIn_r _ [18, 19, 20, 21, 5, 22, 23, 24, 25, 26, 1, 27, 28, 29, 30, 31, 32, 33, 34, 35, 36, 37, 38, 39, 40, 41, 42, 43, 44, 45, 46, 47, 48, 49, 50, 51, 52, 53] (by decide +kernel) (by decide +kernel)
set_option maxRecDepth 20000 in
theorem gX10_looks_X10_isLitAt : GoodIn wsX10_looks (wsV RX10 111 RX10 yX10_isLitAt wsX10_isLitAt) := goodIn_app (goodIn_of _ (by decide +kernel)) ggX10_looks_X10_isLitAt
theorem dX10_looks_0 : decode cX10_looks 0 = .ok (.aload_n 0, 1) := by decide +kernel
theorem dX10_looks_1 : decode cX10_looks 1 = .ok (.getfield 7, 3) := by decide +kernel
theorem dX10_looks_4 : decode cX10_looks 4 = .ok (.bipush 113, 2) := by decide +kernel
theorem dX10_looks_6 : decode cX10_looks 6 = .ok (.iaload, 1) := by decide +kernel
theorem dX10_looks_7 : decode cX10_looks 7 = .ok (.ifCond .ne 88, 3) := by decide +kernel
theorem dX10_looks_10 : decode cX10_looks 10 = .ok (.aload_n 0, 1) := by decide +kernel
theorem dX10_looks_11 : decode cX10_looks 11 = .ok (.aload_n 0, 1) := by decide +kernel
theorem dX10_looks_12 : decode cX10_looks 12 = .ok (.getfield 7, 3) := by decide +kernel
theorem dX10_looks_15 : decode cX10_looks 15 = .ok (.bipush 112, 2) := by decide +kernel
theorem dX10_looks_17 : decode cX10_looks 17 = .ok (.iaload, 1) := by decide +kernel
theorem dX10_looks_18 : decode cX10_looks 18 = .ok (.invokevirtual 126, 3) := by decide +kernel
theorem dX10_looks_21 : decode cX10_looks 21 = .ok (.ifCond .ne 74, 3) := by decide +kernel
theorem dX10_looks_24 : decode cX10_looks 24 = .ok (.iconst 1, 1) := by decide +kernel
theorem dX10_looks_25 : decode cX10_looks 25 = .ok (.istore_n 1, 1) := by decide +kernel
theorem dX10_looks_26 : decode cX10_looks 26 = .ok (.iload_n 1, 1) := by decide +kernel
theorem dX10_looks_27 : decode cX10_looks 27 = .ok (.bipush 6, 2) := by decide +kernel
theorem dX10_looks_29 : decode cX10_looks 29 = .ok (.if_icmp .ge 66, 3) := by decide +kernel
theorem dX10_looks_32 : decode cX10_looks 32 = .ok (.aload_n 0, 1) := by decide +kernel
theorem dX10_looks_33 : decode cX10_looks 33 = .ok (.getfield 7, 3) := by decide +kernel
theorem dX10_looks_36 : decode cX10_looks 36 = .ok (.bipush 112, 2) := by decide +kernel
theorem dX10_looks_38 : decode cX10_looks 38 = .ok (.iaload, 1) := by decide +kernel
theorem dX10_looks_39 : decode cX10_looks 39 = .ok (.iload_n 1, 1) := by decide +kernel
theorem dX10_looks_40 : decode cX10_looks 40 = .ok (.iadd, 1) := by decide +kernel
theorem dX10_looks_41 : decode cX10_looks 41 = .ok (.bipush 6, 2) := by decide +kernel
theorem dX10_looks_43 : decode cX10_looks 43 = .ok (.irem, 1) := by decide +kernel
theorem dX10_looks_44 : decode cX10_looks 44 = .ok (.istore_n 2, 1) := by decide +kernel
theorem dX10_looks_45 : decode cX10_looks 45 = .ok (.aload_n 0, 1) := by decide +kernel
theorem dX10_looks_46 : decode cX10_looks 46 = .ok (.iload_n 2, 1) := by decide +kernel
theorem dX10_looks_47 : decode cX10_looks 47 = .ok (.invokevirtual 126, 3) := by decide +kernel
theorem dX10_looks_50 : decode cX10_looks 50 = .ok (.ifCond .eq 39, 3) := by decide +kernel
theorem dX10_looks_53 : decode cX10_looks 53 = .ok (.aload_n 0, 1) := by decide +kernel
theorem dX10_looks_54 : decode cX10_looks 54 = .ok (.getfield 7, 3) := by decide +kernel
theorem dX10_looks_57 : decode cX10_looks 57 = .ok (.bipush 112, 2) := by decide +kernel
theorem dX10_looks_59 : decode cX10_looks 59 = .ok (.iload_n 2, 1) := by decide +kernel
theorem dX10_looks_60 : decode cX10_looks 60 = .ok (.iastore, 1) := by decide +kernel
theorem dX10_looks_61 : decode cX10_looks 61 = .ok (.aload_n 0, 1) := by decide +kernel
theorem dX10_looks_62 : decode cX10_looks 62 = .ok (.getfield 7, 3) := by decide +kernel
theorem dX10_looks_65 : decode cX10_looks 65 = .ok (.bipush 113, 2) := by decide +kernel
theorem dX10_looks_67 : decode cX10_looks 67 = .ok (.aload_n 0, 1) := by decide +kernel
theorem dX10_looks_68 : decode cX10_looks 68 = .ok (.getfield 7, 3) := by decide +kernel
theorem dX10_looks_71 : decode cX10_looks 71 = .ok (.bipush 114, 2) := by decide +kernel
theorem dX10_looks_73 : decode cX10_looks 73 = .ok (.iaload, 1) := by decide +kernel
theorem dX10_looks_74 : decode cX10_looks 74 = .ok (.iastore, 1) := by decide +kernel
theorem dX10_looks_75 : decode cX10_looks 75 = .ok (.aload_n 0, 1) := by decide +kernel
theorem dX10_looks_76 : decode cX10_looks 76 = .ok (.getfield 7, 3) := by decide +kernel
theorem dX10_looks_79 : decode cX10_looks 79 = .ok (.bipush 121, 2) := by decide +kernel
theorem dX10_looks_81 : decode cX10_looks 81 = .ok (.dup2, 1) := by decide +kernel
theorem dX10_looks_82 : decode cX10_looks 82 = .ok (.iaload, 1) := by decide +kernel
theorem dX10_looks_83 : decode cX10_looks 83 = .ok (.iconst 1, 1) := by decide +kernel
theorem dX10_looks_84 : decode cX10_looks 84 = .ok (.iadd, 1) := by decide +kernel
theorem dX10_looks_85 : decode cX10_looks 85 = .ok (.iastore, 1) := by decide +kernel
theorem dX10_looks_86 : decode cX10_looks 86 = .ok (.bipush 6, 2) := by decide +kernel
theorem dX10_looks_88 : decode cX10_looks 88 = .ok (.istore_n 1, 1) := by decide +kernel
theorem dX10_looks_89 : decode cX10_looks 89 = .ok (.iinc 1 1, 3) := by decide +kernel
theorem dX10_looks_92 : decode cX10_looks 92 = .ok (.goto (-66), 3) := by decide +kernel
theorem dX10_looks_95 : decode cX10_looks 95 = .ok (.aload_n 0, 1) := by decide +kernel
theorem dX10_looks_96 : decode cX10_looks 96 = .ok (.getfield 7, 3) := by decide +kernel
theorem dX10_looks_99 : decode cX10_looks 99 = .ok (.bipush 113, 2) := by decide +kernel
theorem dX10_looks_101 : decode cX10_looks 101 = .ok (.iaload, 1) := by decide +kernel
theorem dX10_looks_102 : decode cX10_looks 102 = .ok (.ifCond .le 5, 3) := by decide +kernel
theorem dX10_looks_105 : decode cX10_looks 105 = .ok (.iconst 3, 1) := by decide +kernel
theorem dX10_looks_106 : decode cX10_looks 106 = .ok (.ireturn, 1) := by decide +kernel
theorem dX10_looks_107 : decode cX10_looks 107 = .ok (.aload_n 0, 1) := by decide +kernel
theorem dX10_looks_108 : decode cX10_looks 108 = .ok (.aload_n 0, 1) := by decide +kernel
theorem dX10_looks_109 : decode cX10_looks 109 = .ok (.getfield 7, 3) := by decide +kernel
theorem dX10_looks_112 : decode cX10_looks 112 = .ok (.bipush 112, 2) := by decide +kernel
theorem dX10_looks_114 : decode cX10_looks 114 = .ok (.iaload, 1) := by decide +kernel
theorem dX10_looks_115 : decode cX10_looks 115 = .ok (.invokevirtual 126, 3) := by decide +kernel
theorem dX10_looks_118 : decode cX10_looks 118 = .ok (.ifCond .ne 7, 3) := by decide +kernel
theorem dX10_looks_121 : decode cX10_looks 121 = .ok (.iconst 4, 1) := by decide +kernel
theorem dX10_looks_122 : decode cX10_looks 122 = .ok (.goto 22, 3) := by decide +kernel
theorem dX10_looks_125 : decode cX10_looks 125 = .ok (.aload_n 0, 1) := by decide +kernel
theorem dX10_looks_126 : decode cX10_looks 126 = .ok (.aload_n 0, 1) := by decide +kernel
theorem dX10_looks_127 : decode cX10_looks 127 = .ok (.getfield 7, 3) := by decide +kernel
theorem dX10_looks_130 : decode cX10_looks 130 = .ok (.bipush 116, 2) := by decide +kernel
theorem dX10_looks_132 : decode cX10_looks 132 = .ok (.iaload, 1) := by decide +kernel
theorem dX10_looks_133 : decode cX10_looks 133 = .ok (.invokevirtual 111, 3) := by decide +kernel
theorem dX10_looks_136 : decode cX10_looks 136 = .ok (.ifCond .eq 7, 3) := by decide +kernel
theorem dX10_looks_139 : decode cX10_looks 139 = .ok (.iconst 1, 1) := by decide +kernel
theorem dX10_looks_140 : decode cX10_looks 140 = .ok (.goto 4, 3) := by decide +kernel
theorem dX10_looks_143 : decode cX10_looks 143 = .ok (.iconst 2, 1) := by decide +kernel
theorem dX10_looks_144 : decode cX10_looks 144 = .ok (.ireturn, 1) := by decide +kernel
set_option maxRecDepth 20000 in
theorem ggX10_ticks_X10_looks : GoodIn wsX10_ticks wsX10_looks := goodIn_r _ [6, 1, 7, 8, 9, 5, 10, 11, 12, 13, 14, 15, 16, 17, 18, 19, 20, 21, 22, 23, 24, 25, 26, 27, 28, 29, 30, 31, 32, 33, 34, 35, 36, 37, 38, 39, 40, 41, 42, 43, 44, 45, 46, 47, 48, 49, 50, 51, 52, 53, 54, 55, 56, 57] (by decide +kernel) (by decide +kernel)
set_option maxRecDepth 20000 in
theorem gX10_ticks_X10_looks : GoodIn wsX10_ticks (wsV RX10 162 RX10 yX10_looks wsX10_looks) := goodIn_app (goodIn_of _ (by decide +kernel)) ggX10_ticks_X10_looks
theorem dX10_ticks_0 : decode cX10_ticks 0 = .ok (.aload_n 0, 1) := by decide +kernel
theorem dX10_ticks_1 : decode cX10_ticks 1 = .ok (.invokevirtual 162, 3) := by decide +kernel
theorem dX10_ticks_4 : decode cX10_ticks 4 = .ok (.istore_n 1, 1) := by decide +kernel
theorem dX10_ticks_5 : decode cX10_ticks 5 = .ok (.bipush 82, 2) := by decide +kernel
theorem dX10_ticks_7 : decode cX10_ticks 7 = .ok (.iconst 5, 1) := by decide +kernel
theorem dX10_ticks_8 : decode cX10_ticks 8 = .ok (.aload_n 0, 1) := by decide +kernel
theorem dX10_ticks_9 : decode cX10_ticks 9 = .ok (.getfield 7, 3) := by decide +kernel
theorem dX10_ticks_12 : decode cX10_ticks 12 = .ok (.bipush 112, 2) := by decide +kernel
theorem dX10_ticks_14 : decode cX10_ticks 14 = .ok (.iaload, 1) := by decide +kernel
theorem dX10_ticks_15 : decode cX10_ticks 15 = .ok (.imul, 1) := by decide +kernel
theorem dX10_ticks_16 : decode cX10_ticks 16 = .ok (.iadd, 1) := by decide +kernel
theorem dX10_ticks_17 : decode cX10_ticks 17 = .ok (.iconst 4, 1) := by decide +kernel
theorem dX10_ticks_18 : decode cX10_ticks 18 = .ok (.iadd, 1) := by decide +kernel
theorem dX10_ticks_19 : decode cX10_ticks 19 = .ok (.istore_n 2, 1) := by decide +kernel
theorem dX10_ticks_20 : decode cX10_ticks 20 = .ok (.aload_n 0, 1) := by decide +kernel
theorem dX10_ticks_21 : decode cX10_ticks 21 = .ok (.getfield 7, 3) := by decide +kernel
theorem dX10_ticks_24 : decode cX10_ticks 24 = .ok (.bipush 113, 2) := by decide +kernel
theorem dX10_ticks_26 : decode cX10_ticks 26 = .ok (.dup2, 1) := by decide +kernel
theorem dX10_ticks_27 : decode cX10_ticks 27 = .ok (.iaload, 1) := by decide +kernel
theorem dX10_ticks_28 : decode cX10_ticks 28 = .ok (.iload_n 1, 1) := by decide +kernel
theorem dX10_ticks_29 : decode cX10_ticks 29 = .ok (.iconst 3, 1) := by decide +kernel
theorem dX10_ticks_30 : decode cX10_ticks 30 = .ok (.if_icmp .ne 7, 3) := by decide +kernel
theorem dX10_ticks_33 : decode cX10_ticks 33 = .ok (.iconst 1, 1) := by decide +kernel
theorem dX10_ticks_34 : decode cX10_ticks 34 = .ok (.goto 4, 3) := by decide +kernel
theorem dX10_ticks_37 : decode cX10_ticks 37 = .ok (.iconst 0, 1) := by decide +kernel
theorem dX10_ticks_38 : decode cX10_ticks 38 = .ok (.isub, 1) := by decide +kernel
theorem dX10_ticks_39 : decode cX10_ticks 39 = .ok (.iastore, 1) := by decide +kernel
theorem dX10_ticks_40 : decode cX10_ticks 40 = .ok (.aload_n 0, 1) := by decide +kernel
theorem dX10_ticks_41 : decode cX10_ticks 41 = .ok (.getfield 7, 3) := by decide +kernel
theorem dX10_ticks_44 : decode cX10_ticks 44 = .ok (.iload_n 2, 1) := by decide +kernel
theorem dX10_ticks_45 : decode cX10_ticks 45 = .ok (.dup2, 1) := by decide +kernel
theorem dX10_ticks_46 : decode cX10_ticks 46 = .ok (.iaload, 1) := by decide +kernel
theorem dX10_ticks_47 : decode cX10_ticks 47 = .ok (.iload_n 1, 1) := by decide +kernel
theorem dX10_ticks_48 : decode cX10_ticks 48 = .ok (.iconst 1, 1) := by decide +kernel
theorem dX10_ticks_49 : decode cX10_ticks 49 = .ok (.if_icmp .eq 31, 3) := by decide +kernel
theorem dX10_ticks_52 : decode cX10_ticks 52 = .ok (.iload_n 1, 1) := by decide +kernel
theorem dX10_ticks_53 : decode cX10_ticks 53 = .ok (.iconst 2, 1) := by decide +kernel
theorem dX10_ticks_54 : decode cX10_ticks 54 = .ok (.if_icmp .ne 30, 3) := by decide +kernel
theorem dX10_ticks_57 : decode cX10_ticks 57 = .ok (.aload_n 0, 1) := by decide +kernel
theorem dX10_ticks_58 : decode cX10_ticks 58 = .ok (.getfield 7, 3) := by decide +kernel
theorem dX10_ticks_61 : decode cX10_ticks 61 = .ok (.bipush 81, 2) := by decide +kernel
theorem dX10_ticks_63 : decode cX10_ticks 63 = .ok (.iaload, 1) := by decide +kernel
theorem dX10_ticks_64 : decode cX10_ticks 64 = .ok (.iconst 1, 1) := by decide +kernel
theorem dX10_ticks_65 : decode cX10_ticks 65 = .ok (.if_icmp .ne 19, 3) := by decide +kernel
theorem dX10_ticks_68 : decode cX10_ticks 68 = .ok (.aload_n 0, 1) := by decide +kernel
theorem dX10_ticks_69 : decode cX10_ticks 69 = .ok (.getfield 7, 3) := by decide +kernel
theorem dX10_ticks_72 : decode cX10_ticks 72 = .ok (.bipush 116, 2) := by decide +kernel
theorem dX10_ticks_74 : decode cX10_ticks 74 = .ok (.iaload, 1) := by decide +kernel
theorem dX10_ticks_75 : decode cX10_ticks 75 = .ok (.iconst 4, 1) := by decide +kernel
theorem dX10_ticks_76 : decode cX10_ticks 76 = .ok (.irem, 1) := by decide +kernel
theorem dX10_ticks_77 : decode cX10_ticks 77 = .ok (.ifCond .ne 7, 3) := by decide +kernel
theorem dX10_ticks_80 : decode cX10_ticks 80 = .ok (.iconst 1, 1) := by decide +kernel
theorem dX10_ticks_81 : decode cX10_ticks 81 = .ok (.goto 4, 3) := by decide +kernel
theorem dX10_ticks_84 : decode cX10_ticks 84 = .ok (.iconst 0, 1) := by decide +kernel
theorem dX10_ticks_85 : decode cX10_ticks 85 = .ok (.iadd, 1) := by decide +kernel
theorem dX10_ticks_86 : decode cX10_ticks 86 = .ok (.iastore, 1) := by decide +kernel
theorem dX10_ticks_87 : decode cX10_ticks 87 = .ok (.aload_n 0, 1) := by decide +kernel
theorem dX10_ticks_88 : decode cX10_ticks 88 = .ok (.getfield 7, 3) := by decide +kernel
theorem dX10_ticks_91 : decode cX10_ticks 91 = .ok (.bipush 116, 2) := by decide +kernel
theorem dX10_ticks_93 : decode cX10_ticks 93 = .ok (.iload_n 1, 1) := by decide +kernel
theorem dX10_ticks_94 : decode cX10_ticks 94 = .ok (.iadd, 1) := by decide +kernel
theorem dX10_ticks_95 : decode cX10_ticks 95 = .ok (.dup2, 1) := by decide +kernel
theorem dX10_ticks_96 : decode cX10_ticks 96 = .ok (.iaload, 1) := by decide +kernel
theorem dX10_ticks_97 : decode cX10_ticks 97 = .ok (.iconst 1, 1) := by decide +kernel
theorem dX10_ticks_98 : decode cX10_ticks 98 = .ok (.iadd, 1) := by decide +kernel
theorem dX10_ticks_99 : decode cX10_ticks 99 = .ok (.iastore, 1) := by decide +kernel
theorem dX10_ticks_100 : decode cX10_ticks 100 = .ok (.aload_n 0, 1) := by decide +kernel
theorem dX10_ticks_101 : decode cX10_ticks 101 = .ok (.getfield 7, 3) := by decide +kernel
theorem dX10_ticks_104 : decode cX10_ticks 104 = .ok (.bipush 116, 2) := by decide +kernel
theorem dX10_ticks_106 : decode cX10_ticks 106 = .ok (.dup2, 1) := by decide +kernel
theorem dX10_ticks_107 : decode cX10_ticks 107 = .ok (.iaload, 1) := by decide +kernel
theorem dX10_ticks_108 : decode cX10_ticks 108 = .ok (.iconst 1, 1) := by decide +kernel
theorem dX10_ticks_109 : decode cX10_ticks 109 = .ok (.iadd, 1) := by decide +kernel
theorem dX10_ticks_110 : decode cX10_ticks 110 = .ok (.iastore, 1) := by decide +kernel
theorem dX10_ticks_111 : decode cX10_ticks 111 = .ok (.iload_n 1, 1) := by decide +kernel
theorem dX10_ticks_112 : decode cX10_ticks 112 = .ok (.ireturn, 1) := by decide +kernel
set_option maxRecDepth 20000 in
theorem ggX10_advance_X10_within : GoodIn wsX10_advance wsX10_within := goodIn_r _ [6] (by decide +kernel) (by decide +kernel)
set_option maxRecDepth 20000 in
theorem gX10_advance_X10_within : GoodIn wsX10_advance (va_wsS RX10 43 yX10_within wsX10_within) := goodIn_app (goodIn_of _ (by decide +kernel)) ggX10_advance_X10_within
set_option maxRecDepth 20000 in
theorem ggX10_advance_X10_saves : GoodIn wsX10_advance wsX10_saves := goodIn_r _ [10, 11, 12, 1, 13, 14, 5, 15, 60, 61, 62, 63, 64, 65, 66, 67, 68, 69, 70, 71, 72, 73, 74] (by decide +kernel) (by decide +kernel)
set_option maxRecDepth 20000 in
theorem gX10_advance_X10_saves : GoodIn wsX10_advance (wsV RX10 51 RX10 yX10_saves wsX10_saves) := goodIn_app (goodIn_of _ (by decide +kernel)) ggX10_advance_X10_saves
set_option maxRecDepth 20000 in
theorem ggX10_advance_X10_ticks : GoodIn wsX10_advance wsX10_ticks := goodIn_r _ [19, 1, 20, 21, 22, 5, 23, 24, 25, 26, 27, 28, 29, 30, 31, 32, 33, 34, 35, 36, 37, 38, 39, 40, 41, 42, 43, 44, 45, 46, 47, 48, 49, 50, 51, 52, 53, 54, 55, 56, 57, 58, 59, 60, 61, 62, 63, 64, 65, 66, 67, 68, 69, 70, 71, 72, 73, 74] (by decide +kernel) (by decide +kernel)
set_option maxRecDepth 20000 in
theorem gX10_advance_X10_ticks : GoodIn wsX10_advance (wsV RX10 166 RX10 yX10_ticks wsX10_ticks) := goodIn_app (goodIn_of _ (by decide +kernel)) ggX10_advance_X10_ticks
theorem dX10_advance_0 : decode cX10_advance 0 = .ok (.iload_n 1, 1) := by decide +kernel
theorem dX10_advance_1 : decode cX10_advance 1 = .ok (.iconst 1, 1) := by decide +kernel
theorem dX10_advance_2 : decode cX10_advance 2 = .ok (.sipush 2000, 3) := by decide +kernel
theorem dX10_advance_5 : decode cX10_advance 5 = .ok (.invokestatic 43, 3) := by decide +kernel
theorem dX10_advance_8 : decode cX10_advance 8 = .ok (.ifCond .ne 5, 3) := by decide +kernel
theorem dX10_advance_11 : decode cX10_advance 11 = .ok (.iconst (-1), 1) := by decide +kernel
theorem dX10_advance_12 : decode cX10_advance 12 = .ok (.ireturn, 1) := by decide +kernel
theorem dX10_advance_13 : decode cX10_advance 13 = .ok (.aload_n 0, 1) := by decide +kernel
theorem dX10_advance_14 : decode cX10_advance 14 = .ok (.getfield 7, 3) := by decide +kernel
theorem dX10_advance_17 : decode cX10_advance 17 = .ok (.bipush 116, 2) := by decide +kernel
theorem dX10_advance_19 : decode cX10_advance 19 = .ok (.iaload, 1) := by decide +kernel
theorem dX10_advance_20 : decode cX10_advance 20 = .ok (.iload_n 1, 1) := by decide +kernel
theorem dX10_advance_21 : decode cX10_advance 21 = .ok (.iadd, 1) := by decide +kernel
theorem dX10_advance_22 : decode cX10_advance 22 = .ok (.ldc 165, 2) := by decide +kernel
theorem dX10_advance_24 : decode cX10_advance 24 = .ok (.if_icmp .le 6, 3) := by decide +kernel
theorem dX10_advance_27 : decode cX10_advance 27 = .ok (.bipush (-3), 2) := by decide +kernel
theorem dX10_advance_29 : decode cX10_advance 29 = .ok (.ireturn, 1) := by decide +kernel
theorem dX10_advance_30 : decode cX10_advance 30 = .ok (.aload_n 0, 1) := by decide +kernel
theorem dX10_advance_31 : decode cX10_advance 31 = .ok (.invokevirtual 51, 3) := by decide +kernel
theorem dX10_advance_34 : decode cX10_advance 34 = .ok (.iconst 0, 1) := by decide +kernel
theorem dX10_advance_35 : decode cX10_advance 35 = .ok (.istore_n 2, 1) := by decide +kernel
theorem dX10_advance_36 : decode cX10_advance 36 = .ok (.iconst 0, 1) := by decide +kernel
theorem dX10_advance_37 : decode cX10_advance 37 = .ok (.istore_n 3, 1) := by decide +kernel
theorem dX10_advance_38 : decode cX10_advance 38 = .ok (.iload_n 3, 1) := by decide +kernel
theorem dX10_advance_39 : decode cX10_advance 39 = .ok (.iload_n 1, 1) := by decide +kernel
theorem dX10_advance_40 : decode cX10_advance 40 = .ok (.if_icmp .ge 25, 3) := by decide +kernel
theorem dX10_advance_43 : decode cX10_advance 43 = .ok (.iload_n 2, 1) := by decide +kernel
theorem dX10_advance_44 : decode cX10_advance 44 = .ok (.aload_n 0, 1) := by decide +kernel
theorem dX10_advance_45 : decode cX10_advance 45 = .ok (.invokevirtual 166, 3) := by decide +kernel
theorem dX10_advance_48 : decode cX10_advance 48 = .ok (.iconst 1, 1) := by decide +kernel
theorem dX10_advance_49 : decode cX10_advance 49 = .ok (.if_icmp .ne 7, 3) := by decide +kernel
theorem dX10_advance_52 : decode cX10_advance 52 = .ok (.iconst 1, 1) := by decide +kernel
theorem dX10_advance_53 : decode cX10_advance 53 = .ok (.goto 4, 3) := by decide +kernel
theorem dX10_advance_56 : decode cX10_advance 56 = .ok (.iconst 0, 1) := by decide +kernel
theorem dX10_advance_57 : decode cX10_advance 57 = .ok (.iadd, 1) := by decide +kernel
theorem dX10_advance_58 : decode cX10_advance 58 = .ok (.istore_n 2, 1) := by decide +kernel
theorem dX10_advance_59 : decode cX10_advance 59 = .ok (.iinc 3 1, 3) := by decide +kernel
theorem dX10_advance_62 : decode cX10_advance 62 = .ok (.goto (-24), 3) := by decide +kernel
theorem dX10_advance_65 : decode cX10_advance 65 = .ok (.iload_n 2, 1) := by decide +kernel
theorem dX10_advance_66 : decode cX10_advance 66 = .ok (.ireturn, 1) := by decide +kernel
set_option maxRecDepth 20000 in
theorem ggX10_account_X10_within : GoodIn wsX10_account wsX10_within := goodIn_r _ [5] (by decide +kernel) (by decide +kernel)
set_option maxRecDepth 20000 in
theorem gX10_account_X10_within : GoodIn wsX10_account (va_wsS RX10 43 yX10_within wsX10_within) := goodIn_app (goodIn_of _ (by decide +kernel)) ggX10_account_X10_within
theorem dX10_account_0 : decode cX10_account 0 = .ok (.iload_n 1, 1) := by decide +kernel
theorem dX10_account_1 : decode cX10_account 1 = .ok (.iconst 0, 1) := by decide +kernel
theorem dX10_account_2 : decode cX10_account 2 = .ok (.bipush 7, 2) := by decide +kernel
theorem dX10_account_4 : decode cX10_account 4 = .ok (.invokestatic 43, 3) := by decide +kernel
theorem dX10_account_7 : decode cX10_account 7 = .ok (.ifCond .eq 15, 3) := by decide +kernel
theorem dX10_account_10 : decode cX10_account 10 = .ok (.aload_n 0, 1) := by decide +kernel
theorem dX10_account_11 : decode cX10_account 11 = .ok (.getfield 7, 3) := by decide +kernel
theorem dX10_account_14 : decode cX10_account 14 = .ok (.bipush 116, 2) := by decide +kernel
theorem dX10_account_16 : decode cX10_account 16 = .ok (.iload_n 1, 1) := by decide +kernel
theorem dX10_account_17 : decode cX10_account 17 = .ok (.iadd, 1) := by decide +kernel
theorem dX10_account_18 : decode cX10_account 18 = .ok (.iaload, 1) := by decide +kernel
theorem dX10_account_19 : decode cX10_account 19 = .ok (.goto 4, 3) := by decide +kernel
theorem dX10_account_22 : decode cX10_account 22 = .ok (.iconst (-1), 1) := by decide +kernel
theorem dX10_account_23 : decode cX10_account 23 = .ok (.ireturn, 1) := by decide +kernel
set_option maxRecDepth 20000 in
theorem ggX10_count_X10_sectors : GoodIn wsX10_count wsX10_sectors := goodIn_r _ [9, 10, 11, 12, 8, 13, 1, 34, 35, 36, 37, 38, 39, 40, 41, 42, 43, 44, 45, 46, 47, 48] (by decide +kernel) (by decide +kernel)
set_option maxRecDepth 20000 in
theorem gX10_count_X10_sectors : GoodIn wsX10_count (wsV RX10 61 RX10 yX10_sectors wsX10_sectors) := goodIn_app (goodIn_of _ (by decide +kernel)) ggX10_count_X10_sectors
set_option maxRecDepth 20000 in
theorem ggX10_count_X10_lamps : GoodIn wsX10_count wsX10_lamps := goodIn_r _ [17, 18, 19, 20, 8, 21, 1, 34, 35, 36, 37, 38, 39, 40, 41, 42, 43, 44, 45, 46, 47, 48] (by decide +kernel) (by decide +kernel)
set_option maxRecDepth 20000 in
theorem gX10_count_X10_lamps : GoodIn wsX10_count (wsV RX10 129 RX10 yX10_lamps wsX10_lamps) := goodIn_app (goodIn_of _ (by decide +kernel)) ggX10_count_X10_lamps
set_option maxRecDepth 20000 in
theorem ggX10_count_X10_good : GoodIn wsX10_count wsX10_good := goodIn_r _ [25, 26, 27, 28, 8, 29, 18, 19, 20, 21, 1, 30, 31, 32, 33, 34, 35, 36, 37, 38, 39, 40, 41, 42, 43, 44, 45, 46, 47, 48] (by decide +kernel) (by decide +kernel)
set_option maxRecDepth 20000 in
theorem gX10_count_X10_good : GoodIn wsX10_count (wsV RX10 169 RX10 yX10_good wsX10_good) := goodIn_app (goodIn_of _ (by decide +kernel)) ggX10_count_X10_good
theorem dX10_count_0 : decode cX10_count 0 = .ok (.iload_n 1, 1) := by decide +kernel
theorem dX10_count_1 : decode cX10_count 1 = .ok (.tableswitch 150 0 11 #[63, 68, 73, 78, 86, 94, 102, 110, 118, 127, 132, 137], 63) := by decide +kernel
theorem dX10_count_64 : decode cX10_count 64 = .ok (.aload_n 0, 1) := by decide +kernel
theorem dX10_count_65 : decode cX10_count 65 = .ok (.invokevirtual 61, 3) := by decide +kernel
theorem dX10_count_68 : decode cX10_count 68 = .ok (.ireturn, 1) := by decide +kernel
theorem dX10_count_69 : decode cX10_count 69 = .ok (.aload_n 0, 1) := by decide +kernel
theorem dX10_count_70 : decode cX10_count 70 = .ok (.invokevirtual 129, 3) := by decide +kernel
theorem dX10_count_73 : decode cX10_count 73 = .ok (.ireturn, 1) := by decide +kernel
theorem dX10_count_74 : decode cX10_count 74 = .ok (.aload_n 0, 1) := by decide +kernel
theorem dX10_count_75 : decode cX10_count 75 = .ok (.invokevirtual 169, 3) := by decide +kernel
theorem dX10_count_78 : decode cX10_count 78 = .ok (.ireturn, 1) := by decide +kernel
theorem dX10_count_79 : decode cX10_count 79 = .ok (.aload_n 0, 1) := by decide +kernel
theorem dX10_count_80 : decode cX10_count 80 = .ok (.getfield 7, 3) := by decide +kernel
theorem dX10_count_83 : decode cX10_count 83 = .ok (.bipush 112, 2) := by decide +kernel
theorem dX10_count_85 : decode cX10_count 85 = .ok (.iaload, 1) := by decide +kernel
theorem dX10_count_86 : decode cX10_count 86 = .ok (.ireturn, 1) := by decide +kernel
theorem dX10_count_87 : decode cX10_count 87 = .ok (.aload_n 0, 1) := by decide +kernel
theorem dX10_count_88 : decode cX10_count 88 = .ok (.getfield 7, 3) := by decide +kernel
theorem dX10_count_91 : decode cX10_count 91 = .ok (.bipush 113, 2) := by decide +kernel
theorem dX10_count_93 : decode cX10_count 93 = .ok (.iaload, 1) := by decide +kernel
theorem dX10_count_94 : decode cX10_count 94 = .ok (.ireturn, 1) := by decide +kernel
theorem dX10_count_95 : decode cX10_count 95 = .ok (.aload_n 0, 1) := by decide +kernel
theorem dX10_count_96 : decode cX10_count 96 = .ok (.getfield 7, 3) := by decide +kernel
theorem dX10_count_99 : decode cX10_count 99 = .ok (.bipush 81, 2) := by decide +kernel
theorem dX10_count_101 : decode cX10_count 101 = .ok (.iaload, 1) := by decide +kernel
theorem dX10_count_102 : decode cX10_count 102 = .ok (.ireturn, 1) := by decide +kernel
theorem dX10_count_103 : decode cX10_count 103 = .ok (.aload_n 0, 1) := by decide +kernel
theorem dX10_count_104 : decode cX10_count 104 = .ok (.getfield 7, 3) := by decide +kernel
theorem dX10_count_107 : decode cX10_count 107 = .ok (.bipush 114, 2) := by decide +kernel
theorem dX10_count_109 : decode cX10_count 109 = .ok (.iaload, 1) := by decide +kernel
theorem dX10_count_110 : decode cX10_count 110 = .ok (.ireturn, 1) := by decide +kernel
theorem dX10_count_111 : decode cX10_count 111 = .ok (.aload_n 0, 1) := by decide +kernel
theorem dX10_count_112 : decode cX10_count 112 = .ok (.getfield 7, 3) := by decide +kernel
theorem dX10_count_115 : decode cX10_count 115 = .ok (.bipush 115, 2) := by decide +kernel
theorem dX10_count_117 : decode cX10_count 117 = .ok (.iaload, 1) := by decide +kernel
theorem dX10_count_118 : decode cX10_count 118 = .ok (.ireturn, 1) := by decide +kernel
theorem dX10_count_119 : decode cX10_count 119 = .ok (.aload_n 0, 1) := by decide +kernel
theorem dX10_count_120 : decode cX10_count 120 = .ok (.getfield 7, 3) := by decide +kernel
theorem dX10_count_123 : decode cX10_count 123 = .ok (.sipush 128, 3) := by decide +kernel
theorem dX10_count_126 : decode cX10_count 126 = .ok (.iaload, 1) := by decide +kernel
theorem dX10_count_127 : decode cX10_count 127 = .ok (.ireturn, 1) := by decide +kernel
theorem dX10_count_128 : decode cX10_count 128 = .ok (.aload_n 0, 1) := by decide +kernel
theorem dX10_count_129 : decode cX10_count 129 = .ok (.getfield 35, 3) := by decide +kernel
theorem dX10_count_132 : decode cX10_count 132 = .ok (.ireturn, 1) := by decide +kernel
theorem dX10_count_133 : decode cX10_count 133 = .ok (.aload_n 0, 1) := by decide +kernel
theorem dX10_count_134 : decode cX10_count 134 = .ok (.getfield 172, 3) := by decide +kernel
theorem dX10_count_137 : decode cX10_count 137 = .ok (.ireturn, 1) := by decide +kernel
theorem dX10_count_138 : decode cX10_count 138 = .ok (.aload_n 0, 1) := by decide +kernel
theorem dX10_count_139 : decode cX10_count 139 = .ok (.getfield 175, 3) := by decide +kernel
theorem dX10_count_142 : decode cX10_count 142 = .ok (.ifCond .eq 7, 3) := by decide +kernel
theorem dX10_count_145 : decode cX10_count 145 = .ok (.iconst 1, 1) := by decide +kernel
theorem dX10_count_146 : decode cX10_count 146 = .ok (.goto 4, 3) := by decide +kernel
theorem dX10_count_149 : decode cX10_count 149 = .ok (.iconst 0, 1) := by decide +kernel
theorem dX10_count_150 : decode cX10_count 150 = .ok (.ireturn, 1) := by decide +kernel
theorem dX10_count_151 : decode cX10_count 151 = .ok (.iconst (-1), 1) := by decide +kernel
theorem dX10_count_152 : decode cX10_count 152 = .ok (.ireturn, 1) := by decide +kernel
set_option maxRecDepth 20000 in
theorem ggX10_untilIdle_X10_bring : GoodIn wsX10_untilIdle wsX10_bring := goodIn_r _ [6] (by decide +kernel) (by decide +kernel)
set_option maxRecDepth 20000 in
theorem gX10_untilIdle_X10_bring : GoodIn wsX10_untilIdle (va_wsS RX10 39 yX10_bring wsX10_bring) := goodIn_app (goodIn_of _ (by decide +kernel)) ggX10_untilIdle_X10_bring
set_option maxRecDepth 20000 in
theorem ggX10_untilIdle_X10_ticks : GoodIn wsX10_untilIdle wsX10_ticks := goodIn_r _ [10, 1, 11, 12, 13, 5, 14, 15, 16, 17, 18, 19, 20, 21, 22, 23, 24, 25, 26, 27, 28, 29, 30, 31, 32, 33, 34, 35, 36, 37, 38, 39, 40, 41, 42, 43, 44, 45, 46, 47, 48, 49, 50, 51, 52, 53, 54, 55, 56, 57, 58, 59, 60, 61, 62, 63, 64, 65] (by decide +kernel) (by decide +kernel)
set_option maxRecDepth 20000 in
theorem gX10_untilIdle_X10_ticks : GoodIn wsX10_untilIdle (wsV RX10 166 RX10 yX10_ticks wsX10_ticks) := goodIn_app (goodIn_of _ (by decide +kernel)) ggX10_untilIdle_X10_ticks
theorem dX10_untilIdle_0 : decode cX10_untilIdle 0 = .ok (.aload_n 0, 1) := by decide +kernel
theorem dX10_untilIdle_1 : decode cX10_untilIdle 1 = .ok (.getfield 7, 3) := by decide +kernel
theorem dX10_untilIdle_4 : decode cX10_untilIdle 4 = .ok (.iconst 0, 1) := by decide +kernel
theorem dX10_untilIdle_5 : decode cX10_untilIdle 5 = .ok (.aload_n 0, 1) := by decide +kernel
theorem dX10_untilIdle_6 : decode cX10_untilIdle 6 = .ok (.getfield 19, 3) := by decide +kernel
theorem dX10_untilIdle_9 : decode cX10_untilIdle 9 = .ok (.iconst 0, 1) := by decide +kernel
theorem dX10_untilIdle_10 : decode cX10_untilIdle 10 = .ok (.invokestatic 39, 3) := by decide +kernel
theorem dX10_untilIdle_13 : decode cX10_untilIdle 13 = .ok (.bipush (-4), 2) := by decide +kernel
theorem dX10_untilIdle_15 : decode cX10_untilIdle 15 = .ok (.istore_n 1, 1) := by decide +kernel
theorem dX10_untilIdle_16 : decode cX10_untilIdle 16 = .ok (.iconst 0, 1) := by decide +kernel
theorem dX10_untilIdle_17 : decode cX10_untilIdle 17 = .ok (.istore_n 2, 1) := by decide +kernel
theorem dX10_untilIdle_18 : decode cX10_untilIdle 18 = .ok (.iload_n 2, 1) := by decide +kernel
theorem dX10_untilIdle_19 : decode cX10_untilIdle 19 = .ok (.sipush 20000, 3) := by decide +kernel
theorem dX10_untilIdle_22 : decode cX10_untilIdle 22 = .ok (.if_icmp .ge 29, 3) := by decide +kernel
theorem dX10_untilIdle_25 : decode cX10_untilIdle 25 = .ok (.iload_n 1, 1) := by decide +kernel
theorem dX10_untilIdle_26 : decode cX10_untilIdle 26 = .ok (.bipush (-4), 2) := by decide +kernel
theorem dX10_untilIdle_28 : decode cX10_untilIdle 28 = .ok (.if_icmp .ne 23, 3) := by decide +kernel
theorem dX10_untilIdle_31 : decode cX10_untilIdle 31 = .ok (.aload_n 0, 1) := by decide +kernel
theorem dX10_untilIdle_32 : decode cX10_untilIdle 32 = .ok (.invokevirtual 166, 3) := by decide +kernel
theorem dX10_untilIdle_35 : decode cX10_untilIdle 35 = .ok (.iconst 4, 1) := by decide +kernel
theorem dX10_untilIdle_36 : decode cX10_untilIdle 36 = .ok (.if_icmp .ne 7, 3) := by decide +kernel
theorem dX10_untilIdle_39 : decode cX10_untilIdle 39 = .ok (.iload_n 2, 1) := by decide +kernel
theorem dX10_untilIdle_40 : decode cX10_untilIdle 40 = .ok (.goto 4, 3) := by decide +kernel
theorem dX10_untilIdle_43 : decode cX10_untilIdle 43 = .ok (.iload_n 1, 1) := by decide +kernel
theorem dX10_untilIdle_44 : decode cX10_untilIdle 44 = .ok (.istore_n 1, 1) := by decide +kernel
theorem dX10_untilIdle_45 : decode cX10_untilIdle 45 = .ok (.iinc 2 1, 3) := by decide +kernel
theorem dX10_untilIdle_48 : decode cX10_untilIdle 48 = .ok (.goto (-30), 3) := by decide +kernel
theorem dX10_untilIdle_51 : decode cX10_untilIdle 51 = .ok (.aload_n 0, 1) := by decide +kernel
theorem dX10_untilIdle_52 : decode cX10_untilIdle 52 = .ok (.getfield 19, 3) := by decide +kernel
theorem dX10_untilIdle_55 : decode cX10_untilIdle 55 = .ok (.iconst 0, 1) := by decide +kernel
theorem dX10_untilIdle_56 : decode cX10_untilIdle 56 = .ok (.aload_n 0, 1) := by decide +kernel
theorem dX10_untilIdle_57 : decode cX10_untilIdle 57 = .ok (.getfield 7, 3) := by decide +kernel
theorem dX10_untilIdle_60 : decode cX10_untilIdle 60 = .ok (.iconst 0, 1) := by decide +kernel
theorem dX10_untilIdle_61 : decode cX10_untilIdle 61 = .ok (.invokestatic 39, 3) := by decide +kernel
theorem dX10_untilIdle_64 : decode cX10_untilIdle 64 = .ok (.iload_n 1, 1) := by decide +kernel
theorem dX10_untilIdle_65 : decode cX10_untilIdle 65 = .ok (.ireturn, 1) := by decide +kernel
set_option maxRecDepth 20000 in
theorem ggX10_seenAt_X10_directionOf : GoodIn wsX10_seenAt wsX10_directionOf := goodIn_r _ [6, 7, 8, 9, 5, 10, 11, 29, 30, 31, 32, 33, 34, 35, 36, 37, 38, 39, 40, 41, 42, 43] (by decide +kernel) (by decide +kernel)
set_option maxRecDepth 20000 in
theorem gX10_seenAt_X10_directionOf : GoodIn wsX10_seenAt (wsV RX10 76 RX10 yX10_directionOf wsX10_directionOf) := goodIn_app (goodIn_of _ (by decide +kernel)) ggX10_seenAt_X10_directionOf
set_option maxRecDepth 20000 in
theorem ggX10_seenAt_X10_range : GoodIn wsX10_seenAt wsX10_range := goodIn_r _ [15, 1, 16, 17, 18, 19, 20, 5, 21, 22, 23, 24, 25, 26, 27, 28, 29, 30, 31, 32, 33, 34, 35, 36, 37, 38, 39, 40, 41, 42, 43] (by decide +kernel) (by decide +kernel)
set_option maxRecDepth 20000 in
theorem gX10_seenAt_X10_range : GoodIn wsX10_seenAt (wsV RX10 156 RX10 yX10_range wsX10_range) := goodIn_app (goodIn_of _ (by decide +kernel)) ggX10_seenAt_X10_range
theorem dX10_seenAt_0 : decode cX10_seenAt 0 = .ok (.iload_n 1, 1) := by decide +kernel
theorem dX10_seenAt_1 : decode cX10_seenAt 1 = .ok (.ifCond .ne 7, 3) := by decide +kernel
theorem dX10_seenAt_4 : decode cX10_seenAt 4 = .ok (.iload_n 2, 1) := by decide +kernel
theorem dX10_seenAt_5 : decode cX10_seenAt 5 = .ok (.ifCond .eq 8, 3) := by decide +kernel
theorem dX10_seenAt_8 : decode cX10_seenAt 8 = .ok (.iload_n 3, 1) := by decide +kernel
theorem dX10_seenAt_9 : decode cX10_seenAt 9 = .ok (.iconst 1, 1) := by decide +kernel
theorem dX10_seenAt_10 : decode cX10_seenAt 10 = .ok (.if_icmp .eq 5, 3) := by decide +kernel
theorem dX10_seenAt_13 : decode cX10_seenAt 13 = .ok (.iconst 0, 1) := by decide +kernel
theorem dX10_seenAt_14 : decode cX10_seenAt 14 = .ok (.ireturn, 1) := by decide +kernel
theorem dX10_seenAt_15 : decode cX10_seenAt 15 = .ok (.aload_n 0, 1) := by decide +kernel
theorem dX10_seenAt_16 : decode cX10_seenAt 16 = .ok (.getfield 7, 3) := by decide +kernel
theorem dX10_seenAt_19 : decode cX10_seenAt 19 = .ok (.aload_n 0, 1) := by decide +kernel
theorem dX10_seenAt_20 : decode cX10_seenAt 20 = .ok (.iload_n 1, 1) := by decide +kernel
theorem dX10_seenAt_21 : decode cX10_seenAt 21 = .ok (.iload_n 2, 1) := by decide +kernel
theorem dX10_seenAt_22 : decode cX10_seenAt 22 = .ok (.invokevirtual 76, 3) := by decide +kernel
theorem dX10_seenAt_25 : decode cX10_seenAt 25 = .ok (.iaload, 1) := by decide +kernel
theorem dX10_seenAt_26 : decode cX10_seenAt 26 = .ok (.istore 4, 2) := by decide +kernel
theorem dX10_seenAt_28 : decode cX10_seenAt 28 = .ok (.aload_n 0, 1) := by decide +kernel
theorem dX10_seenAt_29 : decode cX10_seenAt 29 = .ok (.iload 4, 2) := by decide +kernel
theorem dX10_seenAt_31 : decode cX10_seenAt 31 = .ok (.invokevirtual 156, 3) := by decide +kernel
theorem dX10_seenAt_34 : decode cX10_seenAt 34 = .ok (.f2d, 1) := by decide +kernel
theorem dX10_seenAt_35 : decode cX10_seenAt 35 = .ok (.dstore 5, 2) := by decide +kernel
theorem dX10_seenAt_37 : decode cX10_seenAt 37 = .ok (.iload 4, 2) := by decide +kernel
theorem dX10_seenAt_39 : decode cX10_seenAt 39 = .ok (.ifCond .le 25, 3) := by decide +kernel
theorem dX10_seenAt_42 : decode cX10_seenAt 42 = .ok (.iload_n 1, 1) := by decide +kernel
theorem dX10_seenAt_43 : decode cX10_seenAt 43 = .ok (.iload_n 1, 1) := by decide +kernel
theorem dX10_seenAt_44 : decode cX10_seenAt 44 = .ok (.imul, 1) := by decide +kernel
theorem dX10_seenAt_45 : decode cX10_seenAt 45 = .ok (.iload_n 2, 1) := by decide +kernel
theorem dX10_seenAt_46 : decode cX10_seenAt 46 = .ok (.iload_n 2, 1) := by decide +kernel
theorem dX10_seenAt_47 : decode cX10_seenAt 47 = .ok (.imul, 1) := by decide +kernel
theorem dX10_seenAt_48 : decode cX10_seenAt 48 = .ok (.iadd, 1) := by decide +kernel
theorem dX10_seenAt_49 : decode cX10_seenAt 49 = .ok (.i2d, 1) := by decide +kernel
theorem dX10_seenAt_50 : decode cX10_seenAt 50 = .ok (.dload 5, 2) := by decide +kernel
theorem dX10_seenAt_52 : decode cX10_seenAt 52 = .ok (.dload 5, 2) := by decide +kernel
theorem dX10_seenAt_54 : decode cX10_seenAt 54 = .ok (.dmul, 1) := by decide +kernel
theorem dX10_seenAt_55 : decode cX10_seenAt 55 = .ok (.dcmp .g, 1) := by decide +kernel
theorem dX10_seenAt_56 : decode cX10_seenAt 56 = .ok (.ifCond .gt 8, 3) := by decide +kernel
theorem dX10_seenAt_59 : decode cX10_seenAt 59 = .ok (.iload 4, 2) := by decide +kernel
theorem dX10_seenAt_61 : decode cX10_seenAt 61 = .ok (.goto 4, 3) := by decide +kernel
theorem dX10_seenAt_64 : decode cX10_seenAt 64 = .ok (.iconst 0, 1) := by decide +kernel
theorem dX10_seenAt_65 : decode cX10_seenAt 65 = .ok (.ireturn, 1) := by decide +kernel
set_option maxRecDepth 20000 in
theorem ggX10_sees_X10_isFar : GoodIn wsX10_sees wsX10_isFar := goodIn_r _ [6, 7, 8, 5, 9] (by decide +kernel) (by decide +kernel)
set_option maxRecDepth 20000 in
theorem gX10_sees_X10_isFar : GoodIn wsX10_sees (va_wsS RX10 72 yX10_isFar wsX10_isFar) := goodIn_app (goodIn_of _ (by decide +kernel)) ggX10_sees_X10_isFar
set_option maxRecDepth 20000 in
theorem ggX10_sees_X10_bring : GoodIn wsX10_sees wsX10_bring := goodIn_r _ [12] (by decide +kernel) (by decide +kernel)
set_option maxRecDepth 20000 in
theorem gX10_sees_X10_bring : GoodIn wsX10_sees (va_wsS RX10 39 yX10_bring wsX10_bring) := goodIn_app (goodIn_of _ (by decide +kernel)) ggX10_sees_X10_bring
set_option maxRecDepth 20000 in
theorem ggX10_sees_X10_ticks : GoodIn wsX10_sees wsX10_ticks := goodIn_r _ [16, 1, 17, 18, 19, 5, 20, 21, 22, 23, 24, 25, 26, 27, 28, 29, 30, 31, 32, 33, 34, 35, 36, 37, 38, 39, 40, 41, 42, 43, 44, 45, 46, 47, 48, 49, 50, 51, 52, 53, 54, 55, 56, 83, 84, 85, 86, 87, 88, 89, 90, 91, 92, 93, 94, 95, 96, 97] (by decide +kernel) (by decide +kernel)
set_option maxRecDepth 20000 in
theorem gX10_sees_X10_ticks : GoodIn wsX10_sees (wsV RX10 166 RX10 yX10_ticks wsX10_ticks) := goodIn_app (goodIn_of _ (by decide +kernel)) ggX10_sees_X10_ticks
set_option maxRecDepth 20000 in
theorem ggX10_sees_X10_seenAt : GoodIn wsX10_sees wsX10_seenAt := goodIn_r _ [60, 1, 61, 62, 63, 5, 64, 65, 66, 67, 68, 69, 70, 71, 72, 73, 74, 75, 76, 77, 78, 79, 25, 26, 27, 28, 80, 81, 82, 83, 84, 85, 86, 87, 88, 89, 90, 91, 92, 93, 94, 95, 96, 97] (by decide +kernel) (by decide +kernel)
set_option maxRecDepth 20000 in
theorem gX10_sees_X10_seenAt : GoodIn wsX10_sees (wsV RX10 179 RX10 yX10_seenAt wsX10_seenAt) := goodIn_app (goodIn_of _ (by decide +kernel)) ggX10_sees_X10_seenAt
theorem dX10_sees_0 : decode cX10_sees 0 = .ok (.iload_n 1, 1) := by decide +kernel
theorem dX10_sees_1 : decode cX10_sees 1 = .ok (.iload_n 2, 1) := by decide +kernel
theorem dX10_sees_2 : decode cX10_sees 2 = .ok (.invokestatic 72, 3) := by decide +kernel
theorem dX10_sees_5 : decode cX10_sees 5 = .ok (.ifCond .eq 5, 3) := by decide +kernel
theorem dX10_sees_8 : decode cX10_sees 8 = .ok (.iconst (-1), 1) := by decide +kernel
theorem dX10_sees_9 : decode cX10_sees 9 = .ok (.ireturn, 1) := by decide +kernel
theorem dX10_sees_10 : decode cX10_sees 10 = .ok (.iload_n 1, 1) := by decide +kernel
theorem dX10_sees_11 : decode cX10_sees 11 = .ok (.ifCond .ne 10, 3) := by decide +kernel
theorem dX10_sees_14 : decode cX10_sees 14 = .ok (.iload_n 2, 1) := by decide +kernel
theorem dX10_sees_15 : decode cX10_sees 15 = .ok (.ifCond .ne 6, 3) := by decide +kernel
theorem dX10_sees_18 : decode cX10_sees 18 = .ok (.bipush (-2), 2) := by decide +kernel
theorem dX10_sees_20 : decode cX10_sees 20 = .ok (.ireturn, 1) := by decide +kernel
theorem dX10_sees_21 : decode cX10_sees 21 = .ok (.aload_n 0, 1) := by decide +kernel
theorem dX10_sees_22 : decode cX10_sees 22 = .ok (.getfield 7, 3) := by decide +kernel
theorem dX10_sees_25 : decode cX10_sees 25 = .ok (.iconst 0, 1) := by decide +kernel
theorem dX10_sees_26 : decode cX10_sees 26 = .ok (.aload_n 0, 1) := by decide +kernel
theorem dX10_sees_27 : decode cX10_sees 27 = .ok (.getfield 19, 3) := by decide +kernel
theorem dX10_sees_30 : decode cX10_sees 30 = .ok (.iconst 0, 1) := by decide +kernel
theorem dX10_sees_31 : decode cX10_sees 31 = .ok (.invokestatic 39, 3) := by decide +kernel
theorem dX10_sees_34 : decode cX10_sees 34 = .ok (.aload_n 0, 1) := by decide +kernel
theorem dX10_sees_35 : decode cX10_sees 35 = .ok (.iload_n 1, 1) := by decide +kernel
theorem dX10_sees_36 : decode cX10_sees 36 = .ok (.iload_n 2, 1) := by decide +kernel
theorem dX10_sees_37 : decode cX10_sees 37 = .ok (.aload_n 0, 1) := by decide +kernel
theorem dX10_sees_38 : decode cX10_sees 38 = .ok (.invokevirtual 166, 3) := by decide +kernel
theorem dX10_sees_41 : decode cX10_sees 41 = .ok (.invokevirtual 179, 3) := by decide +kernel
theorem dX10_sees_44 : decode cX10_sees 44 = .ok (.istore_n 3, 1) := by decide +kernel
theorem dX10_sees_45 : decode cX10_sees 45 = .ok (.aload_n 0, 1) := by decide +kernel
theorem dX10_sees_46 : decode cX10_sees 46 = .ok (.getfield 19, 3) := by decide +kernel
theorem dX10_sees_49 : decode cX10_sees 49 = .ok (.iconst 0, 1) := by decide +kernel
theorem dX10_sees_50 : decode cX10_sees 50 = .ok (.aload_n 0, 1) := by decide +kernel
theorem dX10_sees_51 : decode cX10_sees 51 = .ok (.getfield 7, 3) := by decide +kernel
theorem dX10_sees_54 : decode cX10_sees 54 = .ok (.iconst 0, 1) := by decide +kernel
theorem dX10_sees_55 : decode cX10_sees 55 = .ok (.invokestatic 39, 3) := by decide +kernel
theorem dX10_sees_58 : decode cX10_sees 58 = .ok (.iload_n 3, 1) := by decide +kernel
theorem dX10_sees_59 : decode cX10_sees 59 = .ok (.ireturn, 1) := by decide +kernel
theorem dX10_logs_0 : decode cX10_logs 0 = .ok (.aload_n 0, 1) := by decide +kernel
theorem dX10_logs_1 : decode cX10_logs 1 = .ok (.getfield 7, 3) := by decide +kernel
theorem dX10_logs_4 : decode cX10_logs 4 = .ok (.sipush 128, 3) := by decide +kernel
theorem dX10_logs_7 : decode cX10_logs 7 = .ok (.iaload, 1) := by decide +kernel
theorem dX10_logs_8 : decode cX10_logs 8 = .ok (.bipush 40, 2) := by decide +kernel
theorem dX10_logs_10 : decode cX10_logs 10 = .ok (.if_icmp .ne 50, 3) := by decide +kernel
theorem dX10_logs_13 : decode cX10_logs 13 = .ok (.sipush 129, 3) := by decide +kernel
theorem dX10_logs_16 : decode cX10_logs 16 = .ok (.istore 5, 2) := by decide +kernel
theorem dX10_logs_18 : decode cX10_logs 18 = .ok (.iload 5, 2) := by decide +kernel
theorem dX10_logs_20 : decode cX10_logs 20 = .ok (.sipush 285, 3) := by decide +kernel
theorem dX10_logs_23 : decode cX10_logs 23 = .ok (.if_icmp .ge 25, 3) := by decide +kernel
theorem dX10_logs_26 : decode cX10_logs 26 = .ok (.aload_n 0, 1) := by decide +kernel
theorem dX10_logs_27 : decode cX10_logs 27 = .ok (.getfield 7, 3) := by decide +kernel
theorem dX10_logs_30 : decode cX10_logs 30 = .ok (.iload 5, 2) := by decide +kernel
theorem dX10_logs_32 : decode cX10_logs 32 = .ok (.aload_n 0, 1) := by decide +kernel
theorem dX10_logs_33 : decode cX10_logs 33 = .ok (.getfield 7, 3) := by decide +kernel
theorem dX10_logs_36 : decode cX10_logs 36 = .ok (.iload 5, 2) := by decide +kernel
theorem dX10_logs_38 : decode cX10_logs 38 = .ok (.iconst 4, 1) := by decide +kernel
theorem dX10_logs_39 : decode cX10_logs 39 = .ok (.iadd, 1) := by decide +kernel
theorem dX10_logs_40 : decode cX10_logs 40 = .ok (.iaload, 1) := by decide +kernel
theorem dX10_logs_41 : decode cX10_logs 41 = .ok (.iastore, 1) := by decide +kernel
theorem dX10_logs_42 : decode cX10_logs 42 = .ok (.iinc 5 1, 3) := by decide +kernel
theorem dX10_logs_45 : decode cX10_logs 45 = .ok (.goto (-27), 3) := by decide +kernel
theorem dX10_logs_48 : decode cX10_logs 48 = .ok (.aload_n 0, 1) := by decide +kernel
theorem dX10_logs_49 : decode cX10_logs 49 = .ok (.getfield 7, 3) := by decide +kernel
theorem dX10_logs_52 : decode cX10_logs 52 = .ok (.sipush 128, 3) := by decide +kernel
theorem dX10_logs_55 : decode cX10_logs 55 = .ok (.dup2, 1) := by decide +kernel
theorem dX10_logs_56 : decode cX10_logs 56 = .ok (.iaload, 1) := by decide +kernel
theorem dX10_logs_57 : decode cX10_logs 57 = .ok (.iconst 1, 1) := by decide +kernel
theorem dX10_logs_58 : decode cX10_logs 58 = .ok (.isub, 1) := by decide +kernel
theorem dX10_logs_59 : decode cX10_logs 59 = .ok (.iastore, 1) := by decide +kernel
theorem dX10_logs_60 : decode cX10_logs 60 = .ok (.sipush 129, 3) := by decide +kernel
theorem dX10_logs_63 : decode cX10_logs 63 = .ok (.iconst 4, 1) := by decide +kernel
theorem dX10_logs_64 : decode cX10_logs 64 = .ok (.aload_n 0, 1) := by decide +kernel
theorem dX10_logs_65 : decode cX10_logs 65 = .ok (.getfield 7, 3) := by decide +kernel
theorem dX10_logs_68 : decode cX10_logs 68 = .ok (.sipush 128, 3) := by decide +kernel
theorem dX10_logs_71 : decode cX10_logs 71 = .ok (.iaload, 1) := by decide +kernel
theorem dX10_logs_72 : decode cX10_logs 72 = .ok (.imul, 1) := by decide +kernel
theorem dX10_logs_73 : decode cX10_logs 73 = .ok (.iadd, 1) := by decide +kernel
theorem dX10_logs_74 : decode cX10_logs 74 = .ok (.istore 5, 2) := by decide +kernel
theorem dX10_logs_76 : decode cX10_logs 76 = .ok (.aload_n 0, 1) := by decide +kernel
theorem dX10_logs_77 : decode cX10_logs 77 = .ok (.getfield 7, 3) := by decide +kernel
theorem dX10_logs_80 : decode cX10_logs 80 = .ok (.iload 5, 2) := by decide +kernel
theorem dX10_logs_82 : decode cX10_logs 82 = .ok (.iload_n 1, 1) := by decide +kernel
theorem dX10_logs_83 : decode cX10_logs 83 = .ok (.iastore, 1) := by decide +kernel
theorem dX10_logs_84 : decode cX10_logs 84 = .ok (.aload_n 0, 1) := by decide +kernel
theorem dX10_logs_85 : decode cX10_logs 85 = .ok (.getfield 7, 3) := by decide +kernel
theorem dX10_logs_88 : decode cX10_logs 88 = .ok (.iload 5, 2) := by decide +kernel
theorem dX10_logs_90 : decode cX10_logs 90 = .ok (.iconst 1, 1) := by decide +kernel
theorem dX10_logs_91 : decode cX10_logs 91 = .ok (.iadd, 1) := by decide +kernel
theorem dX10_logs_92 : decode cX10_logs 92 = .ok (.iload_n 2, 1) := by decide +kernel
theorem dX10_logs_93 : decode cX10_logs 93 = .ok (.iastore, 1) := by decide +kernel
theorem dX10_logs_94 : decode cX10_logs 94 = .ok (.aload_n 0, 1) := by decide +kernel
theorem dX10_logs_95 : decode cX10_logs 95 = .ok (.getfield 7, 3) := by decide +kernel
theorem dX10_logs_98 : decode cX10_logs 98 = .ok (.iload 5, 2) := by decide +kernel
theorem dX10_logs_100 : decode cX10_logs 100 = .ok (.iconst 2, 1) := by decide +kernel
theorem dX10_logs_101 : decode cX10_logs 101 = .ok (.iadd, 1) := by decide +kernel
theorem dX10_logs_102 : decode cX10_logs 102 = .ok (.iload_n 3, 1) := by decide +kernel
theorem dX10_logs_103 : decode cX10_logs 103 = .ok (.iastore, 1) := by decide +kernel
theorem dX10_logs_104 : decode cX10_logs 104 = .ok (.aload_n 0, 1) := by decide +kernel
theorem dX10_logs_105 : decode cX10_logs 105 = .ok (.getfield 7, 3) := by decide +kernel
theorem dX10_logs_108 : decode cX10_logs 108 = .ok (.iload 5, 2) := by decide +kernel
theorem dX10_logs_110 : decode cX10_logs 110 = .ok (.iconst 3, 1) := by decide +kernel
theorem dX10_logs_111 : decode cX10_logs 111 = .ok (.iadd, 1) := by decide +kernel
theorem dX10_logs_112 : decode cX10_logs 112 = .ok (.iload 4, 2) := by decide +kernel
theorem dX10_logs_114 : decode cX10_logs 114 = .ok (.iastore, 1) := by decide +kernel
theorem dX10_logs_115 : decode cX10_logs 115 = .ok (.aload_n 0, 1) := by decide +kernel
theorem dX10_logs_116 : decode cX10_logs 116 = .ok (.getfield 7, 3) := by decide +kernel
theorem dX10_logs_119 : decode cX10_logs 119 = .ok (.sipush 128, 3) := by decide +kernel
theorem dX10_logs_122 : decode cX10_logs 122 = .ok (.dup2, 1) := by decide +kernel
theorem dX10_logs_123 : decode cX10_logs 123 = .ok (.iaload, 1) := by decide +kernel
theorem dX10_logs_124 : decode cX10_logs 124 = .ok (.iconst 1, 1) := by decide +kernel
theorem dX10_logs_125 : decode cX10_logs 125 = .ok (.iadd, 1) := by decide +kernel
theorem dX10_logs_126 : decode cX10_logs 126 = .ok (.iastore, 1) := by decide +kernel
theorem dX10_logs_127 : decode cX10_logs 127 = .ok (.aload_n 0, 1) := by decide +kernel
theorem dX10_logs_128 : decode cX10_logs 128 = .ok (.getfield 7, 3) := by decide +kernel
theorem dX10_logs_131 : decode cX10_logs 131 = .ok (.bipush 123, 2) := by decide +kernel
theorem dX10_logs_133 : decode cX10_logs 133 = .ok (.dup2, 1) := by decide +kernel
theorem dX10_logs_134 : decode cX10_logs 134 = .ok (.iaload, 1) := by decide +kernel
theorem dX10_logs_135 : decode cX10_logs 135 = .ok (.iconst 1, 1) := by decide +kernel
theorem dX10_logs_136 : decode cX10_logs 136 = .ok (.iadd, 1) := by decide +kernel
theorem dX10_logs_137 : decode cX10_logs 137 = .ok (.iastore, 1) := by decide +kernel
theorem dX10_logs_138 : decode cX10_logs 138 = .ok (.return_, 1) := by decide +kernel
theorem dX10_along_0 : decode cX10_along 0 = .ok (.iload_n 1, 1) := by decide +kernel
theorem dX10_along_1 : decode cX10_along 1 = .ok (.iload_n 0, 1) := by decide +kernel
theorem dX10_along_2 : decode cX10_along 2 = .ok (.isub, 1) := by decide +kernel
theorem dX10_along_3 : decode cX10_along 3 = .ok (.iload_n 2, 1) := by decide +kernel
theorem dX10_along_4 : decode cX10_along 4 = .ok (.imul, 1) := by decide +kernel
theorem dX10_along_5 : decode cX10_along 5 = .ok (.istore 4, 2) := by decide +kernel
theorem dX10_along_7 : decode cX10_along 7 = .ok (.iload 4, 2) := by decide +kernel
theorem dX10_along_9 : decode cX10_along 9 = .ok (.iload_n 3, 1) := by decide +kernel
theorem dX10_along_10 : decode cX10_along 10 = .ok (.idiv, 1) := by decide +kernel
theorem dX10_along_11 : decode cX10_along 11 = .ok (.istore 5, 2) := by decide +kernel
theorem dX10_along_13 : decode cX10_along 13 = .ok (.iload_n 0, 1) := by decide +kernel
theorem dX10_along_14 : decode cX10_along 14 = .ok (.iload 4, 2) := by decide +kernel
theorem dX10_along_16 : decode cX10_along 16 = .ok (.iload_n 3, 1) := by decide +kernel
theorem dX10_along_17 : decode cX10_along 17 = .ok (.irem, 1) := by decide +kernel
theorem dX10_along_18 : decode cX10_along 18 = .ok (.ifCond .ge 10, 3) := by decide +kernel
theorem dX10_along_21 : decode cX10_along 21 = .ok (.iload 5, 2) := by decide +kernel
theorem dX10_along_23 : decode cX10_along 23 = .ok (.iconst 1, 1) := by decide +kernel
theorem dX10_along_24 : decode cX10_along 24 = .ok (.isub, 1) := by decide +kernel
theorem dX10_along_25 : decode cX10_along 25 = .ok (.goto 5, 3) := by decide +kernel
theorem dX10_along_28 : decode cX10_along 28 = .ok (.iload 5, 2) := by decide +kernel
theorem dX10_along_30 : decode cX10_along 30 = .ok (.iadd, 1) := by decide +kernel
theorem dX10_along_31 : decode cX10_along 31 = .ok (.ireturn, 1) := by decide +kernel
set_option maxRecDepth 20000 in
theorem ggX10_pass_X10_isFar : GoodIn wsX10_pass wsX10_isFar := goodIn_r _ [6, 7, 8, 5, 9] (by decide +kernel) (by decide +kernel)
set_option maxRecDepth 20000 in
theorem gX10_pass_X10_isFar : GoodIn wsX10_pass (va_wsS RX10 72 yX10_isFar wsX10_isFar) := goodIn_app (goodIn_of _ (by decide +kernel)) ggX10_pass_X10_isFar
set_option maxRecDepth 20000 in
theorem ggX10_pass_X10_within : GoodIn wsX10_pass wsX10_within := goodIn_r _ [9] (by decide +kernel) (by decide +kernel)
set_option maxRecDepth 20000 in
theorem gX10_pass_X10_within : GoodIn wsX10_pass (va_wsS RX10 43 yX10_within wsX10_within) := goodIn_app (goodIn_of _ (by decide +kernel)) ggX10_pass_X10_within
set_option maxRecDepth 20000 in
theorem ggX10_pass_X10_saves : GoodIn wsX10_pass wsX10_saves := goodIn_r _ [13, 14, 15, 1, 16, 17, 5, 18, 96, 97, 98, 99, 100, 101, 102, 103, 104, 105, 106, 107, 108, 109, 110] (by decide +kernel) (by decide +kernel)
set_option maxRecDepth 20000 in
theorem gX10_pass_X10_saves : GoodIn wsX10_pass (wsV RX10 51 RX10 yX10_saves wsX10_saves) := goodIn_app (goodIn_of _ (by decide +kernel)) ggX10_pass_X10_saves
set_option maxRecDepth 20000 in
theorem ggX10_pass_X10_along : GoodIn wsX10_pass wsX10_along := goodIn_r _ [21] (by decide +kernel) (by decide +kernel)
set_option maxRecDepth 20000 in
theorem gX10_pass_X10_along : GoodIn wsX10_pass (va_wsS RX10 182 yX10_along wsX10_along) := goodIn_app (goodIn_of _ (by decide +kernel)) ggX10_pass_X10_along
set_option maxRecDepth 20000 in
theorem ggX10_pass_X10_ticks : GoodIn wsX10_pass wsX10_ticks := goodIn_r _ [25, 1, 26, 27, 28, 5, 29, 30, 31, 32, 33, 34, 35, 36, 37, 38, 39, 40, 41, 42, 43, 44, 45, 46, 47, 48, 49, 50, 51, 52, 53, 54, 55, 56, 57, 58, 59, 60, 61, 62, 63, 64, 65, 96, 97, 98, 99, 100, 101, 102, 103, 104, 105, 106, 107, 108, 109, 110] (by decide +kernel) (by decide +kernel)
set_option maxRecDepth 20000 in
theorem gX10_pass_X10_ticks : GoodIn wsX10_pass (wsV RX10 166 RX10 yX10_ticks wsX10_ticks) := goodIn_app (goodIn_of _ (by decide +kernel)) ggX10_pass_X10_ticks
set_option maxRecDepth 20000 in
theorem ggX10_pass_X10_seenAt : GoodIn wsX10_pass wsX10_seenAt := goodIn_r _ [69, 1, 70, 71, 72, 5, 73, 74, 75, 76, 77, 78, 79, 80, 81, 82, 83, 84, 85, 86, 87, 88, 34, 35, 36, 37, 89, 90, 91, 96, 97, 98, 99, 100, 101, 102, 103, 104, 105, 106, 107, 108, 109, 110] (by decide +kernel) (by decide +kernel)
set_option maxRecDepth 20000 in
theorem gX10_pass_X10_seenAt : GoodIn wsX10_pass (wsV RX10 179 RX10 yX10_seenAt wsX10_seenAt) := goodIn_app (goodIn_of _ (by decide +kernel)) ggX10_pass_X10_seenAt
set_option maxRecDepth 20000 in
theorem ggX10_pass_X10_directionOf : GoodIn wsX10_pass wsX10_directionOf := goodIn_r _ [73, 74, 75, 76, 5, 77, 78, 96, 97, 98, 99, 100, 101, 102, 103, 104, 105, 106, 107, 108, 109, 110] (by decide +kernel) (by decide +kernel)
set_option maxRecDepth 20000 in
theorem gX10_pass_X10_directionOf : GoodIn wsX10_pass (wsV RX10 76 RX10 yX10_directionOf wsX10_directionOf) := goodIn_app (goodIn_of _ (by decide +kernel)) ggX10_pass_X10_directionOf
set_option maxRecDepth 20000 in
theorem ggX10_pass_X10_logs : GoodIn wsX10_pass wsX10_logs := goodIn_r _ [95, 1, 96, 97, 98, 99, 100, 101, 102, 103, 104, 105, 106, 107, 108, 109, 110] (by decide +kernel) (by decide +kernel)
set_option maxRecDepth 20000 in
theorem gX10_pass_X10_logs : GoodIn wsX10_pass (wsV RX10 186 RX10 yX10_logs wsX10_logs) := goodIn_app (goodIn_of _ (by decide +kernel)) ggX10_pass_X10_logs
theorem dX10_pass_0 : decode cX10_pass 0 = .ok (.iload_n 1, 1) := by decide +kernel
theorem dX10_pass_1 : decode cX10_pass 1 = .ok (.iload_n 2, 1) := by decide +kernel
theorem dX10_pass_2 : decode cX10_pass 2 = .ok (.invokestatic 72, 3) := by decide +kernel
theorem dX10_pass_5 : decode cX10_pass 5 = .ok (.ifCond .ne 24, 3) := by decide +kernel
theorem dX10_pass_8 : decode cX10_pass 8 = .ok (.iload_n 3, 1) := by decide +kernel
theorem dX10_pass_9 : decode cX10_pass 9 = .ok (.iload 4, 2) := by decide +kernel
theorem dX10_pass_11 : decode cX10_pass 11 = .ok (.invokestatic 72, 3) := by decide +kernel
theorem dX10_pass_14 : decode cX10_pass 14 = .ok (.ifCond .ne 15, 3) := by decide +kernel
theorem dX10_pass_17 : decode cX10_pass 17 = .ok (.iload 5, 2) := by decide +kernel
theorem dX10_pass_19 : decode cX10_pass 19 = .ok (.iconst 1, 1) := by decide +kernel
theorem dX10_pass_20 : decode cX10_pass 20 = .ok (.sipush 500, 3) := by decide +kernel
theorem dX10_pass_23 : decode cX10_pass 23 = .ok (.invokestatic 43, 3) := by decide +kernel
theorem dX10_pass_26 : decode cX10_pass 26 = .ok (.ifCond .ne 5, 3) := by decide +kernel
theorem dX10_pass_29 : decode cX10_pass 29 = .ok (.iconst (-1), 1) := by decide +kernel
theorem dX10_pass_30 : decode cX10_pass 30 = .ok (.ireturn, 1) := by decide +kernel
theorem dX10_pass_31 : decode cX10_pass 31 = .ok (.aload_n 0, 1) := by decide +kernel
theorem dX10_pass_32 : decode cX10_pass 32 = .ok (.getfield 7, 3) := by decide +kernel
theorem dX10_pass_35 : decode cX10_pass 35 = .ok (.bipush 116, 2) := by decide +kernel
theorem dX10_pass_37 : decode cX10_pass 37 = .ok (.iaload, 1) := by decide +kernel
theorem dX10_pass_38 : decode cX10_pass 38 = .ok (.iload 5, 2) := by decide +kernel
theorem dX10_pass_40 : decode cX10_pass 40 = .ok (.iadd, 1) := by decide +kernel
theorem dX10_pass_41 : decode cX10_pass 41 = .ok (.ldc 165, 2) := by decide +kernel
theorem dX10_pass_43 : decode cX10_pass 43 = .ok (.if_icmp .le 6, 3) := by decide +kernel
theorem dX10_pass_46 : decode cX10_pass 46 = .ok (.bipush (-3), 2) := by decide +kernel
theorem dX10_pass_48 : decode cX10_pass 48 = .ok (.ireturn, 1) := by decide +kernel
theorem dX10_pass_49 : decode cX10_pass 49 = .ok (.aload_n 0, 1) := by decide +kernel
theorem dX10_pass_50 : decode cX10_pass 50 = .ok (.invokevirtual 51, 3) := by decide +kernel
theorem dX10_pass_53 : decode cX10_pass 53 = .ok (.aload_n 0, 1) := by decide +kernel
theorem dX10_pass_54 : decode cX10_pass 54 = .ok (.getfield 7, 3) := by decide +kernel
theorem dX10_pass_57 : decode cX10_pass 57 = .ok (.bipush 123, 2) := by decide +kernel
theorem dX10_pass_59 : decode cX10_pass 59 = .ok (.iaload, 1) := by decide +kernel
theorem dX10_pass_60 : decode cX10_pass 60 = .ok (.istore 6, 2) := by decide +kernel
theorem dX10_pass_62 : decode cX10_pass 62 = .ok (.aload_n 0, 1) := by decide +kernel
theorem dX10_pass_63 : decode cX10_pass 63 = .ok (.getfield 7, 3) := by decide +kernel
theorem dX10_pass_66 : decode cX10_pass 66 = .ok (.bipush 122, 2) := by decide +kernel
theorem dX10_pass_68 : decode cX10_pass 68 = .ok (.iaload, 1) := by decide +kernel
theorem dX10_pass_69 : decode cX10_pass 69 = .ok (.istore 7, 2) := by decide +kernel
theorem dX10_pass_71 : decode cX10_pass 71 = .ok (.aload_n 0, 1) := by decide +kernel
theorem dX10_pass_72 : decode cX10_pass 72 = .ok (.getfield 7, 3) := by decide +kernel
theorem dX10_pass_75 : decode cX10_pass 75 = .ok (.bipush 122, 2) := by decide +kernel
theorem dX10_pass_77 : decode cX10_pass 77 = .ok (.dup2, 1) := by decide +kernel
theorem dX10_pass_78 : decode cX10_pass 78 = .ok (.iaload, 1) := by decide +kernel
theorem dX10_pass_79 : decode cX10_pass 79 = .ok (.iconst 1, 1) := by decide +kernel
theorem dX10_pass_80 : decode cX10_pass 80 = .ok (.iadd, 1) := by decide +kernel
theorem dX10_pass_81 : decode cX10_pass 81 = .ok (.iastore, 1) := by decide +kernel
theorem dX10_pass_82 : decode cX10_pass 82 = .ok (.bipush (-4), 2) := by decide +kernel
theorem dX10_pass_84 : decode cX10_pass 84 = .ok (.istore 8, 2) := by decide +kernel
theorem dX10_pass_86 : decode cX10_pass 86 = .ok (.iconst 0, 1) := by decide +kernel
theorem dX10_pass_87 : decode cX10_pass 87 = .ok (.istore 9, 2) := by decide +kernel
theorem dX10_pass_89 : decode cX10_pass 89 = .ok (.iload 9, 2) := by decide +kernel
theorem dX10_pass_91 : decode cX10_pass 91 = .ok (.iconst 4, 1) := by decide +kernel
theorem dX10_pass_92 : decode cX10_pass 92 = .ok (.if_icmp .ge 20, 3) := by decide +kernel
theorem dX10_pass_95 : decode cX10_pass 95 = .ok (.aload_n 0, 1) := by decide +kernel
theorem dX10_pass_96 : decode cX10_pass 96 = .ok (.getfield 7, 3) := by decide +kernel
theorem dX10_pass_99 : decode cX10_pass 99 = .ok (.bipush 124, 2) := by decide +kernel
theorem dX10_pass_101 : decode cX10_pass 101 = .ok (.iload 9, 2) := by decide +kernel
theorem dX10_pass_103 : decode cX10_pass 103 = .ok (.iadd, 1) := by decide +kernel
theorem dX10_pass_104 : decode cX10_pass 104 = .ok (.iconst 0, 1) := by decide +kernel
theorem dX10_pass_105 : decode cX10_pass 105 = .ok (.iastore, 1) := by decide +kernel
theorem dX10_pass_106 : decode cX10_pass 106 = .ok (.iinc 9 1, 3) := by decide +kernel
theorem dX10_pass_109 : decode cX10_pass 109 = .ok (.goto (-20), 3) := by decide +kernel
theorem dX10_pass_112 : decode cX10_pass 112 = .ok (.iconst 0, 1) := by decide +kernel
theorem dX10_pass_113 : decode cX10_pass 113 = .ok (.istore 9, 2) := by decide +kernel
theorem dX10_pass_115 : decode cX10_pass 115 = .ok (.iload 9, 2) := by decide +kernel
theorem dX10_pass_117 : decode cX10_pass 117 = .ok (.iload 5, 2) := by decide +kernel
theorem dX10_pass_119 : decode cX10_pass 119 = .ok (.if_icmp .ge 113, 3) := by decide +kernel
theorem dX10_pass_122 : decode cX10_pass 122 = .ok (.iload_n 1, 1) := by decide +kernel
theorem dX10_pass_123 : decode cX10_pass 123 = .ok (.iload_n 3, 1) := by decide +kernel
theorem dX10_pass_124 : decode cX10_pass 124 = .ok (.iload 9, 2) := by decide +kernel
theorem dX10_pass_126 : decode cX10_pass 126 = .ok (.iload 5, 2) := by decide +kernel
theorem dX10_pass_128 : decode cX10_pass 128 = .ok (.invokestatic 182, 3) := by decide +kernel
theorem dX10_pass_131 : decode cX10_pass 131 = .ok (.istore 10, 2) := by decide +kernel
theorem dX10_pass_133 : decode cX10_pass 133 = .ok (.iload_n 2, 1) := by decide +kernel
theorem dX10_pass_134 : decode cX10_pass 134 = .ok (.iload 4, 2) := by decide +kernel
theorem dX10_pass_136 : decode cX10_pass 136 = .ok (.iload 9, 2) := by decide +kernel
theorem dX10_pass_138 : decode cX10_pass 138 = .ok (.iload 5, 2) := by decide +kernel
theorem dX10_pass_140 : decode cX10_pass 140 = .ok (.invokestatic 182, 3) := by decide +kernel
theorem dX10_pass_143 : decode cX10_pass 143 = .ok (.istore 11, 2) := by decide +kernel
theorem dX10_pass_145 : decode cX10_pass 145 = .ok (.aload_n 0, 1) := by decide +kernel
theorem dX10_pass_146 : decode cX10_pass 146 = .ok (.getfield 7, 3) := by decide +kernel
theorem dX10_pass_149 : decode cX10_pass 149 = .ok (.bipush 116, 2) := by decide +kernel
theorem dX10_pass_151 : decode cX10_pass 151 = .ok (.iaload, 1) := by decide +kernel
theorem dX10_pass_152 : decode cX10_pass 152 = .ok (.istore 12, 2) := by decide +kernel
theorem dX10_pass_154 : decode cX10_pass 154 = .ok (.aload_n 0, 1) := by decide +kernel
theorem dX10_pass_155 : decode cX10_pass 155 = .ok (.iload 10, 2) := by decide +kernel
theorem dX10_pass_157 : decode cX10_pass 157 = .ok (.iload 11, 2) := by decide +kernel
theorem dX10_pass_159 : decode cX10_pass 159 = .ok (.aload_n 0, 1) := by decide +kernel
theorem dX10_pass_160 : decode cX10_pass 160 = .ok (.invokevirtual 166, 3) := by decide +kernel
theorem dX10_pass_163 : decode cX10_pass 163 = .ok (.invokevirtual 179, 3) := by decide +kernel
theorem dX10_pass_166 : decode cX10_pass 166 = .ok (.istore 13, 2) := by decide +kernel
theorem dX10_pass_168 : decode cX10_pass 168 = .ok (.aload_n 0, 1) := by decide +kernel
theorem dX10_pass_169 : decode cX10_pass 169 = .ok (.getfield 7, 3) := by decide +kernel
theorem dX10_pass_172 : decode cX10_pass 172 = .ok (.bipush 124, 2) := by decide +kernel
theorem dX10_pass_174 : decode cX10_pass 174 = .ok (.iload 13, 2) := by decide +kernel
theorem dX10_pass_176 : decode cX10_pass 176 = .ok (.iadd, 1) := by decide +kernel
theorem dX10_pass_177 : decode cX10_pass 177 = .ok (.dup2, 1) := by decide +kernel
theorem dX10_pass_178 : decode cX10_pass 178 = .ok (.iaload, 1) := by decide +kernel
theorem dX10_pass_179 : decode cX10_pass 179 = .ok (.iconst 1, 1) := by decide +kernel
theorem dX10_pass_180 : decode cX10_pass 180 = .ok (.iadd, 1) := by decide +kernel
theorem dX10_pass_181 : decode cX10_pass 181 = .ok (.iastore, 1) := by decide +kernel
theorem dX10_pass_182 : decode cX10_pass 182 = .ok (.iload 13, 2) := by decide +kernel
theorem dX10_pass_184 : decode cX10_pass 184 = .ok (.iload 8, 2) := by decide +kernel
theorem dX10_pass_186 : decode cX10_pass 186 = .ok (.if_icmp .eq 36, 3) := by decide +kernel
theorem dX10_pass_189 : decode cX10_pass 189 = .ok (.aload_n 0, 1) := by decide +kernel
theorem dX10_pass_190 : decode cX10_pass 190 = .ok (.iload 12, 2) := by decide +kernel
theorem dX10_pass_192 : decode cX10_pass 192 = .ok (.iload 13, 2) := by decide +kernel
theorem dX10_pass_194 : decode cX10_pass 194 = .ok (.iload 10, 2) := by decide +kernel
theorem dX10_pass_196 : decode cX10_pass 196 = .ok (.ifCond .ne 13, 3) := by decide +kernel
theorem dX10_pass_199 : decode cX10_pass 199 = .ok (.iload 11, 2) := by decide +kernel
theorem dX10_pass_201 : decode cX10_pass 201 = .ok (.ifCond .ne 8, 3) := by decide +kernel
theorem dX10_pass_204 : decode cX10_pass 204 = .ok (.bipush (-4), 2) := by decide +kernel
theorem dX10_pass_206 : decode cX10_pass 206 = .ok (.goto 11, 3) := by decide +kernel
theorem dX10_pass_209 : decode cX10_pass 209 = .ok (.aload_n 0, 1) := by decide +kernel
theorem dX10_pass_210 : decode cX10_pass 210 = .ok (.iload 10, 2) := by decide +kernel
theorem dX10_pass_212 : decode cX10_pass 212 = .ok (.iload 11, 2) := by decide +kernel
theorem dX10_pass_214 : decode cX10_pass 214 = .ok (.invokevirtual 76, 3) := by decide +kernel
theorem dX10_pass_217 : decode cX10_pass 217 = .ok (.iload 7, 2) := by decide +kernel
theorem dX10_pass_219 : decode cX10_pass 219 = .ok (.invokevirtual 186, 3) := by decide +kernel
theorem dX10_pass_222 : decode cX10_pass 222 = .ok (.iload 13, 2) := by decide +kernel
theorem dX10_pass_224 : decode cX10_pass 224 = .ok (.istore 8, 2) := by decide +kernel
theorem dX10_pass_226 : decode cX10_pass 226 = .ok (.iinc 9 1, 3) := by decide +kernel
theorem dX10_pass_229 : decode cX10_pass 229 = .ok (.goto (-114), 3) := by decide +kernel
theorem dX10_pass_232 : decode cX10_pass 232 = .ok (.aload_n 0, 1) := by decide +kernel
theorem dX10_pass_233 : decode cX10_pass 233 = .ok (.getfield 7, 3) := by decide +kernel
theorem dX10_pass_236 : decode cX10_pass 236 = .ok (.bipush 123, 2) := by decide +kernel
theorem dX10_pass_238 : decode cX10_pass 238 = .ok (.iaload, 1) := by decide +kernel
theorem dX10_pass_239 : decode cX10_pass 239 = .ok (.iload 6, 2) := by decide +kernel
theorem dX10_pass_241 : decode cX10_pass 241 = .ok (.isub, 1) := by decide +kernel
theorem dX10_pass_242 : decode cX10_pass 242 = .ok (.ireturn, 1) := by decide +kernel
set_option maxRecDepth 20000 in
theorem ggX10_entry_X10_within : GoodIn wsX10_entry wsX10_within := goodIn_r _ [5] (by decide +kernel) (by decide +kernel)
set_option maxRecDepth 20000 in
theorem gX10_entry_X10_within : GoodIn wsX10_entry (va_wsS RX10 43 yX10_within wsX10_within) := goodIn_app (goodIn_of _ (by decide +kernel)) ggX10_entry_X10_within
theorem dX10_entry_0 : decode cX10_entry 0 = .ok (.iload_n 1, 1) := by decide +kernel
theorem dX10_entry_1 : decode cX10_entry 1 = .ok (.ifCond .lt 12, 3) := by decide +kernel
theorem dX10_entry_4 : decode cX10_entry 4 = .ok (.iload_n 2, 1) := by decide +kernel
theorem dX10_entry_5 : decode cX10_entry 5 = .ok (.iconst 0, 1) := by decide +kernel
theorem dX10_entry_6 : decode cX10_entry 6 = .ok (.iconst 3, 1) := by decide +kernel
theorem dX10_entry_7 : decode cX10_entry 7 = .ok (.invokestatic 43, 3) := by decide +kernel
theorem dX10_entry_10 : decode cX10_entry 10 = .ok (.ifCond .ne 5, 3) := by decide +kernel
theorem dX10_entry_13 : decode cX10_entry 13 = .ok (.iconst (-1), 1) := by decide +kernel
theorem dX10_entry_14 : decode cX10_entry 14 = .ok (.ireturn, 1) := by decide +kernel
theorem dX10_entry_15 : decode cX10_entry 15 = .ok (.iload_n 1, 1) := by decide +kernel
theorem dX10_entry_16 : decode cX10_entry 16 = .ok (.aload_n 0, 1) := by decide +kernel
theorem dX10_entry_17 : decode cX10_entry 17 = .ok (.getfield 7, 3) := by decide +kernel
theorem dX10_entry_20 : decode cX10_entry 20 = .ok (.sipush 128, 3) := by decide +kernel
theorem dX10_entry_23 : decode cX10_entry 23 = .ok (.iaload, 1) := by decide +kernel
theorem dX10_entry_24 : decode cX10_entry 24 = .ok (.if_icmp .lt 8, 3) := by decide +kernel
theorem dX10_entry_27 : decode cX10_entry 27 = .ok (.bipush (-4), 2) := by decide +kernel
theorem dX10_entry_29 : decode cX10_entry 29 = .ok (.goto 28, 3) := by decide +kernel
theorem dX10_entry_32 : decode cX10_entry 32 = .ok (.aload_n 0, 1) := by decide +kernel
theorem dX10_entry_33 : decode cX10_entry 33 = .ok (.getfield 7, 3) := by decide +kernel
theorem dX10_entry_36 : decode cX10_entry 36 = .ok (.sipush 129, 3) := by decide +kernel
theorem dX10_entry_39 : decode cX10_entry 39 = .ok (.iconst 4, 1) := by decide +kernel
theorem dX10_entry_40 : decode cX10_entry 40 = .ok (.aload_n 0, 1) := by decide +kernel
theorem dX10_entry_41 : decode cX10_entry 41 = .ok (.getfield 7, 3) := by decide +kernel
theorem dX10_entry_44 : decode cX10_entry 44 = .ok (.sipush 128, 3) := by decide +kernel
theorem dX10_entry_47 : decode cX10_entry 47 = .ok (.iaload, 1) := by decide +kernel
theorem dX10_entry_48 : decode cX10_entry 48 = .ok (.iconst 1, 1) := by decide +kernel
theorem dX10_entry_49 : decode cX10_entry 49 = .ok (.isub, 1) := by decide +kernel
theorem dX10_entry_50 : decode cX10_entry 50 = .ok (.iload_n 1, 1) := by decide +kernel
theorem dX10_entry_51 : decode cX10_entry 51 = .ok (.isub, 1) := by decide +kernel
theorem dX10_entry_52 : decode cX10_entry 52 = .ok (.imul, 1) := by decide +kernel
theorem dX10_entry_53 : decode cX10_entry 53 = .ok (.iadd, 1) := by decide +kernel
theorem dX10_entry_54 : decode cX10_entry 54 = .ok (.iload_n 2, 1) := by decide +kernel
theorem dX10_entry_55 : decode cX10_entry 55 = .ok (.iadd, 1) := by decide +kernel
theorem dX10_entry_56 : decode cX10_entry 56 = .ok (.iaload, 1) := by decide +kernel
theorem dX10_entry_57 : decode cX10_entry 57 = .ok (.ireturn, 1) := by decide +kernel
set_option maxRecDepth 20000 in
theorem ggX10_seen_X10_within : GoodIn wsX10_seen wsX10_within := goodIn_r _ [5] (by decide +kernel) (by decide +kernel)
set_option maxRecDepth 20000 in
theorem gX10_seen_X10_within : GoodIn wsX10_seen (va_wsS RX10 43 yX10_within wsX10_within) := goodIn_app (goodIn_of _ (by decide +kernel)) ggX10_seen_X10_within
theorem dX10_seen_0 : decode cX10_seen 0 = .ok (.iload_n 1, 1) := by decide +kernel
theorem dX10_seen_1 : decode cX10_seen 1 = .ok (.iconst 0, 1) := by decide +kernel
theorem dX10_seen_2 : decode cX10_seen 2 = .ok (.iconst 3, 1) := by decide +kernel
theorem dX10_seen_3 : decode cX10_seen 3 = .ok (.invokestatic 43, 3) := by decide +kernel
theorem dX10_seen_6 : decode cX10_seen 6 = .ok (.ifCond .ne 5, 3) := by decide +kernel
theorem dX10_seen_9 : decode cX10_seen 9 = .ok (.iconst (-1), 1) := by decide +kernel
theorem dX10_seen_10 : decode cX10_seen 10 = .ok (.ireturn, 1) := by decide +kernel
theorem dX10_seen_11 : decode cX10_seen 11 = .ok (.aload_n 0, 1) := by decide +kernel
theorem dX10_seen_12 : decode cX10_seen 12 = .ok (.getfield 7, 3) := by decide +kernel
theorem dX10_seen_15 : decode cX10_seen 15 = .ok (.bipush 122, 2) := by decide +kernel
theorem dX10_seen_17 : decode cX10_seen 17 = .ok (.iaload, 1) := by decide +kernel
theorem dX10_seen_18 : decode cX10_seen 18 = .ok (.ifCond .ne 8, 3) := by decide +kernel
theorem dX10_seen_21 : decode cX10_seen 21 = .ok (.bipush (-2), 2) := by decide +kernel
theorem dX10_seen_23 : decode cX10_seen 23 = .ok (.goto 12, 3) := by decide +kernel
theorem dX10_seen_26 : decode cX10_seen 26 = .ok (.aload_n 0, 1) := by decide +kernel
theorem dX10_seen_27 : decode cX10_seen 27 = .ok (.getfield 7, 3) := by decide +kernel
theorem dX10_seen_30 : decode cX10_seen 30 = .ok (.bipush 124, 2) := by decide +kernel
theorem dX10_seen_32 : decode cX10_seen 32 = .ok (.iload_n 1, 1) := by decide +kernel
theorem dX10_seen_33 : decode cX10_seen 33 = .ok (.iadd, 1) := by decide +kernel
theorem dX10_seen_34 : decode cX10_seen 34 = .ok (.iaload, 1) := by decide +kernel
theorem dX10_seen_35 : decode cX10_seen 35 = .ok (.ireturn, 1) := by decide +kernel
set_option maxRecDepth 20000 in
theorem ggX10_store_X10_bring : GoodIn wsX10_store wsX10_bring := goodIn_r _ [7] (by decide +kernel) (by decide +kernel)
set_option maxRecDepth 20000 in
theorem gX10_store_X10_bring : GoodIn wsX10_store (va_wsS RX10 39 yX10_bring wsX10_bring) := goodIn_app (goodIn_of _ (by decide +kernel)) ggX10_store_X10_bring
theorem dX10_store_0 : decode cX10_store 0 = .ok (.aload_n 0, 1) := by decide +kernel
theorem dX10_store_1 : decode cX10_store 1 = .ok (.getfield 7, 3) := by decide +kernel
theorem dX10_store_4 : decode cX10_store 4 = .ok (.iconst 0, 1) := by decide +kernel
theorem dX10_store_5 : decode cX10_store 5 = .ok (.aload_n 0, 1) := by decide +kernel
theorem dX10_store_6 : decode cX10_store 6 = .ok (.getfield 16, 3) := by decide +kernel
theorem dX10_store_9 : decode cX10_store 9 = .ok (.iconst 0, 1) := by decide +kernel
theorem dX10_store_10 : decode cX10_store 10 = .ok (.invokestatic 39, 3) := by decide +kernel
theorem dX10_store_13 : decode cX10_store 13 = .ok (.aload_n 0, 1) := by decide +kernel
theorem dX10_store_14 : decode cX10_store 14 = .ok (.iconst 1, 1) := by decide +kernel
theorem dX10_store_15 : decode cX10_store 15 = .ok (.putfield 175, 3) := by decide +kernel
theorem dX10_store_18 : decode cX10_store 18 = .ok (.aload_n 0, 1) := by decide +kernel
theorem dX10_store_19 : decode cX10_store 19 = .ok (.getfield 7, 3) := by decide +kernel
theorem dX10_store_22 : decode cX10_store 22 = .ok (.bipush 116, 2) := by decide +kernel
theorem dX10_store_24 : decode cX10_store 24 = .ok (.iaload, 1) := by decide +kernel
theorem dX10_store_25 : decode cX10_store 25 = .ok (.ireturn, 1) := by decide +kernel
set_option maxRecDepth 20000 in
theorem ggX10_recall_X10_saves : GoodIn wsX10_recall wsX10_saves := goodIn_r _ [8, 9, 10, 3, 11, 12, 7, 13, 14, 15, 16, 17, 18, 19, 20, 21, 22, 23, 24, 25, 26, 27, 28] (by decide +kernel) (by decide +kernel)
set_option maxRecDepth 20000 in
theorem gX10_recall_X10_saves : GoodIn wsX10_recall (wsV RX10 51 RX10 yX10_saves wsX10_saves) := goodIn_app (goodIn_of _ (by decide +kernel)) ggX10_recall_X10_saves
set_option maxRecDepth 20000 in
theorem ggX10_recall_X10_bring : GoodIn wsX10_recall wsX10_bring := goodIn_r _ [13] (by decide +kernel) (by decide +kernel)
set_option maxRecDepth 20000 in
theorem gX10_recall_X10_bring : GoodIn wsX10_recall (va_wsS RX10 39 yX10_bring wsX10_bring) := goodIn_app (goodIn_of _ (by decide +kernel)) ggX10_recall_X10_bring
theorem dX10_recall_0 : decode cX10_recall 0 = .ok (.aload_n 0, 1) := by decide +kernel
theorem dX10_recall_1 : decode cX10_recall 1 = .ok (.getfield 175, 3) := by decide +kernel
theorem dX10_recall_4 : decode cX10_recall 4 = .ok (.ifCond .ne 6, 3) := by decide +kernel
theorem dX10_recall_7 : decode cX10_recall 7 = .ok (.bipush (-2), 2) := by decide +kernel
theorem dX10_recall_9 : decode cX10_recall 9 = .ok (.ireturn, 1) := by decide +kernel
theorem dX10_recall_10 : decode cX10_recall 10 = .ok (.aload_n 0, 1) := by decide +kernel
theorem dX10_recall_11 : decode cX10_recall 11 = .ok (.invokevirtual 51, 3) := by decide +kernel
theorem dX10_recall_14 : decode cX10_recall 14 = .ok (.aload_n 0, 1) := by decide +kernel
theorem dX10_recall_15 : decode cX10_recall 15 = .ok (.getfield 16, 3) := by decide +kernel
theorem dX10_recall_18 : decode cX10_recall 18 = .ok (.iconst 0, 1) := by decide +kernel
theorem dX10_recall_19 : decode cX10_recall 19 = .ok (.aload_n 0, 1) := by decide +kernel
theorem dX10_recall_20 : decode cX10_recall 20 = .ok (.getfield 7, 3) := by decide +kernel
theorem dX10_recall_23 : decode cX10_recall 23 = .ok (.iconst 0, 1) := by decide +kernel
theorem dX10_recall_24 : decode cX10_recall 24 = .ok (.invokestatic 39, 3) := by decide +kernel
theorem dX10_recall_27 : decode cX10_recall 27 = .ok (.aload_n 0, 1) := by decide +kernel
theorem dX10_recall_28 : decode cX10_recall 28 = .ok (.getfield 7, 3) := by decide +kernel
theorem dX10_recall_31 : decode cX10_recall 31 = .ok (.bipush 116, 2) := by decide +kernel
theorem dX10_recall_33 : decode cX10_recall 33 = .ok (.iaload, 1) := by decide +kernel
theorem dX10_recall_34 : decode cX10_recall 34 = .ok (.ireturn, 1) := by decide +kernel
theorem dX10_different_0 : decode cX10_different 0 = .ok (.iconst 0, 1) := by decide +kernel
theorem dX10_different_1 : decode cX10_different 1 = .ok (.istore_n 3, 1) := by decide +kernel
theorem dX10_different_2 : decode cX10_different 2 = .ok (.iload_n 1, 1) := by decide +kernel
theorem dX10_different_3 : decode cX10_different 3 = .ok (.istore 4, 2) := by decide +kernel
theorem dX10_different_5 : decode cX10_different 5 = .ok (.iload 4, 2) := by decide +kernel
theorem dX10_different_7 : decode cX10_different 7 = .ok (.iload_n 1, 1) := by decide +kernel
theorem dX10_different_8 : decode cX10_different 8 = .ok (.iload_n 2, 1) := by decide +kernel
theorem dX10_different_9 : decode cX10_different 9 = .ok (.iadd, 1) := by decide +kernel
theorem dX10_different_10 : decode cX10_different 10 = .ok (.if_icmp .ge 34, 3) := by decide +kernel
theorem dX10_different_13 : decode cX10_different 13 = .ok (.iload_n 3, 1) := by decide +kernel
theorem dX10_different_14 : decode cX10_different 14 = .ok (.aload_n 0, 1) := by decide +kernel
theorem dX10_different_15 : decode cX10_different 15 = .ok (.getfield 7, 3) := by decide +kernel
theorem dX10_different_18 : decode cX10_different 18 = .ok (.iload 4, 2) := by decide +kernel
theorem dX10_different_20 : decode cX10_different 20 = .ok (.iaload, 1) := by decide +kernel
theorem dX10_different_21 : decode cX10_different 21 = .ok (.aload_n 0, 1) := by decide +kernel
theorem dX10_different_22 : decode cX10_different 22 = .ok (.getfield 16, 3) := by decide +kernel
theorem dX10_different_25 : decode cX10_different 25 = .ok (.iload 4, 2) := by decide +kernel
theorem dX10_different_27 : decode cX10_different 27 = .ok (.iaload, 1) := by decide +kernel
theorem dX10_different_28 : decode cX10_different 28 = .ok (.if_icmp .ne 7, 3) := by decide +kernel
theorem dX10_different_31 : decode cX10_different 31 = .ok (.iconst 0, 1) := by decide +kernel
theorem dX10_different_32 : decode cX10_different 32 = .ok (.goto 4, 3) := by decide +kernel
theorem dX10_different_35 : decode cX10_different 35 = .ok (.iconst 1, 1) := by decide +kernel
theorem dX10_different_36 : decode cX10_different 36 = .ok (.iadd, 1) := by decide +kernel
theorem dX10_different_37 : decode cX10_different 37 = .ok (.istore_n 3, 1) := by decide +kernel
theorem dX10_different_38 : decode cX10_different 38 = .ok (.iinc 4 1, 3) := by decide +kernel
theorem dX10_different_41 : decode cX10_different 41 = .ok (.goto (-36), 3) := by decide +kernel
theorem dX10_different_44 : decode cX10_different 44 = .ok (.iload_n 3, 1) := by decide +kernel
theorem dX10_different_45 : decode cX10_different 45 = .ok (.ireturn, 1) := by decide +kernel
set_option maxRecDepth 20000 in
theorem ggX10_compare_X10_within : GoodIn wsX10_compare wsX10_within := goodIn_r _ [8] (by decide +kernel) (by decide +kernel)
set_option maxRecDepth 20000 in
theorem gX10_compare_X10_within : GoodIn wsX10_compare (va_wsS RX10 43 yX10_within wsX10_within) := goodIn_app (goodIn_of _ (by decide +kernel)) ggX10_compare_X10_within
set_option maxRecDepth 20000 in
theorem ggX10_compare_X10_different : GoodIn wsX10_compare wsX10_different := goodIn_r _ [12, 2, 3, 13, 14, 15, 16, 17, 18, 19, 20, 21, 22, 23, 24, 25, 26, 27] (by decide +kernel) (by decide +kernel)
set_option maxRecDepth 20000 in
theorem gX10_compare_X10_different : GoodIn wsX10_compare (wsV RX10 190 RX10 yX10_different wsX10_different) := goodIn_app (goodIn_of _ (by decide +kernel)) ggX10_compare_X10_different
theorem dX10_compare_0 : decode cX10_compare 0 = .ok (.iload_n 1, 1) := by decide +kernel
theorem dX10_compare_1 : decode cX10_compare 1 = .ok (.iconst 0, 1) := by decide +kernel
theorem dX10_compare_2 : decode cX10_compare 2 = .ok (.iconst 3, 1) := by decide +kernel
theorem dX10_compare_3 : decode cX10_compare 3 = .ok (.invokestatic 43, 3) := by decide +kernel
theorem dX10_compare_6 : decode cX10_compare 6 = .ok (.ifCond .ne 5, 3) := by decide +kernel
theorem dX10_compare_9 : decode cX10_compare 9 = .ok (.iconst (-1), 1) := by decide +kernel
theorem dX10_compare_10 : decode cX10_compare 10 = .ok (.ireturn, 1) := by decide +kernel
theorem dX10_compare_11 : decode cX10_compare 11 = .ok (.aload_n 0, 1) := by decide +kernel
theorem dX10_compare_12 : decode cX10_compare 12 = .ok (.getfield 175, 3) := by decide +kernel
theorem dX10_compare_15 : decode cX10_compare 15 = .ok (.ifCond .ne 6, 3) := by decide +kernel
theorem dX10_compare_18 : decode cX10_compare 18 = .ok (.bipush (-2), 2) := by decide +kernel
theorem dX10_compare_20 : decode cX10_compare 20 = .ok (.ireturn, 1) := by decide +kernel
theorem dX10_compare_21 : decode cX10_compare 21 = .ok (.iload_n 1, 1) := by decide +kernel
theorem dX10_compare_22 : decode cX10_compare 22 = .ok (.ifCond .ne 11, 3) := by decide +kernel
theorem dX10_compare_25 : decode cX10_compare 25 = .ok (.aload_n 0, 1) := by decide +kernel
theorem dX10_compare_26 : decode cX10_compare 26 = .ok (.iconst 0, 1) := by decide +kernel
theorem dX10_compare_27 : decode cX10_compare 27 = .ok (.bipush 64, 2) := by decide +kernel
theorem dX10_compare_29 : decode cX10_compare 29 = .ok (.invokevirtual 190, 3) := by decide +kernel
theorem dX10_compare_32 : decode cX10_compare 32 = .ok (.ireturn, 1) := by decide +kernel
theorem dX10_compare_33 : decode cX10_compare 33 = .ok (.iload_n 1, 1) := by decide +kernel
theorem dX10_compare_34 : decode cX10_compare 34 = .ok (.iconst 1, 1) := by decide +kernel
theorem dX10_compare_35 : decode cX10_compare 35 = .ok (.if_icmp .ne 20, 3) := by decide +kernel
theorem dX10_compare_38 : decode cX10_compare 38 = .ok (.aload_n 0, 1) := by decide +kernel
theorem dX10_compare_39 : decode cX10_compare 39 = .ok (.bipush 64, 2) := by decide +kernel
theorem dX10_compare_41 : decode cX10_compare 41 = .ok (.bipush 17, 2) := by decide +kernel
theorem dX10_compare_43 : decode cX10_compare 43 = .ok (.invokevirtual 190, 3) := by decide +kernel
theorem dX10_compare_46 : decode cX10_compare 46 = .ok (.ifCond .le 7, 3) := by decide +kernel
theorem dX10_compare_49 : decode cX10_compare 49 = .ok (.iconst 1, 1) := by decide +kernel
theorem dX10_compare_50 : decode cX10_compare 50 = .ok (.goto 4, 3) := by decide +kernel
theorem dX10_compare_53 : decode cX10_compare 53 = .ok (.iconst 0, 1) := by decide +kernel
theorem dX10_compare_54 : decode cX10_compare 54 = .ok (.ireturn, 1) := by decide +kernel
theorem dX10_compare_55 : decode cX10_compare 55 = .ok (.iconst 0, 1) := by decide +kernel
theorem dX10_compare_56 : decode cX10_compare 56 = .ok (.istore_n 2, 1) := by decide +kernel
theorem dX10_compare_57 : decode cX10_compare 57 = .ok (.iconst 0, 1) := by decide +kernel
theorem dX10_compare_58 : decode cX10_compare 58 = .ok (.istore_n 3, 1) := by decide +kernel
theorem dX10_compare_59 : decode cX10_compare 59 = .ok (.iload_n 3, 1) := by decide +kernel
theorem dX10_compare_60 : decode cX10_compare 60 = .ok (.bipush 6, 2) := by decide +kernel
theorem dX10_compare_62 : decode cX10_compare 62 = .ok (.if_icmp .ge 31, 3) := by decide +kernel
theorem dX10_compare_65 : decode cX10_compare 65 = .ok (.iload_n 2, 1) := by decide +kernel
theorem dX10_compare_66 : decode cX10_compare 66 = .ok (.aload_n 0, 1) := by decide +kernel
theorem dX10_compare_67 : decode cX10_compare 67 = .ok (.bipush 82, 2) := by decide +kernel
theorem dX10_compare_69 : decode cX10_compare 69 = .ok (.iconst 5, 1) := by decide +kernel
theorem dX10_compare_70 : decode cX10_compare 70 = .ok (.iload_n 3, 1) := by decide +kernel
theorem dX10_compare_71 : decode cX10_compare 71 = .ok (.imul, 1) := by decide +kernel
theorem dX10_compare_72 : decode cX10_compare 72 = .ok (.iadd, 1) := by decide +kernel
theorem dX10_compare_73 : decode cX10_compare 73 = .ok (.iconst 5, 1) := by decide +kernel
theorem dX10_compare_74 : decode cX10_compare 74 = .ok (.invokevirtual 190, 3) := by decide +kernel
theorem dX10_compare_77 : decode cX10_compare 77 = .ok (.ifCond .le 7, 3) := by decide +kernel
theorem dX10_compare_80 : decode cX10_compare 80 = .ok (.iconst 1, 1) := by decide +kernel
theorem dX10_compare_81 : decode cX10_compare 81 = .ok (.goto 4, 3) := by decide +kernel
theorem dX10_compare_84 : decode cX10_compare 84 = .ok (.iconst 0, 1) := by decide +kernel
theorem dX10_compare_85 : decode cX10_compare 85 = .ok (.iadd, 1) := by decide +kernel
theorem dX10_compare_86 : decode cX10_compare 86 = .ok (.istore_n 2, 1) := by decide +kernel
theorem dX10_compare_87 : decode cX10_compare 87 = .ok (.iinc 3 1, 3) := by decide +kernel
theorem dX10_compare_90 : decode cX10_compare 90 = .ok (.goto (-31), 3) := by decide +kernel
theorem dX10_compare_93 : decode cX10_compare 93 = .ok (.iload_n 1, 1) := by decide +kernel
theorem dX10_compare_94 : decode cX10_compare 94 = .ok (.iconst 2, 1) := by decide +kernel
theorem dX10_compare_95 : decode cX10_compare 95 = .ok (.if_icmp .ne 7, 3) := by decide +kernel
theorem dX10_compare_98 : decode cX10_compare 98 = .ok (.iload_n 2, 1) := by decide +kernel
theorem dX10_compare_99 : decode cX10_compare 99 = .ok (.goto 21, 3) := by decide +kernel
theorem dX10_compare_102 : decode cX10_compare 102 = .ok (.aload_n 0, 1) := by decide +kernel
theorem dX10_compare_103 : decode cX10_compare 103 = .ok (.getfield 7, 3) := by decide +kernel
theorem dX10_compare_106 : decode cX10_compare 106 = .ok (.bipush 116, 2) := by decide +kernel
theorem dX10_compare_108 : decode cX10_compare 108 = .ok (.iaload, 1) := by decide +kernel
theorem dX10_compare_109 : decode cX10_compare 109 = .ok (.aload_n 0, 1) := by decide +kernel
theorem dX10_compare_110 : decode cX10_compare 110 = .ok (.getfield 16, 3) := by decide +kernel
theorem dX10_compare_113 : decode cX10_compare 113 = .ok (.bipush 116, 2) := by decide +kernel
theorem dX10_compare_115 : decode cX10_compare 115 = .ok (.iaload, 1) := by decide +kernel
theorem dX10_compare_116 : decode cX10_compare 116 = .ok (.isub, 1) := by decide +kernel
theorem dX10_compare_117 : decode cX10_compare 117 = .ok (.ldc 165, 2) := by decide +kernel
theorem dX10_compare_119 : decode cX10_compare 119 = .ok (.iadd, 1) := by decide +kernel
theorem dX10_compare_120 : decode cX10_compare 120 = .ok (.ireturn, 1) := by decide +kernel
set_option maxRecDepth 20000 in
theorem ggX10_type_X10_within : GoodIn wsX10_type wsX10_within := goodIn_r _ [6] (by decide +kernel) (by decide +kernel)
set_option maxRecDepth 20000 in
theorem gX10_type_X10_within : GoodIn wsX10_type (va_wsS RX10 43 yX10_within wsX10_within) := goodIn_app (goodIn_of _ (by decide +kernel)) ggX10_type_X10_within
theorem dX10_type_0 : decode cX10_type 0 = .ok (.iload_n 1, 1) := by decide +kernel
theorem dX10_type_1 : decode cX10_type 1 = .ok (.bipush 32, 2) := by decide +kernel
theorem dX10_type_3 : decode cX10_type 3 = .ok (.bipush 126, 2) := by decide +kernel
theorem dX10_type_5 : decode cX10_type 5 = .ok (.invokestatic 43, 3) := by decide +kernel
theorem dX10_type_8 : decode cX10_type 8 = .ok (.ifCond .ne 5, 3) := by decide +kernel
theorem dX10_type_11 : decode cX10_type 11 = .ok (.iconst (-1), 1) := by decide +kernel
theorem dX10_type_12 : decode cX10_type 12 = .ok (.ireturn, 1) := by decide +kernel
theorem dX10_type_13 : decode cX10_type 13 = .ok (.aload_n 0, 1) := by decide +kernel
theorem dX10_type_14 : decode cX10_type 14 = .ok (.getfield 172, 3) := by decide +kernel
theorem dX10_type_17 : decode cX10_type 17 = .ok (.bipush 120, 2) := by decide +kernel
theorem dX10_type_19 : decode cX10_type 19 = .ok (.if_icmp .ne 6, 3) := by decide +kernel
theorem dX10_type_22 : decode cX10_type 22 = .ok (.bipush (-3), 2) := by decide +kernel
theorem dX10_type_24 : decode cX10_type 24 = .ok (.ireturn, 1) := by decide +kernel
theorem dX10_type_25 : decode cX10_type 25 = .ok (.aload_n 0, 1) := by decide +kernel
theorem dX10_type_26 : decode cX10_type 26 = .ok (.getfield 22, 3) := by decide +kernel
theorem dX10_type_29 : decode cX10_type 29 = .ok (.aload_n 0, 1) := by decide +kernel
theorem dX10_type_30 : decode cX10_type 30 = .ok (.getfield 172, 3) := by decide +kernel
theorem dX10_type_33 : decode cX10_type 33 = .ok (.iload_n 1, 1) := by decide +kernel
theorem dX10_type_34 : decode cX10_type 34 = .ok (.iastore, 1) := by decide +kernel
theorem dX10_type_35 : decode cX10_type 35 = .ok (.aload_n 0, 1) := by decide +kernel
theorem dX10_type_36 : decode cX10_type 36 = .ok (.dup, 1) := by decide +kernel
theorem dX10_type_37 : decode cX10_type 37 = .ok (.getfield 172, 3) := by decide +kernel
theorem dX10_type_40 : decode cX10_type 40 = .ok (.iconst 1, 1) := by decide +kernel
theorem dX10_type_41 : decode cX10_type 41 = .ok (.iadd, 1) := by decide +kernel
theorem dX10_type_42 : decode cX10_type 42 = .ok (.putfield 172, 3) := by decide +kernel
theorem dX10_type_45 : decode cX10_type 45 = .ok (.aload_n 0, 1) := by decide +kernel
theorem dX10_type_46 : decode cX10_type 46 = .ok (.getfield 172, 3) := by decide +kernel
theorem dX10_type_49 : decode cX10_type 49 = .ok (.ireturn, 1) := by decide +kernel
theorem dX10_clearText_0 : decode cX10_clearText 0 = .ok (.aload_n 0, 1) := by decide +kernel
theorem dX10_clearText_1 : decode cX10_clearText 1 = .ok (.getfield 172, 3) := by decide +kernel
theorem dX10_clearText_4 : decode cX10_clearText 4 = .ok (.istore_n 1, 1) := by decide +kernel
theorem dX10_clearText_5 : decode cX10_clearText 5 = .ok (.aload_n 0, 1) := by decide +kernel
theorem dX10_clearText_6 : decode cX10_clearText 6 = .ok (.iconst 0, 1) := by decide +kernel
theorem dX10_clearText_7 : decode cX10_clearText 7 = .ok (.putfield 172, 3) := by decide +kernel
theorem dX10_clearText_10 : decode cX10_clearText 10 = .ok (.iload_n 1, 1) := by decide +kernel
theorem dX10_clearText_11 : decode cX10_clearText 11 = .ok (.ireturn, 1) := by decide +kernel
theorem dX10_at_0 : decode cX10_at 0 = .ok (.iload_n 1, 1) := by decide +kernel
theorem dX10_at_1 : decode cX10_at 1 = .ok (.aload_n 0, 1) := by decide +kernel
theorem dX10_at_2 : decode cX10_at 2 = .ok (.getfield 172, 3) := by decide +kernel
theorem dX10_at_5 : decode cX10_at 5 = .ok (.if_icmp .ge 12, 3) := by decide +kernel
theorem dX10_at_8 : decode cX10_at 8 = .ok (.aload_n 0, 1) := by decide +kernel
theorem dX10_at_9 : decode cX10_at 9 = .ok (.getfield 22, 3) := by decide +kernel
theorem dX10_at_12 : decode cX10_at 12 = .ok (.iload_n 1, 1) := by decide +kernel
theorem dX10_at_13 : decode cX10_at 13 = .ok (.iaload, 1) := by decide +kernel
theorem dX10_at_14 : decode cX10_at 14 = .ok (.goto 4, 3) := by decide +kernel
theorem dX10_at_17 : decode cX10_at 17 = .ok (.iconst 0, 1) := by decide +kernel
theorem dX10_at_18 : decode cX10_at 18 = .ok (.ireturn, 1) := by decide +kernel
set_option maxRecDepth 20000 in
theorem ggX10_word_X10_at : GoodIn wsX10_word wsX10_at := goodIn_r _ [8, 9, 10, 14, 15, 16, 17, 18, 19, 20, 21, 22, 23, 24, 25, 26, 27, 28] (by decide +kernel) (by decide +kernel)
set_option maxRecDepth 20000 in
theorem gX10_word_X10_at : GoodIn wsX10_word (wsV RX10 196 RX10 yX10_at wsX10_at) := goodIn_app (goodIn_of _ (by decide +kernel)) ggX10_word_X10_at
set_option maxRecDepth 20000 in
theorem ggX10_word_X10_within : GoodIn wsX10_word wsX10_within := goodIn_r _ [13] (by decide +kernel) (by decide +kernel)
set_option maxRecDepth 20000 in
theorem gX10_word_X10_within : GoodIn wsX10_word (va_wsS RX10 43 yX10_within wsX10_within) := goodIn_app (goodIn_of _ (by decide +kernel)) ggX10_word_X10_within
theorem dX10_word_0 : decode cX10_word 0 = .ok (.lconst 0, 1) := by decide +kernel
theorem dX10_word_1 : decode cX10_word 1 = .ok (.lstore_n 1, 1) := by decide +kernel
theorem dX10_word_2 : decode cX10_word 2 = .ok (.iconst 0, 1) := by decide +kernel
theorem dX10_word_3 : decode cX10_word 3 = .ok (.istore_n 3, 1) := by decide +kernel
theorem dX10_word_4 : decode cX10_word 4 = .ok (.aload_n 0, 1) := by decide +kernel
theorem dX10_word_5 : decode cX10_word 5 = .ok (.aload_n 0, 1) := by decide +kernel
theorem dX10_word_6 : decode cX10_word 6 = .ok (.getfield 193, 3) := by decide +kernel
theorem dX10_word_9 : decode cX10_word 9 = .ok (.invokevirtual 196, 3) := by decide +kernel
theorem dX10_word_12 : decode cX10_word 12 = .ok (.bipush 97, 2) := by decide +kernel
theorem dX10_word_14 : decode cX10_word 14 = .ok (.bipush 122, 2) := by decide +kernel
theorem dX10_word_16 : decode cX10_word 16 = .ok (.invokestatic 43, 3) := by decide +kernel
theorem dX10_word_19 : decode cX10_word 19 = .ok (.ifCond .eq 49, 3) := by decide +kernel
theorem dX10_word_22 : decode cX10_word 22 = .ok (.iinc 3 1, 3) := by decide +kernel
theorem dX10_word_25 : decode cX10_word 25 = .ok (.iload_n 3, 1) := by decide +kernel
theorem dX10_word_26 : decode cX10_word 26 = .ok (.bipush 8, 2) := by decide +kernel
theorem dX10_word_28 : decode cX10_word 28 = .ok (.if_icmp .le 7, 3) := by decide +kernel
theorem dX10_word_31 : decode cX10_word 31 = .ok (.lconst 0, 1) := by decide +kernel
theorem dX10_word_32 : decode cX10_word 32 = .ok (.goto 22, 3) := by decide +kernel
theorem dX10_word_35 : decode cX10_word 35 = .ok (.lload_n 1, 1) := by decide +kernel
theorem dX10_word_36 : decode cX10_word 36 = .ok (.ldc2_w 199, 3) := by decide +kernel
theorem dX10_word_39 : decode cX10_word 39 = .ok (.lmul, 1) := by decide +kernel
theorem dX10_word_40 : decode cX10_word 40 = .ok (.aload_n 0, 1) := by decide +kernel
theorem dX10_word_41 : decode cX10_word 41 = .ok (.aload_n 0, 1) := by decide +kernel
theorem dX10_word_42 : decode cX10_word 42 = .ok (.getfield 193, 3) := by decide +kernel
theorem dX10_word_45 : decode cX10_word 45 = .ok (.invokevirtual 196, 3) := by decide +kernel
theorem dX10_word_48 : decode cX10_word 48 = .ok (.i2l, 1) := by decide +kernel
theorem dX10_word_49 : decode cX10_word 49 = .ok (.ladd, 1) := by decide +kernel
theorem dX10_word_50 : decode cX10_word 50 = .ok (.ldc2_w 201, 3) := by decide +kernel
theorem dX10_word_53 : decode cX10_word 53 = .ok (.lsub, 1) := by decide +kernel
theorem dX10_word_54 : decode cX10_word 54 = .ok (.lstore_n 1, 1) := by decide +kernel
theorem dX10_word_55 : decode cX10_word 55 = .ok (.aload_n 0, 1) := by decide +kernel
theorem dX10_word_56 : decode cX10_word 56 = .ok (.dup, 1) := by decide +kernel
theorem dX10_word_57 : decode cX10_word 57 = .ok (.getfield 193, 3) := by decide +kernel
theorem dX10_word_60 : decode cX10_word 60 = .ok (.iconst 1, 1) := by decide +kernel
theorem dX10_word_61 : decode cX10_word 61 = .ok (.iadd, 1) := by decide +kernel
theorem dX10_word_62 : decode cX10_word 62 = .ok (.putfield 193, 3) := by decide +kernel
theorem dX10_word_65 : decode cX10_word 65 = .ok (.goto (-61), 3) := by decide +kernel
theorem dX10_word_68 : decode cX10_word 68 = .ok (.iload_n 3, 1) := by decide +kernel
theorem dX10_word_69 : decode cX10_word 69 = .ok (.bipush 8, 2) := by decide +kernel
theorem dX10_word_71 : decode cX10_word 71 = .ok (.if_icmp .le 7, 3) := by decide +kernel
theorem dX10_word_74 : decode cX10_word 74 = .ok (.lconst 0, 1) := by decide +kernel
theorem dX10_word_75 : decode cX10_word 75 = .ok (.goto 4, 3) := by decide +kernel
theorem dX10_word_78 : decode cX10_word 78 = .ok (.lload_n 1, 1) := by decide +kernel
theorem dX10_word_79 : decode cX10_word 79 = .ok (.lreturn, 1) := by decide +kernel
theorem dX10_spelled_0 : decode cX10_spelled 0 = .ok (.iload_n 0, 1) := by decide +kernel
theorem dX10_spelled_1 : decode cX10_spelled 1 = .ok (.bipush 96, 2) := by decide +kernel
theorem dX10_spelled_3 : decode cX10_spelled 3 = .ok (.isub, 1) := by decide +kernel
theorem dX10_spelled_4 : decode cX10_spelled 4 = .ok (.i2l, 1) := by decide +kernel
theorem dX10_spelled_5 : decode cX10_spelled 5 = .ok (.ldc2_w 199, 3) := by decide +kernel
theorem dX10_spelled_8 : decode cX10_spelled 8 = .ok (.lmul, 1) := by decide +kernel
theorem dX10_spelled_9 : decode cX10_spelled 9 = .ok (.iload_n 1, 1) := by decide +kernel
theorem dX10_spelled_10 : decode cX10_spelled 10 = .ok (.i2l, 1) := by decide +kernel
theorem dX10_spelled_11 : decode cX10_spelled 11 = .ok (.ladd, 1) := by decide +kernel
theorem dX10_spelled_12 : decode cX10_spelled 12 = .ok (.ldc2_w 201, 3) := by decide +kernel
theorem dX10_spelled_15 : decode cX10_spelled 15 = .ok (.lsub, 1) := by decide +kernel
theorem dX10_spelled_16 : decode cX10_spelled 16 = .ok (.lstore 4, 2) := by decide +kernel
theorem dX10_spelled_18 : decode cX10_spelled 18 = .ok (.lload 4, 2) := by decide +kernel
theorem dX10_spelled_20 : decode cX10_spelled 20 = .ok (.ldc2_w 199, 3) := by decide +kernel
theorem dX10_spelled_23 : decode cX10_spelled 23 = .ok (.lmul, 1) := by decide +kernel
theorem dX10_spelled_24 : decode cX10_spelled 24 = .ok (.iload_n 2, 1) := by decide +kernel
theorem dX10_spelled_25 : decode cX10_spelled 25 = .ok (.i2l, 1) := by decide +kernel
theorem dX10_spelled_26 : decode cX10_spelled 26 = .ok (.ladd, 1) := by decide +kernel
theorem dX10_spelled_27 : decode cX10_spelled 27 = .ok (.ldc2_w 201, 3) := by decide +kernel
theorem dX10_spelled_30 : decode cX10_spelled 30 = .ok (.lsub, 1) := by decide +kernel
theorem dX10_spelled_31 : decode cX10_spelled 31 = .ok (.lstore 4, 2) := by decide +kernel
theorem dX10_spelled_33 : decode cX10_spelled 33 = .ok (.iload_n 3, 1) := by decide +kernel
theorem dX10_spelled_34 : decode cX10_spelled 34 = .ok (.ifCond .ne 8, 3) := by decide +kernel
theorem dX10_spelled_37 : decode cX10_spelled 37 = .ok (.lload 4, 2) := by decide +kernel
theorem dX10_spelled_39 : decode cX10_spelled 39 = .ok (.goto 16, 3) := by decide +kernel
theorem dX10_spelled_42 : decode cX10_spelled 42 = .ok (.lload 4, 2) := by decide +kernel
theorem dX10_spelled_44 : decode cX10_spelled 44 = .ok (.ldc2_w 199, 3) := by decide +kernel
theorem dX10_spelled_47 : decode cX10_spelled 47 = .ok (.lmul, 1) := by decide +kernel
theorem dX10_spelled_48 : decode cX10_spelled 48 = .ok (.iload_n 3, 1) := by decide +kernel
theorem dX10_spelled_49 : decode cX10_spelled 49 = .ok (.i2l, 1) := by decide +kernel
theorem dX10_spelled_50 : decode cX10_spelled 50 = .ok (.ladd, 1) := by decide +kernel
theorem dX10_spelled_51 : decode cX10_spelled 51 = .ok (.ldc2_w 201, 3) := by decide +kernel
theorem dX10_spelled_54 : decode cX10_spelled 54 = .ok (.lsub, 1) := by decide +kernel
theorem dX10_spelled_55 : decode cX10_spelled 55 = .ok (.lreturn, 1) := by decide +kernel
theorem dX10_longer_0 : decode cX10_longer 0 = .ok (.lload_n 0, 1) := by decide +kernel
theorem dX10_longer_1 : decode cX10_longer 1 = .ok (.ldc2_w 199, 3) := by decide +kernel
theorem dX10_longer_4 : decode cX10_longer 4 = .ok (.lmul, 1) := by decide +kernel
theorem dX10_longer_5 : decode cX10_longer 5 = .ok (.iload_n 2, 1) := by decide +kernel
theorem dX10_longer_6 : decode cX10_longer 6 = .ok (.i2l, 1) := by decide +kernel
theorem dX10_longer_7 : decode cX10_longer 7 = .ok (.ladd, 1) := by decide +kernel
theorem dX10_longer_8 : decode cX10_longer 8 = .ok (.ldc2_w 201, 3) := by decide +kernel
theorem dX10_longer_11 : decode cX10_longer 11 = .ok (.lsub, 1) := by decide +kernel
theorem dX10_longer_12 : decode cX10_longer 12 = .ok (.lstore 5, 2) := by decide +kernel
theorem dX10_longer_14 : decode cX10_longer 14 = .ok (.iload_n 3, 1) := by decide +kernel
theorem dX10_longer_15 : decode cX10_longer 15 = .ok (.ifCond .ne 8, 3) := by decide +kernel
theorem dX10_longer_18 : decode cX10_longer 18 = .ok (.lload 5, 2) := by decide +kernel
theorem dX10_longer_20 : decode cX10_longer 20 = .ok (.goto 16, 3) := by decide +kernel
theorem dX10_longer_23 : decode cX10_longer 23 = .ok (.lload 5, 2) := by decide +kernel
theorem dX10_longer_25 : decode cX10_longer 25 = .ok (.ldc2_w 199, 3) := by decide +kernel
theorem dX10_longer_28 : decode cX10_longer 28 = .ok (.lmul, 1) := by decide +kernel
theorem dX10_longer_29 : decode cX10_longer 29 = .ok (.iload_n 3, 1) := by decide +kernel
theorem dX10_longer_30 : decode cX10_longer 30 = .ok (.i2l, 1) := by decide +kernel
theorem dX10_longer_31 : decode cX10_longer 31 = .ok (.ladd, 1) := by decide +kernel
theorem dX10_longer_32 : decode cX10_longer 32 = .ok (.ldc2_w 201, 3) := by decide +kernel
theorem dX10_longer_35 : decode cX10_longer 35 = .ok (.lsub, 1) := by decide +kernel
theorem dX10_longer_36 : decode cX10_longer 36 = .ok (.lstore 5, 2) := by decide +kernel
theorem dX10_longer_38 : decode cX10_longer 38 = .ok (.iload 4, 2) := by decide +kernel
theorem dX10_longer_40 : decode cX10_longer 40 = .ok (.ifCond .ne 8, 3) := by decide +kernel
theorem dX10_longer_43 : decode cX10_longer 43 = .ok (.lload 5, 2) := by decide +kernel
theorem dX10_longer_45 : decode cX10_longer 45 = .ok (.goto 17, 3) := by decide +kernel
theorem dX10_longer_48 : decode cX10_longer 48 = .ok (.lload 5, 2) := by decide +kernel
theorem dX10_longer_50 : decode cX10_longer 50 = .ok (.ldc2_w 199, 3) := by decide +kernel
theorem dX10_longer_53 : decode cX10_longer 53 = .ok (.lmul, 1) := by decide +kernel
theorem dX10_longer_54 : decode cX10_longer 54 = .ok (.iload 4, 2) := by decide +kernel
theorem dX10_longer_56 : decode cX10_longer 56 = .ok (.i2l, 1) := by decide +kernel
theorem dX10_longer_57 : decode cX10_longer 57 = .ok (.ladd, 1) := by decide +kernel
theorem dX10_longer_58 : decode cX10_longer 58 = .ok (.ldc2_w 201, 3) := by decide +kernel
theorem dX10_longer_61 : decode cX10_longer 61 = .ok (.lsub, 1) := by decide +kernel
theorem dX10_longer_62 : decode cX10_longer 62 = .ok (.lreturn, 1) := by decide +kernel
set_option maxRecDepth 20000 in
theorem ggX10_itemOf_X10_spelled : GoodIn wsX10_itemOf wsX10_spelled := goodIn_r _ [4, 5, 6] (by decide +kernel) (by decide +kernel)
set_option maxRecDepth 20000 in
theorem gX10_itemOf_X10_spelled : GoodIn wsX10_itemOf (va_wsS RX10 203 yX10_spelled wsX10_spelled) := goodIn_app (goodIn_of _ (by decide +kernel)) ggX10_itemOf_X10_spelled
set_option maxRecDepth 20000 in
theorem ggX10_itemOf_X10_longer : GoodIn wsX10_itemOf wsX10_longer := goodIn_r _ [9, 5, 6] (by decide +kernel) (by decide +kernel)
set_option maxRecDepth 20000 in
theorem gX10_itemOf_X10_longer : GoodIn wsX10_itemOf (va_wsS RX10 207 yX10_longer wsX10_longer) := goodIn_app (goodIn_of _ (by decide +kernel)) ggX10_itemOf_X10_longer
theorem dX10_itemOf_0 : decode cX10_itemOf 0 = .ok (.bipush 99, 2) := by decide +kernel
theorem dX10_itemOf_2 : decode cX10_itemOf 2 = .ok (.bipush 104, 2) := by decide +kernel
theorem dX10_itemOf_4 : decode cX10_itemOf 4 = .ok (.bipush 97, 2) := by decide +kernel
theorem dX10_itemOf_6 : decode cX10_itemOf 6 = .ok (.bipush 110, 2) := by decide +kernel
theorem dX10_itemOf_8 : decode cX10_itemOf 8 = .ok (.invokestatic 203, 3) := by decide +kernel
theorem dX10_itemOf_11 : decode cX10_itemOf 11 = .ok (.lstore_n 2, 1) := by decide +kernel
theorem dX10_itemOf_12 : decode cX10_itemOf 12 = .ok (.lload_n 0, 1) := by decide +kernel
theorem dX10_itemOf_13 : decode cX10_itemOf 13 = .ok (.bipush 115, 2) := by decide +kernel
theorem dX10_itemOf_15 : decode cX10_itemOf 15 = .ok (.bipush 101, 2) := by decide +kernel
theorem dX10_itemOf_17 : decode cX10_itemOf 17 = .ok (.bipush 99, 2) := by decide +kernel
theorem dX10_itemOf_19 : decode cX10_itemOf 19 = .ok (.bipush 116, 2) := by decide +kernel
theorem dX10_itemOf_21 : decode cX10_itemOf 21 = .ok (.invokestatic 203, 3) := by decide +kernel
theorem dX10_itemOf_24 : decode cX10_itemOf 24 = .ok (.bipush 111, 2) := by decide +kernel
theorem dX10_itemOf_26 : decode cX10_itemOf 26 = .ok (.bipush 114, 2) := by decide +kernel
theorem dX10_itemOf_28 : decode cX10_itemOf 28 = .ok (.iconst 0, 1) := by decide +kernel
theorem dX10_itemOf_29 : decode cX10_itemOf 29 = .ok (.invokestatic 207, 3) := by decide +kernel
theorem dX10_itemOf_32 : decode cX10_itemOf 32 = .ok (.lcmp, 1) := by decide +kernel
theorem dX10_itemOf_33 : decode cX10_itemOf 33 = .ok (.ifCond .ne 5, 3) := by decide +kernel
theorem dX10_itemOf_36 : decode cX10_itemOf 36 = .ok (.iconst 0, 1) := by decide +kernel
theorem dX10_itemOf_37 : decode cX10_itemOf 37 = .ok (.ireturn, 1) := by decide +kernel
theorem dX10_itemOf_38 : decode cX10_itemOf 38 = .ok (.lload_n 0, 1) := by decide +kernel
theorem dX10_itemOf_39 : decode cX10_itemOf 39 = .ok (.bipush 99, 2) := by decide +kernel
theorem dX10_itemOf_41 : decode cX10_itemOf 41 = .ok (.bipush 111, 2) := by decide +kernel
theorem dX10_itemOf_43 : decode cX10_itemOf 43 = .ok (.bipush 100, 2) := by decide +kernel
theorem dX10_itemOf_45 : decode cX10_itemOf 45 = .ok (.bipush 101, 2) := by decide +kernel
theorem dX10_itemOf_47 : decode cX10_itemOf 47 = .ok (.invokestatic 203, 3) := by decide +kernel
theorem dX10_itemOf_50 : decode cX10_itemOf 50 = .ok (.lcmp, 1) := by decide +kernel
theorem dX10_itemOf_51 : decode cX10_itemOf 51 = .ok (.ifCond .ne 5, 3) := by decide +kernel
theorem dX10_itemOf_54 : decode cX10_itemOf 54 = .ok (.iconst 1, 1) := by decide +kernel
theorem dX10_itemOf_55 : decode cX10_itemOf 55 = .ok (.ireturn, 1) := by decide +kernel
theorem dX10_itemOf_56 : decode cX10_itemOf 56 = .ok (.lload_n 0, 1) := by decide +kernel
theorem dX10_itemOf_57 : decode cX10_itemOf 57 = .ok (.lload_n 2, 1) := by decide +kernel
theorem dX10_itemOf_58 : decode cX10_itemOf 58 = .ok (.bipush 103, 2) := by decide +kernel
theorem dX10_itemOf_60 : decode cX10_itemOf 60 = .ok (.bipush 101, 2) := by decide +kernel
theorem dX10_itemOf_62 : decode cX10_itemOf 62 = .ok (.bipush 114, 2) := by decide +kernel
theorem dX10_itemOf_64 : decode cX10_itemOf 64 = .ok (.invokestatic 207, 3) := by decide +kernel
theorem dX10_itemOf_67 : decode cX10_itemOf 67 = .ok (.lcmp, 1) := by decide +kernel
theorem dX10_itemOf_68 : decode cX10_itemOf 68 = .ok (.ifCond .ne 5, 3) := by decide +kernel
theorem dX10_itemOf_71 : decode cX10_itemOf 71 = .ok (.iconst 2, 1) := by decide +kernel
theorem dX10_itemOf_72 : decode cX10_itemOf 72 = .ok (.ireturn, 1) := by decide +kernel
theorem dX10_itemOf_73 : decode cX10_itemOf 73 = .ok (.lload_n 0, 1) := by decide +kernel
theorem dX10_itemOf_74 : decode cX10_itemOf 74 = .ok (.bipush 108, 2) := by decide +kernel
theorem dX10_itemOf_76 : decode cX10_itemOf 76 = .ok (.bipush 97, 2) := by decide +kernel
theorem dX10_itemOf_78 : decode cX10_itemOf 78 = .ok (.bipush 109, 2) := by decide +kernel
theorem dX10_itemOf_80 : decode cX10_itemOf 80 = .ok (.bipush 112, 2) := by decide +kernel
theorem dX10_itemOf_82 : decode cX10_itemOf 82 = .ok (.invokestatic 203, 3) := by decide +kernel
theorem dX10_itemOf_85 : decode cX10_itemOf 85 = .ok (.lcmp, 1) := by decide +kernel
theorem dX10_itemOf_86 : decode cX10_itemOf 86 = .ok (.ifCond .ne 5, 3) := by decide +kernel
theorem dX10_itemOf_89 : decode cX10_itemOf 89 = .ok (.iconst 3, 1) := by decide +kernel
theorem dX10_itemOf_90 : decode cX10_itemOf 90 = .ok (.ireturn, 1) := by decide +kernel
theorem dX10_itemOf_91 : decode cX10_itemOf 91 = .ok (.lload_n 0, 1) := by decide +kernel
theorem dX10_itemOf_92 : decode cX10_itemOf 92 = .ok (.bipush 99, 2) := by decide +kernel
theorem dX10_itemOf_94 : decode cX10_itemOf 94 = .ok (.bipush 108, 2) := by decide +kernel
theorem dX10_itemOf_96 : decode cX10_itemOf 96 = .ok (.bipush 101, 2) := by decide +kernel
theorem dX10_itemOf_98 : decode cX10_itemOf 98 = .ok (.bipush 97, 2) := by decide +kernel
theorem dX10_itemOf_100 : decode cX10_itemOf 100 = .ok (.invokestatic 203, 3) := by decide +kernel
theorem dX10_itemOf_103 : decode cX10_itemOf 103 = .ok (.bipush 114, 2) := by decide +kernel
theorem dX10_itemOf_105 : decode cX10_itemOf 105 = .ok (.iconst 0, 1) := by decide +kernel
theorem dX10_itemOf_106 : decode cX10_itemOf 106 = .ok (.iconst 0, 1) := by decide +kernel
theorem dX10_itemOf_107 : decode cX10_itemOf 107 = .ok (.invokestatic 207, 3) := by decide +kernel
theorem dX10_itemOf_110 : decode cX10_itemOf 110 = .ok (.lcmp, 1) := by decide +kernel
theorem dX10_itemOf_111 : decode cX10_itemOf 111 = .ok (.ifCond .ne 7, 3) := by decide +kernel
theorem dX10_itemOf_114 : decode cX10_itemOf 114 = .ok (.iconst 4, 1) := by decide +kernel
theorem dX10_itemOf_115 : decode cX10_itemOf 115 = .ok (.goto 23, 3) := by decide +kernel
theorem dX10_itemOf_118 : decode cX10_itemOf 118 = .ok (.lload_n 0, 1) := by decide +kernel
theorem dX10_itemOf_119 : decode cX10_itemOf 119 = .ok (.lload_n 2, 1) := by decide +kernel
theorem dX10_itemOf_120 : decode cX10_itemOf 120 = .ok (.bipush 103, 2) := by decide +kernel
theorem dX10_itemOf_122 : decode cX10_itemOf 122 = .ok (.bipush 101, 2) := by decide +kernel
theorem dX10_itemOf_124 : decode cX10_itemOf 124 = .ok (.iconst 0, 1) := by decide +kernel
theorem dX10_itemOf_125 : decode cX10_itemOf 125 = .ok (.invokestatic 207, 3) := by decide +kernel
theorem dX10_itemOf_128 : decode cX10_itemOf 128 = .ok (.lcmp, 1) := by decide +kernel
theorem dX10_itemOf_129 : decode cX10_itemOf 129 = .ok (.ifCond .ne 7, 3) := by decide +kernel
theorem dX10_itemOf_132 : decode cX10_itemOf 132 = .ok (.iconst 5, 1) := by decide +kernel
theorem dX10_itemOf_133 : decode cX10_itemOf 133 = .ok (.goto 5, 3) := by decide +kernel
theorem dX10_itemOf_136 : decode cX10_itemOf 136 = .ok (.bipush (-4), 2) := by decide +kernel
theorem dX10_itemOf_138 : decode cX10_itemOf 138 = .ok (.ireturn, 1) := by decide +kernel
set_option maxRecDepth 20000 in
theorem ggX10_colorOf_X10_spelled : GoodIn wsX10_colorOf wsX10_spelled := goodIn_r _ [4, 5, 6] (by decide +kernel) (by decide +kernel)
set_option maxRecDepth 20000 in
theorem gX10_colorOf_X10_spelled : GoodIn wsX10_colorOf (va_wsS RX10 203 yX10_spelled wsX10_spelled) := goodIn_app (goodIn_of _ (by decide +kernel)) ggX10_colorOf_X10_spelled
set_option maxRecDepth 20000 in
theorem ggX10_colorOf_X10_longer : GoodIn wsX10_colorOf wsX10_longer := goodIn_r _ [9, 5, 6] (by decide +kernel) (by decide +kernel)
set_option maxRecDepth 20000 in
theorem gX10_colorOf_X10_longer : GoodIn wsX10_colorOf (va_wsS RX10 207 yX10_longer wsX10_longer) := goodIn_app (goodIn_of _ (by decide +kernel)) ggX10_colorOf_X10_longer
theorem dX10_colorOf_0 : decode cX10_colorOf 0 = .ok (.lload_n 0, 1) := by decide +kernel
theorem dX10_colorOf_1 : decode cX10_colorOf 1 = .ok (.bipush 100, 2) := by decide +kernel
theorem dX10_colorOf_3 : decode cX10_colorOf 3 = .ok (.bipush 97, 2) := by decide +kernel
theorem dX10_colorOf_5 : decode cX10_colorOf 5 = .ok (.bipush 114, 2) := by decide +kernel
theorem dX10_colorOf_7 : decode cX10_colorOf 7 = .ok (.bipush 107, 2) := by decide +kernel
theorem dX10_colorOf_9 : decode cX10_colorOf 9 = .ok (.invokestatic 203, 3) := by decide +kernel
theorem dX10_colorOf_12 : decode cX10_colorOf 12 = .ok (.lcmp, 1) := by decide +kernel
theorem dX10_colorOf_13 : decode cX10_colorOf 13 = .ok (.ifCond .ne 5, 3) := by decide +kernel
theorem dX10_colorOf_16 : decode cX10_colorOf 16 = .ok (.iconst 0, 1) := by decide +kernel
theorem dX10_colorOf_17 : decode cX10_colorOf 17 = .ok (.ireturn, 1) := by decide +kernel
theorem dX10_colorOf_18 : decode cX10_colorOf 18 = .ok (.lload_n 0, 1) := by decide +kernel
theorem dX10_colorOf_19 : decode cX10_colorOf 19 = .ok (.bipush 119, 2) := by decide +kernel
theorem dX10_colorOf_21 : decode cX10_colorOf 21 = .ok (.bipush 104, 2) := by decide +kernel
theorem dX10_colorOf_23 : decode cX10_colorOf 23 = .ok (.bipush 105, 2) := by decide +kernel
theorem dX10_colorOf_25 : decode cX10_colorOf 25 = .ok (.bipush 116, 2) := by decide +kernel
theorem dX10_colorOf_27 : decode cX10_colorOf 27 = .ok (.invokestatic 203, 3) := by decide +kernel
theorem dX10_colorOf_30 : decode cX10_colorOf 30 = .ok (.bipush 101, 2) := by decide +kernel
theorem dX10_colorOf_32 : decode cX10_colorOf 32 = .ok (.iconst 0, 1) := by decide +kernel
theorem dX10_colorOf_33 : decode cX10_colorOf 33 = .ok (.iconst 0, 1) := by decide +kernel
theorem dX10_colorOf_34 : decode cX10_colorOf 34 = .ok (.invokestatic 207, 3) := by decide +kernel
theorem dX10_colorOf_37 : decode cX10_colorOf 37 = .ok (.lcmp, 1) := by decide +kernel
theorem dX10_colorOf_38 : decode cX10_colorOf 38 = .ok (.ifCond .ne 5, 3) := by decide +kernel
theorem dX10_colorOf_41 : decode cX10_colorOf 41 = .ok (.iconst 1, 1) := by decide +kernel
theorem dX10_colorOf_42 : decode cX10_colorOf 42 = .ok (.ireturn, 1) := by decide +kernel
theorem dX10_colorOf_43 : decode cX10_colorOf 43 = .ok (.lload_n 0, 1) := by decide +kernel
theorem dX10_colorOf_44 : decode cX10_colorOf 44 = .ok (.bipush 114, 2) := by decide +kernel
theorem dX10_colorOf_46 : decode cX10_colorOf 46 = .ok (.bipush 101, 2) := by decide +kernel
theorem dX10_colorOf_48 : decode cX10_colorOf 48 = .ok (.bipush 100, 2) := by decide +kernel
theorem dX10_colorOf_50 : decode cX10_colorOf 50 = .ok (.iconst 0, 1) := by decide +kernel
theorem dX10_colorOf_51 : decode cX10_colorOf 51 = .ok (.invokestatic 203, 3) := by decide +kernel
theorem dX10_colorOf_54 : decode cX10_colorOf 54 = .ok (.lcmp, 1) := by decide +kernel
theorem dX10_colorOf_55 : decode cX10_colorOf 55 = .ok (.ifCond .ne 7, 3) := by decide +kernel
theorem dX10_colorOf_58 : decode cX10_colorOf 58 = .ok (.iconst 2, 1) := by decide +kernel
theorem dX10_colorOf_59 : decode cX10_colorOf 59 = .ok (.goto 32, 3) := by decide +kernel
theorem dX10_colorOf_62 : decode cX10_colorOf 62 = .ok (.lload_n 0, 1) := by decide +kernel
theorem dX10_colorOf_63 : decode cX10_colorOf 63 = .ok (.bipush 103, 2) := by decide +kernel
theorem dX10_colorOf_65 : decode cX10_colorOf 65 = .ok (.bipush 114, 2) := by decide +kernel
theorem dX10_colorOf_67 : decode cX10_colorOf 67 = .ok (.bipush 101, 2) := by decide +kernel
theorem dX10_colorOf_69 : decode cX10_colorOf 69 = .ok (.bipush 101, 2) := by decide +kernel
theorem dX10_colorOf_71 : decode cX10_colorOf 71 = .ok (.invokestatic 203, 3) := by decide +kernel
theorem dX10_colorOf_74 : decode cX10_colorOf 74 = .ok (.bipush 110, 2) := by decide +kernel
theorem dX10_colorOf_76 : decode cX10_colorOf 76 = .ok (.iconst 0, 1) := by decide +kernel
theorem dX10_colorOf_77 : decode cX10_colorOf 77 = .ok (.iconst 0, 1) := by decide +kernel
theorem dX10_colorOf_78 : decode cX10_colorOf 78 = .ok (.invokestatic 207, 3) := by decide +kernel
theorem dX10_colorOf_81 : decode cX10_colorOf 81 = .ok (.lcmp, 1) := by decide +kernel
theorem dX10_colorOf_82 : decode cX10_colorOf 82 = .ok (.ifCond .ne 7, 3) := by decide +kernel
theorem dX10_colorOf_85 : decode cX10_colorOf 85 = .ok (.iconst 3, 1) := by decide +kernel
theorem dX10_colorOf_86 : decode cX10_colorOf 86 = .ok (.goto 5, 3) := by decide +kernel
theorem dX10_colorOf_89 : decode cX10_colorOf 89 = .ok (.bipush (-4), 2) := by decide +kernel
theorem dX10_colorOf_91 : decode cX10_colorOf 91 = .ok (.ireturn, 1) := by decide +kernel
set_option maxRecDepth 20000 in
theorem ggX10_kindOf_X10_spelled : GoodIn wsX10_kindOf wsX10_spelled := goodIn_r _ [4, 5, 6] (by decide +kernel) (by decide +kernel)
set_option maxRecDepth 20000 in
theorem gX10_kindOf_X10_spelled : GoodIn wsX10_kindOf (va_wsS RX10 203 yX10_spelled wsX10_spelled) := goodIn_app (goodIn_of _ (by decide +kernel)) ggX10_kindOf_X10_spelled
set_option maxRecDepth 20000 in
theorem ggX10_kindOf_X10_longer : GoodIn wsX10_kindOf wsX10_longer := goodIn_r _ [9, 5, 6] (by decide +kernel) (by decide +kernel)
set_option maxRecDepth 20000 in
theorem gX10_kindOf_X10_longer : GoodIn wsX10_kindOf (va_wsS RX10 207 yX10_longer wsX10_longer) := goodIn_app (goodIn_of _ (by decide +kernel)) ggX10_kindOf_X10_longer
theorem dX10_kindOf_0 : decode cX10_kindOf 0 = .ok (.bipush 98, 2) := by decide +kernel
theorem dX10_kindOf_2 : decode cX10_kindOf 2 = .ok (.bipush 117, 2) := by decide +kernel
theorem dX10_kindOf_4 : decode cX10_kindOf 4 = .ok (.bipush 108, 2) := by decide +kernel
theorem dX10_kindOf_6 : decode cX10_kindOf 6 = .ok (.bipush 98, 2) := by decide +kernel
theorem dX10_kindOf_8 : decode cX10_kindOf 8 = .ok (.invokestatic 203, 3) := by decide +kernel
theorem dX10_kindOf_11 : decode cX10_kindOf 11 = .ok (.lstore_n 3, 1) := by decide +kernel
theorem dX10_kindOf_12 : decode cX10_kindOf 12 = .ok (.bipush 98, 2) := by decide +kernel
theorem dX10_kindOf_14 : decode cX10_kindOf 14 = .ok (.bipush 117, 2) := by decide +kernel
theorem dX10_kindOf_16 : decode cX10_kindOf 16 = .ok (.bipush 114, 2) := by decide +kernel
theorem dX10_kindOf_18 : decode cX10_kindOf 18 = .ok (.bipush 110, 2) := by decide +kernel
theorem dX10_kindOf_20 : decode cX10_kindOf 20 = .ok (.invokestatic 203, 3) := by decide +kernel
theorem dX10_kindOf_23 : decode cX10_kindOf 23 = .ok (.bipush 101, 2) := by decide +kernel
theorem dX10_kindOf_25 : decode cX10_kindOf 25 = .ok (.bipush 114, 2) := by decide +kernel
theorem dX10_kindOf_27 : decode cX10_kindOf 27 = .ok (.iconst 0, 1) := by decide +kernel
theorem dX10_kindOf_28 : decode cX10_kindOf 28 = .ok (.invokestatic 207, 3) := by decide +kernel
theorem dX10_kindOf_31 : decode cX10_kindOf 31 = .ok (.lstore 5, 2) := by decide +kernel
theorem dX10_kindOf_33 : decode cX10_kindOf 33 = .ok (.iload_n 2, 1) := by decide +kernel
theorem dX10_kindOf_34 : decode cX10_kindOf 34 = .ok (.ifCond .eq 14, 3) := by decide +kernel
theorem dX10_kindOf_37 : decode cX10_kindOf 37 = .ok (.lload_n 3, 1) := by decide +kernel
theorem dX10_kindOf_38 : decode cX10_kindOf 38 = .ok (.bipush 115, 2) := by decide +kernel
theorem dX10_kindOf_40 : decode cX10_kindOf 40 = .ok (.iconst 0, 1) := by decide +kernel
theorem dX10_kindOf_41 : decode cX10_kindOf 41 = .ok (.iconst 0, 1) := by decide +kernel
theorem dX10_kindOf_42 : decode cX10_kindOf 42 = .ok (.invokestatic 207, 3) := by decide +kernel
theorem dX10_kindOf_45 : decode cX10_kindOf 45 = .ok (.goto 4, 3) := by decide +kernel
theorem dX10_kindOf_48 : decode cX10_kindOf 48 = .ok (.lload_n 3, 1) := by decide +kernel
theorem dX10_kindOf_49 : decode cX10_kindOf 49 = .ok (.lstore 7, 2) := by decide +kernel
theorem dX10_kindOf_51 : decode cX10_kindOf 51 = .ok (.iload_n 2, 1) := by decide +kernel
theorem dX10_kindOf_52 : decode cX10_kindOf 52 = .ok (.ifCond .eq 15, 3) := by decide +kernel
theorem dX10_kindOf_55 : decode cX10_kindOf 55 = .ok (.lload 5, 2) := by decide +kernel
theorem dX10_kindOf_57 : decode cX10_kindOf 57 = .ok (.bipush 115, 2) := by decide +kernel
theorem dX10_kindOf_59 : decode cX10_kindOf 59 = .ok (.iconst 0, 1) := by decide +kernel
theorem dX10_kindOf_60 : decode cX10_kindOf 60 = .ok (.iconst 0, 1) := by decide +kernel
theorem dX10_kindOf_61 : decode cX10_kindOf 61 = .ok (.invokestatic 207, 3) := by decide +kernel
theorem dX10_kindOf_64 : decode cX10_kindOf 64 = .ok (.goto 5, 3) := by decide +kernel
theorem dX10_kindOf_67 : decode cX10_kindOf 67 = .ok (.lload 5, 2) := by decide +kernel
theorem dX10_kindOf_69 : decode cX10_kindOf 69 = .ok (.lstore 9, 2) := by decide +kernel
theorem dX10_kindOf_71 : decode cX10_kindOf 71 = .ok (.lload_n 0, 1) := by decide +kernel
theorem dX10_kindOf_72 : decode cX10_kindOf 72 = .ok (.lload 7, 2) := by decide +kernel
theorem dX10_kindOf_74 : decode cX10_kindOf 74 = .ok (.lcmp, 1) := by decide +kernel
theorem dX10_kindOf_75 : decode cX10_kindOf 75 = .ok (.ifCond .ne 7, 3) := by decide +kernel
theorem dX10_kindOf_78 : decode cX10_kindOf 78 = .ok (.iconst 0, 1) := by decide +kernel
theorem dX10_kindOf_79 : decode cX10_kindOf 79 = .ok (.goto 16, 3) := by decide +kernel
theorem dX10_kindOf_82 : decode cX10_kindOf 82 = .ok (.lload_n 0, 1) := by decide +kernel
theorem dX10_kindOf_83 : decode cX10_kindOf 83 = .ok (.lload 9, 2) := by decide +kernel
theorem dX10_kindOf_85 : decode cX10_kindOf 85 = .ok (.lcmp, 1) := by decide +kernel
theorem dX10_kindOf_86 : decode cX10_kindOf 86 = .ok (.ifCond .ne 7, 3) := by decide +kernel
theorem dX10_kindOf_89 : decode cX10_kindOf 89 = .ok (.iconst 1, 1) := by decide +kernel
theorem dX10_kindOf_90 : decode cX10_kindOf 90 = .ok (.goto 5, 3) := by decide +kernel
theorem dX10_kindOf_93 : decode cX10_kindOf 93 = .ok (.bipush (-4), 2) := by decide +kernel
theorem dX10_kindOf_95 : decode cX10_kindOf 95 = .ok (.ireturn, 1) := by decide +kernel
set_option maxRecDepth 20000 in
theorem ggX10_readsNumbers_X10_at : GoodIn wsX10_readsNumbers wsX10_at := goodIn_r _ [8, 9, 10, 14, 15, 16, 17, 18, 19, 20, 21, 22, 23, 24, 25, 26, 27, 28] (by decide +kernel) (by decide +kernel)
set_option maxRecDepth 20000 in
theorem gX10_readsNumbers_X10_at : GoodIn wsX10_readsNumbers (wsV RX10 196 RX10 yX10_at wsX10_at) := goodIn_app (goodIn_of _ (by decide +kernel)) ggX10_readsNumbers_X10_at
set_option maxRecDepth 20000 in
theorem ggX10_readsNumbers_X10_within : GoodIn wsX10_readsNumbers wsX10_within := goodIn_r _ [13] (by decide +kernel) (by decide +kernel)
set_option maxRecDepth 20000 in
theorem gX10_readsNumbers_X10_within : GoodIn wsX10_readsNumbers (va_wsS RX10 43 yX10_within wsX10_within) := goodIn_app (goodIn_of _ (by decide +kernel)) ggX10_readsNumbers_X10_within
theorem dX10_readsNumbers_0 : decode cX10_readsNumbers 0 = .ok (.aload_n 0, 1) := by decide +kernel
theorem dX10_readsNumbers_1 : decode cX10_readsNumbers 1 = .ok (.iconst 0, 1) := by decide +kernel
theorem dX10_readsNumbers_2 : decode cX10_readsNumbers 2 = .ok (.putfield 211, 3) := by decide +kernel
theorem dX10_readsNumbers_5 : decode cX10_readsNumbers 5 = .ok (.aload_n 0, 1) := by decide +kernel
theorem dX10_readsNumbers_6 : decode cX10_readsNumbers 6 = .ok (.getfield 211, 3) := by decide +kernel
theorem dX10_readsNumbers_9 : decode cX10_readsNumbers 9 = .ok (.iload_n 1, 1) := by decide +kernel
theorem dX10_readsNumbers_10 : decode cX10_readsNumbers 10 = .ok (.if_icmp .ge 129, 3) := by decide +kernel
theorem dX10_readsNumbers_13 : decode cX10_readsNumbers 13 = .ok (.aload_n 0, 1) := by decide +kernel
theorem dX10_readsNumbers_14 : decode cX10_readsNumbers 14 = .ok (.aload_n 0, 1) := by decide +kernel
theorem dX10_readsNumbers_15 : decode cX10_readsNumbers 15 = .ok (.getfield 193, 3) := by decide +kernel
theorem dX10_readsNumbers_18 : decode cX10_readsNumbers 18 = .ok (.invokevirtual 196, 3) := by decide +kernel
theorem dX10_readsNumbers_21 : decode cX10_readsNumbers 21 = .ok (.bipush 32, 2) := by decide +kernel
theorem dX10_readsNumbers_23 : decode cX10_readsNumbers 23 = .ok (.if_icmp .ne 116, 3) := by decide +kernel
theorem dX10_readsNumbers_26 : decode cX10_readsNumbers 26 = .ok (.aload_n 0, 1) := by decide +kernel
theorem dX10_readsNumbers_27 : decode cX10_readsNumbers 27 = .ok (.aload_n 0, 1) := by decide +kernel
theorem dX10_readsNumbers_28 : decode cX10_readsNumbers 28 = .ok (.getfield 193, 3) := by decide +kernel
theorem dX10_readsNumbers_31 : decode cX10_readsNumbers 31 = .ok (.iconst 1, 1) := by decide +kernel
theorem dX10_readsNumbers_32 : decode cX10_readsNumbers 32 = .ok (.iadd, 1) := by decide +kernel
theorem dX10_readsNumbers_33 : decode cX10_readsNumbers 33 = .ok (.invokevirtual 196, 3) := by decide +kernel
theorem dX10_readsNumbers_36 : decode cX10_readsNumbers 36 = .ok (.bipush 48, 2) := by decide +kernel
theorem dX10_readsNumbers_38 : decode cX10_readsNumbers 38 = .ok (.bipush 57, 2) := by decide +kernel
theorem dX10_readsNumbers_40 : decode cX10_readsNumbers 40 = .ok (.invokestatic 43, 3) := by decide +kernel
theorem dX10_readsNumbers_43 : decode cX10_readsNumbers 43 = .ok (.ifCond .eq 96, 3) := by decide +kernel
theorem dX10_readsNumbers_46 : decode cX10_readsNumbers 46 = .ok (.aload_n 0, 1) := by decide +kernel
theorem dX10_readsNumbers_47 : decode cX10_readsNumbers 47 = .ok (.dup, 1) := by decide +kernel
theorem dX10_readsNumbers_48 : decode cX10_readsNumbers 48 = .ok (.getfield 193, 3) := by decide +kernel
theorem dX10_readsNumbers_51 : decode cX10_readsNumbers 51 = .ok (.iconst 1, 1) := by decide +kernel
theorem dX10_readsNumbers_52 : decode cX10_readsNumbers 52 = .ok (.iadd, 1) := by decide +kernel
theorem dX10_readsNumbers_53 : decode cX10_readsNumbers 53 = .ok (.putfield 193, 3) := by decide +kernel
theorem dX10_readsNumbers_56 : decode cX10_readsNumbers 56 = .ok (.iconst 0, 1) := by decide +kernel
theorem dX10_readsNumbers_57 : decode cX10_readsNumbers 57 = .ok (.istore_n 2, 1) := by decide +kernel
theorem dX10_readsNumbers_58 : decode cX10_readsNumbers 58 = .ok (.iconst 0, 1) := by decide +kernel
theorem dX10_readsNumbers_59 : decode cX10_readsNumbers 59 = .ok (.istore_n 3, 1) := by decide +kernel
theorem dX10_readsNumbers_60 : decode cX10_readsNumbers 60 = .ok (.iload_n 3, 1) := by decide +kernel
theorem dX10_readsNumbers_61 : decode cX10_readsNumbers 61 = .ok (.iconst 4, 1) := by decide +kernel
theorem dX10_readsNumbers_62 : decode cX10_readsNumbers 62 = .ok (.if_icmp .ge 54, 3) := by decide +kernel
theorem dX10_readsNumbers_65 : decode cX10_readsNumbers 65 = .ok (.aload_n 0, 1) := by decide +kernel
theorem dX10_readsNumbers_66 : decode cX10_readsNumbers 66 = .ok (.aload_n 0, 1) := by decide +kernel
theorem dX10_readsNumbers_67 : decode cX10_readsNumbers 67 = .ok (.getfield 193, 3) := by decide +kernel
theorem dX10_readsNumbers_70 : decode cX10_readsNumbers 70 = .ok (.invokevirtual 196, 3) := by decide +kernel
theorem dX10_readsNumbers_73 : decode cX10_readsNumbers 73 = .ok (.bipush 48, 2) := by decide +kernel
theorem dX10_readsNumbers_75 : decode cX10_readsNumbers 75 = .ok (.bipush 57, 2) := by decide +kernel
theorem dX10_readsNumbers_77 : decode cX10_readsNumbers 77 = .ok (.invokestatic 43, 3) := by decide +kernel
theorem dX10_readsNumbers_80 : decode cX10_readsNumbers 80 = .ok (.ifCond .eq 36, 3) := by decide +kernel
theorem dX10_readsNumbers_83 : decode cX10_readsNumbers 83 = .ok (.bipush 10, 2) := by decide +kernel
theorem dX10_readsNumbers_85 : decode cX10_readsNumbers 85 = .ok (.iload_n 2, 1) := by decide +kernel
theorem dX10_readsNumbers_86 : decode cX10_readsNumbers 86 = .ok (.imul, 1) := by decide +kernel
theorem dX10_readsNumbers_87 : decode cX10_readsNumbers 87 = .ok (.aload_n 0, 1) := by decide +kernel
theorem dX10_readsNumbers_88 : decode cX10_readsNumbers 88 = .ok (.aload_n 0, 1) := by decide +kernel
theorem dX10_readsNumbers_89 : decode cX10_readsNumbers 89 = .ok (.getfield 193, 3) := by decide +kernel
theorem dX10_readsNumbers_92 : decode cX10_readsNumbers 92 = .ok (.invokevirtual 196, 3) := by decide +kernel
theorem dX10_readsNumbers_95 : decode cX10_readsNumbers 95 = .ok (.iadd, 1) := by decide +kernel
theorem dX10_readsNumbers_96 : decode cX10_readsNumbers 96 = .ok (.bipush 48, 2) := by decide +kernel
theorem dX10_readsNumbers_98 : decode cX10_readsNumbers 98 = .ok (.isub, 1) := by decide +kernel
theorem dX10_readsNumbers_99 : decode cX10_readsNumbers 99 = .ok (.istore_n 2, 1) := by decide +kernel
theorem dX10_readsNumbers_100 : decode cX10_readsNumbers 100 = .ok (.aload_n 0, 1) := by decide +kernel
theorem dX10_readsNumbers_101 : decode cX10_readsNumbers 101 = .ok (.dup, 1) := by decide +kernel
theorem dX10_readsNumbers_102 : decode cX10_readsNumbers 102 = .ok (.getfield 193, 3) := by decide +kernel
theorem dX10_readsNumbers_105 : decode cX10_readsNumbers 105 = .ok (.iconst 1, 1) := by decide +kernel
theorem dX10_readsNumbers_106 : decode cX10_readsNumbers 106 = .ok (.iadd, 1) := by decide +kernel
theorem dX10_readsNumbers_107 : decode cX10_readsNumbers 107 = .ok (.putfield 193, 3) := by decide +kernel
theorem dX10_readsNumbers_110 : decode cX10_readsNumbers 110 = .ok (.iinc 3 1, 3) := by decide +kernel
theorem dX10_readsNumbers_113 : decode cX10_readsNumbers 113 = .ok (.goto (-53), 3) := by decide +kernel
theorem dX10_readsNumbers_116 : decode cX10_readsNumbers 116 = .ok (.aload_n 0, 1) := by decide +kernel
theorem dX10_readsNumbers_117 : decode cX10_readsNumbers 117 = .ok (.getfield 28, 3) := by decide +kernel
theorem dX10_readsNumbers_120 : decode cX10_readsNumbers 120 = .ok (.aload_n 0, 1) := by decide +kernel
theorem dX10_readsNumbers_121 : decode cX10_readsNumbers 121 = .ok (.getfield 211, 3) := by decide +kernel
theorem dX10_readsNumbers_124 : decode cX10_readsNumbers 124 = .ok (.iload_n 2, 1) := by decide +kernel
theorem dX10_readsNumbers_125 : decode cX10_readsNumbers 125 = .ok (.iastore, 1) := by decide +kernel
theorem dX10_readsNumbers_126 : decode cX10_readsNumbers 126 = .ok (.aload_n 0, 1) := by decide +kernel
theorem dX10_readsNumbers_127 : decode cX10_readsNumbers 127 = .ok (.dup, 1) := by decide +kernel
theorem dX10_readsNumbers_128 : decode cX10_readsNumbers 128 = .ok (.getfield 211, 3) := by decide +kernel
theorem dX10_readsNumbers_131 : decode cX10_readsNumbers 131 = .ok (.iconst 1, 1) := by decide +kernel
theorem dX10_readsNumbers_132 : decode cX10_readsNumbers 132 = .ok (.iadd, 1) := by decide +kernel
theorem dX10_readsNumbers_133 : decode cX10_readsNumbers 133 = .ok (.putfield 211, 3) := by decide +kernel
theorem dX10_readsNumbers_136 : decode cX10_readsNumbers 136 = .ok (.goto (-131), 3) := by decide +kernel
theorem dX10_readsNumbers_139 : decode cX10_readsNumbers 139 = .ok (.return_, 1) := by decide +kernel
set_option maxRecDepth 20000 in
theorem ggX10_second_X10_at : GoodIn wsX10_second wsX10_at := goodIn_r _ [6, 7, 8, 30, 31, 32, 33, 34, 35, 36, 37, 38, 39, 40, 41, 42, 43, 44] (by decide +kernel) (by decide +kernel)
set_option maxRecDepth 20000 in
theorem gX10_second_X10_at : GoodIn wsX10_second (wsV RX10 196 RX10 yX10_at wsX10_at) := goodIn_app (goodIn_of _ (by decide +kernel)) ggX10_second_X10_at
set_option maxRecDepth 20000 in
theorem ggX10_second_X10_word : GoodIn wsX10_second wsX10_word := goodIn_r _ [12, 1, 13, 14, 2, 3, 4, 5, 6, 7, 8, 15, 16, 17, 30, 31, 32, 33, 34, 35, 36, 37, 38, 39, 40, 41, 42, 43, 44] (by decide +kernel) (by decide +kernel)
set_option maxRecDepth 20000 in
theorem gX10_second_X10_word : GoodIn wsX10_second (wsV RX10 214 RX10 yX10_word wsX10_word) := goodIn_app (goodIn_of _ (by decide +kernel)) ggX10_second_X10_word
set_option maxRecDepth 20000 in
theorem ggX10_second_X10_colorOf : GoodIn wsX10_second wsX10_colorOf := goodIn_r _ [20, 21, 22, 5, 23, 13, 14, 24, 25, 26] (by decide +kernel) (by decide +kernel)
set_option maxRecDepth 20000 in
theorem gX10_second_X10_colorOf : GoodIn wsX10_second (va_wsS RX10 218 yX10_colorOf wsX10_colorOf) := goodIn_app (goodIn_of _ (by decide +kernel)) ggX10_second_X10_colorOf
set_option maxRecDepth 20000 in
theorem ggX10_second_X10_kindOf : GoodIn wsX10_second wsX10_kindOf := goodIn_r _ [29, 21, 22, 5, 23, 13, 14, 24, 25, 26] (by decide +kernel) (by decide +kernel)
set_option maxRecDepth 20000 in
theorem gX10_second_X10_kindOf : GoodIn wsX10_second (va_wsS RX10 222 yX10_kindOf wsX10_kindOf) := goodIn_app (goodIn_of _ (by decide +kernel)) ggX10_second_X10_kindOf
theorem dX10_second_0 : decode cX10_second 0 = .ok (.aload_n 0, 1) := by decide +kernel
theorem dX10_second_1 : decode cX10_second 1 = .ok (.aload_n 0, 1) := by decide +kernel
theorem dX10_second_2 : decode cX10_second 2 = .ok (.getfield 193, 3) := by decide +kernel
theorem dX10_second_5 : decode cX10_second 5 = .ok (.invokevirtual 196, 3) := by decide +kernel
theorem dX10_second_8 : decode cX10_second 8 = .ok (.bipush 32, 2) := by decide +kernel
theorem dX10_second_10 : decode cX10_second 10 = .ok (.if_icmp .eq 6, 3) := by decide +kernel
theorem dX10_second_13 : decode cX10_second 13 = .ok (.bipush (-4), 2) := by decide +kernel
theorem dX10_second_15 : decode cX10_second 15 = .ok (.ireturn, 1) := by decide +kernel
theorem dX10_second_16 : decode cX10_second 16 = .ok (.aload_n 0, 1) := by decide +kernel
theorem dX10_second_17 : decode cX10_second 17 = .ok (.dup, 1) := by decide +kernel
theorem dX10_second_18 : decode cX10_second 18 = .ok (.getfield 193, 3) := by decide +kernel
theorem dX10_second_21 : decode cX10_second 21 = .ok (.iconst 1, 1) := by decide +kernel
theorem dX10_second_22 : decode cX10_second 22 = .ok (.iadd, 1) := by decide +kernel
theorem dX10_second_23 : decode cX10_second 23 = .ok (.putfield 193, 3) := by decide +kernel
theorem dX10_second_26 : decode cX10_second 26 = .ok (.aload_n 0, 1) := by decide +kernel
theorem dX10_second_27 : decode cX10_second 27 = .ok (.invokevirtual 214, 3) := by decide +kernel
theorem dX10_second_30 : decode cX10_second 30 = .ok (.lstore_n 2, 1) := by decide +kernel
theorem dX10_second_31 : decode cX10_second 31 = .ok (.iload_n 1, 1) := by decide +kernel
theorem dX10_second_32 : decode cX10_second 32 = .ok (.ifCond .ne 10, 3) := by decide +kernel
theorem dX10_second_35 : decode cX10_second 35 = .ok (.lload_n 2, 1) := by decide +kernel
theorem dX10_second_36 : decode cX10_second 36 = .ok (.invokestatic 218, 3) := by decide +kernel
theorem dX10_second_39 : decode cX10_second 39 = .ok (.goto 17, 3) := by decide +kernel
theorem dX10_second_42 : decode cX10_second 42 = .ok (.lload_n 2, 1) := by decide +kernel
theorem dX10_second_43 : decode cX10_second 43 = .ok (.iload_n 1, 1) := by decide +kernel
theorem dX10_second_44 : decode cX10_second 44 = .ok (.iconst 2, 1) := by decide +kernel
theorem dX10_second_45 : decode cX10_second 45 = .ok (.if_icmp .ne 7, 3) := by decide +kernel
theorem dX10_second_48 : decode cX10_second 48 = .ok (.iconst 1, 1) := by decide +kernel
theorem dX10_second_49 : decode cX10_second 49 = .ok (.goto 4, 3) := by decide +kernel
theorem dX10_second_52 : decode cX10_second 52 = .ok (.iconst 0, 1) := by decide +kernel
theorem dX10_second_53 : decode cX10_second 53 = .ok (.invokestatic 222, 3) := by decide +kernel
theorem dX10_second_56 : decode cX10_second 56 = .ok (.ireturn, 1) := by decide +kernel
set_option maxRecDepth 20000 in
theorem ggX10_areInRange_X10_isPoint : GoodIn wsX10_areInRange wsX10_isPoint := goodIn_r _ [5, 6, 7, 4, 8] (by decide +kernel) (by decide +kernel)
set_option maxRecDepth 20000 in
theorem gX10_areInRange_X10_isPoint : GoodIn wsX10_areInRange (va_wsS RX10 47 yX10_isPoint wsX10_isPoint) := goodIn_app (goodIn_of _ (by decide +kernel)) ggX10_areInRange_X10_isPoint
set_option maxRecDepth 20000 in
theorem ggX10_areInRange_X10_isLamp : GoodIn wsX10_areInRange wsX10_isLamp := goodIn_r _ [11, 6, 7, 4, 8] (by decide +kernel) (by decide +kernel)
set_option maxRecDepth 20000 in
theorem gX10_areInRange_X10_isLamp : GoodIn wsX10_areInRange (va_wsS RX10 135 yX10_isLamp wsX10_isLamp) := goodIn_app (goodIn_of _ (by decide +kernel)) ggX10_areInRange_X10_isLamp
set_option maxRecDepth 20000 in
theorem ggX10_areInRange_X10_canSet : GoodIn wsX10_areInRange wsX10_canSet := goodIn_r _ [14, 6, 7, 4, 8] (by decide +kernel) (by decide +kernel)
set_option maxRecDepth 20000 in
theorem gX10_areInRange_X10_canSet : GoodIn wsX10_areInRange (va_wsS RX10 148 yX10_canSet wsX10_canSet) := goodIn_app (goodIn_of _ (by decide +kernel)) ggX10_areInRange_X10_canSet
set_option maxRecDepth 20000 in
theorem ggX10_areInRange_X10_areParts : GoodIn wsX10_areInRange wsX10_areParts := goodIn_r _ [18, 19, 1, 20, 21, 4, 22, 6, 7, 8, 23, 24, 25, 26, 27, 28, 29, 30, 31, 32, 33, 34, 35, 36, 37, 38, 39, 40] (by decide +kernel) (by decide +kernel)
set_option maxRecDepth 20000 in
theorem gX10_areInRange_X10_areParts : GoodIn wsX10_areInRange (wsV RX10 226 RX10 yX10_areParts wsX10_areParts) := goodIn_app (goodIn_of _ (by decide +kernel)) ggX10_areInRange_X10_areParts
theorem dX10_areInRange_0 : decode cX10_areInRange 0 = .ok (.aload_n 0, 1) := by decide +kernel
theorem dX10_areInRange_1 : decode cX10_areInRange 1 = .ok (.getfield 28, 3) := by decide +kernel
theorem dX10_areInRange_4 : decode cX10_areInRange 4 = .ok (.iconst 0, 1) := by decide +kernel
theorem dX10_areInRange_5 : decode cX10_areInRange 5 = .ok (.iaload, 1) := by decide +kernel
theorem dX10_areInRange_6 : decode cX10_areInRange 6 = .ok (.istore_n 2, 1) := by decide +kernel
theorem dX10_areInRange_7 : decode cX10_areInRange 7 = .ok (.aload_n 0, 1) := by decide +kernel
theorem dX10_areInRange_8 : decode cX10_areInRange 8 = .ok (.getfield 28, 3) := by decide +kernel
theorem dX10_areInRange_11 : decode cX10_areInRange 11 = .ok (.iconst 1, 1) := by decide +kernel
theorem dX10_areInRange_12 : decode cX10_areInRange 12 = .ok (.iaload, 1) := by decide +kernel
theorem dX10_areInRange_13 : decode cX10_areInRange 13 = .ok (.istore_n 3, 1) := by decide +kernel
theorem dX10_areInRange_14 : decode cX10_areInRange 14 = .ok (.iload_n 1, 1) := by decide +kernel
theorem dX10_areInRange_15 : decode cX10_areInRange 15 = .ok (.tableswitch 75 0 5 #[37, 75, 75, 57, 63, 69], 37) := by decide +kernel
theorem dX10_areInRange_52 : decode cX10_areInRange 52 = .ok (.iload_n 2, 1) := by decide +kernel
theorem dX10_areInRange_53 : decode cX10_areInRange 53 = .ok (.invokestatic 47, 3) := by decide +kernel
theorem dX10_areInRange_56 : decode cX10_areInRange 56 = .ok (.ifCond .eq 14, 3) := by decide +kernel
theorem dX10_areInRange_59 : decode cX10_areInRange 59 = .ok (.iload_n 3, 1) := by decide +kernel
theorem dX10_areInRange_60 : decode cX10_areInRange 60 = .ok (.invokestatic 47, 3) := by decide +kernel
theorem dX10_areInRange_63 : decode cX10_areInRange 63 = .ok (.ifCond .eq 7, 3) := by decide +kernel
theorem dX10_areInRange_66 : decode cX10_areInRange 66 = .ok (.iconst 1, 1) := by decide +kernel
theorem dX10_areInRange_67 : decode cX10_areInRange 67 = .ok (.goto 4, 3) := by decide +kernel
theorem dX10_areInRange_70 : decode cX10_areInRange 70 = .ok (.iconst 0, 1) := by decide +kernel
theorem dX10_areInRange_71 : decode cX10_areInRange 71 = .ok (.ireturn, 1) := by decide +kernel
theorem dX10_areInRange_72 : decode cX10_areInRange 72 = .ok (.iload_n 2, 1) := by decide +kernel
theorem dX10_areInRange_73 : decode cX10_areInRange 73 = .ok (.iload_n 3, 1) := by decide +kernel
theorem dX10_areInRange_74 : decode cX10_areInRange 74 = .ok (.invokestatic 135, 3) := by decide +kernel
theorem dX10_areInRange_77 : decode cX10_areInRange 77 = .ok (.ireturn, 1) := by decide +kernel
theorem dX10_areInRange_78 : decode cX10_areInRange 78 = .ok (.iconst 1, 1) := by decide +kernel
theorem dX10_areInRange_79 : decode cX10_areInRange 79 = .ok (.iload_n 2, 1) := by decide +kernel
theorem dX10_areInRange_80 : decode cX10_areInRange 80 = .ok (.invokestatic 148, 3) := by decide +kernel
theorem dX10_areInRange_83 : decode cX10_areInRange 83 = .ok (.ireturn, 1) := by decide +kernel
theorem dX10_areInRange_84 : decode cX10_areInRange 84 = .ok (.iconst 0, 1) := by decide +kernel
theorem dX10_areInRange_85 : decode cX10_areInRange 85 = .ok (.iload_n 2, 1) := by decide +kernel
theorem dX10_areInRange_86 : decode cX10_areInRange 86 = .ok (.invokestatic 148, 3) := by decide +kernel
theorem dX10_areInRange_89 : decode cX10_areInRange 89 = .ok (.ireturn, 1) := by decide +kernel
theorem dX10_areInRange_90 : decode cX10_areInRange 90 = .ok (.aload_n 0, 1) := by decide +kernel
theorem dX10_areInRange_91 : decode cX10_areInRange 91 = .ok (.invokevirtual 226, 3) := by decide +kernel
theorem dX10_areInRange_94 : decode cX10_areInRange 94 = .ok (.ireturn, 1) := by decide +kernel
set_option maxRecDepth 20000 in
theorem ggX10_areParts_X10_isLight : GoodIn wsX10_areParts wsX10_isLight := goodIn_r _ [6, 7, 8, 5, 9] (by decide +kernel) (by decide +kernel)
set_option maxRecDepth 20000 in
theorem gX10_areParts_X10_isLight : GoodIn wsX10_areParts (va_wsS RX10 95 yX10_isLight wsX10_isLight) := goodIn_app (goodIn_of _ (by decide +kernel)) ggX10_areParts_X10_isLight
set_option maxRecDepth 20000 in
theorem ggX10_areParts_X10_isDark : GoodIn wsX10_areParts wsX10_isDark := goodIn_r _ [12, 7, 8, 5, 9] (by decide +kernel) (by decide +kernel)
set_option maxRecDepth 20000 in
theorem gX10_areParts_X10_isDark : GoodIn wsX10_areParts (va_wsS RX10 98 yX10_isDark wsX10_isDark) := goodIn_app (goodIn_of _ (by decide +kernel)) ggX10_areParts_X10_isDark
theorem dX10_areParts_0 : decode cX10_areParts 0 = .ok (.iconst 1, 1) := by decide +kernel
theorem dX10_areParts_1 : decode cX10_areParts 1 = .ok (.istore_n 1, 1) := by decide +kernel
theorem dX10_areParts_2 : decode cX10_areParts 2 = .ok (.iconst 0, 1) := by decide +kernel
theorem dX10_areParts_3 : decode cX10_areParts 3 = .ok (.istore_n 2, 1) := by decide +kernel
theorem dX10_areParts_4 : decode cX10_areParts 4 = .ok (.iload_n 2, 1) := by decide +kernel
theorem dX10_areParts_5 : decode cX10_areParts 5 = .ok (.aload_n 0, 1) := by decide +kernel
theorem dX10_areParts_6 : decode cX10_areParts 6 = .ok (.getfield 211, 3) := by decide +kernel
theorem dX10_areParts_9 : decode cX10_areParts 9 = .ok (.if_icmp .ge 52, 3) := by decide +kernel
theorem dX10_areParts_12 : decode cX10_areParts 12 = .ok (.iload_n 1, 1) := by decide +kernel
theorem dX10_areParts_13 : decode cX10_areParts 13 = .ok (.ifCond .eq 40, 3) := by decide +kernel
theorem dX10_areParts_16 : decode cX10_areParts 16 = .ok (.iload_n 2, 1) := by decide +kernel
theorem dX10_areParts_17 : decode cX10_areParts 17 = .ok (.iconst 2, 1) := by decide +kernel
theorem dX10_areParts_18 : decode cX10_areParts 18 = .ok (.irem, 1) := by decide +kernel
theorem dX10_areParts_19 : decode cX10_areParts 19 = .ok (.ifCond .ne 18, 3) := by decide +kernel
theorem dX10_areParts_22 : decode cX10_areParts 22 = .ok (.aload_n 0, 1) := by decide +kernel
theorem dX10_areParts_23 : decode cX10_areParts 23 = .ok (.getfield 28, 3) := by decide +kernel
theorem dX10_areParts_26 : decode cX10_areParts 26 = .ok (.iload_n 2, 1) := by decide +kernel
theorem dX10_areParts_27 : decode cX10_areParts 27 = .ok (.iaload, 1) := by decide +kernel
theorem dX10_areParts_28 : decode cX10_areParts 28 = .ok (.invokestatic 95, 3) := by decide +kernel
theorem dX10_areParts_31 : decode cX10_areParts 31 = .ok (.ifCond .eq 22, 3) := by decide +kernel
theorem dX10_areParts_34 : decode cX10_areParts 34 = .ok (.goto 15, 3) := by decide +kernel
theorem dX10_areParts_37 : decode cX10_areParts 37 = .ok (.aload_n 0, 1) := by decide +kernel
theorem dX10_areParts_38 : decode cX10_areParts 38 = .ok (.getfield 28, 3) := by decide +kernel
theorem dX10_areParts_41 : decode cX10_areParts 41 = .ok (.iload_n 2, 1) := by decide +kernel
theorem dX10_areParts_42 : decode cX10_areParts 42 = .ok (.iaload, 1) := by decide +kernel
theorem dX10_areParts_43 : decode cX10_areParts 43 = .ok (.invokestatic 98, 3) := by decide +kernel
theorem dX10_areParts_46 : decode cX10_areParts 46 = .ok (.ifCond .eq 7, 3) := by decide +kernel
theorem dX10_areParts_49 : decode cX10_areParts 49 = .ok (.iconst 1, 1) := by decide +kernel
theorem dX10_areParts_50 : decode cX10_areParts 50 = .ok (.goto 4, 3) := by decide +kernel
theorem dX10_areParts_53 : decode cX10_areParts 53 = .ok (.iconst 0, 1) := by decide +kernel
theorem dX10_areParts_54 : decode cX10_areParts 54 = .ok (.istore_n 1, 1) := by decide +kernel
theorem dX10_areParts_55 : decode cX10_areParts 55 = .ok (.iinc 2 1, 3) := by decide +kernel
theorem dX10_areParts_58 : decode cX10_areParts 58 = .ok (.goto (-54), 3) := by decide +kernel
theorem dX10_areParts_61 : decode cX10_areParts 61 = .ok (.iload_n 1, 1) := by decide +kernel
theorem dX10_areParts_62 : decode cX10_areParts 62 = .ok (.ireturn, 1) := by decide +kernel
set_option maxRecDepth 20000 in
theorem ggX10_reasonOf_X10_word : GoodIn wsX10_reasonOf wsX10_word := goodIn_r _ [8, 2, 9, 10, 11, 12, 13, 7, 14, 15, 16, 17, 18, 19, 103, 104, 105, 106, 107, 108, 109, 110, 111, 112, 113, 114, 115, 116, 117] (by decide +kernel) (by decide +kernel)
set_option maxRecDepth 20000 in
theorem gX10_reasonOf_X10_word : GoodIn wsX10_reasonOf (wsV RX10 214 RX10 yX10_word wsX10_word) := goodIn_app (goodIn_of _ (by decide +kernel)) ggX10_reasonOf_X10_word
set_option maxRecDepth 20000 in
theorem ggX10_reasonOf_X10_itemOf : GoodIn wsX10_reasonOf wsX10_itemOf := goodIn_r _ [22, 23, 24, 7, 25, 9, 10, 26, 27, 28] (by decide +kernel) (by decide +kernel)
set_option maxRecDepth 20000 in
theorem gX10_reasonOf_X10_itemOf : GoodIn wsX10_reasonOf (va_wsS RX10 230 yX10_itemOf wsX10_itemOf) := goodIn_app (goodIn_of _ (by decide +kernel)) ggX10_reasonOf_X10_itemOf
set_option maxRecDepth 20000 in
theorem ggX10_reasonOf_X10_second : GoodIn wsX10_reasonOf wsX10_second := goodIn_r _ [32, 2, 11, 12, 13, 7, 14, 15, 16, 4, 5, 6, 8, 9, 10, 17, 18, 19, 33, 34, 35, 23, 24, 25, 26, 27, 28, 36, 37, 38, 103, 104, 105, 106, 107, 108, 109, 110, 111, 112, 113, 114, 115, 116, 117] (by decide +kernel) (by decide +kernel)
set_option maxRecDepth 20000 in
theorem gX10_reasonOf_X10_second : GoodIn wsX10_reasonOf (wsV RX10 233 RX10 yX10_second wsX10_second) := goodIn_app (goodIn_of _ (by decide +kernel)) ggX10_reasonOf_X10_second
set_option maxRecDepth 20000 in
theorem ggX10_reasonOf_X10_readsNumbers : GoodIn wsX10_reasonOf wsX10_readsNumbers := goodIn_r _ [42, 1, 2, 43, 11, 12, 13, 7, 14, 15, 16, 17, 18, 19, 103, 104, 105, 106, 107, 108, 109, 110, 111, 112, 113, 114, 115, 116, 117] (by decide +kernel) (by decide +kernel)
set_option maxRecDepth 20000 in
theorem gX10_reasonOf_X10_readsNumbers : GoodIn wsX10_reasonOf (wsV RX10 236 RX10 yX10_readsNumbers wsX10_readsNumbers) := goodIn_app (goodIn_of _ (by decide +kernel)) ggX10_reasonOf_X10_readsNumbers
set_option maxRecDepth 20000 in
theorem ggX10_reasonOf_X10_at : GoodIn wsX10_reasonOf wsX10_at := goodIn_r _ [14, 15, 16, 103, 104, 105, 106, 107, 108, 109, 110, 111, 112, 113, 114, 115, 116, 117] (by decide +kernel) (by decide +kernel)
set_option maxRecDepth 20000 in
theorem gX10_reasonOf_X10_at : GoodIn wsX10_reasonOf (wsV RX10 196 RX10 yX10_at wsX10_at) := goodIn_app (goodIn_of _ (by decide +kernel)) ggX10_reasonOf_X10_at
set_option maxRecDepth 20000 in
theorem ggX10_reasonOf_X10_areInRange : GoodIn wsX10_reasonOf wsX10_areInRange := goodIn_r _ [47, 43, 48, 49, 7, 50, 17, 18, 19, 51, 52, 53, 54, 55, 56, 57, 58, 59, 60, 1, 61, 62, 63, 64, 65, 66, 103, 104, 105, 106, 107, 108, 109, 110, 111, 112, 113, 114, 115, 116, 117] (by decide +kernel) (by decide +kernel)
set_option maxRecDepth 20000 in
theorem gX10_reasonOf_X10_areInRange : GoodIn wsX10_reasonOf (wsV RX10 240 RX10 yX10_areInRange wsX10_areInRange) := goodIn_app (goodIn_of _ (by decide +kernel)) ggX10_reasonOf_X10_areInRange
set_option maxRecDepth 20000 in
theorem ggX10_reasonOf_X10_empty : GoodIn wsX10_reasonOf wsX10_empty := goodIn_r _ [70, 71, 72, 73, 7, 74, 3, 103, 104, 105, 106, 107, 108, 109, 110, 111, 112, 113, 114, 115, 116, 117] (by decide +kernel) (by decide +kernel)
set_option maxRecDepth 20000 in
theorem gX10_reasonOf_X10_empty : GoodIn wsX10_reasonOf (wsV RX10 138 RX10 yX10_empty wsX10_empty) := goodIn_app (goodIn_of _ (by decide +kernel)) ggX10_reasonOf_X10_empty
set_option maxRecDepth 20000 in
theorem ggX10_reasonOf_X10_does : GoodIn wsX10_reasonOf wsX10_does := goodIn_r _ [78, 43, 1, 3, 79, 80, 81, 7, 82, 83, 84, 85, 86, 87, 88, 89, 90, 91, 92, 93, 94, 95, 96, 97, 98, 71, 72, 73, 74, 67, 68, 69, 70, 99, 100, 101, 102, 103, 104, 105, 106, 107, 108, 109, 110, 111, 112, 113, 114, 115, 116, 117] (by decide +kernel) (by decide +kernel)
set_option maxRecDepth 20000 in
theorem gX10_reasonOf_X10_does : GoodIn wsX10_reasonOf (wsV RX10 243 RX10 yX10_does wsX10_does) := goodIn_app (goodIn_of _ (by decide +kernel)) ggX10_reasonOf_X10_does
theorem dX10_reasonOf_0 : decode cX10_reasonOf 0 = .ok (.aload_n 0, 1) := by decide +kernel
theorem dX10_reasonOf_1 : decode cX10_reasonOf 1 = .ok (.invokevirtual 214, 3) := by decide +kernel
theorem dX10_reasonOf_4 : decode cX10_reasonOf 4 = .ok (.invokestatic 230, 3) := by decide +kernel
theorem dX10_reasonOf_7 : decode cX10_reasonOf 7 = .ok (.istore_n 1, 1) := by decide +kernel
theorem dX10_reasonOf_8 : decode cX10_reasonOf 8 = .ok (.iload_n 1, 1) := by decide +kernel
theorem dX10_reasonOf_9 : decode cX10_reasonOf 9 = .ok (.bipush (-4), 2) := by decide +kernel
theorem dX10_reasonOf_11 : decode cX10_reasonOf 11 = .ok (.if_icmp .ne 5, 3) := by decide +kernel
theorem dX10_reasonOf_14 : decode cX10_reasonOf 14 = .ok (.iconst 1, 1) := by decide +kernel
theorem dX10_reasonOf_15 : decode cX10_reasonOf 15 = .ok (.ireturn, 1) := by decide +kernel
theorem dX10_reasonOf_16 : decode cX10_reasonOf 16 = .ok (.iload_n 1, 1) := by decide +kernel
theorem dX10_reasonOf_17 : decode cX10_reasonOf 17 = .ok (.ifCond .eq 13, 3) := by decide +kernel
theorem dX10_reasonOf_20 : decode cX10_reasonOf 20 = .ok (.iload_n 1, 1) := by decide +kernel
theorem dX10_reasonOf_21 : decode cX10_reasonOf 21 = .ok (.iconst 2, 1) := by decide +kernel
theorem dX10_reasonOf_22 : decode cX10_reasonOf 22 = .ok (.if_icmp .eq 8, 3) := by decide +kernel
theorem dX10_reasonOf_25 : decode cX10_reasonOf 25 = .ok (.iload_n 1, 1) := by decide +kernel
theorem dX10_reasonOf_26 : decode cX10_reasonOf 26 = .ok (.iconst 3, 1) := by decide +kernel
theorem dX10_reasonOf_27 : decode cX10_reasonOf 27 = .ok (.if_icmp .ne 11, 3) := by decide +kernel
theorem dX10_reasonOf_30 : decode cX10_reasonOf 30 = .ok (.aload_n 0, 1) := by decide +kernel
theorem dX10_reasonOf_31 : decode cX10_reasonOf 31 = .ok (.iload_n 1, 1) := by decide +kernel
theorem dX10_reasonOf_32 : decode cX10_reasonOf 32 = .ok (.invokevirtual 233, 3) := by decide +kernel
theorem dX10_reasonOf_35 : decode cX10_reasonOf 35 = .ok (.goto 4, 3) := by decide +kernel
theorem dX10_reasonOf_38 : decode cX10_reasonOf 38 = .ok (.iconst 0, 1) := by decide +kernel
theorem dX10_reasonOf_39 : decode cX10_reasonOf 39 = .ok (.istore_n 2, 1) := by decide +kernel
theorem dX10_reasonOf_40 : decode cX10_reasonOf 40 = .ok (.iload_n 2, 1) := by decide +kernel
theorem dX10_reasonOf_41 : decode cX10_reasonOf 41 = .ok (.bipush (-4), 2) := by decide +kernel
theorem dX10_reasonOf_43 : decode cX10_reasonOf 43 = .ok (.if_icmp .ne 5, 3) := by decide +kernel
theorem dX10_reasonOf_46 : decode cX10_reasonOf 46 = .ok (.iconst 1, 1) := by decide +kernel
theorem dX10_reasonOf_47 : decode cX10_reasonOf 47 = .ok (.ireturn, 1) := by decide +kernel
theorem dX10_reasonOf_48 : decode cX10_reasonOf 48 = .ok (.aload_n 0, 1) := by decide +kernel
theorem dX10_reasonOf_49 : decode cX10_reasonOf 49 = .ok (.iload_n 1, 1) := by decide +kernel
theorem dX10_reasonOf_50 : decode cX10_reasonOf 50 = .ok (.iconst 1, 1) := by decide +kernel
theorem dX10_reasonOf_51 : decode cX10_reasonOf 51 = .ok (.if_icmp .ne 8, 3) := by decide +kernel
theorem dX10_reasonOf_54 : decode cX10_reasonOf 54 = .ok (.bipush 64, 2) := by decide +kernel
theorem dX10_reasonOf_56 : decode cX10_reasonOf 56 = .ok (.goto 22, 3) := by decide +kernel
theorem dX10_reasonOf_59 : decode cX10_reasonOf 59 = .ok (.iload_n 1, 1) := by decide +kernel
theorem dX10_reasonOf_60 : decode cX10_reasonOf 60 = .ok (.iconst 2, 1) := by decide +kernel
theorem dX10_reasonOf_61 : decode cX10_reasonOf 61 = .ok (.if_icmp .ne 7, 3) := by decide +kernel
theorem dX10_reasonOf_64 : decode cX10_reasonOf 64 = .ok (.iconst 0, 1) := by decide +kernel
theorem dX10_reasonOf_65 : decode cX10_reasonOf 65 = .ok (.goto 13, 3) := by decide +kernel
theorem dX10_reasonOf_68 : decode cX10_reasonOf 68 = .ok (.iload_n 1, 1) := by decide +kernel
theorem dX10_reasonOf_69 : decode cX10_reasonOf 69 = .ok (.iconst 4, 1) := by decide +kernel
theorem dX10_reasonOf_70 : decode cX10_reasonOf 70 = .ok (.if_icmp .ge 7, 3) := by decide +kernel
theorem dX10_reasonOf_73 : decode cX10_reasonOf 73 = .ok (.iconst 2, 1) := by decide +kernel
theorem dX10_reasonOf_74 : decode cX10_reasonOf 74 = .ok (.goto 4, 3) := by decide +kernel
theorem dX10_reasonOf_77 : decode cX10_reasonOf 77 = .ok (.iconst 1, 1) := by decide +kernel
theorem dX10_reasonOf_78 : decode cX10_reasonOf 78 = .ok (.invokevirtual 236, 3) := by decide +kernel
theorem dX10_reasonOf_81 : decode cX10_reasonOf 81 = .ok (.iload_n 1, 1) := by decide +kernel
theorem dX10_reasonOf_82 : decode cX10_reasonOf 82 = .ok (.iconst 1, 1) := by decide +kernel
theorem dX10_reasonOf_83 : decode cX10_reasonOf 83 = .ok (.if_icmp .ne 36, 3) := by decide +kernel
theorem dX10_reasonOf_86 : decode cX10_reasonOf 86 = .ok (.aload_n 0, 1) := by decide +kernel
theorem dX10_reasonOf_87 : decode cX10_reasonOf 87 = .ok (.getfield 211, 3) := by decide +kernel
theorem dX10_reasonOf_90 : decode cX10_reasonOf 90 = .ok (.ifCond .eq 55, 3) := by decide +kernel
theorem dX10_reasonOf_93 : decode cX10_reasonOf 93 = .ok (.aload_n 0, 1) := by decide +kernel
theorem dX10_reasonOf_94 : decode cX10_reasonOf 94 = .ok (.getfield 211, 3) := by decide +kernel
theorem dX10_reasonOf_97 : decode cX10_reasonOf 97 = .ok (.iconst 2, 1) := by decide +kernel
theorem dX10_reasonOf_98 : decode cX10_reasonOf 98 = .ok (.irem, 1) := by decide +kernel
theorem dX10_reasonOf_99 : decode cX10_reasonOf 99 = .ok (.iconst 1, 1) := by decide +kernel
theorem dX10_reasonOf_100 : decode cX10_reasonOf 100 = .ok (.if_icmp .eq 45, 3) := by decide +kernel
theorem dX10_reasonOf_103 : decode cX10_reasonOf 103 = .ok (.aload_n 0, 1) := by decide +kernel
theorem dX10_reasonOf_104 : decode cX10_reasonOf 104 = .ok (.aload_n 0, 1) := by decide +kernel
theorem dX10_reasonOf_105 : decode cX10_reasonOf 105 = .ok (.getfield 193, 3) := by decide +kernel
theorem dX10_reasonOf_108 : decode cX10_reasonOf 108 = .ok (.invokevirtual 196, 3) := by decide +kernel
theorem dX10_reasonOf_111 : decode cX10_reasonOf 111 = .ok (.bipush 32, 2) := by decide +kernel
theorem dX10_reasonOf_113 : decode cX10_reasonOf 113 = .ok (.if_icmp .ne 34, 3) := by decide +kernel
theorem dX10_reasonOf_116 : decode cX10_reasonOf 116 = .ok (.goto 29, 3) := by decide +kernel
theorem dX10_reasonOf_119 : decode cX10_reasonOf 119 = .ok (.aload_n 0, 1) := by decide +kernel
theorem dX10_reasonOf_120 : decode cX10_reasonOf 120 = .ok (.getfield 211, 3) := by decide +kernel
theorem dX10_reasonOf_123 : decode cX10_reasonOf 123 = .ok (.iload_n 1, 1) := by decide +kernel
theorem dX10_reasonOf_124 : decode cX10_reasonOf 124 = .ok (.iconst 2, 1) := by decide +kernel
theorem dX10_reasonOf_125 : decode cX10_reasonOf 125 = .ok (.if_icmp .ne 7, 3) := by decide +kernel
theorem dX10_reasonOf_128 : decode cX10_reasonOf 128 = .ok (.iconst 0, 1) := by decide +kernel
theorem dX10_reasonOf_129 : decode cX10_reasonOf 129 = .ok (.goto 13, 3) := by decide +kernel
theorem dX10_reasonOf_132 : decode cX10_reasonOf 132 = .ok (.iload_n 1, 1) := by decide +kernel
theorem dX10_reasonOf_133 : decode cX10_reasonOf 133 = .ok (.iconst 4, 1) := by decide +kernel
theorem dX10_reasonOf_134 : decode cX10_reasonOf 134 = .ok (.if_icmp .ge 7, 3) := by decide +kernel
theorem dX10_reasonOf_137 : decode cX10_reasonOf 137 = .ok (.iconst 2, 1) := by decide +kernel
theorem dX10_reasonOf_138 : decode cX10_reasonOf 138 = .ok (.goto 4, 3) := by decide +kernel
theorem dX10_reasonOf_141 : decode cX10_reasonOf 141 = .ok (.iconst 1, 1) := by decide +kernel
theorem dX10_reasonOf_142 : decode cX10_reasonOf 142 = .ok (.if_icmp .ge 5, 3) := by decide +kernel
theorem dX10_reasonOf_145 : decode cX10_reasonOf 145 = .ok (.iconst 2, 1) := by decide +kernel
theorem dX10_reasonOf_146 : decode cX10_reasonOf 146 = .ok (.ireturn, 1) := by decide +kernel
theorem dX10_reasonOf_147 : decode cX10_reasonOf 147 = .ok (.aload_n 0, 1) := by decide +kernel
theorem dX10_reasonOf_148 : decode cX10_reasonOf 148 = .ok (.iload_n 1, 1) := by decide +kernel
theorem dX10_reasonOf_149 : decode cX10_reasonOf 149 = .ok (.invokevirtual 240, 3) := by decide +kernel
theorem dX10_reasonOf_152 : decode cX10_reasonOf 152 = .ok (.ifCond .ne 5, 3) := by decide +kernel
theorem dX10_reasonOf_155 : decode cX10_reasonOf 155 = .ok (.iconst 3, 1) := by decide +kernel
theorem dX10_reasonOf_156 : decode cX10_reasonOf 156 = .ok (.ireturn, 1) := by decide +kernel
theorem dX10_reasonOf_157 : decode cX10_reasonOf 157 = .ok (.iload_n 1, 1) := by decide +kernel
theorem dX10_reasonOf_158 : decode cX10_reasonOf 158 = .ok (.iconst 3, 1) := by decide +kernel
theorem dX10_reasonOf_159 : decode cX10_reasonOf 159 = .ok (.if_icmp .ne 16, 3) := by decide +kernel
theorem dX10_reasonOf_162 : decode cX10_reasonOf 162 = .ok (.iload_n 2, 1) := by decide +kernel
theorem dX10_reasonOf_163 : decode cX10_reasonOf 163 = .ok (.aload_n 0, 1) := by decide +kernel
theorem dX10_reasonOf_164 : decode cX10_reasonOf 164 = .ok (.getfield 7, 3) := by decide +kernel
theorem dX10_reasonOf_167 : decode cX10_reasonOf 167 = .ok (.bipush 81, 2) := by decide +kernel
theorem dX10_reasonOf_169 : decode cX10_reasonOf 169 = .ok (.iaload, 1) := by decide +kernel
theorem dX10_reasonOf_170 : decode cX10_reasonOf 170 = .ok (.if_icmp .eq 5, 3) := by decide +kernel
theorem dX10_reasonOf_173 : decode cX10_reasonOf 173 = .ok (.iconst 4, 1) := by decide +kernel
theorem dX10_reasonOf_174 : decode cX10_reasonOf 174 = .ok (.ireturn, 1) := by decide +kernel
theorem dX10_reasonOf_175 : decode cX10_reasonOf 175 = .ok (.iload_n 1, 1) := by decide +kernel
theorem dX10_reasonOf_176 : decode cX10_reasonOf 176 = .ok (.iconst 3, 1) := by decide +kernel
theorem dX10_reasonOf_177 : decode cX10_reasonOf 177 = .ok (.if_icmp .ne 12, 3) := by decide +kernel
theorem dX10_reasonOf_180 : decode cX10_reasonOf 180 = .ok (.aload_n 0, 1) := by decide +kernel
theorem dX10_reasonOf_181 : decode cX10_reasonOf 181 = .ok (.invokevirtual 138, 3) := by decide +kernel
theorem dX10_reasonOf_184 : decode cX10_reasonOf 184 = .ok (.bipush (-4), 2) := by decide +kernel
theorem dX10_reasonOf_186 : decode cX10_reasonOf 186 = .ok (.if_icmp .eq 17, 3) := by decide +kernel
theorem dX10_reasonOf_189 : decode cX10_reasonOf 189 = .ok (.iload_n 1, 1) := by decide +kernel
theorem dX10_reasonOf_190 : decode cX10_reasonOf 190 = .ok (.iconst 1, 1) := by decide +kernel
theorem dX10_reasonOf_191 : decode cX10_reasonOf 191 = .ok (.if_icmp .ne 14, 3) := by decide +kernel
theorem dX10_reasonOf_194 : decode cX10_reasonOf 194 = .ok (.aload_n 0, 1) := by decide +kernel
theorem dX10_reasonOf_195 : decode cX10_reasonOf 195 = .ok (.getfield 211, 3) := by decide +kernel
theorem dX10_reasonOf_198 : decode cX10_reasonOf 198 = .ok (.bipush 16, 2) := by decide +kernel
theorem dX10_reasonOf_200 : decode cX10_reasonOf 200 = .ok (.if_icmp .le 5, 3) := by decide +kernel
theorem dX10_reasonOf_203 : decode cX10_reasonOf 203 = .ok (.iconst 5, 1) := by decide +kernel
theorem dX10_reasonOf_204 : decode cX10_reasonOf 204 = .ok (.ireturn, 1) := by decide +kernel
theorem dX10_reasonOf_205 : decode cX10_reasonOf 205 = .ok (.aload_n 0, 1) := by decide +kernel
theorem dX10_reasonOf_206 : decode cX10_reasonOf 206 = .ok (.aload_n 0, 1) := by decide +kernel
theorem dX10_reasonOf_207 : decode cX10_reasonOf 207 = .ok (.getfield 193, 3) := by decide +kernel
theorem dX10_reasonOf_210 : decode cX10_reasonOf 210 = .ok (.invokevirtual 196, 3) := by decide +kernel
theorem dX10_reasonOf_213 : decode cX10_reasonOf 213 = .ok (.bipush 59, 2) := by decide +kernel
theorem dX10_reasonOf_215 : decode cX10_reasonOf 215 = .ok (.if_icmp .eq 6, 3) := by decide +kernel
theorem dX10_reasonOf_218 : decode cX10_reasonOf 218 = .ok (.bipush 6, 2) := by decide +kernel
theorem dX10_reasonOf_220 : decode cX10_reasonOf 220 = .ok (.ireturn, 1) := by decide +kernel
theorem dX10_reasonOf_221 : decode cX10_reasonOf 221 = .ok (.aload_n 0, 1) := by decide +kernel
theorem dX10_reasonOf_222 : decode cX10_reasonOf 222 = .ok (.dup, 1) := by decide +kernel
theorem dX10_reasonOf_223 : decode cX10_reasonOf 223 = .ok (.getfield 193, 3) := by decide +kernel
theorem dX10_reasonOf_226 : decode cX10_reasonOf 226 = .ok (.iconst 1, 1) := by decide +kernel
theorem dX10_reasonOf_227 : decode cX10_reasonOf 227 = .ok (.iadd, 1) := by decide +kernel
theorem dX10_reasonOf_228 : decode cX10_reasonOf 228 = .ok (.putfield 193, 3) := by decide +kernel
theorem dX10_reasonOf_231 : decode cX10_reasonOf 231 = .ok (.aload_n 0, 1) := by decide +kernel
theorem dX10_reasonOf_232 : decode cX10_reasonOf 232 = .ok (.iload_n 1, 1) := by decide +kernel
theorem dX10_reasonOf_233 : decode cX10_reasonOf 233 = .ok (.iload_n 2, 1) := by decide +kernel
theorem dX10_reasonOf_234 : decode cX10_reasonOf 234 = .ok (.invokevirtual 243, 3) := by decide +kernel
theorem dX10_reasonOf_237 : decode cX10_reasonOf 237 = .ok (.iconst 0, 1) := by decide +kernel
theorem dX10_reasonOf_238 : decode cX10_reasonOf 238 = .ok (.ireturn, 1) := by decide +kernel
set_option maxRecDepth 20000 in
theorem ggX10_does_X10_paints : GoodIn wsX10_does wsX10_paints := goodIn_r _ [8, 3, 37, 38, 39, 40, 41, 42, 43, 44, 45, 46, 47, 48, 49, 50, 51] (by decide +kernel) (by decide +kernel)
set_option maxRecDepth 20000 in
theorem gX10_does_X10_paints : GoodIn wsX10_does (wsV RX10 54 RX10 yX10_paints wsX10_paints) := goodIn_app (goodIn_of _ (by decide +kernel)) ggX10_does_X10_paints
set_option maxRecDepth 20000 in
theorem ggX10_does_X10_clearsCode : GoodIn wsX10_does wsX10_clearsCode := goodIn_r _ [12, 3, 37, 38, 39, 40, 41, 42, 43, 44, 45, 46, 47, 48, 49, 50, 51] (by decide +kernel) (by decide +kernel)
set_option maxRecDepth 20000 in
theorem gX10_does_X10_clearsCode : GoodIn wsX10_does (wsV RX10 101 RX10 yX10_clearsCode wsX10_clearsCode) := goodIn_app (goodIn_of _ (by decide +kernel)) ggX10_does_X10_clearsCode
set_option maxRecDepth 20000 in
theorem ggX10_does_X10_appends : GoodIn wsX10_does wsX10_appends := goodIn_r _ [16, 3, 37, 38, 39, 40, 41, 42, 43, 44, 45, 46, 47, 48, 49, 50, 51] (by decide +kernel) (by decide +kernel)
set_option maxRecDepth 20000 in
theorem gX10_does_X10_appends : GoodIn wsX10_does (wsV RX10 104 RX10 yX10_appends wsX10_appends) := goodIn_app (goodIn_of _ (by decide +kernel)) ggX10_does_X10_appends
set_option maxRecDepth 20000 in
theorem ggX10_does_X10_setsChanger : GoodIn wsX10_does wsX10_setsChanger := goodIn_r _ [20, 3, 21, 22, 23, 7, 24, 25, 26, 27, 28, 37, 38, 39, 40, 41, 42, 43, 44, 45, 46, 47, 48, 49, 50, 51] (by decide +kernel) (by decide +kernel)
set_option maxRecDepth 20000 in
theorem gX10_does_X10_setsChanger : GoodIn wsX10_does (wsV RX10 132 RX10 yX10_setsChanger wsX10_setsChanger) := goodIn_app (goodIn_of _ (by decide +kernel)) ggX10_does_X10_setsChanger
set_option maxRecDepth 20000 in
theorem ggX10_does_X10_empty : GoodIn wsX10_does wsX10_empty := goodIn_r _ [32, 25, 26, 27, 7, 28, 3, 37, 38, 39, 40, 41, 42, 43, 44, 45, 46, 47, 48, 49, 50, 51] (by decide +kernel) (by decide +kernel)
set_option maxRecDepth 20000 in
theorem gX10_does_X10_empty : GoodIn wsX10_does (wsV RX10 138 RX10 yX10_empty wsX10_empty) := goodIn_app (goodIn_of _ (by decide +kernel)) ggX10_does_X10_empty
set_option maxRecDepth 20000 in
theorem ggX10_does_X10_puts : GoodIn wsX10_does wsX10_puts := goodIn_r _ [36, 3, 37, 38, 39, 40, 41, 42, 43, 44, 45, 46, 47, 48, 49, 50, 51] (by decide +kernel) (by decide +kernel)
set_option maxRecDepth 20000 in
theorem gX10_does_X10_puts : GoodIn wsX10_does (wsV RX10 141 RX10 yX10_puts wsX10_puts) := goodIn_app (goodIn_of _ (by decide +kernel)) ggX10_does_X10_puts
theorem dX10_does_0 : decode cX10_does 0 = .ok (.iload_n 1, 1) := by decide +kernel
theorem dX10_does_1 : decode cX10_does 1 = .ok (.tableswitch 145 0 4 #[35, 56, 97, 106, 129], 35) := by decide +kernel
theorem dX10_does_36 : decode cX10_does 36 = .ok (.aload_n 0, 1) := by decide +kernel
theorem dX10_does_37 : decode cX10_does 37 = .ok (.iload_n 2, 1) := by decide +kernel
theorem dX10_does_38 : decode cX10_does 38 = .ok (.aload_n 0, 1) := by decide +kernel
theorem dX10_does_39 : decode cX10_does 39 = .ok (.getfield 28, 3) := by decide +kernel
theorem dX10_does_42 : decode cX10_does 42 = .ok (.iconst 0, 1) := by decide +kernel
theorem dX10_does_43 : decode cX10_does 43 = .ok (.iaload, 1) := by decide +kernel
theorem dX10_does_44 : decode cX10_does 44 = .ok (.aload_n 0, 1) := by decide +kernel
theorem dX10_does_45 : decode cX10_does 45 = .ok (.getfield 28, 3) := by decide +kernel
theorem dX10_does_48 : decode cX10_does 48 = .ok (.iconst 1, 1) := by decide +kernel
theorem dX10_does_49 : decode cX10_does 49 = .ok (.iaload, 1) := by decide +kernel
theorem dX10_does_50 : decode cX10_does 50 = .ok (.invokevirtual 54, 3) := by decide +kernel
theorem dX10_does_53 : decode cX10_does 53 = .ok (.istore_n 3, 1) := by decide +kernel
theorem dX10_does_54 : decode cX10_does 54 = .ok (.goto 105, 3) := by decide +kernel
theorem dX10_does_57 : decode cX10_does 57 = .ok (.aload_n 0, 1) := by decide +kernel
theorem dX10_does_58 : decode cX10_does 58 = .ok (.invokevirtual 101, 3) := by decide +kernel
theorem dX10_does_61 : decode cX10_does 61 = .ok (.iconst 0, 1) := by decide +kernel
theorem dX10_does_62 : decode cX10_does 62 = .ok (.istore_n 3, 1) := by decide +kernel
theorem dX10_does_63 : decode cX10_does 63 = .ok (.iload_n 3, 1) := by decide +kernel
theorem dX10_does_64 : decode cX10_does 64 = .ok (.aload_n 0, 1) := by decide +kernel
theorem dX10_does_65 : decode cX10_does 65 = .ok (.getfield 211, 3) := by decide +kernel
theorem dX10_does_68 : decode cX10_does 68 = .ok (.if_icmp .ge 27, 3) := by decide +kernel
theorem dX10_does_71 : decode cX10_does 71 = .ok (.aload_n 0, 1) := by decide +kernel
theorem dX10_does_72 : decode cX10_does 72 = .ok (.aload_n 0, 1) := by decide +kernel
theorem dX10_does_73 : decode cX10_does 73 = .ok (.getfield 28, 3) := by decide +kernel
theorem dX10_does_76 : decode cX10_does 76 = .ok (.iload_n 3, 1) := by decide +kernel
theorem dX10_does_77 : decode cX10_does 77 = .ok (.iaload, 1) := by decide +kernel
theorem dX10_does_78 : decode cX10_does 78 = .ok (.aload_n 0, 1) := by decide +kernel
theorem dX10_does_79 : decode cX10_does 79 = .ok (.getfield 28, 3) := by decide +kernel
theorem dX10_does_82 : decode cX10_does 82 = .ok (.iload_n 3, 1) := by decide +kernel
theorem dX10_does_83 : decode cX10_does 83 = .ok (.iconst 1, 1) := by decide +kernel
theorem dX10_does_84 : decode cX10_does 84 = .ok (.iadd, 1) := by decide +kernel
theorem dX10_does_85 : decode cX10_does 85 = .ok (.iaload, 1) := by decide +kernel
theorem dX10_does_86 : decode cX10_does 86 = .ok (.invokevirtual 104, 3) := by decide +kernel
theorem dX10_does_89 : decode cX10_does 89 = .ok (.iinc 3 2, 3) := by decide +kernel
theorem dX10_does_92 : decode cX10_does 92 = .ok (.goto (-29), 3) := by decide +kernel
theorem dX10_does_95 : decode cX10_does 95 = .ok (.goto 64, 3) := by decide +kernel
theorem dX10_does_98 : decode cX10_does 98 = .ok (.aload_n 0, 1) := by decide +kernel
theorem dX10_does_99 : decode cX10_does 99 = .ok (.iload_n 2, 1) := by decide +kernel
theorem dX10_does_100 : decode cX10_does 100 = .ok (.invokevirtual 132, 3) := by decide +kernel
theorem dX10_does_103 : decode cX10_does 103 = .ok (.istore_n 3, 1) := by decide +kernel
theorem dX10_does_104 : decode cX10_does 104 = .ok (.goto 55, 3) := by decide +kernel
theorem dX10_does_107 : decode cX10_does 107 = .ok (.aload_n 0, 1) := by decide +kernel
theorem dX10_does_108 : decode cX10_does 108 = .ok (.aload_n 0, 1) := by decide +kernel
theorem dX10_does_109 : decode cX10_does 109 = .ok (.invokevirtual 138, 3) := by decide +kernel
theorem dX10_does_112 : decode cX10_does 112 = .ok (.aload_n 0, 1) := by decide +kernel
theorem dX10_does_113 : decode cX10_does 113 = .ok (.getfield 28, 3) := by decide +kernel
theorem dX10_does_116 : decode cX10_does 116 = .ok (.iconst 0, 1) := by decide +kernel
theorem dX10_does_117 : decode cX10_does 117 = .ok (.iaload, 1) := by decide +kernel
theorem dX10_does_118 : decode cX10_does 118 = .ok (.aload_n 0, 1) := by decide +kernel
theorem dX10_does_119 : decode cX10_does 119 = .ok (.getfield 28, 3) := by decide +kernel
theorem dX10_does_122 : decode cX10_does 122 = .ok (.iconst 1, 1) := by decide +kernel
theorem dX10_does_123 : decode cX10_does 123 = .ok (.iaload, 1) := by decide +kernel
theorem dX10_does_124 : decode cX10_does 124 = .ok (.invokevirtual 141, 3) := by decide +kernel
theorem dX10_does_127 : decode cX10_does 127 = .ok (.goto 32, 3) := by decide +kernel
theorem dX10_does_130 : decode cX10_does 130 = .ok (.aload_n 0, 1) := by decide +kernel
theorem dX10_does_131 : decode cX10_does 131 = .ok (.getfield 7, 3) := by decide +kernel
theorem dX10_does_134 : decode cX10_does 134 = .ok (.bipush 115, 2) := by decide +kernel
theorem dX10_does_136 : decode cX10_does 136 = .ok (.aload_n 0, 1) := by decide +kernel
theorem dX10_does_137 : decode cX10_does 137 = .ok (.getfield 28, 3) := by decide +kernel
theorem dX10_does_140 : decode cX10_does 140 = .ok (.iconst 0, 1) := by decide +kernel
theorem dX10_does_141 : decode cX10_does 141 = .ok (.iaload, 1) := by decide +kernel
theorem dX10_does_142 : decode cX10_does 142 = .ok (.iastore, 1) := by decide +kernel
theorem dX10_does_143 : decode cX10_does 143 = .ok (.goto 16, 3) := by decide +kernel
theorem dX10_does_146 : decode cX10_does 146 = .ok (.aload_n 0, 1) := by decide +kernel
theorem dX10_does_147 : decode cX10_does 147 = .ok (.getfield 7, 3) := by decide +kernel
theorem dX10_does_150 : decode cX10_does 150 = .ok (.bipush 114, 2) := by decide +kernel
theorem dX10_does_152 : decode cX10_does 152 = .ok (.aload_n 0, 1) := by decide +kernel
theorem dX10_does_153 : decode cX10_does 153 = .ok (.getfield 28, 3) := by decide +kernel
theorem dX10_does_156 : decode cX10_does 156 = .ok (.iconst 0, 1) := by decide +kernel
theorem dX10_does_157 : decode cX10_does 157 = .ok (.iaload, 1) := by decide +kernel
theorem dX10_does_158 : decode cX10_does 158 = .ok (.iastore, 1) := by decide +kernel
theorem dX10_does_159 : decode cX10_does 159 = .ok (.return_, 1) := by decide +kernel
set_option maxRecDepth 20000 in
theorem ggX10_carriesOut_X10_reasonOf : GoodIn wsX10_carriesOut wsX10_reasonOf := goodIn_r _ [10, 11, 1, 12, 13, 14, 15, 9, 16, 17, 18, 19, 20, 21, 22, 5, 23, 24, 25, 26, 27, 28, 29, 30, 31, 32, 33, 34, 35, 36, 37, 38, 39, 40, 41, 42, 43, 44, 45, 46, 47, 48, 49, 50, 51, 52, 53, 54, 55, 56, 57, 58, 59, 60, 61, 62, 63, 64, 65, 66, 67, 68, 69, 70, 71, 72, 73, 74, 75, 76, 77, 78, 79, 80, 81, 82, 83, 84, 85, 86, 87, 88, 89, 90, 91, 92, 93, 94, 95, 96, 97, 98, 99, 100, 101, 102, 103, 104, 105, 106, 107, 108, 109, 110, 111, 112, 113, 114, 115, 116, 117, 118, 119, 120, 121, 122, 123, 124] (by decide +kernel) (by decide +kernel)
set_option maxRecDepth 20000 in
theorem gX10_carriesOut_X10_reasonOf : GoodIn wsX10_carriesOut (wsV RX10 255 RX10 yX10_reasonOf wsX10_reasonOf) := goodIn_app (goodIn_of _ (by decide +kernel)) ggX10_carriesOut_X10_reasonOf
theorem dX10_carriesOut_0 : decode cX10_carriesOut 0 = .ok (.aload_n 0, 1) := by decide +kernel
theorem dX10_carriesOut_1 : decode cX10_carriesOut 1 = .ok (.iconst 0, 1) := by decide +kernel
theorem dX10_carriesOut_2 : decode cX10_carriesOut 2 = .ok (.putfield 193, 3) := by decide +kernel
theorem dX10_carriesOut_5 : decode cX10_carriesOut 5 = .ok (.aload_n 0, 1) := by decide +kernel
theorem dX10_carriesOut_6 : decode cX10_carriesOut 6 = .ok (.bipush (-4), 2) := by decide +kernel
theorem dX10_carriesOut_8 : decode cX10_carriesOut 8 = .ok (.putfield 246, 3) := by decide +kernel
theorem dX10_carriesOut_11 : decode cX10_carriesOut 11 = .ok (.aload_n 0, 1) := by decide +kernel
theorem dX10_carriesOut_12 : decode cX10_carriesOut 12 = .ok (.bipush (-4), 2) := by decide +kernel
theorem dX10_carriesOut_14 : decode cX10_carriesOut 14 = .ok (.putfield 249, 3) := by decide +kernel
theorem dX10_carriesOut_17 : decode cX10_carriesOut 17 = .ok (.aload_n 0, 1) := by decide +kernel
theorem dX10_carriesOut_18 : decode cX10_carriesOut 18 = .ok (.iconst 0, 1) := by decide +kernel
theorem dX10_carriesOut_19 : decode cX10_carriesOut 19 = .ok (.putfield 252, 3) := by decide +kernel
theorem dX10_carriesOut_22 : decode cX10_carriesOut 22 = .ok (.aload_n 0, 1) := by decide +kernel
theorem dX10_carriesOut_23 : decode cX10_carriesOut 23 = .ok (.getfield 193, 3) := by decide +kernel
theorem dX10_carriesOut_26 : decode cX10_carriesOut 26 = .ok (.aload_n 0, 1) := by decide +kernel
theorem dX10_carriesOut_27 : decode cX10_carriesOut 27 = .ok (.getfield 172, 3) := by decide +kernel
theorem dX10_carriesOut_30 : decode cX10_carriesOut 30 = .ok (.if_icmp .ge 52, 3) := by decide +kernel
theorem dX10_carriesOut_33 : decode cX10_carriesOut 33 = .ok (.aload_n 0, 1) := by decide +kernel
theorem dX10_carriesOut_34 : decode cX10_carriesOut 34 = .ok (.getfield 246, 3) := by decide +kernel
theorem dX10_carriesOut_37 : decode cX10_carriesOut 37 = .ok (.bipush (-4), 2) := by decide +kernel
theorem dX10_carriesOut_39 : decode cX10_carriesOut 39 = .ok (.if_icmp .ne 43, 3) := by decide +kernel
theorem dX10_carriesOut_42 : decode cX10_carriesOut 42 = .ok (.aload_n 0, 1) := by decide +kernel
theorem dX10_carriesOut_43 : decode cX10_carriesOut 43 = .ok (.getfield 193, 3) := by decide +kernel
theorem dX10_carriesOut_46 : decode cX10_carriesOut 46 = .ok (.istore_n 1, 1) := by decide +kernel
theorem dX10_carriesOut_47 : decode cX10_carriesOut 47 = .ok (.aload_n 0, 1) := by decide +kernel
theorem dX10_carriesOut_48 : decode cX10_carriesOut 48 = .ok (.invokevirtual 255, 3) := by decide +kernel
theorem dX10_carriesOut_51 : decode cX10_carriesOut 51 = .ok (.istore_n 2, 1) := by decide +kernel
theorem dX10_carriesOut_52 : decode cX10_carriesOut 52 = .ok (.iload_n 2, 1) := by decide +kernel
theorem dX10_carriesOut_53 : decode cX10_carriesOut 53 = .ok (.ifCond .le 16, 3) := by decide +kernel
theorem dX10_carriesOut_56 : decode cX10_carriesOut 56 = .ok (.aload_n 0, 1) := by decide +kernel
theorem dX10_carriesOut_57 : decode cX10_carriesOut 57 = .ok (.iload_n 1, 1) := by decide +kernel
theorem dX10_carriesOut_58 : decode cX10_carriesOut 58 = .ok (.putfield 246, 3) := by decide +kernel
theorem dX10_carriesOut_61 : decode cX10_carriesOut 61 = .ok (.aload_n 0, 1) := by decide +kernel
theorem dX10_carriesOut_62 : decode cX10_carriesOut 62 = .ok (.iload_n 2, 1) := by decide +kernel
theorem dX10_carriesOut_63 : decode cX10_carriesOut 63 = .ok (.putfield 249, 3) := by decide +kernel
theorem dX10_carriesOut_66 : decode cX10_carriesOut 66 = .ok (.goto 13, 3) := by decide +kernel
theorem dX10_carriesOut_69 : decode cX10_carriesOut 69 = .ok (.aload_n 0, 1) := by decide +kernel
theorem dX10_carriesOut_70 : decode cX10_carriesOut 70 = .ok (.dup, 1) := by decide +kernel
theorem dX10_carriesOut_71 : decode cX10_carriesOut 71 = .ok (.getfield 252, 3) := by decide +kernel
theorem dX10_carriesOut_74 : decode cX10_carriesOut 74 = .ok (.iconst 1, 1) := by decide +kernel
theorem dX10_carriesOut_75 : decode cX10_carriesOut 75 = .ok (.iadd, 1) := by decide +kernel
theorem dX10_carriesOut_76 : decode cX10_carriesOut 76 = .ok (.putfield 252, 3) := by decide +kernel
theorem dX10_carriesOut_79 : decode cX10_carriesOut 79 = .ok (.goto (-57), 3) := by decide +kernel
theorem dX10_carriesOut_82 : decode cX10_carriesOut 82 = .ok (.return_, 1) := by decide +kernel
set_option maxRecDepth 20000 in
theorem ggX10_fault_X10_within : GoodIn wsX10_fault wsX10_within := goodIn_r _ [8] (by decide +kernel) (by decide +kernel)
set_option maxRecDepth 20000 in
theorem gX10_fault_X10_within : GoodIn wsX10_fault (va_wsS RX10 43 yX10_within wsX10_within) := goodIn_app (goodIn_of _ (by decide +kernel)) ggX10_fault_X10_within
set_option maxRecDepth 20000 in
theorem ggX10_fault_X10_bring : GoodIn wsX10_fault wsX10_bring := goodIn_r _ [11] (by decide +kernel) (by decide +kernel)
set_option maxRecDepth 20000 in
theorem gX10_fault_X10_bring : GoodIn wsX10_fault (va_wsS RX10 39 yX10_bring wsX10_bring) := goodIn_app (goodIn_of _ (by decide +kernel)) ggX10_fault_X10_bring
set_option maxRecDepth 20000 in
theorem ggX10_fault_X10_carriesOut : GoodIn wsX10_fault wsX10_carriesOut := goodIn_r _ [15, 16, 3, 4, 17, 18, 19, 20, 21, 7, 22, 23, 1, 24, 25, 26, 27, 28, 29, 30, 31, 32, 33, 34, 5, 6, 8, 35, 36, 37, 38, 39, 40, 41, 42, 43, 44, 45, 46, 47, 48, 49, 50, 51, 52, 53, 54, 55, 56, 57, 58, 59, 60, 61, 62, 63, 64, 65, 66, 67, 68, 69, 70, 71, 72, 73, 74, 75, 76, 77, 78, 79, 80, 81, 82, 83, 84, 85, 86, 87, 88, 89, 90, 91, 92, 93, 94, 95, 96, 97, 98, 99, 100, 101, 102, 103, 104, 105, 106, 107, 108, 109, 110, 111, 112, 113, 114, 115, 116, 117, 118, 119, 120, 121, 122, 123, 124, 125, 126, 127, 128, 129, 130, 131, 132] (by decide +kernel) (by decide +kernel)
set_option maxRecDepth 20000 in
theorem gX10_fault_X10_carriesOut : GoodIn wsX10_fault (wsV RX10 258 RX10 yX10_carriesOut wsX10_carriesOut) := goodIn_app (goodIn_of _ (by decide +kernel)) ggX10_fault_X10_carriesOut
theorem dX10_fault_0 : decode cX10_fault 0 = .ok (.iload_n 1, 1) := by decide +kernel
theorem dX10_fault_1 : decode cX10_fault 1 = .ok (.iconst 0, 1) := by decide +kernel
theorem dX10_fault_2 : decode cX10_fault 2 = .ok (.iconst 1, 1) := by decide +kernel
theorem dX10_fault_3 : decode cX10_fault 3 = .ok (.invokestatic 43, 3) := by decide +kernel
theorem dX10_fault_6 : decode cX10_fault 6 = .ok (.ifCond .ne 5, 3) := by decide +kernel
theorem dX10_fault_9 : decode cX10_fault 9 = .ok (.iconst (-1), 1) := by decide +kernel
theorem dX10_fault_10 : decode cX10_fault 10 = .ok (.ireturn, 1) := by decide +kernel
theorem dX10_fault_11 : decode cX10_fault 11 = .ok (.aload_n 0, 1) := by decide +kernel
theorem dX10_fault_12 : decode cX10_fault 12 = .ok (.getfield 7, 3) := by decide +kernel
theorem dX10_fault_15 : decode cX10_fault 15 = .ok (.iconst 0, 1) := by decide +kernel
theorem dX10_fault_16 : decode cX10_fault 16 = .ok (.aload_n 0, 1) := by decide +kernel
theorem dX10_fault_17 : decode cX10_fault 17 = .ok (.getfield 19, 3) := by decide +kernel
theorem dX10_fault_20 : decode cX10_fault 20 = .ok (.iconst 0, 1) := by decide +kernel
theorem dX10_fault_21 : decode cX10_fault 21 = .ok (.invokestatic 39, 3) := by decide +kernel
theorem dX10_fault_24 : decode cX10_fault 24 = .ok (.aload_n 0, 1) := by decide +kernel
theorem dX10_fault_25 : decode cX10_fault 25 = .ok (.invokevirtual 258, 3) := by decide +kernel
theorem dX10_fault_28 : decode cX10_fault 28 = .ok (.aload_n 0, 1) := by decide +kernel
theorem dX10_fault_29 : decode cX10_fault 29 = .ok (.getfield 19, 3) := by decide +kernel
theorem dX10_fault_32 : decode cX10_fault 32 = .ok (.iconst 0, 1) := by decide +kernel
theorem dX10_fault_33 : decode cX10_fault 33 = .ok (.aload_n 0, 1) := by decide +kernel
theorem dX10_fault_34 : decode cX10_fault 34 = .ok (.getfield 7, 3) := by decide +kernel
theorem dX10_fault_37 : decode cX10_fault 37 = .ok (.iconst 0, 1) := by decide +kernel
theorem dX10_fault_38 : decode cX10_fault 38 = .ok (.invokestatic 39, 3) := by decide +kernel
theorem dX10_fault_41 : decode cX10_fault 41 = .ok (.iload_n 1, 1) := by decide +kernel
theorem dX10_fault_42 : decode cX10_fault 42 = .ok (.ifCond .ne 10, 3) := by decide +kernel
theorem dX10_fault_45 : decode cX10_fault 45 = .ok (.aload_n 0, 1) := by decide +kernel
theorem dX10_fault_46 : decode cX10_fault 46 = .ok (.getfield 246, 3) := by decide +kernel
theorem dX10_fault_49 : decode cX10_fault 49 = .ok (.goto 7, 3) := by decide +kernel
theorem dX10_fault_52 : decode cX10_fault 52 = .ok (.aload_n 0, 1) := by decide +kernel
theorem dX10_fault_53 : decode cX10_fault 53 = .ok (.getfield 249, 3) := by decide +kernel
theorem dX10_fault_56 : decode cX10_fault 56 = .ok (.ireturn, 1) := by decide +kernel
set_option maxRecDepth 20000 in
theorem ggX10_load_X10_bring : GoodIn wsX10_load wsX10_bring := goodIn_r _ [8] (by decide +kernel) (by decide +kernel)
set_option maxRecDepth 20000 in
theorem gX10_load_X10_bring : GoodIn wsX10_load (va_wsS RX10 39 yX10_bring wsX10_bring) := goodIn_app (goodIn_of _ (by decide +kernel)) ggX10_load_X10_bring
set_option maxRecDepth 20000 in
theorem ggX10_load_X10_carriesOut : GoodIn wsX10_load wsX10_carriesOut := goodIn_r _ [12, 13, 3, 14, 4, 15, 16, 17, 18, 7, 19, 20, 1, 21, 22, 23, 24, 25, 26, 27, 28, 29, 30, 31, 32, 33, 34, 35, 36, 37, 38, 39, 40, 41, 42, 43, 44, 45, 46, 47, 48, 49, 50, 51, 52, 53, 54, 55, 56, 57, 58, 59, 60, 61, 62, 63, 64, 65, 66, 67, 68, 69, 70, 71, 72, 73, 74, 75, 76, 77, 78, 79, 80, 81, 82, 83, 84, 85, 86, 87, 88, 89, 90, 91, 92, 93, 94, 95, 96, 97, 98, 99, 100, 101, 102, 103, 104, 105, 106, 107, 108, 109, 110, 111, 112, 113, 114, 115, 116, 117, 124, 125, 126, 127, 128, 129, 130, 131, 132, 133, 134, 135, 136, 137, 138] (by decide +kernel) (by decide +kernel)
set_option maxRecDepth 20000 in
theorem gX10_load_X10_carriesOut : GoodIn wsX10_load (wsV RX10 258 RX10 yX10_carriesOut wsX10_carriesOut) := goodIn_app (goodIn_of _ (by decide +kernel)) ggX10_load_X10_carriesOut
set_option maxRecDepth 20000 in
theorem ggX10_load_X10_saves : GoodIn wsX10_load wsX10_saves := goodIn_r _ [121, 122, 123, 1, 5, 6, 7, 8, 124, 125, 126, 127, 128, 129, 130, 131, 132, 133, 134, 135, 136, 137, 138] (by decide +kernel) (by decide +kernel)
set_option maxRecDepth 20000 in
theorem gX10_load_X10_saves : GoodIn wsX10_load (wsV RX10 51 RX10 yX10_saves wsX10_saves) := goodIn_app (goodIn_of _ (by decide +kernel)) ggX10_load_X10_saves
theorem dX10_load_0 : decode cX10_load 0 = .ok (.aload_n 0, 1) := by decide +kernel
theorem dX10_load_1 : decode cX10_load 1 = .ok (.getfield 7, 3) := by decide +kernel
theorem dX10_load_4 : decode cX10_load 4 = .ok (.iconst 0, 1) := by decide +kernel
theorem dX10_load_5 : decode cX10_load 5 = .ok (.aload_n 0, 1) := by decide +kernel
theorem dX10_load_6 : decode cX10_load 6 = .ok (.getfield 19, 3) := by decide +kernel
theorem dX10_load_9 : decode cX10_load 9 = .ok (.iconst 0, 1) := by decide +kernel
theorem dX10_load_10 : decode cX10_load 10 = .ok (.invokestatic 39, 3) := by decide +kernel
theorem dX10_load_13 : decode cX10_load 13 = .ok (.aload_n 0, 1) := by decide +kernel
theorem dX10_load_14 : decode cX10_load 14 = .ok (.invokevirtual 258, 3) := by decide +kernel
theorem dX10_load_17 : decode cX10_load 17 = .ok (.aload_n 0, 1) := by decide +kernel
theorem dX10_load_18 : decode cX10_load 18 = .ok (.getfield 19, 3) := by decide +kernel
theorem dX10_load_21 : decode cX10_load 21 = .ok (.iconst 0, 1) := by decide +kernel
theorem dX10_load_22 : decode cX10_load 22 = .ok (.aload_n 0, 1) := by decide +kernel
theorem dX10_load_23 : decode cX10_load 23 = .ok (.getfield 7, 3) := by decide +kernel
theorem dX10_load_26 : decode cX10_load 26 = .ok (.iconst 0, 1) := by decide +kernel
theorem dX10_load_27 : decode cX10_load 27 = .ok (.invokestatic 39, 3) := by decide +kernel
theorem dX10_load_30 : decode cX10_load 30 = .ok (.aload_n 0, 1) := by decide +kernel
theorem dX10_load_31 : decode cX10_load 31 = .ok (.getfield 246, 3) := by decide +kernel
theorem dX10_load_34 : decode cX10_load 34 = .ok (.bipush (-4), 2) := by decide +kernel
theorem dX10_load_36 : decode cX10_load 36 = .ok (.if_icmp .eq 6, 3) := by decide +kernel
theorem dX10_load_39 : decode cX10_load 39 = .ok (.bipush (-2), 2) := by decide +kernel
theorem dX10_load_41 : decode cX10_load 41 = .ok (.ireturn, 1) := by decide +kernel
theorem dX10_load_42 : decode cX10_load 42 = .ok (.aload_n 0, 1) := by decide +kernel
theorem dX10_load_43 : decode cX10_load 43 = .ok (.invokevirtual 51, 3) := by decide +kernel
theorem dX10_load_46 : decode cX10_load 46 = .ok (.aload_n 0, 1) := by decide +kernel
theorem dX10_load_47 : decode cX10_load 47 = .ok (.invokevirtual 258, 3) := by decide +kernel
theorem dX10_load_50 : decode cX10_load 50 = .ok (.aload_n 0, 1) := by decide +kernel
theorem dX10_load_51 : decode cX10_load 51 = .ok (.getfield 252, 3) := by decide +kernel
theorem dX10_load_54 : decode cX10_load 54 = .ok (.ireturn, 1) := by decide +kernel
