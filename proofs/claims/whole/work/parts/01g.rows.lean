theorem dX4_open_129 : decode cX4_open 129 = .ok (.iadd, 1) := by decide +kernel
theorem dX4_open_130 : decode cX4_open 130 = .ok (.iaload, 1) := by decide +kernel
theorem dX4_open_131 : decode cX4_open 131 = .ok (.istore 5, 2) := by decide +kernel
theorem dX4_open_133 : decode cX4_open 133 = .ok (.iload 5, 2) := by decide +kernel
theorem dX4_open_135 : decode cX4_open 135 = .ok (.iconst (-1), 1) := by decide +kernel
theorem dX4_open_136 : decode cX4_open 136 = .ok (.if_icmp .eq 10, 3) := by decide +kernel
theorem dX4_open_139 : decode cX4_open 139 = .ok (.iload 5, 2) := by decide +kernel
theorem dX4_open_141 : decode cX4_open 141 = .ok (.iload 4, 2) := by decide +kernel
theorem dX4_open_143 : decode cX4_open 143 = .ok (.if_icmp .ne 7, 3) := by decide +kernel
theorem dX4_open_146 : decode cX4_open 146 = .ok (.iconst 1, 1) := by decide +kernel
theorem dX4_open_147 : decode cX4_open 147 = .ok (.goto 4, 3) := by decide +kernel
theorem dX4_open_150 : decode cX4_open 150 = .ok (.iconst 0, 1) := by decide +kernel
theorem dX4_open_151 : decode cX4_open 151 = .ok (.istore 6, 2) := by decide +kernel
theorem dX4_open_153 : decode cX4_open 153 = .ok (.iload 6, 2) := by decide +kernel
theorem dX4_open_155 : decode cX4_open 155 = .ok (.ifCond .ne 82, 3) := by decide +kernel
theorem dX4_open_158 : decode cX4_open 158 = .ok (.aload_n 0, 1) := by decide +kernel
theorem dX4_open_159 : decode cX4_open 159 = .ok (.iload 5, 2) := by decide +kernel
theorem dX4_open_161 : decode cX4_open 161 = .ok (.invokevirtual 47, 3) := by decide +kernel
theorem dX4_open_164 : decode cX4_open 164 = .ok (.istore 6, 2) := by decide +kernel
theorem dX4_open_166 : decode cX4_open 166 = .ok (.iload 6, 2) := by decide +kernel
theorem dX4_open_168 : decode cX4_open 168 = .ok (.ifCond .eq 56, 3) := by decide +kernel
theorem dX4_open_171 : decode cX4_open 171 = .ok (.aload_n 0, 1) := by decide +kernel
theorem dX4_open_172 : decode cX4_open 172 = .ok (.getfield 9, 3) := by decide +kernel
theorem dX4_open_175 : decode cX4_open 175 = .ok (.bipush 11, 2) := by decide +kernel
theorem dX4_open_177 : decode cX4_open 177 = .ok (.iload 5, 2) := by decide +kernel
theorem dX4_open_179 : decode cX4_open 179 = .ok (.imul, 1) := by decide +kernel
theorem dX4_open_180 : decode cX4_open 180 = .ok (.bipush 9, 2) := by decide +kernel
theorem dX4_open_182 : decode cX4_open 182 = .ok (.iadd, 1) := by decide +kernel
theorem dX4_open_183 : decode cX4_open 183 = .ok (.dup2, 1) := by decide +kernel
theorem dX4_open_184 : decode cX4_open 184 = .ok (.iaload, 1) := by decide +kernel
theorem dX4_open_185 : decode cX4_open 185 = .ok (.iconst 1, 1) := by decide +kernel
theorem dX4_open_186 : decode cX4_open 186 = .ok (.iadd, 1) := by decide +kernel
theorem dX4_open_187 : decode cX4_open 187 = .ok (.iastore, 1) := by decide +kernel
theorem dX4_open_188 : decode cX4_open 188 = .ok (.aload_n 0, 1) := by decide +kernel
theorem dX4_open_189 : decode cX4_open 189 = .ok (.getfield 9, 3) := by decide +kernel
theorem dX4_open_192 : decode cX4_open 192 = .ok (.bipush 11, 2) := by decide +kernel
theorem dX4_open_194 : decode cX4_open 194 = .ok (.iload 5, 2) := by decide +kernel
theorem dX4_open_196 : decode cX4_open 196 = .ok (.imul, 1) := by decide +kernel
theorem dX4_open_197 : decode cX4_open 197 = .ok (.bipush 9, 2) := by decide +kernel
theorem dX4_open_199 : decode cX4_open 199 = .ok (.iadd, 1) := by decide +kernel
theorem dX4_open_200 : decode cX4_open 200 = .ok (.iaload, 1) := by decide +kernel
theorem dX4_open_201 : decode cX4_open 201 = .ok (.aload_n 0, 1) := by decide +kernel
theorem dX4_open_202 : decode cX4_open 202 = .ok (.getfield 9, 3) := by decide +kernel
theorem dX4_open_205 : decode cX4_open 205 = .ok (.bipush 11, 2) := by decide +kernel
theorem dX4_open_207 : decode cX4_open 207 = .ok (.iload 5, 2) := by decide +kernel
theorem dX4_open_209 : decode cX4_open 209 = .ok (.imul, 1) := by decide +kernel
theorem dX4_open_210 : decode cX4_open 210 = .ok (.iconst 2, 1) := by decide +kernel
theorem dX4_open_211 : decode cX4_open 211 = .ok (.iadd, 1) := by decide +kernel
theorem dX4_open_212 : decode cX4_open 212 = .ok (.iaload, 1) := by decide +kernel
theorem dX4_open_213 : decode cX4_open 213 = .ok (.irem, 1) := by decide +kernel
theorem dX4_open_214 : decode cX4_open 214 = .ok (.ifCond .eq 7, 3) := by decide +kernel
theorem dX4_open_217 : decode cX4_open 217 = .ok (.iconst 1, 1) := by decide +kernel
theorem dX4_open_218 : decode cX4_open 218 = .ok (.goto 4, 3) := by decide +kernel
theorem dX4_open_221 : decode cX4_open 221 = .ok (.iconst 0, 1) := by decide +kernel
theorem dX4_open_222 : decode cX4_open 222 = .ok (.istore 6, 2) := by decide +kernel
theorem dX4_open_224 : decode cX4_open 224 = .ok (.iload 6, 2) := by decide +kernel
theorem dX4_open_226 : decode cX4_open 226 = .ok (.ifCond .ne 11, 3) := by decide +kernel
theorem dX4_open_229 : decode cX4_open 229 = .ok (.aload_n 0, 1) := by decide +kernel
theorem dX4_open_230 : decode cX4_open 230 = .ok (.iload 5, 2) := by decide +kernel
theorem dX4_open_232 : decode cX4_open 232 = .ok (.iconst 3, 1) := by decide +kernel
theorem dX4_open_233 : decode cX4_open 233 = .ok (.invokevirtual 81, 3) := by decide +kernel
theorem dX4_open_236 : decode cX4_open 236 = .ok (.pop, 1) := by decide +kernel
theorem dX4_open_237 : decode cX4_open 237 = .ok (.iload 6, 2) := by decide +kernel
theorem dX4_open_239 : decode cX4_open 239 = .ok (.ifCond .ne 5, 3) := by decide +kernel
theorem dX4_open_242 : decode cX4_open 242 = .ok (.iconst 0, 1) := by decide +kernel
theorem dX4_open_243 : decode cX4_open 243 = .ok (.ireturn, 1) := by decide +kernel
theorem dX4_open_244 : decode cX4_open 244 = .ok (.aload_n 0, 1) := by decide +kernel
theorem dX4_open_245 : decode cX4_open 245 = .ok (.getfield 15, 3) := by decide +kernel
theorem dX4_open_248 : decode cX4_open 248 = .ok (.iload_n 2, 1) := by decide +kernel
theorem dX4_open_249 : decode cX4_open 249 = .ok (.iconst 5, 1) := by decide +kernel
theorem dX4_open_250 : decode cX4_open 250 = .ok (.iadd, 1) := by decide +kernel
theorem dX4_open_251 : decode cX4_open 251 = .ok (.iload 4, 2) := by decide +kernel
theorem dX4_open_253 : decode cX4_open 253 = .ok (.iastore, 1) := by decide +kernel
theorem dX4_open_254 : decode cX4_open 254 = .ok (.aload_n 0, 1) := by decide +kernel
theorem dX4_open_255 : decode cX4_open 255 = .ok (.getfield 15, 3) := by decide +kernel
theorem dX4_open_258 : decode cX4_open 258 = .ok (.iload_n 2, 1) := by decide +kernel
theorem dX4_open_259 : decode cX4_open 259 = .ok (.bipush 8, 2) := by decide +kernel
theorem dX4_open_261 : decode cX4_open 261 = .ok (.iadd, 1) := by decide +kernel
theorem dX4_open_262 : decode cX4_open 262 = .ok (.dup2, 1) := by decide +kernel
theorem dX4_open_263 : decode cX4_open 263 = .ok (.iaload, 1) := by decide +kernel
theorem dX4_open_264 : decode cX4_open 264 = .ok (.iconst 1, 1) := by decide +kernel
theorem dX4_open_265 : decode cX4_open 265 = .ok (.iadd, 1) := by decide +kernel
theorem dX4_open_266 : decode cX4_open 266 = .ok (.iastore, 1) := by decide +kernel
theorem dX4_open_267 : decode cX4_open 267 = .ok (.aload_n 0, 1) := by decide +kernel
theorem dX4_open_268 : decode cX4_open 268 = .ok (.getfield 9, 3) := by decide +kernel
theorem dX4_open_271 : decode cX4_open 271 = .ok (.bipush 11, 2) := by decide +kernel
theorem dX4_open_273 : decode cX4_open 273 = .ok (.iload 4, 2) := by decide +kernel
theorem dX4_open_275 : decode cX4_open 275 = .ok (.imul, 1) := by decide +kernel
theorem dX4_open_276 : decode cX4_open 276 = .ok (.bipush 7, 2) := by decide +kernel
theorem dX4_open_278 : decode cX4_open 278 = .ok (.iadd, 1) := by decide +kernel
theorem dX4_open_279 : decode cX4_open 279 = .ok (.dup2, 1) := by decide +kernel
theorem dX4_open_280 : decode cX4_open 280 = .ok (.iaload, 1) := by decide +kernel
theorem dX4_open_281 : decode cX4_open 281 = .ok (.iconst 1, 1) := by decide +kernel
theorem dX4_open_282 : decode cX4_open 282 = .ok (.iadd, 1) := by decide +kernel
theorem dX4_open_283 : decode cX4_open 283 = .ok (.iastore, 1) := by decide +kernel
theorem dX4_open_284 : decode cX4_open 284 = .ok (.iconst 1, 1) := by decide +kernel
theorem dX4_open_285 : decode cX4_open 285 = .ok (.ireturn, 1) := by decide +kernel
set_option maxRecDepth 20000 in
theorem ggX4_draw_X4_needs : GoodIn wsX4_draw wsX4_needs := goodIn_r _ [14, 2, 15, 16, 17, 13, 18, 33, 34, 35, 36, 37, 38, 39, 40, 41] (by decide +kernel) (by decide +kernel)
set_option maxRecDepth 20000 in
theorem gX4_draw_X4_needs : GoodIn wsX4_draw (wsV RX4 84 RX4 yX4_needs wsX4_needs) := goodIn_app (goodIn_of _ (by decide +kernel)) ggX4_draw_X4_needs
set_option maxRecDepth 20000 in
theorem ggX4_draw_X4_fine : GoodIn wsX4_draw wsX4_fine := goodIn_r _ [22, 2, 5, 6, 7, 8, 23, 1, 24, 25, 26, 13, 27, 4, 28, 29, 30, 31, 32, 33, 34, 35, 36, 37, 38, 39, 40, 41] (by decide +kernel) (by decide +kernel)
set_option maxRecDepth 20000 in
theorem gX4_draw_X4_fine : GoodIn wsX4_draw (wsV RX4 81 RX4 yX4_fine wsX4_fine) := goodIn_app (goodIn_of _ (by decide +kernel)) ggX4_draw_X4_fine
theorem dX4_draw_0 : decode cX4_draw 0 = .ok (.aload_n 0, 1) := by decide +kernel
theorem dX4_draw_1 : decode cX4_draw 1 = .ok (.iload_n 1, 1) := by decide +kernel
theorem dX4_draw_2 : decode cX4_draw 2 = .ok (.invokevirtual 84, 3) := by decide +kernel
theorem dX4_draw_5 : decode cX4_draw 5 = .ok (.istore_n 2, 1) := by decide +kernel
theorem dX4_draw_6 : decode cX4_draw 6 = .ok (.iconst 0, 1) := by decide +kernel
theorem dX4_draw_7 : decode cX4_draw 7 = .ok (.istore_n 3, 1) := by decide +kernel
theorem dX4_draw_8 : decode cX4_draw 8 = .ok (.iload_n 3, 1) := by decide +kernel
theorem dX4_draw_9 : decode cX4_draw 9 = .ok (.aload_n 0, 1) := by decide +kernel
theorem dX4_draw_10 : decode cX4_draw 10 = .ok (.getfield 35, 3) := by decide +kernel
theorem dX4_draw_13 : decode cX4_draw 13 = .ok (.if_icmp .ge 181, 3) := by decide +kernel
theorem dX4_draw_16 : decode cX4_draw 16 = .ok (.aload_n 0, 1) := by decide +kernel
theorem dX4_draw_17 : decode cX4_draw 17 = .ok (.getfield 9, 3) := by decide +kernel
theorem dX4_draw_20 : decode cX4_draw 20 = .ok (.bipush 11, 2) := by decide +kernel
theorem dX4_draw_22 : decode cX4_draw 22 = .ok (.iload_n 1, 1) := by decide +kernel
theorem dX4_draw_23 : decode cX4_draw 23 = .ok (.imul, 1) := by decide +kernel
theorem dX4_draw_24 : decode cX4_draw 24 = .ok (.iconst 5, 1) := by decide +kernel
theorem dX4_draw_25 : decode cX4_draw 25 = .ok (.iadd, 1) := by decide +kernel
theorem dX4_draw_26 : decode cX4_draw 26 = .ok (.iaload, 1) := by decide +kernel
theorem dX4_draw_27 : decode cX4_draw 27 = .ok (.iload_n 3, 1) := by decide +kernel
theorem dX4_draw_28 : decode cX4_draw 28 = .ok (.iadd, 1) := by decide +kernel
theorem dX4_draw_29 : decode cX4_draw 29 = .ok (.aload_n 0, 1) := by decide +kernel
theorem dX4_draw_30 : decode cX4_draw 30 = .ok (.getfield 35, 3) := by decide +kernel
theorem dX4_draw_33 : decode cX4_draw 33 = .ok (.irem, 1) := by decide +kernel
theorem dX4_draw_34 : decode cX4_draw 34 = .ok (.istore 4, 2) := by decide +kernel
theorem dX4_draw_36 : decode cX4_draw 36 = .ok (.bipush 11, 2) := by decide +kernel
theorem dX4_draw_38 : decode cX4_draw 38 = .ok (.iload 4, 2) := by decide +kernel
theorem dX4_draw_40 : decode cX4_draw 40 = .ok (.imul, 1) := by decide +kernel
theorem dX4_draw_41 : decode cX4_draw 41 = .ok (.istore 5, 2) := by decide +kernel
theorem dX4_draw_43 : decode cX4_draw 43 = .ok (.aload_n 0, 1) := by decide +kernel
theorem dX4_draw_44 : decode cX4_draw 44 = .ok (.getfield 21, 3) := by decide +kernel
theorem dX4_draw_47 : decode cX4_draw 47 = .ok (.iload 4, 2) := by decide +kernel
theorem dX4_draw_49 : decode cX4_draw 49 = .ok (.baload, 1) := by decide +kernel
theorem dX4_draw_50 : decode cX4_draw 50 = .ok (.ifCond .eq 29, 3) := by decide +kernel
theorem dX4_draw_53 : decode cX4_draw 53 = .ok (.aload_n 0, 1) := by decide +kernel
theorem dX4_draw_54 : decode cX4_draw 54 = .ok (.getfield 15, 3) := by decide +kernel
theorem dX4_draw_57 : decode cX4_draw 57 = .ok (.iload 5, 2) := by decide +kernel
theorem dX4_draw_59 : decode cX4_draw 59 = .ok (.iconst 3, 1) := by decide +kernel
theorem dX4_draw_60 : decode cX4_draw 60 = .ok (.iadd, 1) := by decide +kernel
theorem dX4_draw_61 : decode cX4_draw 61 = .ok (.iaload, 1) := by decide +kernel
theorem dX4_draw_62 : decode cX4_draw 62 = .ok (.ifCond .ne 17, 3) := by decide +kernel
theorem dX4_draw_65 : decode cX4_draw 65 = .ok (.iload_n 2, 1) := by decide +kernel
theorem dX4_draw_66 : decode cX4_draw 66 = .ok (.aload_n 0, 1) := by decide +kernel
theorem dX4_draw_67 : decode cX4_draw 67 = .ok (.getfield 15, 3) := by decide +kernel
theorem dX4_draw_70 : decode cX4_draw 70 = .ok (.iload 5, 2) := by decide +kernel
theorem dX4_draw_72 : decode cX4_draw 72 = .ok (.iaload, 1) := by decide +kernel
theorem dX4_draw_73 : decode cX4_draw 73 = .ok (.invokestatic 51, 3) := by decide +kernel
theorem dX4_draw_76 : decode cX4_draw 76 = .ok (.goto 4, 3) := by decide +kernel
theorem dX4_draw_79 : decode cX4_draw 79 = .ok (.iconst 0, 1) := by decide +kernel
theorem dX4_draw_80 : decode cX4_draw 80 = .ok (.istore 6, 2) := by decide +kernel
theorem dX4_draw_82 : decode cX4_draw 82 = .ok (.iload 6, 2) := by decide +kernel
theorem dX4_draw_84 : decode cX4_draw 84 = .ok (.ifCond .ne 6, 3) := by decide +kernel
theorem dX4_draw_87 : decode cX4_draw 87 = .ok (.goto 101, 3) := by decide +kernel
theorem dX4_draw_90 : decode cX4_draw 90 = .ok (.iload_n 2, 1) := by decide +kernel
theorem dX4_draw_91 : decode cX4_draw 91 = .ok (.iload 6, 2) := by decide +kernel
theorem dX4_draw_93 : decode cX4_draw 93 = .ok (.isub, 1) := by decide +kernel
theorem dX4_draw_94 : decode cX4_draw 94 = .ok (.istore_n 2, 1) := by decide +kernel
theorem dX4_draw_95 : decode cX4_draw 95 = .ok (.aload_n 0, 1) := by decide +kernel
theorem dX4_draw_96 : decode cX4_draw 96 = .ok (.getfield 15, 3) := by decide +kernel
theorem dX4_draw_99 : decode cX4_draw 99 = .ok (.iload 5, 2) := by decide +kernel
theorem dX4_draw_101 : decode cX4_draw 101 = .ok (.dup2, 1) := by decide +kernel
theorem dX4_draw_102 : decode cX4_draw 102 = .ok (.iaload, 1) := by decide +kernel
theorem dX4_draw_103 : decode cX4_draw 103 = .ok (.iload 6, 2) := by decide +kernel
theorem dX4_draw_105 : decode cX4_draw 105 = .ok (.isub, 1) := by decide +kernel
theorem dX4_draw_106 : decode cX4_draw 106 = .ok (.iastore, 1) := by decide +kernel
theorem dX4_draw_107 : decode cX4_draw 107 = .ok (.aload_n 0, 1) := by decide +kernel
theorem dX4_draw_108 : decode cX4_draw 108 = .ok (.getfield 15, 3) := by decide +kernel
theorem dX4_draw_111 : decode cX4_draw 111 = .ok (.iload 5, 2) := by decide +kernel
theorem dX4_draw_113 : decode cX4_draw 113 = .ok (.iconst 2, 1) := by decide +kernel
theorem dX4_draw_114 : decode cX4_draw 114 = .ok (.iadd, 1) := by decide +kernel
theorem dX4_draw_115 : decode cX4_draw 115 = .ok (.dup2, 1) := by decide +kernel
theorem dX4_draw_116 : decode cX4_draw 116 = .ok (.iaload, 1) := by decide +kernel
theorem dX4_draw_117 : decode cX4_draw 117 = .ok (.iload 6, 2) := by decide +kernel
theorem dX4_draw_119 : decode cX4_draw 119 = .ok (.iadd, 1) := by decide +kernel
theorem dX4_draw_120 : decode cX4_draw 120 = .ok (.iastore, 1) := by decide +kernel
theorem dX4_draw_121 : decode cX4_draw 121 = .ok (.aload_n 0, 1) := by decide +kernel
theorem dX4_draw_122 : decode cX4_draw 122 = .ok (.getfield 15, 3) := by decide +kernel
theorem dX4_draw_125 : decode cX4_draw 125 = .ok (.iload 5, 2) := by decide +kernel
theorem dX4_draw_127 : decode cX4_draw 127 = .ok (.bipush 9, 2) := by decide +kernel
theorem dX4_draw_129 : decode cX4_draw 129 = .ok (.iadd, 1) := by decide +kernel
theorem dX4_draw_130 : decode cX4_draw 130 = .ok (.dup2, 1) := by decide +kernel
theorem dX4_draw_131 : decode cX4_draw 131 = .ok (.iaload, 1) := by decide +kernel
theorem dX4_draw_132 : decode cX4_draw 132 = .ok (.iload 6, 2) := by decide +kernel
theorem dX4_draw_134 : decode cX4_draw 134 = .ok (.iadd, 1) := by decide +kernel
theorem dX4_draw_135 : decode cX4_draw 135 = .ok (.iastore, 1) := by decide +kernel
theorem dX4_draw_136 : decode cX4_draw 136 = .ok (.aload_n 0, 1) := by decide +kernel
theorem dX4_draw_137 : decode cX4_draw 137 = .ok (.getfield 15, 3) := by decide +kernel
theorem dX4_draw_140 : decode cX4_draw 140 = .ok (.iload 5, 2) := by decide +kernel
theorem dX4_draw_142 : decode cX4_draw 142 = .ok (.iconst 2, 1) := by decide +kernel
theorem dX4_draw_143 : decode cX4_draw 143 = .ok (.iadd, 1) := by decide +kernel
theorem dX4_draw_144 : decode cX4_draw 144 = .ok (.iaload, 1) := by decide +kernel
theorem dX4_draw_145 : decode cX4_draw 145 = .ok (.bipush 100, 2) := by decide +kernel
theorem dX4_draw_147 : decode cX4_draw 147 = .ok (.if_icmp .ge 6, 3) := by decide +kernel
theorem dX4_draw_150 : decode cX4_draw 150 = .ok (.goto 38, 3) := by decide +kernel
theorem dX4_draw_153 : decode cX4_draw 153 = .ok (.aload_n 0, 1) := by decide +kernel
theorem dX4_draw_154 : decode cX4_draw 154 = .ok (.getfield 15, 3) := by decide +kernel
theorem dX4_draw_157 : decode cX4_draw 157 = .ok (.iload 5, 2) := by decide +kernel
theorem dX4_draw_159 : decode cX4_draw 159 = .ok (.iconst 3, 1) := by decide +kernel
theorem dX4_draw_160 : decode cX4_draw 160 = .ok (.iadd, 1) := by decide +kernel
theorem dX4_draw_161 : decode cX4_draw 161 = .ok (.iconst 1, 1) := by decide +kernel
theorem dX4_draw_162 : decode cX4_draw 162 = .ok (.iastore, 1) := by decide +kernel
theorem dX4_draw_163 : decode cX4_draw 163 = .ok (.aload_n 0, 1) := by decide +kernel
theorem dX4_draw_164 : decode cX4_draw 164 = .ok (.getfield 15, 3) := by decide +kernel
theorem dX4_draw_167 : decode cX4_draw 167 = .ok (.iload 5, 2) := by decide +kernel
theorem dX4_draw_169 : decode cX4_draw 169 = .ok (.iconst 4, 1) := by decide +kernel
theorem dX4_draw_170 : decode cX4_draw 170 = .ok (.iadd, 1) := by decide +kernel
theorem dX4_draw_171 : decode cX4_draw 171 = .ok (.iconst 3, 1) := by decide +kernel
theorem dX4_draw_172 : decode cX4_draw 172 = .ok (.iastore, 1) := by decide +kernel
theorem dX4_draw_173 : decode cX4_draw 173 = .ok (.aload_n 0, 1) := by decide +kernel
theorem dX4_draw_174 : decode cX4_draw 174 = .ok (.getfield 25, 3) := by decide +kernel
theorem dX4_draw_177 : decode cX4_draw 177 = .ok (.iload 4, 2) := by decide +kernel
theorem dX4_draw_179 : decode cX4_draw 179 = .ok (.iconst 1, 1) := by decide +kernel
theorem dX4_draw_180 : decode cX4_draw 180 = .ok (.bastore, 1) := by decide +kernel
theorem dX4_draw_181 : decode cX4_draw 181 = .ok (.aload_n 0, 1) := by decide +kernel
theorem dX4_draw_182 : decode cX4_draw 182 = .ok (.iload_n 1, 1) := by decide +kernel
theorem dX4_draw_183 : decode cX4_draw 183 = .ok (.iconst 5, 1) := by decide +kernel
theorem dX4_draw_184 : decode cX4_draw 184 = .ok (.invokevirtual 81, 3) := by decide +kernel
theorem dX4_draw_187 : decode cX4_draw 187 = .ok (.pop, 1) := by decide +kernel
theorem dX4_draw_188 : decode cX4_draw 188 = .ok (.iinc 3 1, 3) := by decide +kernel
theorem dX4_draw_191 : decode cX4_draw 191 = .ok (.goto (-183), 3) := by decide +kernel
theorem dX4_draw_194 : decode cX4_draw 194 = .ok (.aload_n 0, 1) := by decide +kernel
theorem dX4_draw_195 : decode cX4_draw 195 = .ok (.getfield 9, 3) := by decide +kernel
theorem dX4_draw_198 : decode cX4_draw 198 = .ok (.bipush 11, 2) := by decide +kernel
theorem dX4_draw_200 : decode cX4_draw 200 = .ok (.iload_n 1, 1) := by decide +kernel
theorem dX4_draw_201 : decode cX4_draw 201 = .ok (.imul, 1) := by decide +kernel
theorem dX4_draw_202 : decode cX4_draw 202 = .ok (.bipush 8, 2) := by decide +kernel
theorem dX4_draw_204 : decode cX4_draw 204 = .ok (.iadd, 1) := by decide +kernel
theorem dX4_draw_205 : decode cX4_draw 205 = .ok (.dup2, 1) := by decide +kernel
theorem dX4_draw_206 : decode cX4_draw 206 = .ok (.iaload, 1) := by decide +kernel
theorem dX4_draw_207 : decode cX4_draw 207 = .ok (.iload_n 2, 1) := by decide +kernel
theorem dX4_draw_208 : decode cX4_draw 208 = .ok (.iadd, 1) := by decide +kernel
theorem dX4_draw_209 : decode cX4_draw 209 = .ok (.iastore, 1) := by decide +kernel
theorem dX4_draw_210 : decode cX4_draw 210 = .ok (.aload_n 0, 1) := by decide +kernel
theorem dX4_draw_211 : decode cX4_draw 211 = .ok (.iload_n 1, 1) := by decide +kernel
theorem dX4_draw_212 : decode cX4_draw 212 = .ok (.invokevirtual 84, 3) := by decide +kernel
theorem dX4_draw_215 : decode cX4_draw 215 = .ok (.iload_n 2, 1) := by decide +kernel
theorem dX4_draw_216 : decode cX4_draw 216 = .ok (.isub, 1) := by decide +kernel
theorem dX4_draw_217 : decode cX4_draw 217 = .ok (.ireturn, 1) := by decide +kernel
theorem dX4_mend_0 : decode cX4_mend 0 = .ok (.bipush 11, 2) := by decide +kernel
theorem dX4_mend_2 : decode cX4_mend 2 = .ok (.iload_n 1, 1) := by decide +kernel
theorem dX4_mend_3 : decode cX4_mend 3 = .ok (.imul, 1) := by decide +kernel
theorem dX4_mend_4 : decode cX4_mend 4 = .ok (.istore_n 2, 1) := by decide +kernel
theorem dX4_mend_5 : decode cX4_mend 5 = .ok (.aload_n 0, 1) := by decide +kernel
theorem dX4_mend_6 : decode cX4_mend 6 = .ok (.getfield 15, 3) := by decide +kernel
theorem dX4_mend_9 : decode cX4_mend 9 = .ok (.iload_n 2, 1) := by decide +kernel
theorem dX4_mend_10 : decode cX4_mend 10 = .ok (.iconst 3, 1) := by decide +kernel
theorem dX4_mend_11 : decode cX4_mend 11 = .ok (.iadd, 1) := by decide +kernel
theorem dX4_mend_12 : decode cX4_mend 12 = .ok (.iaload, 1) := by decide +kernel
theorem dX4_mend_13 : decode cX4_mend 13 = .ok (.ifCond .eq 12, 3) := by decide +kernel
theorem dX4_mend_16 : decode cX4_mend 16 = .ok (.aload_n 0, 1) := by decide +kernel
theorem dX4_mend_17 : decode cX4_mend 17 = .ok (.getfield 25, 3) := by decide +kernel
theorem dX4_mend_20 : decode cX4_mend 20 = .ok (.iload_n 1, 1) := by decide +kernel
theorem dX4_mend_21 : decode cX4_mend 21 = .ok (.baload, 1) := by decide +kernel
theorem dX4_mend_22 : decode cX4_mend 22 = .ok (.ifCond .eq 4, 3) := by decide +kernel
theorem dX4_mend_25 : decode cX4_mend 25 = .ok (.return_, 1) := by decide +kernel
theorem dX4_mend_26 : decode cX4_mend 26 = .ok (.aload_n 0, 1) := by decide +kernel
theorem dX4_mend_27 : decode cX4_mend 27 = .ok (.getfield 15, 3) := by decide +kernel
theorem dX4_mend_30 : decode cX4_mend 30 = .ok (.iload_n 2, 1) := by decide +kernel
theorem dX4_mend_31 : decode cX4_mend 31 = .ok (.iconst 4, 1) := by decide +kernel
theorem dX4_mend_32 : decode cX4_mend 32 = .ok (.iadd, 1) := by decide +kernel
theorem dX4_mend_33 : decode cX4_mend 33 = .ok (.iconst 0, 1) := by decide +kernel
theorem dX4_mend_34 : decode cX4_mend 34 = .ok (.aload_n 0, 1) := by decide +kernel
theorem dX4_mend_35 : decode cX4_mend 35 = .ok (.getfield 15, 3) := by decide +kernel
theorem dX4_mend_38 : decode cX4_mend 38 = .ok (.iload_n 2, 1) := by decide +kernel
theorem dX4_mend_39 : decode cX4_mend 39 = .ok (.iconst 4, 1) := by decide +kernel
theorem dX4_mend_40 : decode cX4_mend 40 = .ok (.iadd, 1) := by decide +kernel
theorem dX4_mend_41 : decode cX4_mend 41 = .ok (.iaload, 1) := by decide +kernel
theorem dX4_mend_42 : decode cX4_mend 42 = .ok (.iconst 1, 1) := by decide +kernel
theorem dX4_mend_43 : decode cX4_mend 43 = .ok (.isub, 1) := by decide +kernel
theorem dX4_mend_44 : decode cX4_mend 44 = .ok (.invokestatic 78, 3) := by decide +kernel
theorem dX4_mend_47 : decode cX4_mend 47 = .ok (.iastore, 1) := by decide +kernel
theorem dX4_mend_48 : decode cX4_mend 48 = .ok (.aload_n 0, 1) := by decide +kernel
theorem dX4_mend_49 : decode cX4_mend 49 = .ok (.getfield 15, 3) := by decide +kernel
theorem dX4_mend_52 : decode cX4_mend 52 = .ok (.iload_n 2, 1) := by decide +kernel
theorem dX4_mend_53 : decode cX4_mend 53 = .ok (.iconst 4, 1) := by decide +kernel
theorem dX4_mend_54 : decode cX4_mend 54 = .ok (.iadd, 1) := by decide +kernel
theorem dX4_mend_55 : decode cX4_mend 55 = .ok (.iaload, 1) := by decide +kernel
theorem dX4_mend_56 : decode cX4_mend 56 = .ok (.ifCond .gt 12, 3) := by decide +kernel
theorem dX4_mend_59 : decode cX4_mend 59 = .ok (.aload_n 0, 1) := by decide +kernel
theorem dX4_mend_60 : decode cX4_mend 60 = .ok (.getfield 38, 3) := by decide +kernel
theorem dX4_mend_63 : decode cX4_mend 63 = .ok (.bipush 10, 2) := by decide +kernel
theorem dX4_mend_65 : decode cX4_mend 65 = .ok (.if_icmp .ge 4, 3) := by decide +kernel
theorem dX4_mend_68 : decode cX4_mend 68 = .ok (.return_, 1) := by decide +kernel
theorem dX4_mend_69 : decode cX4_mend 69 = .ok (.aload_n 0, 1) := by decide +kernel
theorem dX4_mend_70 : decode cX4_mend 70 = .ok (.dup, 1) := by decide +kernel
theorem dX4_mend_71 : decode cX4_mend 71 = .ok (.getfield 38, 3) := by decide +kernel
theorem dX4_mend_74 : decode cX4_mend 74 = .ok (.bipush 10, 2) := by decide +kernel
theorem dX4_mend_76 : decode cX4_mend 76 = .ok (.isub, 1) := by decide +kernel
theorem dX4_mend_77 : decode cX4_mend 77 = .ok (.putfield 38, 3) := by decide +kernel
theorem dX4_mend_80 : decode cX4_mend 80 = .ok (.aload_n 0, 1) := by decide +kernel
theorem dX4_mend_81 : decode cX4_mend 81 = .ok (.getfield 15, 3) := by decide +kernel
theorem dX4_mend_84 : decode cX4_mend 84 = .ok (.iload_n 2, 1) := by decide +kernel
theorem dX4_mend_85 : decode cX4_mend 85 = .ok (.iconst 3, 1) := by decide +kernel
theorem dX4_mend_86 : decode cX4_mend 86 = .ok (.iadd, 1) := by decide +kernel
theorem dX4_mend_87 : decode cX4_mend 87 = .ok (.iconst 0, 1) := by decide +kernel
theorem dX4_mend_88 : decode cX4_mend 88 = .ok (.iastore, 1) := by decide +kernel
theorem dX4_mend_89 : decode cX4_mend 89 = .ok (.aload_n 0, 1) := by decide +kernel
theorem dX4_mend_90 : decode cX4_mend 90 = .ok (.getfield 15, 3) := by decide +kernel
theorem dX4_mend_93 : decode cX4_mend 93 = .ok (.iload_n 2, 1) := by decide +kernel
theorem dX4_mend_94 : decode cX4_mend 94 = .ok (.iconst 2, 1) := by decide +kernel
theorem dX4_mend_95 : decode cX4_mend 95 = .ok (.iadd, 1) := by decide +kernel
theorem dX4_mend_96 : decode cX4_mend 96 = .ok (.iconst 0, 1) := by decide +kernel
theorem dX4_mend_97 : decode cX4_mend 97 = .ok (.iastore, 1) := by decide +kernel
theorem dX4_mend_98 : decode cX4_mend 98 = .ok (.aload_n 0, 1) := by decide +kernel
theorem dX4_mend_99 : decode cX4_mend 99 = .ok (.getfield 15, 3) := by decide +kernel
theorem dX4_mend_102 : decode cX4_mend 102 = .ok (.iload_n 2, 1) := by decide +kernel
theorem dX4_mend_103 : decode cX4_mend 103 = .ok (.bipush 10, 2) := by decide +kernel
theorem dX4_mend_105 : decode cX4_mend 105 = .ok (.iadd, 1) := by decide +kernel
theorem dX4_mend_106 : decode cX4_mend 106 = .ok (.dup2, 1) := by decide +kernel
theorem dX4_mend_107 : decode cX4_mend 107 = .ok (.iaload, 1) := by decide +kernel
theorem dX4_mend_108 : decode cX4_mend 108 = .ok (.iconst 1, 1) := by decide +kernel
theorem dX4_mend_109 : decode cX4_mend 109 = .ok (.iadd, 1) := by decide +kernel
theorem dX4_mend_110 : decode cX4_mend 110 = .ok (.iastore, 1) := by decide +kernel
theorem dX4_mend_111 : decode cX4_mend 111 = .ok (.return_, 1) := by decide +kernel
theorem dX4_share_0 : decode cX4_share 0 = .ok (.iconst 0, 1) := by decide +kernel
theorem dX4_share_1 : decode cX4_share 1 = .ok (.istore_n 1, 1) := by decide +kernel
theorem dX4_share_2 : decode cX4_share 2 = .ok (.iconst 0, 1) := by decide +kernel
theorem dX4_share_3 : decode cX4_share 3 = .ok (.istore_n 2, 1) := by decide +kernel
theorem dX4_share_4 : decode cX4_share 4 = .ok (.iload_n 2, 1) := by decide +kernel
theorem dX4_share_5 : decode cX4_share 5 = .ok (.aload_n 0, 1) := by decide +kernel
theorem dX4_share_6 : decode cX4_share 6 = .ok (.getfield 32, 3) := by decide +kernel
theorem dX4_share_9 : decode cX4_share 9 = .ok (.if_icmp .ge 31, 3) := by decide +kernel
theorem dX4_share_12 : decode cX4_share 12 = .ok (.iload_n 1, 1) := by decide +kernel
theorem dX4_share_13 : decode cX4_share 13 = .ok (.aload_n 0, 1) := by decide +kernel
theorem dX4_share_14 : decode cX4_share 14 = .ok (.getfield 9, 3) := by decide +kernel
theorem dX4_share_17 : decode cX4_share 17 = .ok (.bipush 11, 2) := by decide +kernel
theorem dX4_share_19 : decode cX4_share 19 = .ok (.iload_n 2, 1) := by decide +kernel
theorem dX4_share_20 : decode cX4_share 20 = .ok (.imul, 1) := by decide +kernel
theorem dX4_share_21 : decode cX4_share 21 = .ok (.iconst 4, 1) := by decide +kernel
theorem dX4_share_22 : decode cX4_share 22 = .ok (.iadd, 1) := by decide +kernel
theorem dX4_share_23 : decode cX4_share 23 = .ok (.iaload, 1) := by decide +kernel
theorem dX4_share_24 : decode cX4_share 24 = .ok (.ifCond .ne 7, 3) := by decide +kernel
theorem dX4_share_27 : decode cX4_share 27 = .ok (.iconst 1, 1) := by decide +kernel
theorem dX4_share_28 : decode cX4_share 28 = .ok (.goto 4, 3) := by decide +kernel
theorem dX4_share_31 : decode cX4_share 31 = .ok (.iconst 0, 1) := by decide +kernel
theorem dX4_share_32 : decode cX4_share 32 = .ok (.iadd, 1) := by decide +kernel
theorem dX4_share_33 : decode cX4_share 33 = .ok (.istore_n 1, 1) := by decide +kernel
theorem dX4_share_34 : decode cX4_share 34 = .ok (.iinc 2 1, 3) := by decide +kernel
theorem dX4_share_37 : decode cX4_share 37 = .ok (.goto (-33), 3) := by decide +kernel
theorem dX4_share_40 : decode cX4_share 40 = .ok (.iload_n 1, 1) := by decide +kernel
theorem dX4_share_41 : decode cX4_share 41 = .ok (.ifCond .ne 4, 3) := by decide +kernel
theorem dX4_share_44 : decode cX4_share 44 = .ok (.return_, 1) := by decide +kernel
theorem dX4_share_45 : decode cX4_share 45 = .ok (.aload_n 0, 1) := by decide +kernel
theorem dX4_share_46 : decode cX4_share 46 = .ok (.getfield 38, 3) := by decide +kernel
theorem dX4_share_49 : decode cX4_share 49 = .ok (.bipush 20, 2) := by decide +kernel
theorem dX4_share_51 : decode cX4_share 51 = .ok (.isub, 1) := by decide +kernel
theorem dX4_share_52 : decode cX4_share 52 = .ok (.iload_n 1, 1) := by decide +kernel
theorem dX4_share_53 : decode cX4_share 53 = .ok (.idiv, 1) := by decide +kernel
theorem dX4_share_54 : decode cX4_share 54 = .ok (.istore_n 2, 1) := by decide +kernel
theorem dX4_share_55 : decode cX4_share 55 = .ok (.iconst 0, 1) := by decide +kernel
theorem dX4_share_56 : decode cX4_share 56 = .ok (.istore_n 3, 1) := by decide +kernel
theorem dX4_share_57 : decode cX4_share 57 = .ok (.iload_n 3, 1) := by decide +kernel
theorem dX4_share_58 : decode cX4_share 58 = .ok (.aload_n 0, 1) := by decide +kernel
theorem dX4_share_59 : decode cX4_share 59 = .ok (.getfield 32, 3) := by decide +kernel
theorem dX4_share_62 : decode cX4_share 62 = .ok (.if_icmp .ge 38, 3) := by decide +kernel
theorem dX4_share_65 : decode cX4_share 65 = .ok (.aload_n 0, 1) := by decide +kernel
theorem dX4_share_66 : decode cX4_share 66 = .ok (.getfield 9, 3) := by decide +kernel
theorem dX4_share_69 : decode cX4_share 69 = .ok (.bipush 11, 2) := by decide +kernel
theorem dX4_share_71 : decode cX4_share 71 = .ok (.iload_n 3, 1) := by decide +kernel
theorem dX4_share_72 : decode cX4_share 72 = .ok (.imul, 1) := by decide +kernel
theorem dX4_share_73 : decode cX4_share 73 = .ok (.iconst 4, 1) := by decide +kernel
theorem dX4_share_74 : decode cX4_share 74 = .ok (.iadd, 1) := by decide +kernel
theorem dX4_share_75 : decode cX4_share 75 = .ok (.iaload, 1) := by decide +kernel
theorem dX4_share_76 : decode cX4_share 76 = .ok (.ifCond .ne 18, 3) := by decide +kernel
theorem dX4_share_79 : decode cX4_share 79 = .ok (.aload_n 0, 1) := by decide +kernel
theorem dX4_share_80 : decode cX4_share 80 = .ok (.getfield 9, 3) := by decide +kernel
theorem dX4_share_83 : decode cX4_share 83 = .ok (.bipush 11, 2) := by decide +kernel
theorem dX4_share_85 : decode cX4_share 85 = .ok (.iload_n 3, 1) := by decide +kernel
theorem dX4_share_86 : decode cX4_share 86 = .ok (.imul, 1) := by decide +kernel
theorem dX4_share_87 : decode cX4_share 87 = .ok (.iconst 3, 1) := by decide +kernel
theorem dX4_share_88 : decode cX4_share 88 = .ok (.iadd, 1) := by decide +kernel
theorem dX4_share_89 : decode cX4_share 89 = .ok (.dup2, 1) := by decide +kernel
theorem dX4_share_90 : decode cX4_share 90 = .ok (.iaload, 1) := by decide +kernel
theorem dX4_share_91 : decode cX4_share 91 = .ok (.iload_n 2, 1) := by decide +kernel
theorem dX4_share_92 : decode cX4_share 92 = .ok (.iadd, 1) := by decide +kernel
theorem dX4_share_93 : decode cX4_share 93 = .ok (.iastore, 1) := by decide +kernel
theorem dX4_share_94 : decode cX4_share 94 = .ok (.iinc 3 1, 3) := by decide +kernel
theorem dX4_share_97 : decode cX4_share 97 = .ok (.goto (-40), 3) := by decide +kernel
theorem dX4_share_100 : decode cX4_share 100 = .ok (.aload_n 0, 1) := by decide +kernel
theorem dX4_share_101 : decode cX4_share 101 = .ok (.dup, 1) := by decide +kernel
theorem dX4_share_102 : decode cX4_share 102 = .ok (.getfield 38, 3) := by decide +kernel
theorem dX4_share_105 : decode cX4_share 105 = .ok (.iload_n 2, 1) := by decide +kernel
theorem dX4_share_106 : decode cX4_share 106 = .ok (.iload_n 1, 1) := by decide +kernel
theorem dX4_share_107 : decode cX4_share 107 = .ok (.imul, 1) := by decide +kernel
theorem dX4_share_108 : decode cX4_share 108 = .ok (.isub, 1) := by decide +kernel
theorem dX4_share_109 : decode cX4_share 109 = .ok (.putfield 38, 3) := by decide +kernel
theorem dX4_share_112 : decode cX4_share 112 = .ok (.return_, 1) := by decide +kernel
theorem dX4_over_0 : decode cX4_over 0 = .ok (.iconst 0, 1) := by decide +kernel
theorem dX4_over_1 : decode cX4_over 1 = .ok (.istore_n 2, 1) := by decide +kernel
theorem dX4_over_2 : decode cX4_over 2 = .ok (.iconst 0, 1) := by decide +kernel
theorem dX4_over_3 : decode cX4_over 3 = .ok (.istore_n 3, 1) := by decide +kernel
theorem dX4_over_4 : decode cX4_over 4 = .ok (.iload_n 3, 1) := by decide +kernel
theorem dX4_over_5 : decode cX4_over 5 = .ok (.aload_n 0, 1) := by decide +kernel
theorem dX4_over_6 : decode cX4_over 6 = .ok (.getfield 32, 3) := by decide +kernel
theorem dX4_over_9 : decode cX4_over 9 = .ok (.if_icmp .ge 23, 3) := by decide +kernel
theorem dX4_over_12 : decode cX4_over 12 = .ok (.iload_n 2, 1) := by decide +kernel
theorem dX4_over_13 : decode cX4_over 13 = .ok (.aload_n 0, 1) := by decide +kernel
theorem dX4_over_14 : decode cX4_over 14 = .ok (.getfield 9, 3) := by decide +kernel
theorem dX4_over_17 : decode cX4_over 17 = .ok (.bipush 11, 2) := by decide +kernel
theorem dX4_over_19 : decode cX4_over 19 = .ok (.iload_n 3, 1) := by decide +kernel
theorem dX4_over_20 : decode cX4_over 20 = .ok (.imul, 1) := by decide +kernel
theorem dX4_over_21 : decode cX4_over 21 = .ok (.iload_n 1, 1) := by decide +kernel
theorem dX4_over_22 : decode cX4_over 22 = .ok (.iadd, 1) := by decide +kernel
theorem dX4_over_23 : decode cX4_over 23 = .ok (.iaload, 1) := by decide +kernel
theorem dX4_over_24 : decode cX4_over 24 = .ok (.iadd, 1) := by decide +kernel
theorem dX4_over_25 : decode cX4_over 25 = .ok (.istore_n 2, 1) := by decide +kernel
theorem dX4_over_26 : decode cX4_over 26 = .ok (.iinc 3 1, 3) := by decide +kernel
theorem dX4_over_29 : decode cX4_over 29 = .ok (.goto (-25), 3) := by decide +kernel
theorem dX4_over_32 : decode cX4_over 32 = .ok (.iload_n 2, 1) := by decide +kernel
theorem dX4_over_33 : decode cX4_over 33 = .ok (.ireturn, 1) := by decide +kernel
theorem dX4_broken_0 : decode cX4_broken 0 = .ok (.iconst 0, 1) := by decide +kernel
theorem dX4_broken_1 : decode cX4_broken 1 = .ok (.istore_n 1, 1) := by decide +kernel
theorem dX4_broken_2 : decode cX4_broken 2 = .ok (.iconst 0, 1) := by decide +kernel
theorem dX4_broken_3 : decode cX4_broken 3 = .ok (.istore_n 2, 1) := by decide +kernel
theorem dX4_broken_4 : decode cX4_broken 4 = .ok (.iload_n 2, 1) := by decide +kernel
theorem dX4_broken_5 : decode cX4_broken 5 = .ok (.aload_n 0, 1) := by decide +kernel
theorem dX4_broken_6 : decode cX4_broken 6 = .ok (.getfield 35, 3) := by decide +kernel
theorem dX4_broken_9 : decode cX4_broken 9 = .ok (.if_icmp .ge 23, 3) := by decide +kernel
theorem dX4_broken_12 : decode cX4_broken 12 = .ok (.iload_n 1, 1) := by decide +kernel
theorem dX4_broken_13 : decode cX4_broken 13 = .ok (.aload_n 0, 1) := by decide +kernel
theorem dX4_broken_14 : decode cX4_broken 14 = .ok (.getfield 15, 3) := by decide +kernel
theorem dX4_broken_17 : decode cX4_broken 17 = .ok (.bipush 11, 2) := by decide +kernel
theorem dX4_broken_19 : decode cX4_broken 19 = .ok (.iload_n 2, 1) := by decide +kernel
theorem dX4_broken_20 : decode cX4_broken 20 = .ok (.imul, 1) := by decide +kernel
theorem dX4_broken_21 : decode cX4_broken 21 = .ok (.iconst 3, 1) := by decide +kernel
theorem dX4_broken_22 : decode cX4_broken 22 = .ok (.iadd, 1) := by decide +kernel
theorem dX4_broken_23 : decode cX4_broken 23 = .ok (.iaload, 1) := by decide +kernel
theorem dX4_broken_24 : decode cX4_broken 24 = .ok (.iadd, 1) := by decide +kernel
theorem dX4_broken_25 : decode cX4_broken 25 = .ok (.istore_n 1, 1) := by decide +kernel
theorem dX4_broken_26 : decode cX4_broken 26 = .ok (.iinc 2 1, 3) := by decide +kernel
theorem dX4_broken_29 : decode cX4_broken 29 = .ok (.goto (-25), 3) := by decide +kernel
theorem dX4_broken_32 : decode cX4_broken 32 = .ok (.iload_n 1, 1) := by decide +kernel
theorem dX4_broken_33 : decode cX4_broken 33 = .ok (.ireturn, 1) := by decide +kernel
set_option maxRecDepth 20000 in
theorem ggX5_init_X4_init : GoodIn wsX5_init wsX4_init := goodIn_r _ [10, 11, 2, 3, 12, 13, 14, 15, 16, 17, 18, 19, 20, 21, 22, 23, 24, 25, 26, 27] (by decide +kernel) (by decide +kernel)
set_option maxRecDepth 20000 in
theorem gX5_init_X4_init_n9 : GoodIn wsX5_init (wsX4_init) := ggX5_init_X4_init
theorem dX5_init_0 : decode cX5_init 0 = .ok (.aload_n 0, 1) := by decide +kernel
theorem dX5_init_1 : decode cX5_init 1 = .ok (.invokespecial 1, 3) := by decide +kernel
theorem dX5_init_4 : decode cX5_init 4 = .ok (.aload_n 0, 1) := by decide +kernel
theorem dX5_init_5 : decode cX5_init 5 = .ok (.new 7, 3) := by decide +kernel
theorem dX5_init_8 : decode cX5_init 8 = .ok (.dup, 1) := by decide +kernel
theorem dX5_init_9 : decode cX5_init 9 = .ok (.invokespecial 9, 3) := by decide +kernel
theorem dX5_init_12 : decode cX5_init 12 = .ok (.putfield 10, 3) := by decide +kernel
theorem dX5_init_15 : decode cX5_init 15 = .ok (.aload_n 0, 1) := by decide +kernel
theorem dX5_init_16 : decode cX5_init 16 = .ok (.new 7, 3) := by decide +kernel
theorem dX5_init_19 : decode cX5_init 19 = .ok (.dup, 1) := by decide +kernel
theorem dX5_init_20 : decode cX5_init 20 = .ok (.invokespecial 9, 3) := by decide +kernel
theorem dX5_init_23 : decode cX5_init 23 = .ok (.putfield 16, 3) := by decide +kernel
theorem dX5_init_26 : decode cX5_init 26 = .ok (.return_, 1) := by decide +kernel
theorem dX5_thrown_0 : decode cX5_thrown 0 = .ok (.aload_n 0, 1) := by decide +kernel
theorem dX5_thrown_1 : decode cX5_thrown 1 = .ok (.getfield 19, 3) := by decide +kernel
theorem dX5_thrown_4 : decode cX5_thrown 4 = .ok (.ireturn, 1) := by decide +kernel
theorem dX5_no_0 : decode cX5_no 0 = .ok (.aload_n 0, 1) := by decide +kernel
theorem dX5_no_1 : decode cX5_no 1 = .ok (.iload_n 1, 1) := by decide +kernel
theorem dX5_no_2 : decode cX5_no 2 = .ok (.putfield 19, 3) := by decide +kernel
theorem dX5_no_5 : decode cX5_no 5 = .ok (.iconst 0, 1) := by decide +kernel
theorem dX5_no_6 : decode cX5_no 6 = .ok (.ireturn, 1) := by decide +kernel
theorem dX5_isIn_0 : decode cX5_isIn 0 = .ok (.iload_n 0, 1) := by decide +kernel
theorem dX5_isIn_1 : decode cX5_isIn 1 = .ok (.iload_n 1, 1) := by decide +kernel
theorem dX5_isIn_2 : decode cX5_isIn 2 = .ok (.if_icmp .lt 12, 3) := by decide +kernel
theorem dX5_isIn_5 : decode cX5_isIn 5 = .ok (.iload_n 0, 1) := by decide +kernel
theorem dX5_isIn_6 : decode cX5_isIn 6 = .ok (.iload_n 2, 1) := by decide +kernel
theorem dX5_isIn_7 : decode cX5_isIn 7 = .ok (.if_icmp .gt 7, 3) := by decide +kernel
theorem dX5_isIn_10 : decode cX5_isIn 10 = .ok (.iconst 1, 1) := by decide +kernel
theorem dX5_isIn_11 : decode cX5_isIn 11 = .ok (.goto 4, 3) := by decide +kernel
theorem dX5_isIn_14 : decode cX5_isIn 14 = .ok (.iconst 0, 1) := by decide +kernel
theorem dX5_isIn_15 : decode cX5_isIn 15 = .ok (.ireturn, 1) := by decide +kernel
set_option maxRecDepth 20000 in
theorem ggX5_isHouse_X5_isIn : GoodIn wsX5_isHouse wsX5_isIn := goodIn_r _ [5] (by decide +kernel) (by decide +kernel)
set_option maxRecDepth 20000 in
theorem gX5_isHouse_X5_isIn : GoodIn wsX5_isHouse (va_wsS RX5 26 yX5_isIn wsX5_isIn) := goodIn_app (goodIn_of _ (by decide +kernel)) ggX5_isHouse_X5_isIn
theorem dX5_isHouse_0 : decode cX5_isHouse 0 = .ok (.iload_n 1, 1) := by decide +kernel
theorem dX5_isHouse_1 : decode cX5_isHouse 1 = .ok (.iconst 0, 1) := by decide +kernel
theorem dX5_isHouse_2 : decode cX5_isHouse 2 = .ok (.aload_n 0, 1) := by decide +kernel
theorem dX5_isHouse_3 : decode cX5_isHouse 3 = .ok (.getfield 10, 3) := by decide +kernel
theorem dX5_isHouse_6 : decode cX5_isHouse 6 = .ok (.getfield 23, 3) := by decide +kernel
theorem dX5_isHouse_9 : decode cX5_isHouse 9 = .ok (.iconst 1, 1) := by decide +kernel
theorem dX5_isHouse_10 : decode cX5_isHouse 10 = .ok (.isub, 1) := by decide +kernel
theorem dX5_isHouse_11 : decode cX5_isHouse 11 = .ok (.invokestatic 26, 3) := by decide +kernel
theorem dX5_isHouse_14 : decode cX5_isHouse 14 = .ok (.ireturn, 1) := by decide +kernel
set_option maxRecDepth 20000 in
theorem ggX5_isPump_X5_isIn : GoodIn wsX5_isPump wsX5_isIn := goodIn_r _ [5] (by decide +kernel) (by decide +kernel)
set_option maxRecDepth 20000 in
theorem gX5_isPump_X5_isIn : GoodIn wsX5_isPump (va_wsS RX5 26 yX5_isIn wsX5_isIn) := goodIn_app (goodIn_of _ (by decide +kernel)) ggX5_isPump_X5_isIn
theorem dX5_isPump_0 : decode cX5_isPump 0 = .ok (.iload_n 1, 1) := by decide +kernel
theorem dX5_isPump_1 : decode cX5_isPump 1 = .ok (.iconst 0, 1) := by decide +kernel
theorem dX5_isPump_2 : decode cX5_isPump 2 = .ok (.aload_n 0, 1) := by decide +kernel
theorem dX5_isPump_3 : decode cX5_isPump 3 = .ok (.getfield 10, 3) := by decide +kernel
theorem dX5_isPump_6 : decode cX5_isPump 6 = .ok (.getfield 30, 3) := by decide +kernel
theorem dX5_isPump_9 : decode cX5_isPump 9 = .ok (.iconst 1, 1) := by decide +kernel
theorem dX5_isPump_10 : decode cX5_isPump 10 = .ok (.isub, 1) := by decide +kernel
theorem dX5_isPump_11 : decode cX5_isPump 11 = .ok (.invokestatic 26, 3) := by decide +kernel
theorem dX5_isPump_14 : decode cX5_isPump 14 = .ok (.ireturn, 1) := by decide +kernel
set_option maxRecDepth 20000 in
theorem ggX5_addHouse_X5_isIn : GoodIn wsX5_addHouse wsX5_isIn := goodIn_r _ [11] (by decide +kernel) (by decide +kernel)
set_option maxRecDepth 20000 in
theorem gX5_addHouse_X5_isIn : GoodIn wsX5_addHouse (va_wsS RX5 26 yX5_isIn wsX5_isIn) := goodIn_app (goodIn_of _ (by decide +kernel)) ggX5_addHouse_X5_isIn
set_option maxRecDepth 20000 in
theorem ggX5_addHouse_X5_no : GoodIn wsX5_addHouse wsX5_no := goodIn_r _ [15, 1, 16, 17, 18] (by decide +kernel) (by decide +kernel)
set_option maxRecDepth 20000 in
theorem gX5_addHouse_X5_no : GoodIn wsX5_addHouse (wsV RX5 33 RX5 yX5_no wsX5_no) := goodIn_app (goodIn_of _ (by decide +kernel)) ggX5_addHouse_X5_no
theorem dX5_addHouse_0 : decode cX5_addHouse 0 = .ok (.aload_n 0, 1) := by decide +kernel
theorem dX5_addHouse_1 : decode cX5_addHouse 1 = .ok (.iconst 0, 1) := by decide +kernel
theorem dX5_addHouse_2 : decode cX5_addHouse 2 = .ok (.putfield 19, 3) := by decide +kernel
theorem dX5_addHouse_5 : decode cX5_addHouse 5 = .ok (.iload_n 1, 1) := by decide +kernel
theorem dX5_addHouse_6 : decode cX5_addHouse 6 = .ok (.iconst 0, 1) := by decide +kernel
theorem dX5_addHouse_7 : decode cX5_addHouse 7 = .ok (.bipush 9, 2) := by decide +kernel
theorem dX5_addHouse_9 : decode cX5_addHouse 9 = .ok (.invokestatic 26, 3) := by decide +kernel
theorem dX5_addHouse_12 : decode cX5_addHouse 12 = .ok (.ifCond .eq 23, 3) := by decide +kernel
theorem dX5_addHouse_15 : decode cX5_addHouse 15 = .ok (.iload_n 2, 1) := by decide +kernel
theorem dX5_addHouse_16 : decode cX5_addHouse 16 = .ok (.iconst 0, 1) := by decide +kernel
theorem dX5_addHouse_17 : decode cX5_addHouse 17 = .ok (.bipush 9, 2) := by decide +kernel
theorem dX5_addHouse_19 : decode cX5_addHouse 19 = .ok (.invokestatic 26, 3) := by decide +kernel
theorem dX5_addHouse_22 : decode cX5_addHouse 22 = .ok (.ifCond .eq 13, 3) := by decide +kernel
theorem dX5_addHouse_25 : decode cX5_addHouse 25 = .ok (.iload_n 3, 1) := by decide +kernel
theorem dX5_addHouse_26 : decode cX5_addHouse 26 = .ok (.iconst 1, 1) := by decide +kernel
theorem dX5_addHouse_27 : decode cX5_addHouse 27 = .ok (.bipush 9, 2) := by decide +kernel
theorem dX5_addHouse_29 : decode cX5_addHouse 29 = .ok (.invokestatic 26, 3) := by decide +kernel
theorem dX5_addHouse_32 : decode cX5_addHouse 32 = .ok (.ifCond .ne 9, 3) := by decide +kernel
theorem dX5_addHouse_35 : decode cX5_addHouse 35 = .ok (.aload_n 0, 1) := by decide +kernel
theorem dX5_addHouse_36 : decode cX5_addHouse 36 = .ok (.iconst 1, 1) := by decide +kernel
theorem dX5_addHouse_37 : decode cX5_addHouse 37 = .ok (.invokevirtual 33, 3) := by decide +kernel
theorem dX5_addHouse_40 : decode cX5_addHouse 40 = .ok (.ireturn, 1) := by decide +kernel
theorem dX5_addHouse_41 : decode cX5_addHouse 41 = .ok (.aload_n 0, 1) := by decide +kernel
theorem dX5_addHouse_42 : decode cX5_addHouse 42 = .ok (.getfield 10, 3) := by decide +kernel
theorem dX5_addHouse_45 : decode cX5_addHouse 45 = .ok (.getfield 23, 3) := by decide +kernel
theorem dX5_addHouse_48 : decode cX5_addHouse 48 = .ok (.bipush 10, 2) := by decide +kernel
theorem dX5_addHouse_50 : decode cX5_addHouse 50 = .ok (.if_icmp .ne 9, 3) := by decide +kernel
theorem dX5_addHouse_53 : decode cX5_addHouse 53 = .ok (.aload_n 0, 1) := by decide +kernel
theorem dX5_addHouse_54 : decode cX5_addHouse 54 = .ok (.iconst 2, 1) := by decide +kernel
theorem dX5_addHouse_55 : decode cX5_addHouse 55 = .ok (.invokevirtual 33, 3) := by decide +kernel
theorem dX5_addHouse_58 : decode cX5_addHouse 58 = .ok (.ireturn, 1) := by decide +kernel
theorem dX5_addHouse_59 : decode cX5_addHouse 59 = .ok (.iconst 4, 1) := by decide +kernel
theorem dX5_addHouse_60 : decode cX5_addHouse 60 = .ok (.newarray .int, 2) := by decide +kernel
theorem dX5_addHouse_62 : decode cX5_addHouse 62 = .ok (.dup, 1) := by decide +kernel
theorem dX5_addHouse_63 : decode cX5_addHouse 63 = .ok (.iconst 0, 1) := by decide +kernel
theorem dX5_addHouse_64 : decode cX5_addHouse 64 = .ok (.iload_n 1, 1) := by decide +kernel
theorem dX5_addHouse_65 : decode cX5_addHouse 65 = .ok (.iastore, 1) := by decide +kernel
theorem dX5_addHouse_66 : decode cX5_addHouse 66 = .ok (.dup, 1) := by decide +kernel
theorem dX5_addHouse_67 : decode cX5_addHouse 67 = .ok (.iconst 1, 1) := by decide +kernel
theorem dX5_addHouse_68 : decode cX5_addHouse 68 = .ok (.iload_n 2, 1) := by decide +kernel
theorem dX5_addHouse_69 : decode cX5_addHouse 69 = .ok (.iastore, 1) := by decide +kernel
theorem dX5_addHouse_70 : decode cX5_addHouse 70 = .ok (.dup, 1) := by decide +kernel
theorem dX5_addHouse_71 : decode cX5_addHouse 71 = .ok (.iconst 2, 1) := by decide +kernel
theorem dX5_addHouse_72 : decode cX5_addHouse 72 = .ok (.iload_n 3, 1) := by decide +kernel
theorem dX5_addHouse_73 : decode cX5_addHouse 73 = .ok (.iastore, 1) := by decide +kernel
theorem dX5_addHouse_74 : decode cX5_addHouse 74 = .ok (.dup, 1) := by decide +kernel
theorem dX5_addHouse_75 : decode cX5_addHouse 75 = .ok (.iconst 3, 1) := by decide +kernel
theorem dX5_addHouse_76 : decode cX5_addHouse 76 = .ok (.bipush 10, 2) := by decide +kernel
theorem dX5_addHouse_78 : decode cX5_addHouse 78 = .ok (.iastore, 1) := by decide +kernel
theorem dX5_addHouse_79 : decode cX5_addHouse 79 = .ok (.astore 4, 2) := by decide +kernel
theorem dX5_addHouse_81 : decode cX5_addHouse 81 = .ok (.aload 4, 2) := by decide +kernel
theorem dX5_addHouse_83 : decode cX5_addHouse 83 = .ok (.iconst 0, 1) := by decide +kernel
theorem dX5_addHouse_84 : decode cX5_addHouse 84 = .ok (.aload_n 0, 1) := by decide +kernel
theorem dX5_addHouse_85 : decode cX5_addHouse 85 = .ok (.getfield 10, 3) := by decide +kernel
theorem dX5_addHouse_88 : decode cX5_addHouse 88 = .ok (.getfield 37, 3) := by decide +kernel
theorem dX5_addHouse_91 : decode cX5_addHouse 91 = .ok (.bipush 11, 2) := by decide +kernel
theorem dX5_addHouse_93 : decode cX5_addHouse 93 = .ok (.aload_n 0, 1) := by decide +kernel
theorem dX5_addHouse_94 : decode cX5_addHouse 94 = .ok (.getfield 10, 3) := by decide +kernel
theorem dX5_addHouse_97 : decode cX5_addHouse 97 = .ok (.getfield 23, 3) := by decide +kernel
theorem dX5_addHouse_100 : decode cX5_addHouse 100 = .ok (.imul, 1) := by decide +kernel
theorem dX5_addHouse_101 : decode cX5_addHouse 101 = .ok (.iconst 4, 1) := by decide +kernel
theorem dX5_addHouse_102 : decode cX5_addHouse 102 = .ok (.invokestatic 41, 3) := by decide +kernel
theorem dX5_addHouse_105 : decode cX5_addHouse 105 = .ok (.aload_n 0, 1) := by decide +kernel
theorem dX5_addHouse_106 : decode cX5_addHouse 106 = .ok (.getfield 10, 3) := by decide +kernel
theorem dX5_addHouse_109 : decode cX5_addHouse 109 = .ok (.dup, 1) := by decide +kernel
theorem dX5_addHouse_110 : decode cX5_addHouse 110 = .ok (.getfield 23, 3) := by decide +kernel
theorem dX5_addHouse_113 : decode cX5_addHouse 113 = .ok (.iconst 1, 1) := by decide +kernel
theorem dX5_addHouse_114 : decode cX5_addHouse 114 = .ok (.iadd, 1) := by decide +kernel
theorem dX5_addHouse_115 : decode cX5_addHouse 115 = .ok (.putfield 23, 3) := by decide +kernel
theorem dX5_addHouse_118 : decode cX5_addHouse 118 = .ok (.aload_n 0, 1) := by decide +kernel
theorem dX5_addHouse_119 : decode cX5_addHouse 119 = .ok (.getfield 10, 3) := by decide +kernel
theorem dX5_addHouse_122 : decode cX5_addHouse 122 = .ok (.getfield 23, 3) := by decide +kernel
theorem dX5_addHouse_125 : decode cX5_addHouse 125 = .ok (.iconst 1, 1) := by decide +kernel
theorem dX5_addHouse_126 : decode cX5_addHouse 126 = .ok (.isub, 1) := by decide +kernel
theorem dX5_addHouse_127 : decode cX5_addHouse 127 = .ok (.ireturn, 1) := by decide +kernel
set_option maxRecDepth 20000 in
theorem ggX5_addPump_X5_isIn : GoodIn wsX5_addPump wsX5_isIn := goodIn_r _ [6] (by decide +kernel) (by decide +kernel)
set_option maxRecDepth 20000 in
theorem gX5_addPump_X5_isIn : GoodIn wsX5_addPump (va_wsS RX5 26 yX5_isIn wsX5_isIn) := goodIn_app (goodIn_of _ (by decide +kernel)) ggX5_addPump_X5_isIn
set_option maxRecDepth 20000 in
theorem ggX5_addPump_X5_no : GoodIn wsX5_addPump wsX5_no := goodIn_r _ [10, 1, 11, 12, 13] (by decide +kernel) (by decide +kernel)
set_option maxRecDepth 20000 in
theorem gX5_addPump_X5_no : GoodIn wsX5_addPump (wsV RX5 33 RX5 yX5_no wsX5_no) := goodIn_app (goodIn_of _ (by decide +kernel)) ggX5_addPump_X5_no
theorem dX5_addPump_0 : decode cX5_addPump 0 = .ok (.aload_n 0, 1) := by decide +kernel
theorem dX5_addPump_1 : decode cX5_addPump 1 = .ok (.iconst 0, 1) := by decide +kernel
theorem dX5_addPump_2 : decode cX5_addPump 2 = .ok (.putfield 19, 3) := by decide +kernel
theorem dX5_addPump_5 : decode cX5_addPump 5 = .ok (.iload_n 1, 1) := by decide +kernel
theorem dX5_addPump_6 : decode cX5_addPump 6 = .ok (.iconst 0, 1) := by decide +kernel
theorem dX5_addPump_7 : decode cX5_addPump 7 = .ok (.sipush 200, 3) := by decide +kernel
theorem dX5_addPump_10 : decode cX5_addPump 10 = .ok (.invokestatic 26, 3) := by decide +kernel
theorem dX5_addPump_13 : decode cX5_addPump 13 = .ok (.ifCond .eq 13, 3) := by decide +kernel
theorem dX5_addPump_16 : decode cX5_addPump 16 = .ok (.iload_n 2, 1) := by decide +kernel
theorem dX5_addPump_17 : decode cX5_addPump 17 = .ok (.iconst 0, 1) := by decide +kernel
theorem dX5_addPump_18 : decode cX5_addPump 18 = .ok (.bipush 50, 2) := by decide +kernel
theorem dX5_addPump_20 : decode cX5_addPump 20 = .ok (.invokestatic 26, 3) := by decide +kernel
theorem dX5_addPump_23 : decode cX5_addPump 23 = .ok (.ifCond .ne 9, 3) := by decide +kernel
theorem dX5_addPump_26 : decode cX5_addPump 26 = .ok (.aload_n 0, 1) := by decide +kernel
theorem dX5_addPump_27 : decode cX5_addPump 27 = .ok (.iconst 1, 1) := by decide +kernel
theorem dX5_addPump_28 : decode cX5_addPump 28 = .ok (.invokevirtual 33, 3) := by decide +kernel
theorem dX5_addPump_31 : decode cX5_addPump 31 = .ok (.ireturn, 1) := by decide +kernel
theorem dX5_addPump_32 : decode cX5_addPump 32 = .ok (.aload_n 0, 1) := by decide +kernel
theorem dX5_addPump_33 : decode cX5_addPump 33 = .ok (.getfield 10, 3) := by decide +kernel
theorem dX5_addPump_36 : decode cX5_addPump 36 = .ok (.getfield 30, 3) := by decide +kernel
theorem dX5_addPump_39 : decode cX5_addPump 39 = .ok (.iconst 3, 1) := by decide +kernel
theorem dX5_addPump_40 : decode cX5_addPump 40 = .ok (.if_icmp .ne 9, 3) := by decide +kernel
theorem dX5_addPump_43 : decode cX5_addPump 43 = .ok (.aload_n 0, 1) := by decide +kernel
theorem dX5_addPump_44 : decode cX5_addPump 44 = .ok (.iconst 2, 1) := by decide +kernel
theorem dX5_addPump_45 : decode cX5_addPump 45 = .ok (.invokevirtual 33, 3) := by decide +kernel
theorem dX5_addPump_48 : decode cX5_addPump 48 = .ok (.ireturn, 1) := by decide +kernel
theorem dX5_addPump_49 : decode cX5_addPump 49 = .ok (.aload_n 0, 1) := by decide +kernel
theorem dX5_addPump_50 : decode cX5_addPump 50 = .ok (.getfield 10, 3) := by decide +kernel
theorem dX5_addPump_53 : decode cX5_addPump 53 = .ok (.getfield 47, 3) := by decide +kernel
theorem dX5_addPump_56 : decode cX5_addPump 56 = .ok (.bipush 11, 2) := by decide +kernel
theorem dX5_addPump_58 : decode cX5_addPump 58 = .ok (.aload_n 0, 1) := by decide +kernel
theorem dX5_addPump_59 : decode cX5_addPump 59 = .ok (.getfield 10, 3) := by decide +kernel
theorem dX5_addPump_62 : decode cX5_addPump 62 = .ok (.getfield 30, 3) := by decide +kernel
theorem dX5_addPump_65 : decode cX5_addPump 65 = .ok (.imul, 1) := by decide +kernel
theorem dX5_addPump_66 : decode cX5_addPump 66 = .ok (.iload_n 1, 1) := by decide +kernel
theorem dX5_addPump_67 : decode cX5_addPump 67 = .ok (.iastore, 1) := by decide +kernel
theorem dX5_addPump_68 : decode cX5_addPump 68 = .ok (.aload_n 0, 1) := by decide +kernel
theorem dX5_addPump_69 : decode cX5_addPump 69 = .ok (.getfield 10, 3) := by decide +kernel
theorem dX5_addPump_72 : decode cX5_addPump 72 = .ok (.getfield 47, 3) := by decide +kernel
theorem dX5_addPump_75 : decode cX5_addPump 75 = .ok (.bipush 11, 2) := by decide +kernel
theorem dX5_addPump_77 : decode cX5_addPump 77 = .ok (.aload_n 0, 1) := by decide +kernel
theorem dX5_addPump_78 : decode cX5_addPump 78 = .ok (.getfield 10, 3) := by decide +kernel
theorem dX5_addPump_81 : decode cX5_addPump 81 = .ok (.getfield 30, 3) := by decide +kernel
theorem dX5_addPump_84 : decode cX5_addPump 84 = .ok (.imul, 1) := by decide +kernel
theorem dX5_addPump_85 : decode cX5_addPump 85 = .ok (.iconst 1, 1) := by decide +kernel
theorem dX5_addPump_86 : decode cX5_addPump 86 = .ok (.iadd, 1) := by decide +kernel
theorem dX5_addPump_87 : decode cX5_addPump 87 = .ok (.iload_n 2, 1) := by decide +kernel
theorem dX5_addPump_88 : decode cX5_addPump 88 = .ok (.iastore, 1) := by decide +kernel
theorem dX5_addPump_89 : decode cX5_addPump 89 = .ok (.aload_n 0, 1) := by decide +kernel
theorem dX5_addPump_90 : decode cX5_addPump 90 = .ok (.getfield 10, 3) := by decide +kernel
theorem dX5_addPump_93 : decode cX5_addPump 93 = .ok (.getfield 47, 3) := by decide +kernel
theorem dX5_addPump_96 : decode cX5_addPump 96 = .ok (.bipush 11, 2) := by decide +kernel
theorem dX5_addPump_98 : decode cX5_addPump 98 = .ok (.aload_n 0, 1) := by decide +kernel
theorem dX5_addPump_99 : decode cX5_addPump 99 = .ok (.getfield 10, 3) := by decide +kernel
theorem dX5_addPump_102 : decode cX5_addPump 102 = .ok (.getfield 30, 3) := by decide +kernel
theorem dX5_addPump_105 : decode cX5_addPump 105 = .ok (.imul, 1) := by decide +kernel
theorem dX5_addPump_106 : decode cX5_addPump 106 = .ok (.iconst 5, 1) := by decide +kernel
theorem dX5_addPump_107 : decode cX5_addPump 107 = .ok (.iadd, 1) := by decide +kernel
theorem dX5_addPump_108 : decode cX5_addPump 108 = .ok (.iconst (-1), 1) := by decide +kernel
theorem dX5_addPump_109 : decode cX5_addPump 109 = .ok (.iastore, 1) := by decide +kernel
theorem dX5_addPump_110 : decode cX5_addPump 110 = .ok (.aload_n 0, 1) := by decide +kernel
theorem dX5_addPump_111 : decode cX5_addPump 111 = .ok (.getfield 10, 3) := by decide +kernel
theorem dX5_addPump_114 : decode cX5_addPump 114 = .ok (.dup, 1) := by decide +kernel
theorem dX5_addPump_115 : decode cX5_addPump 115 = .ok (.getfield 30, 3) := by decide +kernel
theorem dX5_addPump_118 : decode cX5_addPump 118 = .ok (.iconst 1, 1) := by decide +kernel
theorem dX5_addPump_119 : decode cX5_addPump 119 = .ok (.iadd, 1) := by decide +kernel
theorem dX5_addPump_120 : decode cX5_addPump 120 = .ok (.putfield 30, 3) := by decide +kernel
theorem dX5_addPump_123 : decode cX5_addPump 123 = .ok (.aload_n 0, 1) := by decide +kernel
theorem dX5_addPump_124 : decode cX5_addPump 124 = .ok (.getfield 10, 3) := by decide +kernel
theorem dX5_addPump_127 : decode cX5_addPump 127 = .ok (.getfield 30, 3) := by decide +kernel
theorem dX5_addPump_130 : decode cX5_addPump 130 = .ok (.iconst 1, 1) := by decide +kernel
theorem dX5_addPump_131 : decode cX5_addPump 131 = .ok (.isub, 1) := by decide +kernel
theorem dX5_addPump_132 : decode cX5_addPump 132 = .ok (.ireturn, 1) := by decide +kernel
set_option maxRecDepth 20000 in
theorem ggX5_lodge_X5_isHouse : GoodIn wsX5_lodge wsX5_isHouse := goodIn_r _ [7, 2, 8, 9, 6, 10, 15, 16, 17, 18, 19, 20, 21, 22, 23, 24, 25, 26] (by decide +kernel) (by decide +kernel)
set_option maxRecDepth 20000 in
theorem gX5_lodge_X5_isHouse : GoodIn wsX5_lodge (wsV RX5 50 RX5 yX5_isHouse wsX5_isHouse) := goodIn_app (goodIn_of _ (by decide +kernel)) ggX5_lodge_X5_isHouse
set_option maxRecDepth 20000 in
theorem ggX5_lodge_X5_no : GoodIn wsX5_lodge wsX5_no := goodIn_r _ [14, 1, 15, 16, 17] (by decide +kernel) (by decide +kernel)
set_option maxRecDepth 20000 in
theorem gX5_lodge_X5_no : GoodIn wsX5_lodge (wsV RX5 33 RX5 yX5_no wsX5_no) := goodIn_app (goodIn_of _ (by decide +kernel)) ggX5_lodge_X5_no
set_option maxRecDepth 20000 in
theorem ggX5_lodge_X5_isIn : GoodIn wsX5_lodge wsX5_isIn := goodIn_r _ [10] (by decide +kernel) (by decide +kernel)
set_option maxRecDepth 20000 in
theorem gX5_lodge_X5_isIn : GoodIn wsX5_lodge (va_wsS RX5 26 yX5_isIn wsX5_isIn) := goodIn_app (goodIn_of _ (by decide +kernel)) ggX5_lodge_X5_isIn
theorem dX5_lodge_0 : decode cX5_lodge 0 = .ok (.aload_n 0, 1) := by decide +kernel
theorem dX5_lodge_1 : decode cX5_lodge 1 = .ok (.iconst 0, 1) := by decide +kernel
theorem dX5_lodge_2 : decode cX5_lodge 2 = .ok (.putfield 19, 3) := by decide +kernel
theorem dX5_lodge_5 : decode cX5_lodge 5 = .ok (.aload_n 0, 1) := by decide +kernel
theorem dX5_lodge_6 : decode cX5_lodge 6 = .ok (.iload_n 1, 1) := by decide +kernel
theorem dX5_lodge_7 : decode cX5_lodge 7 = .ok (.invokevirtual 50, 3) := by decide +kernel
theorem dX5_lodge_10 : decode cX5_lodge 10 = .ok (.ifCond .ne 9, 3) := by decide +kernel
theorem dX5_lodge_13 : decode cX5_lodge 13 = .ok (.aload_n 0, 1) := by decide +kernel
theorem dX5_lodge_14 : decode cX5_lodge 14 = .ok (.iconst 1, 1) := by decide +kernel
theorem dX5_lodge_15 : decode cX5_lodge 15 = .ok (.invokevirtual 33, 3) := by decide +kernel
theorem dX5_lodge_18 : decode cX5_lodge 18 = .ok (.ireturn, 1) := by decide +kernel
theorem dX5_lodge_19 : decode cX5_lodge 19 = .ok (.iload_n 2, 1) := by decide +kernel
theorem dX5_lodge_20 : decode cX5_lodge 20 = .ok (.iconst 0, 1) := by decide +kernel
theorem dX5_lodge_21 : decode cX5_lodge 21 = .ok (.bipush 9, 2) := by decide +kernel
theorem dX5_lodge_23 : decode cX5_lodge 23 = .ok (.invokestatic 26, 3) := by decide +kernel
theorem dX5_lodge_26 : decode cX5_lodge 26 = .ok (.ifCond .ne 9, 3) := by decide +kernel
theorem dX5_lodge_29 : decode cX5_lodge 29 = .ok (.aload_n 0, 1) := by decide +kernel
theorem dX5_lodge_30 : decode cX5_lodge 30 = .ok (.iconst 2, 1) := by decide +kernel
theorem dX5_lodge_31 : decode cX5_lodge 31 = .ok (.invokevirtual 33, 3) := by decide +kernel
theorem dX5_lodge_34 : decode cX5_lodge 34 = .ok (.ireturn, 1) := by decide +kernel
theorem dX5_lodge_35 : decode cX5_lodge 35 = .ok (.aload_n 0, 1) := by decide +kernel
theorem dX5_lodge_36 : decode cX5_lodge 36 = .ok (.getfield 10, 3) := by decide +kernel
theorem dX5_lodge_39 : decode cX5_lodge 39 = .ok (.getfield 37, 3) := by decide +kernel
theorem dX5_lodge_42 : decode cX5_lodge 42 = .ok (.bipush 11, 2) := by decide +kernel
theorem dX5_lodge_44 : decode cX5_lodge 44 = .ok (.iload_n 1, 1) := by decide +kernel
theorem dX5_lodge_45 : decode cX5_lodge 45 = .ok (.imul, 1) := by decide +kernel
theorem dX5_lodge_46 : decode cX5_lodge 46 = .ok (.iaload, 1) := by decide +kernel
theorem dX5_lodge_47 : decode cX5_lodge 47 = .ok (.istore_n 3, 1) := by decide +kernel
theorem dX5_lodge_48 : decode cX5_lodge 48 = .ok (.aload_n 0, 1) := by decide +kernel
theorem dX5_lodge_49 : decode cX5_lodge 49 = .ok (.getfield 10, 3) := by decide +kernel
theorem dX5_lodge_52 : decode cX5_lodge 52 = .ok (.getfield 37, 3) := by decide +kernel
theorem dX5_lodge_55 : decode cX5_lodge 55 = .ok (.bipush 11, 2) := by decide +kernel
theorem dX5_lodge_57 : decode cX5_lodge 57 = .ok (.iload_n 1, 1) := by decide +kernel
theorem dX5_lodge_58 : decode cX5_lodge 58 = .ok (.imul, 1) := by decide +kernel
theorem dX5_lodge_59 : decode cX5_lodge 59 = .ok (.iload_n 2, 1) := by decide +kernel
theorem dX5_lodge_60 : decode cX5_lodge 60 = .ok (.iastore, 1) := by decide +kernel
theorem dX5_lodge_61 : decode cX5_lodge 61 = .ok (.iload_n 3, 1) := by decide +kernel
theorem dX5_lodge_62 : decode cX5_lodge 62 = .ok (.ireturn, 1) := by decide +kernel
set_option maxRecDepth 20000 in
theorem ggX5_prefer_X5_isHouse : GoodIn wsX5_prefer wsX5_isHouse := goodIn_r _ [7, 2, 8, 9, 6, 10, 19, 20, 21, 22, 23, 24, 25, 26, 27, 28, 29, 30] (by decide +kernel) (by decide +kernel)
set_option maxRecDepth 20000 in
theorem gX5_prefer_X5_isHouse : GoodIn wsX5_prefer (wsV RX5 50 RX5 yX5_isHouse wsX5_isHouse) := goodIn_app (goodIn_of _ (by decide +kernel)) ggX5_prefer_X5_isHouse
set_option maxRecDepth 20000 in
theorem ggX5_prefer_X5_isPump : GoodIn wsX5_prefer wsX5_isPump := goodIn_r _ [14, 2, 8, 9, 6, 10, 19, 20, 21, 22, 23, 24, 25, 26, 27, 28, 29, 30] (by decide +kernel) (by decide +kernel)
set_option maxRecDepth 20000 in
theorem gX5_prefer_X5_isPump : GoodIn wsX5_prefer (wsV RX5 54 RX5 yX5_isPump wsX5_isPump) := goodIn_app (goodIn_of _ (by decide +kernel)) ggX5_prefer_X5_isPump
set_option maxRecDepth 20000 in
theorem ggX5_prefer_X5_no : GoodIn wsX5_prefer wsX5_no := goodIn_r _ [18, 1, 19, 20, 21] (by decide +kernel) (by decide +kernel)
set_option maxRecDepth 20000 in
theorem gX5_prefer_X5_no : GoodIn wsX5_prefer (wsV RX5 33 RX5 yX5_no wsX5_no) := goodIn_app (goodIn_of _ (by decide +kernel)) ggX5_prefer_X5_no
theorem dX5_prefer_0 : decode cX5_prefer 0 = .ok (.aload_n 0, 1) := by decide +kernel
theorem dX5_prefer_1 : decode cX5_prefer 1 = .ok (.iconst 0, 1) := by decide +kernel
theorem dX5_prefer_2 : decode cX5_prefer 2 = .ok (.putfield 19, 3) := by decide +kernel
theorem dX5_prefer_5 : decode cX5_prefer 5 = .ok (.aload_n 0, 1) := by decide +kernel
theorem dX5_prefer_6 : decode cX5_prefer 6 = .ok (.iload_n 1, 1) := by decide +kernel
theorem dX5_prefer_7 : decode cX5_prefer 7 = .ok (.invokevirtual 50, 3) := by decide +kernel
theorem dX5_prefer_10 : decode cX5_prefer 10 = .ok (.ifCond .eq 11, 3) := by decide +kernel
theorem dX5_prefer_13 : decode cX5_prefer 13 = .ok (.aload_n 0, 1) := by decide +kernel
theorem dX5_prefer_14 : decode cX5_prefer 14 = .ok (.iload_n 2, 1) := by decide +kernel
theorem dX5_prefer_15 : decode cX5_prefer 15 = .ok (.invokevirtual 54, 3) := by decide +kernel
theorem dX5_prefer_18 : decode cX5_prefer 18 = .ok (.ifCond .ne 9, 3) := by decide +kernel
theorem dX5_prefer_21 : decode cX5_prefer 21 = .ok (.aload_n 0, 1) := by decide +kernel
theorem dX5_prefer_22 : decode cX5_prefer 22 = .ok (.iconst 1, 1) := by decide +kernel
theorem dX5_prefer_23 : decode cX5_prefer 23 = .ok (.invokevirtual 33, 3) := by decide +kernel
theorem dX5_prefer_26 : decode cX5_prefer 26 = .ok (.ireturn, 1) := by decide +kernel
theorem dX5_prefer_27 : decode cX5_prefer 27 = .ok (.aload_n 0, 1) := by decide +kernel
theorem dX5_prefer_28 : decode cX5_prefer 28 = .ok (.getfield 10, 3) := by decide +kernel
theorem dX5_prefer_31 : decode cX5_prefer 31 = .ok (.getfield 37, 3) := by decide +kernel
theorem dX5_prefer_34 : decode cX5_prefer 34 = .ok (.bipush 11, 2) := by decide +kernel
theorem dX5_prefer_36 : decode cX5_prefer 36 = .ok (.iload_n 1, 1) := by decide +kernel
theorem dX5_prefer_37 : decode cX5_prefer 37 = .ok (.imul, 1) := by decide +kernel
theorem dX5_prefer_38 : decode cX5_prefer 38 = .ok (.iconst 5, 1) := by decide +kernel
theorem dX5_prefer_39 : decode cX5_prefer 39 = .ok (.iadd, 1) := by decide +kernel
theorem dX5_prefer_40 : decode cX5_prefer 40 = .ok (.iaload, 1) := by decide +kernel
theorem dX5_prefer_41 : decode cX5_prefer 41 = .ok (.istore_n 3, 1) := by decide +kernel
theorem dX5_prefer_42 : decode cX5_prefer 42 = .ok (.aload_n 0, 1) := by decide +kernel
theorem dX5_prefer_43 : decode cX5_prefer 43 = .ok (.getfield 10, 3) := by decide +kernel
theorem dX5_prefer_46 : decode cX5_prefer 46 = .ok (.getfield 37, 3) := by decide +kernel
theorem dX5_prefer_49 : decode cX5_prefer 49 = .ok (.bipush 11, 2) := by decide +kernel
theorem dX5_prefer_51 : decode cX5_prefer 51 = .ok (.iload_n 1, 1) := by decide +kernel
theorem dX5_prefer_52 : decode cX5_prefer 52 = .ok (.imul, 1) := by decide +kernel
theorem dX5_prefer_53 : decode cX5_prefer 53 = .ok (.iconst 5, 1) := by decide +kernel
theorem dX5_prefer_54 : decode cX5_prefer 54 = .ok (.iadd, 1) := by decide +kernel
theorem dX5_prefer_55 : decode cX5_prefer 55 = .ok (.iload_n 2, 1) := by decide +kernel
theorem dX5_prefer_56 : decode cX5_prefer 56 = .ok (.iastore, 1) := by decide +kernel
theorem dX5_prefer_57 : decode cX5_prefer 57 = .ok (.iload_n 3, 1) := by decide +kernel
theorem dX5_prefer_58 : decode cX5_prefer 58 = .ok (.ireturn, 1) := by decide +kernel
set_option maxRecDepth 20000 in
theorem ggX5_leave_X5_isHouse : GoodIn wsX5_leave wsX5_isHouse := goodIn_r _ [7, 2, 8, 9, 6, 10, 15, 16, 17, 18, 19, 20, 21, 22, 23, 24, 25, 26] (by decide +kernel) (by decide +kernel)
set_option maxRecDepth 20000 in
theorem gX5_leave_X5_isHouse : GoodIn wsX5_leave (wsV RX5 50 RX5 yX5_isHouse wsX5_isHouse) := goodIn_app (goodIn_of _ (by decide +kernel)) ggX5_leave_X5_isHouse
set_option maxRecDepth 20000 in
theorem ggX5_leave_X5_no : GoodIn wsX5_leave wsX5_no := goodIn_r _ [14, 1, 15, 16, 17] (by decide +kernel) (by decide +kernel)
set_option maxRecDepth 20000 in
theorem gX5_leave_X5_no : GoodIn wsX5_leave (wsV RX5 33 RX5 yX5_no wsX5_no) := goodIn_app (goodIn_of _ (by decide +kernel)) ggX5_leave_X5_no
set_option maxRecDepth 20000 in
theorem ggX5_leave_X5_isIn : GoodIn wsX5_leave wsX5_isIn := goodIn_r _ [10] (by decide +kernel) (by decide +kernel)
set_option maxRecDepth 20000 in
theorem gX5_leave_X5_isIn : GoodIn wsX5_leave (va_wsS RX5 26 yX5_isIn wsX5_isIn) := goodIn_app (goodIn_of _ (by decide +kernel)) ggX5_leave_X5_isIn
theorem dX5_leave_0 : decode cX5_leave 0 = .ok (.aload_n 0, 1) := by decide +kernel
theorem dX5_leave_1 : decode cX5_leave 1 = .ok (.iconst 0, 1) := by decide +kernel
theorem dX5_leave_2 : decode cX5_leave 2 = .ok (.putfield 19, 3) := by decide +kernel
theorem dX5_leave_5 : decode cX5_leave 5 = .ok (.aload_n 0, 1) := by decide +kernel
theorem dX5_leave_6 : decode cX5_leave 6 = .ok (.iload_n 1, 1) := by decide +kernel
theorem dX5_leave_7 : decode cX5_leave 7 = .ok (.invokevirtual 50, 3) := by decide +kernel
theorem dX5_leave_10 : decode cX5_leave 10 = .ok (.ifCond .ne 9, 3) := by decide +kernel
theorem dX5_leave_13 : decode cX5_leave 13 = .ok (.aload_n 0, 1) := by decide +kernel
theorem dX5_leave_14 : decode cX5_leave 14 = .ok (.iconst 1, 1) := by decide +kernel
theorem dX5_leave_15 : decode cX5_leave 15 = .ok (.invokevirtual 33, 3) := by decide +kernel
theorem dX5_leave_18 : decode cX5_leave 18 = .ok (.ireturn, 1) := by decide +kernel
theorem dX5_leave_19 : decode cX5_leave 19 = .ok (.iload_n 2, 1) := by decide +kernel
theorem dX5_leave_20 : decode cX5_leave 20 = .ok (.iconst 0, 1) := by decide +kernel
theorem dX5_leave_21 : decode cX5_leave 21 = .ok (.bipush 30, 2) := by decide +kernel
theorem dX5_leave_23 : decode cX5_leave 23 = .ok (.invokestatic 26, 3) := by decide +kernel
theorem dX5_leave_26 : decode cX5_leave 26 = .ok (.ifCond .ne 9, 3) := by decide +kernel
theorem dX5_leave_29 : decode cX5_leave 29 = .ok (.aload_n 0, 1) := by decide +kernel
theorem dX5_leave_30 : decode cX5_leave 30 = .ok (.iconst 2, 1) := by decide +kernel
theorem dX5_leave_31 : decode cX5_leave 31 = .ok (.invokevirtual 33, 3) := by decide +kernel
theorem dX5_leave_34 : decode cX5_leave 34 = .ok (.ireturn, 1) := by decide +kernel
theorem dX5_leave_35 : decode cX5_leave 35 = .ok (.aload_n 0, 1) := by decide +kernel
theorem dX5_leave_36 : decode cX5_leave 36 = .ok (.getfield 10, 3) := by decide +kernel
theorem dX5_leave_39 : decode cX5_leave 39 = .ok (.getfield 37, 3) := by decide +kernel
theorem dX5_leave_42 : decode cX5_leave 42 = .ok (.bipush 11, 2) := by decide +kernel
theorem dX5_leave_44 : decode cX5_leave 44 = .ok (.iload_n 1, 1) := by decide +kernel
theorem dX5_leave_45 : decode cX5_leave 45 = .ok (.imul, 1) := by decide +kernel
theorem dX5_leave_46 : decode cX5_leave 46 = .ok (.bipush 6, 2) := by decide +kernel
theorem dX5_leave_48 : decode cX5_leave 48 = .ok (.iadd, 1) := by decide +kernel
theorem dX5_leave_49 : decode cX5_leave 49 = .ok (.iaload, 1) := by decide +kernel
theorem dX5_leave_50 : decode cX5_leave 50 = .ok (.istore_n 3, 1) := by decide +kernel
theorem dX5_leave_51 : decode cX5_leave 51 = .ok (.aload_n 0, 1) := by decide +kernel
theorem dX5_leave_52 : decode cX5_leave 52 = .ok (.getfield 10, 3) := by decide +kernel
theorem dX5_leave_55 : decode cX5_leave 55 = .ok (.getfield 37, 3) := by decide +kernel
theorem dX5_leave_58 : decode cX5_leave 58 = .ok (.bipush 11, 2) := by decide +kernel
theorem dX5_leave_60 : decode cX5_leave 60 = .ok (.iload_n 1, 1) := by decide +kernel
theorem dX5_leave_61 : decode cX5_leave 61 = .ok (.imul, 1) := by decide +kernel
theorem dX5_leave_62 : decode cX5_leave 62 = .ok (.bipush 6, 2) := by decide +kernel
theorem dX5_leave_64 : decode cX5_leave 64 = .ok (.iadd, 1) := by decide +kernel
theorem dX5_leave_65 : decode cX5_leave 65 = .ok (.iload_n 2, 1) := by decide +kernel
theorem dX5_leave_66 : decode cX5_leave 66 = .ok (.iastore, 1) := by decide +kernel
theorem dX5_leave_67 : decode cX5_leave 67 = .ok (.iload_n 3, 1) := by decide +kernel
theorem dX5_leave_68 : decode cX5_leave 68 = .ok (.ireturn, 1) := by decide +kernel
set_option maxRecDepth 20000 in
theorem ggX5_fine_X5_isHouse : GoodIn wsX5_fine wsX5_isHouse := goodIn_r _ [7, 2, 8, 9, 6, 10, 37, 38, 39, 40, 41, 42, 43, 44, 45, 46, 47, 48] (by decide +kernel) (by decide +kernel)
set_option maxRecDepth 20000 in
theorem gX5_fine_X5_isHouse : GoodIn wsX5_fine (wsV RX5 50 RX5 yX5_isHouse wsX5_isHouse) := goodIn_app (goodIn_of _ (by decide +kernel)) ggX5_fine_X5_isHouse
set_option maxRecDepth 20000 in
theorem ggX5_fine_X5_no : GoodIn wsX5_fine wsX5_no := goodIn_r _ [14, 1, 37, 38, 39] (by decide +kernel) (by decide +kernel)
set_option maxRecDepth 20000 in
theorem gX5_fine_X5_no : GoodIn wsX5_fine (wsV RX5 33 RX5 yX5_no wsX5_no) := goodIn_app (goodIn_of _ (by decide +kernel)) ggX5_fine_X5_no
set_option maxRecDepth 20000 in
theorem ggX5_fine_X5_isIn : GoodIn wsX5_fine wsX5_isIn := goodIn_r _ [10] (by decide +kernel) (by decide +kernel)
set_option maxRecDepth 20000 in
theorem gX5_fine_X5_isIn : GoodIn wsX5_fine (va_wsS RX5 26 yX5_isIn wsX5_isIn) := goodIn_app (goodIn_of _ (by decide +kernel)) ggX5_fine_X5_isIn
set_option maxRecDepth 20000 in
theorem ggX5_fine_X4_fine : GoodIn wsX5_fine wsX4_fine := goodIn_r _ [19, 20, 21, 22, 23, 24, 25, 26, 27, 28, 29, 18, 30, 31, 32, 33, 34, 35, 36, 40, 41, 42, 43, 44, 45, 46, 47, 48] (by decide +kernel) (by decide +kernel)
set_option maxRecDepth 20000 in
theorem gX5_fine_X4_fine : GoodIn wsX5_fine (wsV RX5 57 RX4 yX4_fine wsX4_fine) := goodIn_app (goodIn_of _ (by decide +kernel)) ggX5_fine_X4_fine
theorem dX5_fine_0 : decode cX5_fine 0 = .ok (.aload_n 0, 1) := by decide +kernel
theorem dX5_fine_1 : decode cX5_fine 1 = .ok (.iconst 0, 1) := by decide +kernel
theorem dX5_fine_2 : decode cX5_fine 2 = .ok (.putfield 19, 3) := by decide +kernel
theorem dX5_fine_5 : decode cX5_fine 5 = .ok (.aload_n 0, 1) := by decide +kernel
theorem dX5_fine_6 : decode cX5_fine 6 = .ok (.iload_n 1, 1) := by decide +kernel
theorem dX5_fine_7 : decode cX5_fine 7 = .ok (.invokevirtual 50, 3) := by decide +kernel
theorem dX5_fine_10 : decode cX5_fine 10 = .ok (.ifCond .ne 9, 3) := by decide +kernel
theorem dX5_fine_13 : decode cX5_fine 13 = .ok (.aload_n 0, 1) := by decide +kernel
theorem dX5_fine_14 : decode cX5_fine 14 = .ok (.iconst 1, 1) := by decide +kernel
theorem dX5_fine_15 : decode cX5_fine 15 = .ok (.invokevirtual 33, 3) := by decide +kernel
theorem dX5_fine_18 : decode cX5_fine 18 = .ok (.ireturn, 1) := by decide +kernel
theorem dX5_fine_19 : decode cX5_fine 19 = .ok (.iload_n 2, 1) := by decide +kernel
theorem dX5_fine_20 : decode cX5_fine 20 = .ok (.iconst 1, 1) := by decide +kernel
theorem dX5_fine_21 : decode cX5_fine 21 = .ok (.bipush 50, 2) := by decide +kernel
theorem dX5_fine_23 : decode cX5_fine 23 = .ok (.invokestatic 26, 3) := by decide +kernel
theorem dX5_fine_26 : decode cX5_fine 26 = .ok (.ifCond .eq 15, 3) := by decide +kernel
theorem dX5_fine_29 : decode cX5_fine 29 = .ok (.aload_n 0, 1) := by decide +kernel
theorem dX5_fine_30 : decode cX5_fine 30 = .ok (.getfield 10, 3) := by decide +kernel
theorem dX5_fine_33 : decode cX5_fine 33 = .ok (.iload_n 1, 1) := by decide +kernel
theorem dX5_fine_34 : decode cX5_fine 34 = .ok (.iload_n 2, 1) := by decide +kernel
theorem dX5_fine_35 : decode cX5_fine 35 = .ok (.invokevirtual 57, 3) := by decide +kernel
theorem dX5_fine_38 : decode cX5_fine 38 = .ok (.goto 8, 3) := by decide +kernel
theorem dX5_fine_41 : decode cX5_fine 41 = .ok (.aload_n 0, 1) := by decide +kernel
theorem dX5_fine_42 : decode cX5_fine 42 = .ok (.iconst 2, 1) := by decide +kernel
theorem dX5_fine_43 : decode cX5_fine 43 = .ok (.invokevirtual 33, 3) := by decide +kernel
theorem dX5_fine_46 : decode cX5_fine 46 = .ok (.ireturn, 1) := by decide +kernel
set_option maxRecDepth 20000 in
theorem ggX5_enrol_X5_isPump : GoodIn wsX5_enrol wsX5_isPump := goodIn_r _ [7, 2, 8, 9, 6, 10, 26, 27, 28, 29, 30, 31, 32, 33, 34, 35, 36, 37] (by decide +kernel) (by decide +kernel)
set_option maxRecDepth 20000 in
theorem gX5_enrol_X5_isPump : GoodIn wsX5_enrol (wsV RX5 54 RX5 yX5_isPump wsX5_isPump) := goodIn_app (goodIn_of _ (by decide +kernel)) ggX5_enrol_X5_isPump
set_option maxRecDepth 20000 in
theorem ggX5_enrol_X5_isHouse : GoodIn wsX5_enrol wsX5_isHouse := goodIn_r _ [14, 2, 8, 9, 6, 10, 26, 27, 28, 29, 30, 31, 32, 33, 34, 35, 36, 37] (by decide +kernel) (by decide +kernel)
set_option maxRecDepth 20000 in
theorem gX5_enrol_X5_isHouse : GoodIn wsX5_enrol (wsV RX5 50 RX5 yX5_isHouse wsX5_isHouse) := goodIn_app (goodIn_of _ (by decide +kernel)) ggX5_enrol_X5_isHouse
set_option maxRecDepth 20000 in
theorem ggX5_enrol_X5_no : GoodIn wsX5_enrol wsX5_no := goodIn_r _ [18, 1, 26, 27, 28] (by decide +kernel) (by decide +kernel)
set_option maxRecDepth 20000 in
theorem gX5_enrol_X5_no : GoodIn wsX5_enrol (wsV RX5 33 RX5 yX5_no wsX5_no) := goodIn_app (goodIn_of _ (by decide +kernel)) ggX5_enrol_X5_no
set_option maxRecDepth 20000 in
theorem ggX5_enrol_X4_placeOf : GoodIn wsX5_enrol wsX4_placeOf := goodIn_r _ [23, 24, 25, 29, 30, 31, 32, 33, 34, 35, 36, 37] (by decide +kernel) (by decide +kernel)
set_option maxRecDepth 20000 in
theorem gX5_enrol_X4_placeOf : GoodIn wsX5_enrol (wsV RX5 61 RX4 yX4_placeOf wsX4_placeOf) := goodIn_app (goodIn_of _ (by decide +kernel)) ggX5_enrol_X4_placeOf
theorem dX5_enrol_0 : decode cX5_enrol 0 = .ok (.aload_n 0, 1) := by decide +kernel
theorem dX5_enrol_1 : decode cX5_enrol 1 = .ok (.iconst 0, 1) := by decide +kernel
theorem dX5_enrol_2 : decode cX5_enrol 2 = .ok (.putfield 19, 3) := by decide +kernel
theorem dX5_enrol_5 : decode cX5_enrol 5 = .ok (.aload_n 0, 1) := by decide +kernel
theorem dX5_enrol_6 : decode cX5_enrol 6 = .ok (.iload_n 1, 1) := by decide +kernel
theorem dX5_enrol_7 : decode cX5_enrol 7 = .ok (.invokevirtual 54, 3) := by decide +kernel
theorem dX5_enrol_10 : decode cX5_enrol 10 = .ok (.ifCond .eq 11, 3) := by decide +kernel
theorem dX5_enrol_13 : decode cX5_enrol 13 = .ok (.aload_n 0, 1) := by decide +kernel
theorem dX5_enrol_14 : decode cX5_enrol 14 = .ok (.iload_n 2, 1) := by decide +kernel
theorem dX5_enrol_15 : decode cX5_enrol 15 = .ok (.invokevirtual 50, 3) := by decide +kernel
theorem dX5_enrol_18 : decode cX5_enrol 18 = .ok (.ifCond .ne 9, 3) := by decide +kernel
theorem dX5_enrol_21 : decode cX5_enrol 21 = .ok (.aload_n 0, 1) := by decide +kernel
theorem dX5_enrol_22 : decode cX5_enrol 22 = .ok (.iconst 1, 1) := by decide +kernel
theorem dX5_enrol_23 : decode cX5_enrol 23 = .ok (.invokevirtual 33, 3) := by decide +kernel
theorem dX5_enrol_26 : decode cX5_enrol 26 = .ok (.ireturn, 1) := by decide +kernel
theorem dX5_enrol_27 : decode cX5_enrol 27 = .ok (.aload_n 0, 1) := by decide +kernel
theorem dX5_enrol_28 : decode cX5_enrol 28 = .ok (.getfield 10, 3) := by decide +kernel
theorem dX5_enrol_31 : decode cX5_enrol 31 = .ok (.iload_n 1, 1) := by decide +kernel
theorem dX5_enrol_32 : decode cX5_enrol 32 = .ok (.iload_n 2, 1) := by decide +kernel
theorem dX5_enrol_33 : decode cX5_enrol 33 = .ok (.invokevirtual 61, 3) := by decide +kernel
theorem dX5_enrol_36 : decode cX5_enrol 36 = .ok (.iconst (-1), 1) := by decide +kernel
theorem dX5_enrol_37 : decode cX5_enrol 37 = .ok (.if_icmp .ne 21, 3) := by decide +kernel
theorem dX5_enrol_40 : decode cX5_enrol 40 = .ok (.aload_n 0, 1) := by decide +kernel
theorem dX5_enrol_41 : decode cX5_enrol 41 = .ok (.getfield 10, 3) := by decide +kernel
theorem dX5_enrol_44 : decode cX5_enrol 44 = .ok (.getfield 37, 3) := by decide +kernel
theorem dX5_enrol_47 : decode cX5_enrol 47 = .ok (.bipush 11, 2) := by decide +kernel
theorem dX5_enrol_49 : decode cX5_enrol 49 = .ok (.iload_n 2, 1) := by decide +kernel
theorem dX5_enrol_50 : decode cX5_enrol 50 = .ok (.imul, 1) := by decide +kernel
theorem dX5_enrol_51 : decode cX5_enrol 51 = .ok (.iconst 4, 1) := by decide +kernel
theorem dX5_enrol_52 : decode cX5_enrol 52 = .ok (.iadd, 1) := by decide +kernel
theorem dX5_enrol_53 : decode cX5_enrol 53 = .ok (.iaload, 1) := by decide +kernel
theorem dX5_enrol_54 : decode cX5_enrol 54 = .ok (.iconst 3, 1) := by decide +kernel
theorem dX5_enrol_55 : decode cX5_enrol 55 = .ok (.if_icmp .ne 9, 3) := by decide +kernel
theorem dX5_enrol_58 : decode cX5_enrol 58 = .ok (.aload_n 0, 1) := by decide +kernel
theorem dX5_enrol_59 : decode cX5_enrol 59 = .ok (.iconst 2, 1) := by decide +kernel
theorem dX5_enrol_60 : decode cX5_enrol 60 = .ok (.invokevirtual 33, 3) := by decide +kernel
theorem dX5_enrol_63 : decode cX5_enrol 63 = .ok (.ireturn, 1) := by decide +kernel
theorem dX5_enrol_64 : decode cX5_enrol 64 = .ok (.bipush 11, 2) := by decide +kernel
theorem dX5_enrol_66 : decode cX5_enrol 66 = .ok (.iload_n 1, 1) := by decide +kernel
theorem dX5_enrol_67 : decode cX5_enrol 67 = .ok (.imul, 1) := by decide +kernel
theorem dX5_enrol_68 : decode cX5_enrol 68 = .ok (.bipush 6, 2) := by decide +kernel
theorem dX5_enrol_70 : decode cX5_enrol 70 = .ok (.iadd, 1) := by decide +kernel
theorem dX5_enrol_71 : decode cX5_enrol 71 = .ok (.istore_n 3, 1) := by decide +kernel
theorem dX5_enrol_72 : decode cX5_enrol 72 = .ok (.aload_n 0, 1) := by decide +kernel
theorem dX5_enrol_73 : decode cX5_enrol 73 = .ok (.getfield 10, 3) := by decide +kernel
theorem dX5_enrol_76 : decode cX5_enrol 76 = .ok (.getfield 64, 3) := by decide +kernel
theorem dX5_enrol_79 : decode cX5_enrol 79 = .ok (.bipush 10, 2) := by decide +kernel
theorem dX5_enrol_81 : decode cX5_enrol 81 = .ok (.iload_n 1, 1) := by decide +kernel
theorem dX5_enrol_82 : decode cX5_enrol 82 = .ok (.imul, 1) := by decide +kernel
theorem dX5_enrol_83 : decode cX5_enrol 83 = .ok (.aload_n 0, 1) := by decide +kernel
theorem dX5_enrol_84 : decode cX5_enrol 84 = .ok (.getfield 10, 3) := by decide +kernel
theorem dX5_enrol_87 : decode cX5_enrol 87 = .ok (.getfield 47, 3) := by decide +kernel
theorem dX5_enrol_90 : decode cX5_enrol 90 = .ok (.iload_n 3, 1) := by decide +kernel
theorem dX5_enrol_91 : decode cX5_enrol 91 = .ok (.iaload, 1) := by decide +kernel
theorem dX5_enrol_92 : decode cX5_enrol 92 = .ok (.iadd, 1) := by decide +kernel
theorem dX5_enrol_93 : decode cX5_enrol 93 = .ok (.iload_n 2, 1) := by decide +kernel
theorem dX5_enrol_94 : decode cX5_enrol 94 = .ok (.iastore, 1) := by decide +kernel
theorem dX5_enrol_95 : decode cX5_enrol 95 = .ok (.aload_n 0, 1) := by decide +kernel
theorem dX5_enrol_96 : decode cX5_enrol 96 = .ok (.getfield 10, 3) := by decide +kernel
theorem dX5_enrol_99 : decode cX5_enrol 99 = .ok (.getfield 47, 3) := by decide +kernel
theorem dX5_enrol_102 : decode cX5_enrol 102 = .ok (.iload_n 3, 1) := by decide +kernel
theorem dX5_enrol_103 : decode cX5_enrol 103 = .ok (.dup2, 1) := by decide +kernel
theorem dX5_enrol_104 : decode cX5_enrol 104 = .ok (.iaload, 1) := by decide +kernel
theorem dX5_enrol_105 : decode cX5_enrol 105 = .ok (.iconst 1, 1) := by decide +kernel
theorem dX5_enrol_106 : decode cX5_enrol 106 = .ok (.iadd, 1) := by decide +kernel
theorem dX5_enrol_107 : decode cX5_enrol 107 = .ok (.iastore, 1) := by decide +kernel
theorem dX5_enrol_108 : decode cX5_enrol 108 = .ok (.aload_n 0, 1) := by decide +kernel
theorem dX5_enrol_109 : decode cX5_enrol 109 = .ok (.getfield 10, 3) := by decide +kernel
theorem dX5_enrol_112 : decode cX5_enrol 112 = .ok (.getfield 47, 3) := by decide +kernel
theorem dX5_enrol_115 : decode cX5_enrol 115 = .ok (.iload_n 3, 1) := by decide +kernel
theorem dX5_enrol_116 : decode cX5_enrol 116 = .ok (.iaload, 1) := by decide +kernel
theorem dX5_enrol_117 : decode cX5_enrol 117 = .ok (.ireturn, 1) := by decide +kernel
set_option maxRecDepth 20000 in
theorem ggX5_isPlace_X5_isPump : GoodIn wsX5_isPlace wsX5_isPump := goodIn_r _ [6, 1, 7, 8, 5, 9, 10, 11, 12, 13, 14, 15, 16, 17, 18, 19, 20, 21] (by decide +kernel) (by decide +kernel)
set_option maxRecDepth 20000 in
theorem gX5_isPlace_X5_isPump : GoodIn wsX5_isPlace (wsV RX5 54 RX5 yX5_isPump wsX5_isPump) := goodIn_app (goodIn_of _ (by decide +kernel)) ggX5_isPlace_X5_isPump
set_option maxRecDepth 20000 in
theorem ggX5_isPlace_X5_isIn : GoodIn wsX5_isPlace wsX5_isIn := goodIn_r _ [9] (by decide +kernel) (by decide +kernel)
set_option maxRecDepth 20000 in
theorem gX5_isPlace_X5_isIn : GoodIn wsX5_isPlace (va_wsS RX5 26 yX5_isIn wsX5_isIn) := goodIn_app (goodIn_of _ (by decide +kernel)) ggX5_isPlace_X5_isIn
theorem dX5_isPlace_0 : decode cX5_isPlace 0 = .ok (.aload_n 0, 1) := by decide +kernel
theorem dX5_isPlace_1 : decode cX5_isPlace 1 = .ok (.iload_n 1, 1) := by decide +kernel
theorem dX5_isPlace_2 : decode cX5_isPlace 2 = .ok (.invokevirtual 54, 3) := by decide +kernel
theorem dX5_isPlace_5 : decode cX5_isPlace 5 = .ok (.ifCond .eq 32, 3) := by decide +kernel
theorem dX5_isPlace_8 : decode cX5_isPlace 8 = .ok (.iload_n 2, 1) := by decide +kernel
theorem dX5_isPlace_9 : decode cX5_isPlace 9 = .ok (.iconst 0, 1) := by decide +kernel
theorem dX5_isPlace_10 : decode cX5_isPlace 10 = .ok (.aload_n 0, 1) := by decide +kernel
theorem dX5_isPlace_11 : decode cX5_isPlace 11 = .ok (.getfield 10, 3) := by decide +kernel
theorem dX5_isPlace_14 : decode cX5_isPlace 14 = .ok (.getfield 47, 3) := by decide +kernel
theorem dX5_isPlace_17 : decode cX5_isPlace 17 = .ok (.bipush 11, 2) := by decide +kernel
theorem dX5_isPlace_19 : decode cX5_isPlace 19 = .ok (.iload_n 1, 1) := by decide +kernel
theorem dX5_isPlace_20 : decode cX5_isPlace 20 = .ok (.imul, 1) := by decide +kernel
theorem dX5_isPlace_21 : decode cX5_isPlace 21 = .ok (.bipush 6, 2) := by decide +kernel
theorem dX5_isPlace_23 : decode cX5_isPlace 23 = .ok (.iadd, 1) := by decide +kernel
theorem dX5_isPlace_24 : decode cX5_isPlace 24 = .ok (.iaload, 1) := by decide +kernel
theorem dX5_isPlace_25 : decode cX5_isPlace 25 = .ok (.iconst 1, 1) := by decide +kernel
theorem dX5_isPlace_26 : decode cX5_isPlace 26 = .ok (.isub, 1) := by decide +kernel
theorem dX5_isPlace_27 : decode cX5_isPlace 27 = .ok (.invokestatic 26, 3) := by decide +kernel
theorem dX5_isPlace_30 : decode cX5_isPlace 30 = .ok (.ifCond .eq 7, 3) := by decide +kernel
theorem dX5_isPlace_33 : decode cX5_isPlace 33 = .ok (.iconst 1, 1) := by decide +kernel
theorem dX5_isPlace_34 : decode cX5_isPlace 34 = .ok (.goto 4, 3) := by decide +kernel
theorem dX5_isPlace_37 : decode cX5_isPlace 37 = .ok (.iconst 0, 1) := by decide +kernel
theorem dX5_isPlace_38 : decode cX5_isPlace 38 = .ok (.ireturn, 1) := by decide +kernel
set_option maxRecDepth 20000 in
theorem ggX5_change_X5_isPlace : GoodIn wsX5_change wsX5_isPlace := goodIn_r _ [7, 2, 8, 9, 10, 6, 11, 12, 13, 14, 19, 20, 21, 22, 23, 24, 25, 26, 27, 28, 29, 30] (by decide +kernel) (by decide +kernel)
set_option maxRecDepth 20000 in
theorem gX5_change_X5_isPlace : GoodIn wsX5_change (wsV RX5 67 RX5 yX5_isPlace wsX5_isPlace) := goodIn_app (goodIn_of _ (by decide +kernel)) ggX5_change_X5_isPlace
set_option maxRecDepth 20000 in
theorem ggX5_change_X5_no : GoodIn wsX5_change wsX5_no := goodIn_r _ [18, 1, 19, 20, 21] (by decide +kernel) (by decide +kernel)
set_option maxRecDepth 20000 in
theorem gX5_change_X5_no : GoodIn wsX5_change (wsV RX5 33 RX5 yX5_no wsX5_no) := goodIn_app (goodIn_of _ (by decide +kernel)) ggX5_change_X5_no
theorem dX5_change_0 : decode cX5_change 0 = .ok (.aload_n 0, 1) := by decide +kernel
theorem dX5_change_1 : decode cX5_change 1 = .ok (.iconst 0, 1) := by decide +kernel
theorem dX5_change_2 : decode cX5_change 2 = .ok (.putfield 19, 3) := by decide +kernel
theorem dX5_change_5 : decode cX5_change 5 = .ok (.aload_n 0, 1) := by decide +kernel
theorem dX5_change_6 : decode cX5_change 6 = .ok (.iload_n 1, 1) := by decide +kernel
theorem dX5_change_7 : decode cX5_change 7 = .ok (.iload_n 2, 1) := by decide +kernel
theorem dX5_change_8 : decode cX5_change 8 = .ok (.invokevirtual 67, 3) := by decide +kernel
theorem dX5_change_11 : decode cX5_change 11 = .ok (.ifCond .eq 12, 3) := by decide +kernel
theorem dX5_change_14 : decode cX5_change 14 = .ok (.aload_n 0, 1) := by decide +kernel
theorem dX5_change_15 : decode cX5_change 15 = .ok (.iload_n 1, 1) := by decide +kernel
theorem dX5_change_16 : decode cX5_change 16 = .ok (.iload_n 3, 1) := by decide +kernel
theorem dX5_change_17 : decode cX5_change 17 = .ok (.invokevirtual 67, 3) := by decide +kernel
theorem dX5_change_20 : decode cX5_change 20 = .ok (.ifCond .ne 9, 3) := by decide +kernel
theorem dX5_change_23 : decode cX5_change 23 = .ok (.aload_n 0, 1) := by decide +kernel
theorem dX5_change_24 : decode cX5_change 24 = .ok (.iconst 1, 1) := by decide +kernel
theorem dX5_change_25 : decode cX5_change 25 = .ok (.invokevirtual 33, 3) := by decide +kernel
theorem dX5_change_28 : decode cX5_change 28 = .ok (.ireturn, 1) := by decide +kernel
theorem dX5_change_29 : decode cX5_change 29 = .ok (.bipush 10, 2) := by decide +kernel
theorem dX5_change_31 : decode cX5_change 31 = .ok (.iload_n 1, 1) := by decide +kernel
theorem dX5_change_32 : decode cX5_change 32 = .ok (.imul, 1) := by decide +kernel
theorem dX5_change_33 : decode cX5_change 33 = .ok (.istore 4, 2) := by decide +kernel
theorem dX5_change_35 : decode cX5_change 35 = .ok (.aload_n 0, 1) := by decide +kernel
theorem dX5_change_36 : decode cX5_change 36 = .ok (.getfield 10, 3) := by decide +kernel
theorem dX5_change_39 : decode cX5_change 39 = .ok (.getfield 64, 3) := by decide +kernel
theorem dX5_change_42 : decode cX5_change 42 = .ok (.iload 4, 2) := by decide +kernel
theorem dX5_change_44 : decode cX5_change 44 = .ok (.iload_n 2, 1) := by decide +kernel
theorem dX5_change_45 : decode cX5_change 45 = .ok (.iadd, 1) := by decide +kernel
theorem dX5_change_46 : decode cX5_change 46 = .ok (.iaload, 1) := by decide +kernel
theorem dX5_change_47 : decode cX5_change 47 = .ok (.istore 5, 2) := by decide +kernel
theorem dX5_change_49 : decode cX5_change 49 = .ok (.aload_n 0, 1) := by decide +kernel
theorem dX5_change_50 : decode cX5_change 50 = .ok (.getfield 10, 3) := by decide +kernel
theorem dX5_change_53 : decode cX5_change 53 = .ok (.getfield 64, 3) := by decide +kernel
theorem dX5_change_56 : decode cX5_change 56 = .ok (.iload 4, 2) := by decide +kernel
theorem dX5_change_58 : decode cX5_change 58 = .ok (.iload_n 2, 1) := by decide +kernel
theorem dX5_change_59 : decode cX5_change 59 = .ok (.iadd, 1) := by decide +kernel
theorem dX5_change_60 : decode cX5_change 60 = .ok (.aload_n 0, 1) := by decide +kernel
theorem dX5_change_61 : decode cX5_change 61 = .ok (.getfield 10, 3) := by decide +kernel
theorem dX5_change_64 : decode cX5_change 64 = .ok (.getfield 64, 3) := by decide +kernel
theorem dX5_change_67 : decode cX5_change 67 = .ok (.iload 4, 2) := by decide +kernel
theorem dX5_change_69 : decode cX5_change 69 = .ok (.iload_n 3, 1) := by decide +kernel
theorem dX5_change_70 : decode cX5_change 70 = .ok (.iadd, 1) := by decide +kernel
theorem dX5_change_71 : decode cX5_change 71 = .ok (.iaload, 1) := by decide +kernel
theorem dX5_change_72 : decode cX5_change 72 = .ok (.iastore, 1) := by decide +kernel
theorem dX5_change_73 : decode cX5_change 73 = .ok (.aload_n 0, 1) := by decide +kernel
theorem dX5_change_74 : decode cX5_change 74 = .ok (.getfield 10, 3) := by decide +kernel
theorem dX5_change_77 : decode cX5_change 77 = .ok (.getfield 64, 3) := by decide +kernel
theorem dX5_change_80 : decode cX5_change 80 = .ok (.iload 4, 2) := by decide +kernel
theorem dX5_change_82 : decode cX5_change 82 = .ok (.iload_n 3, 1) := by decide +kernel
theorem dX5_change_83 : decode cX5_change 83 = .ok (.iadd, 1) := by decide +kernel
theorem dX5_change_84 : decode cX5_change 84 = .ok (.iload 5, 2) := by decide +kernel
theorem dX5_change_86 : decode cX5_change 86 = .ok (.iastore, 1) := by decide +kernel
theorem dX5_change_87 : decode cX5_change 87 = .ok (.aload_n 0, 1) := by decide +kernel
theorem dX5_change_88 : decode cX5_change 88 = .ok (.getfield 10, 3) := by decide +kernel
theorem dX5_change_91 : decode cX5_change 91 = .ok (.getfield 64, 3) := by decide +kernel
theorem dX5_change_94 : decode cX5_change 94 = .ok (.iload 4, 2) := by decide +kernel
theorem dX5_change_96 : decode cX5_change 96 = .ok (.aload_n 0, 1) := by decide +kernel
theorem dX5_change_97 : decode cX5_change 97 = .ok (.getfield 10, 3) := by decide +kernel
theorem dX5_change_100 : decode cX5_change 100 = .ok (.getfield 47, 3) := by decide +kernel
theorem dX5_change_103 : decode cX5_change 103 = .ok (.bipush 11, 2) := by decide +kernel
theorem dX5_change_105 : decode cX5_change 105 = .ok (.iload_n 1, 1) := by decide +kernel
theorem dX5_change_106 : decode cX5_change 106 = .ok (.imul, 1) := by decide +kernel
theorem dX5_change_107 : decode cX5_change 107 = .ok (.bipush 7, 2) := by decide +kernel
theorem dX5_change_109 : decode cX5_change 109 = .ok (.iadd, 1) := by decide +kernel
theorem dX5_change_110 : decode cX5_change 110 = .ok (.iaload, 1) := by decide +kernel
theorem dX5_change_111 : decode cX5_change 111 = .ok (.iadd, 1) := by decide +kernel
theorem dX5_change_112 : decode cX5_change 112 = .ok (.iaload, 1) := by decide +kernel
theorem dX5_change_113 : decode cX5_change 113 = .ok (.ireturn, 1) := by decide +kernel
set_option maxRecDepth 20000 in
theorem ggX5_roster_X5_isPlace : GoodIn wsX5_roster wsX5_isPlace := goodIn_r _ [7, 2, 8, 9, 10, 6, 11, 12, 13, 14, 19, 20, 21, 22, 23, 24, 25, 26, 27, 28, 29, 30] (by decide +kernel) (by decide +kernel)
set_option maxRecDepth 20000 in
theorem gX5_roster_X5_isPlace : GoodIn wsX5_roster (wsV RX5 67 RX5 yX5_isPlace wsX5_isPlace) := goodIn_app (goodIn_of _ (by decide +kernel)) ggX5_roster_X5_isPlace
set_option maxRecDepth 20000 in
theorem ggX5_roster_X5_no : GoodIn wsX5_roster wsX5_no := goodIn_r _ [18, 1, 19, 20, 21] (by decide +kernel) (by decide +kernel)
set_option maxRecDepth 20000 in
theorem gX5_roster_X5_no : GoodIn wsX5_roster (wsV RX5 33 RX5 yX5_no wsX5_no) := goodIn_app (goodIn_of _ (by decide +kernel)) ggX5_roster_X5_no
theorem dX5_roster_0 : decode cX5_roster 0 = .ok (.aload_n 0, 1) := by decide +kernel
theorem dX5_roster_1 : decode cX5_roster 1 = .ok (.iconst 0, 1) := by decide +kernel
theorem dX5_roster_2 : decode cX5_roster 2 = .ok (.putfield 19, 3) := by decide +kernel
theorem dX5_roster_5 : decode cX5_roster 5 = .ok (.aload_n 0, 1) := by decide +kernel
theorem dX5_roster_6 : decode cX5_roster 6 = .ok (.iload_n 1, 1) := by decide +kernel
theorem dX5_roster_7 : decode cX5_roster 7 = .ok (.iload_n 2, 1) := by decide +kernel
theorem dX5_roster_8 : decode cX5_roster 8 = .ok (.invokevirtual 67, 3) := by decide +kernel
theorem dX5_roster_11 : decode cX5_roster 11 = .ok (.ifCond .eq 20, 3) := by decide +kernel
theorem dX5_roster_14 : decode cX5_roster 14 = .ok (.aload_n 0, 1) := by decide +kernel
theorem dX5_roster_15 : decode cX5_roster 15 = .ok (.getfield 10, 3) := by decide +kernel
theorem dX5_roster_18 : decode cX5_roster 18 = .ok (.getfield 64, 3) := by decide +kernel
theorem dX5_roster_21 : decode cX5_roster 21 = .ok (.bipush 10, 2) := by decide +kernel
theorem dX5_roster_23 : decode cX5_roster 23 = .ok (.iload_n 1, 1) := by decide +kernel
theorem dX5_roster_24 : decode cX5_roster 24 = .ok (.imul, 1) := by decide +kernel
theorem dX5_roster_25 : decode cX5_roster 25 = .ok (.iload_n 2, 1) := by decide +kernel
theorem dX5_roster_26 : decode cX5_roster 26 = .ok (.iadd, 1) := by decide +kernel
theorem dX5_roster_27 : decode cX5_roster 27 = .ok (.iaload, 1) := by decide +kernel
theorem dX5_roster_28 : decode cX5_roster 28 = .ok (.goto 8, 3) := by decide +kernel
theorem dX5_roster_31 : decode cX5_roster 31 = .ok (.aload_n 0, 1) := by decide +kernel
theorem dX5_roster_32 : decode cX5_roster 32 = .ok (.iconst 1, 1) := by decide +kernel
theorem dX5_roster_33 : decode cX5_roster 33 = .ok (.invokevirtual 33, 3) := by decide +kernel
theorem dX5_roster_36 : decode cX5_roster 36 = .ok (.ireturn, 1) := by decide +kernel
set_option maxRecDepth 20000 in
theorem ggX5_ahead_X5_isPump : GoodIn wsX5_ahead wsX5_isPump := goodIn_r _ [7, 2, 8, 9, 6, 10, 26, 27, 28, 29, 30, 31, 32, 33, 34, 35, 36, 37] (by decide +kernel) (by decide +kernel)
set_option maxRecDepth 20000 in
theorem gX5_ahead_X5_isPump : GoodIn wsX5_ahead (wsV RX5 54 RX5 yX5_isPump wsX5_isPump) := goodIn_app (goodIn_of _ (by decide +kernel)) ggX5_ahead_X5_isPump
set_option maxRecDepth 20000 in
theorem ggX5_ahead_X5_isHouse : GoodIn wsX5_ahead wsX5_isHouse := goodIn_r _ [14, 2, 8, 9, 6, 10, 26, 27, 28, 29, 30, 31, 32, 33, 34, 35, 36, 37] (by decide +kernel) (by decide +kernel)
set_option maxRecDepth 20000 in
theorem gX5_ahead_X5_isHouse : GoodIn wsX5_ahead (wsV RX5 50 RX5 yX5_isHouse wsX5_isHouse) := goodIn_app (goodIn_of _ (by decide +kernel)) ggX5_ahead_X5_isHouse
set_option maxRecDepth 20000 in
theorem ggX5_ahead_X5_no : GoodIn wsX5_ahead wsX5_no := goodIn_r _ [18, 1, 26, 27, 28] (by decide +kernel) (by decide +kernel)
set_option maxRecDepth 20000 in
theorem gX5_ahead_X5_no : GoodIn wsX5_ahead (wsV RX5 33 RX5 yX5_no wsX5_no) := goodIn_app (goodIn_of _ (by decide +kernel)) ggX5_ahead_X5_no
set_option maxRecDepth 20000 in
theorem ggX5_ahead_X4_placeOf : GoodIn wsX5_ahead wsX4_placeOf := goodIn_r _ [23, 24, 25, 29, 30, 31, 32, 33, 34, 35, 36, 37] (by decide +kernel) (by decide +kernel)
set_option maxRecDepth 20000 in
theorem gX5_ahead_X4_placeOf : GoodIn wsX5_ahead (wsV RX5 61 RX4 yX4_placeOf wsX4_placeOf) := goodIn_app (goodIn_of _ (by decide +kernel)) ggX5_ahead_X4_placeOf
theorem dX5_ahead_0 : decode cX5_ahead 0 = .ok (.aload_n 0, 1) := by decide +kernel
theorem dX5_ahead_1 : decode cX5_ahead 1 = .ok (.iconst 0, 1) := by decide +kernel
theorem dX5_ahead_2 : decode cX5_ahead 2 = .ok (.putfield 19, 3) := by decide +kernel
theorem dX5_ahead_5 : decode cX5_ahead 5 = .ok (.aload_n 0, 1) := by decide +kernel
theorem dX5_ahead_6 : decode cX5_ahead 6 = .ok (.iload_n 1, 1) := by decide +kernel
theorem dX5_ahead_7 : decode cX5_ahead 7 = .ok (.invokevirtual 54, 3) := by decide +kernel
theorem dX5_ahead_10 : decode cX5_ahead 10 = .ok (.ifCond .eq 11, 3) := by decide +kernel
theorem dX5_ahead_13 : decode cX5_ahead 13 = .ok (.aload_n 0, 1) := by decide +kernel
theorem dX5_ahead_14 : decode cX5_ahead 14 = .ok (.iload_n 2, 1) := by decide +kernel
theorem dX5_ahead_15 : decode cX5_ahead 15 = .ok (.invokevirtual 50, 3) := by decide +kernel
theorem dX5_ahead_18 : decode cX5_ahead 18 = .ok (.ifCond .ne 9, 3) := by decide +kernel
theorem dX5_ahead_21 : decode cX5_ahead 21 = .ok (.aload_n 0, 1) := by decide +kernel
theorem dX5_ahead_22 : decode cX5_ahead 22 = .ok (.iconst 1, 1) := by decide +kernel
theorem dX5_ahead_23 : decode cX5_ahead 23 = .ok (.invokevirtual 33, 3) := by decide +kernel
theorem dX5_ahead_26 : decode cX5_ahead 26 = .ok (.ireturn, 1) := by decide +kernel
theorem dX5_ahead_27 : decode cX5_ahead 27 = .ok (.aload_n 0, 1) := by decide +kernel
theorem dX5_ahead_28 : decode cX5_ahead 28 = .ok (.getfield 10, 3) := by decide +kernel
theorem dX5_ahead_31 : decode cX5_ahead 31 = .ok (.iload_n 1, 1) := by decide +kernel
theorem dX5_ahead_32 : decode cX5_ahead 32 = .ok (.iload_n 2, 1) := by decide +kernel
theorem dX5_ahead_33 : decode cX5_ahead 33 = .ok (.invokevirtual 61, 3) := by decide +kernel
theorem dX5_ahead_36 : decode cX5_ahead 36 = .ok (.istore_n 3, 1) := by decide +kernel
theorem dX5_ahead_37 : decode cX5_ahead 37 = .ok (.aload_n 0, 1) := by decide +kernel
theorem dX5_ahead_38 : decode cX5_ahead 38 = .ok (.getfield 10, 3) := by decide +kernel
theorem dX5_ahead_41 : decode cX5_ahead 41 = .ok (.getfield 47, 3) := by decide +kernel
theorem dX5_ahead_44 : decode cX5_ahead 44 = .ok (.bipush 11, 2) := by decide +kernel
theorem dX5_ahead_46 : decode cX5_ahead 46 = .ok (.iload_n 1, 1) := by decide +kernel
theorem dX5_ahead_47 : decode cX5_ahead 47 = .ok (.imul, 1) := by decide +kernel
theorem dX5_ahead_48 : decode cX5_ahead 48 = .ok (.bipush 6, 2) := by decide +kernel
theorem dX5_ahead_50 : decode cX5_ahead 50 = .ok (.iadd, 1) := by decide +kernel
theorem dX5_ahead_51 : decode cX5_ahead 51 = .ok (.iaload, 1) := by decide +kernel
theorem dX5_ahead_52 : decode cX5_ahead 52 = .ok (.istore 4, 2) := by decide +kernel
theorem dX5_ahead_54 : decode cX5_ahead 54 = .ok (.iload_n 3, 1) := by decide +kernel
theorem dX5_ahead_55 : decode cX5_ahead 55 = .ok (.iconst (-1), 1) := by decide +kernel
theorem dX5_ahead_56 : decode cX5_ahead 56 = .ok (.if_icmp .ne 7, 3) := by decide +kernel
theorem dX5_ahead_59 : decode cX5_ahead 59 = .ok (.iconst (-1), 1) := by decide +kernel
theorem dX5_ahead_60 : decode cX5_ahead 60 = .ok (.goto 26, 3) := by decide +kernel
theorem dX5_ahead_63 : decode cX5_ahead 63 = .ok (.iload_n 3, 1) := by decide +kernel
theorem dX5_ahead_64 : decode cX5_ahead 64 = .ok (.aload_n 0, 1) := by decide +kernel
theorem dX5_ahead_65 : decode cX5_ahead 65 = .ok (.getfield 10, 3) := by decide +kernel
theorem dX5_ahead_68 : decode cX5_ahead 68 = .ok (.getfield 47, 3) := by decide +kernel
theorem dX5_ahead_71 : decode cX5_ahead 71 = .ok (.bipush 11, 2) := by decide +kernel
theorem dX5_ahead_73 : decode cX5_ahead 73 = .ok (.iload_n 1, 1) := by decide +kernel
theorem dX5_ahead_74 : decode cX5_ahead 74 = .ok (.imul, 1) := by decide +kernel
theorem dX5_ahead_75 : decode cX5_ahead 75 = .ok (.bipush 7, 2) := by decide +kernel
theorem dX5_ahead_77 : decode cX5_ahead 77 = .ok (.iadd, 1) := by decide +kernel
theorem dX5_ahead_78 : decode cX5_ahead 78 = .ok (.iaload, 1) := by decide +kernel
theorem dX5_ahead_79 : decode cX5_ahead 79 = .ok (.isub, 1) := by decide +kernel
theorem dX5_ahead_80 : decode cX5_ahead 80 = .ok (.iload 4, 2) := by decide +kernel
theorem dX5_ahead_82 : decode cX5_ahead 82 = .ok (.iadd, 1) := by decide +kernel
theorem dX5_ahead_83 : decode cX5_ahead 83 = .ok (.iload 4, 2) := by decide +kernel
theorem dX5_ahead_85 : decode cX5_ahead 85 = .ok (.irem, 1) := by decide +kernel
theorem dX5_ahead_86 : decode cX5_ahead 86 = .ok (.ireturn, 1) := by decide +kernel
theorem dX5_houseTold_0 : decode cX5_houseTold 0 = .ok (.bipush 11, 2) := by decide +kernel
theorem dX5_houseTold_2 : decode cX5_houseTold 2 = .ok (.iload_n 1, 1) := by decide +kernel
theorem dX5_houseTold_3 : decode cX5_houseTold 3 = .ok (.imul, 1) := by decide +kernel
theorem dX5_houseTold_4 : decode cX5_houseTold 4 = .ok (.istore_n 3, 1) := by decide +kernel
theorem dX5_houseTold_5 : decode cX5_houseTold 5 = .ok (.iconst 0, 1) := by decide +kernel
theorem dX5_houseTold_6 : decode cX5_houseTold 6 = .ok (.istore 4, 2) := by decide +kernel
theorem dX5_houseTold_8 : decode cX5_houseTold 8 = .ok (.iconst 0, 1) := by decide +kernel
theorem dX5_houseTold_9 : decode cX5_houseTold 9 = .ok (.istore 5, 2) := by decide +kernel
theorem dX5_houseTold_11 : decode cX5_houseTold 11 = .ok (.iload 5, 2) := by decide +kernel
theorem dX5_houseTold_13 : decode cX5_houseTold 13 = .ok (.aload_n 0, 1) := by decide +kernel
theorem dX5_houseTold_14 : decode cX5_houseTold 14 = .ok (.getfield 10, 3) := by decide +kernel
theorem dX5_houseTold_17 : decode cX5_houseTold 17 = .ok (.getfield 30, 3) := by decide +kernel
theorem dX5_houseTold_20 : decode cX5_houseTold 20 = .ok (.if_icmp .ge 38, 3) := by decide +kernel
theorem dX5_houseTold_23 : decode cX5_houseTold 23 = .ok (.iload 4, 2) := by decide +kernel
theorem dX5_houseTold_25 : decode cX5_houseTold 25 = .ok (.aload_n 0, 1) := by decide +kernel
theorem dX5_houseTold_26 : decode cX5_houseTold 26 = .ok (.getfield 10, 3) := by decide +kernel
theorem dX5_houseTold_29 : decode cX5_houseTold 29 = .ok (.getfield 47, 3) := by decide +kernel
theorem dX5_houseTold_32 : decode cX5_houseTold 32 = .ok (.bipush 11, 2) := by decide +kernel
theorem dX5_houseTold_34 : decode cX5_houseTold 34 = .ok (.iload 5, 2) := by decide +kernel
theorem dX5_houseTold_36 : decode cX5_houseTold 36 = .ok (.imul, 1) := by decide +kernel
theorem dX5_houseTold_37 : decode cX5_houseTold 37 = .ok (.iconst 5, 1) := by decide +kernel
theorem dX5_houseTold_38 : decode cX5_houseTold 38 = .ok (.iadd, 1) := by decide +kernel
theorem dX5_houseTold_39 : decode cX5_houseTold 39 = .ok (.iaload, 1) := by decide +kernel
theorem dX5_houseTold_40 : decode cX5_houseTold 40 = .ok (.iload_n 1, 1) := by decide +kernel
theorem dX5_houseTold_41 : decode cX5_houseTold 41 = .ok (.if_icmp .ne 7, 3) := by decide +kernel
theorem dX5_houseTold_44 : decode cX5_houseTold 44 = .ok (.iconst 1, 1) := by decide +kernel
theorem dX5_houseTold_45 : decode cX5_houseTold 45 = .ok (.goto 4, 3) := by decide +kernel
theorem dX5_houseTold_48 : decode cX5_houseTold 48 = .ok (.iconst 0, 1) := by decide +kernel
theorem dX5_houseTold_49 : decode cX5_houseTold 49 = .ok (.iadd, 1) := by decide +kernel
theorem dX5_houseTold_50 : decode cX5_houseTold 50 = .ok (.istore 4, 2) := by decide +kernel
theorem dX5_houseTold_52 : decode cX5_houseTold 52 = .ok (.iinc 5 1, 3) := by decide +kernel
theorem dX5_houseTold_55 : decode cX5_houseTold 55 = .ok (.goto (-44), 3) := by decide +kernel
theorem dX5_houseTold_58 : decode cX5_houseTold 58 = .ok (.iload_n 2, 1) := by decide +kernel
theorem dX5_houseTold_59 : decode cX5_houseTold 59 = .ok (.bipush 10, 2) := by decide +kernel
theorem dX5_houseTold_61 : decode cX5_houseTold 61 = .ok (.if_icmp .ge 21, 3) := by decide +kernel
theorem dX5_houseTold_64 : decode cX5_houseTold 64 = .ok (.aload_n 0, 1) := by decide +kernel
theorem dX5_houseTold_65 : decode cX5_houseTold 65 = .ok (.getfield 10, 3) := by decide +kernel
theorem dX5_houseTold_68 : decode cX5_houseTold 68 = .ok (.getfield 37, 3) := by decide +kernel
theorem dX5_houseTold_71 : decode cX5_houseTold 71 = .ok (.iload_n 3, 1) := by decide +kernel
theorem dX5_houseTold_72 : decode cX5_houseTold 72 = .ok (.getstatic 71, 3) := by decide +kernel
theorem dX5_houseTold_75 : decode cX5_houseTold 75 = .ok (.iload_n 2, 1) := by decide +kernel
theorem dX5_houseTold_76 : decode cX5_houseTold 76 = .ok (.iaload, 1) := by decide +kernel
theorem dX5_houseTold_77 : decode cX5_houseTold 77 = .ok (.iadd, 1) := by decide +kernel
theorem dX5_houseTold_78 : decode cX5_houseTold 78 = .ok (.iaload, 1) := by decide +kernel
theorem dX5_houseTold_79 : decode cX5_houseTold 79 = .ok (.goto 5, 3) := by decide +kernel
theorem dX5_houseTold_82 : decode cX5_houseTold 82 = .ok (.iload 4, 2) := by decide +kernel
theorem dX5_houseTold_84 : decode cX5_houseTold 84 = .ok (.ireturn, 1) := by decide +kernel
set_option maxRecDepth 20000 in
theorem ggX5_house_X5_isHouse : GoodIn wsX5_house wsX5_isHouse := goodIn_r _ [6, 7, 8, 9, 5, 10, 20, 21, 22, 23, 24, 25, 26, 27, 28, 29, 30, 31] (by decide +kernel) (by decide +kernel)
set_option maxRecDepth 20000 in
theorem gX5_house_X5_isHouse : GoodIn wsX5_house (wsV RX5 50 RX5 yX5_isHouse wsX5_isHouse) := goodIn_app (goodIn_of _ (by decide +kernel)) ggX5_house_X5_isHouse
set_option maxRecDepth 20000 in
theorem ggX5_house_X5_isIn : GoodIn wsX5_house wsX5_isIn := goodIn_r _ [10] (by decide +kernel) (by decide +kernel)
set_option maxRecDepth 20000 in
theorem gX5_house_X5_isIn : GoodIn wsX5_house (va_wsS RX5 26 yX5_isIn wsX5_isIn) := goodIn_app (goodIn_of _ (by decide +kernel)) ggX5_house_X5_isIn
set_option maxRecDepth 20000 in
theorem ggX5_house_X5_houseTold : GoodIn wsX5_house wsX5_houseTold := goodIn_r _ [14, 7, 15, 20, 21, 22, 23, 24, 25, 26, 27, 28, 29, 30, 31] (by decide +kernel) (by decide +kernel)
set_option maxRecDepth 20000 in
theorem gX5_house_X5_houseTold : GoodIn wsX5_house (wsV RX5 74 RX5 yX5_houseTold wsX5_houseTold) := goodIn_app (goodIn_of _ (by decide +kernel)) ggX5_house_X5_houseTold
set_option maxRecDepth 20000 in
theorem ggX5_house_X5_no : GoodIn wsX5_house wsX5_no := goodIn_r _ [19, 1, 20, 21, 22] (by decide +kernel) (by decide +kernel)
set_option maxRecDepth 20000 in
theorem gX5_house_X5_no : GoodIn wsX5_house (wsV RX5 33 RX5 yX5_no wsX5_no) := goodIn_app (goodIn_of _ (by decide +kernel)) ggX5_house_X5_no
theorem dX5_house_0 : decode cX5_house 0 = .ok (.aload_n 0, 1) := by decide +kernel
theorem dX5_house_1 : decode cX5_house 1 = .ok (.iconst 0, 1) := by decide +kernel
theorem dX5_house_2 : decode cX5_house 2 = .ok (.putfield 19, 3) := by decide +kernel
theorem dX5_house_5 : decode cX5_house 5 = .ok (.aload_n 0, 1) := by decide +kernel
theorem dX5_house_6 : decode cX5_house 6 = .ok (.iload_n 1, 1) := by decide +kernel
theorem dX5_house_7 : decode cX5_house 7 = .ok (.invokevirtual 50, 3) := by decide +kernel
theorem dX5_house_10 : decode cX5_house 10 = .ok (.ifCond .eq 22, 3) := by decide +kernel
theorem dX5_house_13 : decode cX5_house 13 = .ok (.iload_n 2, 1) := by decide +kernel
theorem dX5_house_14 : decode cX5_house 14 = .ok (.iconst 0, 1) := by decide +kernel
theorem dX5_house_15 : decode cX5_house 15 = .ok (.bipush 10, 2) := by decide +kernel
theorem dX5_house_17 : decode cX5_house 17 = .ok (.invokestatic 26, 3) := by decide +kernel
theorem dX5_house_20 : decode cX5_house 20 = .ok (.ifCond .eq 12, 3) := by decide +kernel
theorem dX5_house_23 : decode cX5_house 23 = .ok (.aload_n 0, 1) := by decide +kernel
theorem dX5_house_24 : decode cX5_house 24 = .ok (.iload_n 1, 1) := by decide +kernel
theorem dX5_house_25 : decode cX5_house 25 = .ok (.iload_n 2, 1) := by decide +kernel
theorem dX5_house_26 : decode cX5_house 26 = .ok (.invokevirtual 74, 3) := by decide +kernel
theorem dX5_house_29 : decode cX5_house 29 = .ok (.goto 8, 3) := by decide +kernel
theorem dX5_house_32 : decode cX5_house 32 = .ok (.aload_n 0, 1) := by decide +kernel
theorem dX5_house_33 : decode cX5_house 33 = .ok (.iconst 1, 1) := by decide +kernel
theorem dX5_house_34 : decode cX5_house 34 = .ok (.invokevirtual 33, 3) := by decide +kernel
theorem dX5_house_37 : decode cX5_house 37 = .ok (.ireturn, 1) := by decide +kernel
set_option maxRecDepth 20000 in
theorem ggX5_pump_X5_isPump : GoodIn wsX5_pump wsX5_isPump := goodIn_r _ [7, 2, 8, 9, 6, 10, 15, 16, 17, 18, 19, 20, 21, 22, 23, 24, 25, 26] (by decide +kernel) (by decide +kernel)
set_option maxRecDepth 20000 in
theorem gX5_pump_X5_isPump : GoodIn wsX5_pump (wsV RX5 54 RX5 yX5_isPump wsX5_isPump) := goodIn_app (goodIn_of _ (by decide +kernel)) ggX5_pump_X5_isPump
set_option maxRecDepth 20000 in
theorem ggX5_pump_X5_isIn : GoodIn wsX5_pump wsX5_isIn := goodIn_r _ [10] (by decide +kernel) (by decide +kernel)
set_option maxRecDepth 20000 in
theorem gX5_pump_X5_isIn : GoodIn wsX5_pump (va_wsS RX5 26 yX5_isIn wsX5_isIn) := goodIn_app (goodIn_of _ (by decide +kernel)) ggX5_pump_X5_isIn
set_option maxRecDepth 20000 in
theorem ggX5_pump_X5_no : GoodIn wsX5_pump wsX5_no := goodIn_r _ [14, 1, 15, 16, 17] (by decide +kernel) (by decide +kernel)
set_option maxRecDepth 20000 in
theorem gX5_pump_X5_no : GoodIn wsX5_pump (wsV RX5 33 RX5 yX5_no wsX5_no) := goodIn_app (goodIn_of _ (by decide +kernel)) ggX5_pump_X5_no
theorem dX5_pump_0 : decode cX5_pump 0 = .ok (.aload_n 0, 1) := by decide +kernel
theorem dX5_pump_1 : decode cX5_pump 1 = .ok (.iconst 0, 1) := by decide +kernel
theorem dX5_pump_2 : decode cX5_pump 2 = .ok (.putfield 19, 3) := by decide +kernel
theorem dX5_pump_5 : decode cX5_pump 5 = .ok (.aload_n 0, 1) := by decide +kernel
theorem dX5_pump_6 : decode cX5_pump 6 = .ok (.iload_n 1, 1) := by decide +kernel
theorem dX5_pump_7 : decode cX5_pump 7 = .ok (.invokevirtual 54, 3) := by decide +kernel
theorem dX5_pump_10 : decode cX5_pump 10 = .ok (.ifCond .eq 30, 3) := by decide +kernel
theorem dX5_pump_13 : decode cX5_pump 13 = .ok (.iload_n 2, 1) := by decide +kernel
theorem dX5_pump_14 : decode cX5_pump 14 = .ok (.iconst 0, 1) := by decide +kernel
theorem dX5_pump_15 : decode cX5_pump 15 = .ok (.bipush 10, 2) := by decide +kernel
theorem dX5_pump_17 : decode cX5_pump 17 = .ok (.invokestatic 26, 3) := by decide +kernel
theorem dX5_pump_20 : decode cX5_pump 20 = .ok (.ifCond .eq 20, 3) := by decide +kernel
theorem dX5_pump_23 : decode cX5_pump 23 = .ok (.aload_n 0, 1) := by decide +kernel
theorem dX5_pump_24 : decode cX5_pump 24 = .ok (.getfield 10, 3) := by decide +kernel
theorem dX5_pump_27 : decode cX5_pump 27 = .ok (.getfield 47, 3) := by decide +kernel
theorem dX5_pump_30 : decode cX5_pump 30 = .ok (.bipush 11, 2) := by decide +kernel
theorem dX5_pump_32 : decode cX5_pump 32 = .ok (.iload_n 1, 1) := by decide +kernel
theorem dX5_pump_33 : decode cX5_pump 33 = .ok (.imul, 1) := by decide +kernel
theorem dX5_pump_34 : decode cX5_pump 34 = .ok (.iload_n 2, 1) := by decide +kernel
theorem dX5_pump_35 : decode cX5_pump 35 = .ok (.iadd, 1) := by decide +kernel
theorem dX5_pump_36 : decode cX5_pump 36 = .ok (.iaload, 1) := by decide +kernel
theorem dX5_pump_37 : decode cX5_pump 37 = .ok (.goto 8, 3) := by decide +kernel
theorem dX5_pump_40 : decode cX5_pump 40 = .ok (.aload_n 0, 1) := by decide +kernel
theorem dX5_pump_41 : decode cX5_pump 41 = .ok (.iconst 1, 1) := by decide +kernel
theorem dX5_pump_42 : decode cX5_pump 42 = .ok (.invokevirtual 33, 3) := by decide +kernel
theorem dX5_pump_45 : decode cX5_pump 45 = .ok (.ireturn, 1) := by decide +kernel
set_option maxRecDepth 20000 in
theorem ggX5_pass_X4_pass : GoodIn wsX5_pass wsX4_pass := goodIn_r _ [5, 6, 7, 8, 9, 10, 11, 12, 13, 14, 15, 16, 17, 18, 19, 20, 21, 22, 23, 4, 24, 25, 26, 27, 28, 29, 30, 31, 32, 33, 34, 35, 36, 37, 38, 39, 40, 41, 42, 43, 44, 45, 46, 47, 48, 49, 50, 51, 52, 53, 54, 55, 56, 57, 58, 59, 60, 61, 62, 63, 64, 65, 66] (by decide +kernel) (by decide +kernel)
set_option maxRecDepth 20000 in
theorem gX5_pass_X4_pass : GoodIn wsX5_pass (wsV RX5 77 RX4 yX4_pass wsX4_pass) := goodIn_app (goodIn_of _ (by decide +kernel)) ggX5_pass_X4_pass
theorem dX5_pass_0 : decode cX5_pass 0 = .ok (.iconst 0, 1) := by decide +kernel
theorem dX5_pass_1 : decode cX5_pass 1 = .ok (.istore_n 2, 1) := by decide +kernel
theorem dX5_pass_2 : decode cX5_pass 2 = .ok (.iconst 0, 1) := by decide +kernel
theorem dX5_pass_3 : decode cX5_pass 3 = .ok (.istore_n 3, 1) := by decide +kernel
theorem dX5_pass_4 : decode cX5_pass 4 = .ok (.iload_n 3, 1) := by decide +kernel
theorem dX5_pass_5 : decode cX5_pass 5 = .ok (.iload_n 1, 1) := by decide +kernel
theorem dX5_pass_6 : decode cX5_pass 6 = .ok (.if_icmp .ge 16, 3) := by decide +kernel
theorem dX5_pass_9 : decode cX5_pass 9 = .ok (.iload_n 2, 1) := by decide +kernel
theorem dX5_pass_10 : decode cX5_pass 10 = .ok (.aload_n 0, 1) := by decide +kernel
theorem dX5_pass_11 : decode cX5_pass 11 = .ok (.invokevirtual 77, 3) := by decide +kernel
theorem dX5_pass_14 : decode cX5_pass 14 = .ok (.iadd, 1) := by decide +kernel
theorem dX5_pass_15 : decode cX5_pass 15 = .ok (.istore_n 2, 1) := by decide +kernel
theorem dX5_pass_16 : decode cX5_pass 16 = .ok (.iinc 3 1, 3) := by decide +kernel
theorem dX5_pass_19 : decode cX5_pass 19 = .ok (.goto (-15), 3) := by decide +kernel
theorem dX5_pass_22 : decode cX5_pass 22 = .ok (.iload_n 2, 1) := by decide +kernel
theorem dX5_pass_23 : decode cX5_pass 23 = .ok (.ireturn, 1) := by decide +kernel
set_option maxRecDepth 20000 in
theorem ggX5_pass__X5_isIn : GoodIn wsX5_pass_ wsX5_isIn := goodIn_r _ [6] (by decide +kernel) (by decide +kernel)
set_option maxRecDepth 20000 in
theorem gX5_pass__X5_isIn : GoodIn wsX5_pass_ (va_wsS RX5 26 yX5_isIn wsX5_isIn) := goodIn_app (goodIn_of _ (by decide +kernel)) ggX5_pass__X5_isIn
set_option maxRecDepth 20000 in
theorem ggX5_pass__X5_pass : GoodIn wsX5_pass_ wsX5_pass := goodIn_r _ [9, 10, 11, 12, 13, 14, 15, 16, 17, 18, 19, 20, 21, 22, 23, 24, 25, 26, 27, 28, 29, 30, 31, 32, 33, 34, 35, 36, 37, 38, 39, 40, 41, 42, 43, 44, 45, 46, 47, 48, 49, 50, 51, 52, 53, 54, 55, 56, 57, 58, 59, 60, 61, 62, 63, 64, 65, 66, 74, 75, 76, 77, 78, 79, 80, 81, 82] (by decide +kernel) (by decide +kernel)
set_option maxRecDepth 20000 in
theorem gX5_pass__X5_pass : GoodIn wsX5_pass_ (va_wsS RX5 81 yX5_pass wsX5_pass) := goodIn_app (goodIn_of _ (by decide +kernel)) ggX5_pass__X5_pass
set_option maxRecDepth 20000 in
theorem ggX5_pass__X5_no : GoodIn wsX5_pass_ wsX5_no := goodIn_r _ [70, 1, 71, 72, 73] (by decide +kernel) (by decide +kernel)
set_option maxRecDepth 20000 in
theorem gX5_pass__X5_no : GoodIn wsX5_pass_ (wsV RX5 33 RX5 yX5_no wsX5_no) := goodIn_app (goodIn_of _ (by decide +kernel)) ggX5_pass__X5_no
theorem dX5_pass__0 : decode cX5_pass_ 0 = .ok (.aload_n 0, 1) := by decide +kernel
theorem dX5_pass__1 : decode cX5_pass_ 1 = .ok (.iconst 0, 1) := by decide +kernel
theorem dX5_pass__2 : decode cX5_pass_ 2 = .ok (.putfield 19, 3) := by decide +kernel
theorem dX5_pass__5 : decode cX5_pass_ 5 = .ok (.iload_n 1, 1) := by decide +kernel
theorem dX5_pass__6 : decode cX5_pass_ 6 = .ok (.iconst 1, 1) := by decide +kernel
theorem dX5_pass__7 : decode cX5_pass_ 7 = .ok (.bipush 100, 2) := by decide +kernel
theorem dX5_pass__9 : decode cX5_pass_ 9 = .ok (.invokestatic 26, 3) := by decide +kernel
theorem dX5_pass__12 : decode cX5_pass_ 12 = .ok (.ifCond .eq 14, 3) := by decide +kernel
theorem dX5_pass__15 : decode cX5_pass_ 15 = .ok (.aload_n 0, 1) := by decide +kernel
theorem dX5_pass__16 : decode cX5_pass_ 16 = .ok (.getfield 10, 3) := by decide +kernel
theorem dX5_pass__19 : decode cX5_pass_ 19 = .ok (.iload_n 1, 1) := by decide +kernel
theorem dX5_pass__20 : decode cX5_pass_ 20 = .ok (.invokestatic 81, 3) := by decide +kernel
theorem dX5_pass__23 : decode cX5_pass_ 23 = .ok (.goto 8, 3) := by decide +kernel
theorem dX5_pass__26 : decode cX5_pass_ 26 = .ok (.aload_n 0, 1) := by decide +kernel
theorem dX5_pass__27 : decode cX5_pass_ 27 = .ok (.iconst 1, 1) := by decide +kernel
theorem dX5_pass__28 : decode cX5_pass_ 28 = .ok (.invokevirtual 33, 3) := by decide +kernel
theorem dX5_pass__31 : decode cX5_pass_ 31 = .ok (.ireturn, 1) := by decide +kernel
set_option maxRecDepth 20000 in
theorem ggX5_counted_X4_isThere : GoodIn wsX5_counted wsX4_isThere := goodIn_r _ [7, 8, 28, 29, 30, 31, 32, 33, 34, 35, 36] (by decide +kernel) (by decide +kernel)
set_option maxRecDepth 20000 in
theorem gX5_counted_X4_isThere : GoodIn wsX5_counted (wsV RX5 84 RX4 yX4_isThere wsX4_isThere) := goodIn_app (goodIn_of _ (by decide +kernel)) ggX5_counted_X4_isThere
set_option maxRecDepth 20000 in
theorem ggX5_counted_X4_needs : GoodIn wsX5_counted wsX4_needs := goodIn_r _ [12, 8, 13, 4, 5, 6, 7, 28, 29, 30, 31, 32, 33, 34, 35, 36] (by decide +kernel) (by decide +kernel)
set_option maxRecDepth 20000 in
theorem gX5_counted_X4_needs : GoodIn wsX5_counted (wsV RX5 87 RX4 yX4_needs wsX4_needs) := goodIn_app (goodIn_of _ (by decide +kernel)) ggX5_counted_X4_needs
set_option maxRecDepth 20000 in
theorem ggX5_counted_X4_over : GoodIn wsX5_counted wsX4_over := goodIn_r _ [17, 18, 8, 28, 29, 30, 31, 32, 33, 34, 35, 36] (by decide +kernel) (by decide +kernel)
set_option maxRecDepth 20000 in
theorem gX5_counted_X4_over : GoodIn wsX5_counted (wsV RX5 96 RX4 yX4_over wsX4_over) := goodIn_app (goodIn_of _ (by decide +kernel)) ggX5_counted_X4_over
set_option maxRecDepth 20000 in
theorem ggX5_counted_X4_broken : GoodIn wsX5_counted wsX4_broken := goodIn_r _ [22, 23, 24, 28, 29, 30, 31, 32, 33, 34, 35, 36] (by decide +kernel) (by decide +kernel)
set_option maxRecDepth 20000 in
theorem gX5_counted_X4_broken : GoodIn wsX5_counted (wsV RX5 99 RX4 yX4_broken wsX4_broken) := goodIn_app (goodIn_of _ (by decide +kernel)) ggX5_counted_X4_broken
theorem dX5_counted_0 : decode cX5_counted 0 = .ok (.iconst 0, 1) := by decide +kernel
theorem dX5_counted_1 : decode cX5_counted 1 = .ok (.istore_n 2, 1) := by decide +kernel
theorem dX5_counted_2 : decode cX5_counted 2 = .ok (.iconst 0, 1) := by decide +kernel
theorem dX5_counted_3 : decode cX5_counted 3 = .ok (.istore_n 3, 1) := by decide +kernel
theorem dX5_counted_4 : decode cX5_counted 4 = .ok (.iconst 0, 1) := by decide +kernel
theorem dX5_counted_5 : decode cX5_counted 5 = .ok (.istore 4, 2) := by decide +kernel
theorem dX5_counted_7 : decode cX5_counted 7 = .ok (.iload 4, 2) := by decide +kernel
theorem dX5_counted_9 : decode cX5_counted 9 = .ok (.aload_n 0, 1) := by decide +kernel
theorem dX5_counted_10 : decode cX5_counted 10 = .ok (.getfield 10, 3) := by decide +kernel
theorem dX5_counted_13 : decode cX5_counted 13 = .ok (.getfield 23, 3) := by decide +kernel
theorem dX5_counted_16 : decode cX5_counted 16 = .ok (.if_icmp .ge 41, 3) := by decide +kernel
theorem dX5_counted_19 : decode cX5_counted 19 = .ok (.iload_n 2, 1) := by decide +kernel
theorem dX5_counted_20 : decode cX5_counted 20 = .ok (.aload_n 0, 1) := by decide +kernel
theorem dX5_counted_21 : decode cX5_counted 21 = .ok (.getfield 10, 3) := by decide +kernel
theorem dX5_counted_24 : decode cX5_counted 24 = .ok (.iload 4, 2) := by decide +kernel
theorem dX5_counted_26 : decode cX5_counted 26 = .ok (.invokevirtual 84, 3) := by decide +kernel
theorem dX5_counted_29 : decode cX5_counted 29 = .ok (.ifCond .eq 7, 3) := by decide +kernel
theorem dX5_counted_32 : decode cX5_counted 32 = .ok (.iconst 0, 1) := by decide +kernel
theorem dX5_counted_33 : decode cX5_counted 33 = .ok (.goto 4, 3) := by decide +kernel
theorem dX5_counted_36 : decode cX5_counted 36 = .ok (.iconst 1, 1) := by decide +kernel
theorem dX5_counted_37 : decode cX5_counted 37 = .ok (.iadd, 1) := by decide +kernel
theorem dX5_counted_38 : decode cX5_counted 38 = .ok (.istore_n 2, 1) := by decide +kernel
theorem dX5_counted_39 : decode cX5_counted 39 = .ok (.iload_n 3, 1) := by decide +kernel
theorem dX5_counted_40 : decode cX5_counted 40 = .ok (.aload_n 0, 1) := by decide +kernel
theorem dX5_counted_41 : decode cX5_counted 41 = .ok (.getfield 10, 3) := by decide +kernel
theorem dX5_counted_44 : decode cX5_counted 44 = .ok (.iload 4, 2) := by decide +kernel
theorem dX5_counted_46 : decode cX5_counted 46 = .ok (.invokevirtual 87, 3) := by decide +kernel
theorem dX5_counted_49 : decode cX5_counted 49 = .ok (.iadd, 1) := by decide +kernel
theorem dX5_counted_50 : decode cX5_counted 50 = .ok (.istore_n 3, 1) := by decide +kernel
theorem dX5_counted_51 : decode cX5_counted 51 = .ok (.iinc 4 1, 3) := by decide +kernel
theorem dX5_counted_54 : decode cX5_counted 54 = .ok (.goto (-47), 3) := by decide +kernel
theorem dX5_counted_57 : decode cX5_counted 57 = .ok (.bipush 10, 2) := by decide +kernel
theorem dX5_counted_59 : decode cX5_counted 59 = .ok (.newarray .int, 2) := by decide +kernel
theorem dX5_counted_61 : decode cX5_counted 61 = .ok (.dup, 1) := by decide +kernel
theorem dX5_counted_62 : decode cX5_counted 62 = .ok (.iconst 0, 1) := by decide +kernel
theorem dX5_counted_63 : decode cX5_counted 63 = .ok (.aload_n 0, 1) := by decide +kernel
theorem dX5_counted_64 : decode cX5_counted 64 = .ok (.getfield 10, 3) := by decide +kernel
theorem dX5_counted_67 : decode cX5_counted 67 = .ok (.getfield 90, 3) := by decide +kernel
theorem dX5_counted_70 : decode cX5_counted 70 = .ok (.iastore, 1) := by decide +kernel
theorem dX5_counted_71 : decode cX5_counted 71 = .ok (.dup, 1) := by decide +kernel
theorem dX5_counted_72 : decode cX5_counted 72 = .ok (.iconst 1, 1) := by decide +kernel
theorem dX5_counted_73 : decode cX5_counted 73 = .ok (.aload_n 0, 1) := by decide +kernel
theorem dX5_counted_74 : decode cX5_counted 74 = .ok (.getfield 10, 3) := by decide +kernel
theorem dX5_counted_77 : decode cX5_counted 77 = .ok (.getfield 23, 3) := by decide +kernel
theorem dX5_counted_80 : decode cX5_counted 80 = .ok (.iastore, 1) := by decide +kernel
theorem dX5_counted_81 : decode cX5_counted 81 = .ok (.dup, 1) := by decide +kernel
theorem dX5_counted_82 : decode cX5_counted 82 = .ok (.iconst 2, 1) := by decide +kernel
theorem dX5_counted_83 : decode cX5_counted 83 = .ok (.aload_n 0, 1) := by decide +kernel
theorem dX5_counted_84 : decode cX5_counted 84 = .ok (.getfield 10, 3) := by decide +kernel
theorem dX5_counted_87 : decode cX5_counted 87 = .ok (.getfield 30, 3) := by decide +kernel
theorem dX5_counted_90 : decode cX5_counted 90 = .ok (.iastore, 1) := by decide +kernel
theorem dX5_counted_91 : decode cX5_counted 91 = .ok (.dup, 1) := by decide +kernel
theorem dX5_counted_92 : decode cX5_counted 92 = .ok (.iconst 3, 1) := by decide +kernel
theorem dX5_counted_93 : decode cX5_counted 93 = .ok (.aload_n 0, 1) := by decide +kernel
theorem dX5_counted_94 : decode cX5_counted 94 = .ok (.getfield 10, 3) := by decide +kernel
theorem dX5_counted_97 : decode cX5_counted 97 = .ok (.getfield 93, 3) := by decide +kernel
theorem dX5_counted_100 : decode cX5_counted 100 = .ok (.iastore, 1) := by decide +kernel
theorem dX5_counted_101 : decode cX5_counted 101 = .ok (.dup, 1) := by decide +kernel
theorem dX5_counted_102 : decode cX5_counted 102 = .ok (.iconst 4, 1) := by decide +kernel
theorem dX5_counted_103 : decode cX5_counted 103 = .ok (.aload_n 0, 1) := by decide +kernel
theorem dX5_counted_104 : decode cX5_counted 104 = .ok (.getfield 10, 3) := by decide +kernel
theorem dX5_counted_107 : decode cX5_counted 107 = .ok (.iconst 3, 1) := by decide +kernel
theorem dX5_counted_108 : decode cX5_counted 108 = .ok (.invokevirtual 96, 3) := by decide +kernel
theorem dX5_counted_111 : decode cX5_counted 111 = .ok (.iastore, 1) := by decide +kernel
theorem dX5_counted_112 : decode cX5_counted 112 = .ok (.dup, 1) := by decide +kernel
theorem dX5_counted_113 : decode cX5_counted 113 = .ok (.iconst 5, 1) := by decide +kernel
theorem dX5_counted_114 : decode cX5_counted 114 = .ok (.iload_n 2, 1) := by decide +kernel
theorem dX5_counted_115 : decode cX5_counted 115 = .ok (.iastore, 1) := by decide +kernel
theorem dX5_counted_116 : decode cX5_counted 116 = .ok (.dup, 1) := by decide +kernel
theorem dX5_counted_117 : decode cX5_counted 117 = .ok (.bipush 6, 2) := by decide +kernel
theorem dX5_counted_119 : decode cX5_counted 119 = .ok (.aload_n 0, 1) := by decide +kernel
theorem dX5_counted_120 : decode cX5_counted 120 = .ok (.getfield 10, 3) := by decide +kernel
theorem dX5_counted_123 : decode cX5_counted 123 = .ok (.iconst 4, 1) := by decide +kernel
theorem dX5_counted_124 : decode cX5_counted 124 = .ok (.invokevirtual 96, 3) := by decide +kernel
theorem dX5_counted_127 : decode cX5_counted 127 = .ok (.iastore, 1) := by decide +kernel
theorem dX5_counted_128 : decode cX5_counted 128 = .ok (.dup, 1) := by decide +kernel
theorem dX5_counted_129 : decode cX5_counted 129 = .ok (.bipush 7, 2) := by decide +kernel
theorem dX5_counted_131 : decode cX5_counted 131 = .ok (.aload_n 0, 1) := by decide +kernel
theorem dX5_counted_132 : decode cX5_counted 132 = .ok (.getfield 10, 3) := by decide +kernel
theorem dX5_counted_135 : decode cX5_counted 135 = .ok (.bipush 8, 2) := by decide +kernel
theorem dX5_counted_137 : decode cX5_counted 137 = .ok (.invokevirtual 96, 3) := by decide +kernel
theorem dX5_counted_140 : decode cX5_counted 140 = .ok (.iastore, 1) := by decide +kernel
theorem dX5_counted_141 : decode cX5_counted 141 = .ok (.dup, 1) := by decide +kernel
theorem dX5_counted_142 : decode cX5_counted 142 = .ok (.bipush 8, 2) := by decide +kernel
theorem dX5_counted_144 : decode cX5_counted 144 = .ok (.iload_n 3, 1) := by decide +kernel
theorem dX5_counted_145 : decode cX5_counted 145 = .ok (.iastore, 1) := by decide +kernel
theorem dX5_counted_146 : decode cX5_counted 146 = .ok (.dup, 1) := by decide +kernel
theorem dX5_counted_147 : decode cX5_counted 147 = .ok (.bipush 9, 2) := by decide +kernel
theorem dX5_counted_149 : decode cX5_counted 149 = .ok (.aload_n 0, 1) := by decide +kernel
theorem dX5_counted_150 : decode cX5_counted 150 = .ok (.getfield 10, 3) := by decide +kernel
theorem dX5_counted_153 : decode cX5_counted 153 = .ok (.invokevirtual 99, 3) := by decide +kernel
theorem dX5_counted_156 : decode cX5_counted 156 = .ok (.iastore, 1) := by decide +kernel
theorem dX5_counted_157 : decode cX5_counted 157 = .ok (.astore 4, 2) := by decide +kernel
theorem dX5_counted_159 : decode cX5_counted 159 = .ok (.aload 4, 2) := by decide +kernel
theorem dX5_counted_161 : decode cX5_counted 161 = .ok (.iload_n 1, 1) := by decide +kernel
theorem dX5_counted_162 : decode cX5_counted 162 = .ok (.iaload, 1) := by decide +kernel
theorem dX5_counted_163 : decode cX5_counted 163 = .ok (.ireturn, 1) := by decide +kernel
set_option maxRecDepth 20000 in
theorem ggX5_count_X5_isIn : GoodIn wsX5_count wsX5_isIn := goodIn_r _ [5] (by decide +kernel) (by decide +kernel)
set_option maxRecDepth 20000 in
theorem gX5_count_X5_isIn : GoodIn wsX5_count (va_wsS RX5 26 yX5_isIn wsX5_isIn) := goodIn_app (goodIn_of _ (by decide +kernel)) ggX5_count_X5_isIn
set_option maxRecDepth 20000 in
theorem ggX5_count_X5_counted : GoodIn wsX5_count wsX5_counted := goodIn_r _ [9, 10, 11, 12, 13, 14, 15, 16, 17, 18, 19, 20, 21, 22, 23, 24, 25, 26, 27, 28, 29, 30, 31, 32, 33, 38, 39, 40, 41, 42, 43, 44, 45, 46, 47, 48, 49] (by decide +kernel) (by decide +kernel)
set_option maxRecDepth 20000 in
theorem gX5_count_X5_counted : GoodIn wsX5_count (wsV RX5 102 RX5 yX5_counted wsX5_counted) := goodIn_app (goodIn_of _ (by decide +kernel)) ggX5_count_X5_counted
set_option maxRecDepth 20000 in
theorem ggX5_count_X5_no : GoodIn wsX5_count wsX5_no := goodIn_r _ [37, 1, 38, 39, 40] (by decide +kernel) (by decide +kernel)
set_option maxRecDepth 20000 in
theorem gX5_count_X5_no : GoodIn wsX5_count (wsV RX5 33 RX5 yX5_no wsX5_no) := goodIn_app (goodIn_of _ (by decide +kernel)) ggX5_count_X5_no
theorem dX5_count_0 : decode cX5_count 0 = .ok (.aload_n 0, 1) := by decide +kernel
theorem dX5_count_1 : decode cX5_count 1 = .ok (.iconst 0, 1) := by decide +kernel
theorem dX5_count_2 : decode cX5_count 2 = .ok (.putfield 19, 3) := by decide +kernel
theorem dX5_count_5 : decode cX5_count 5 = .ok (.iload_n 1, 1) := by decide +kernel
theorem dX5_count_6 : decode cX5_count 6 = .ok (.iconst 0, 1) := by decide +kernel
