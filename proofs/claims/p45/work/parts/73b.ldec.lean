abbrev c_L_draw : ByteArray := method_2_code
abbrev y_L_draw : MethodName := { cls := "ContainerHostLaw", name := "draw", desc := "([II)I" }
abbrev k_L_draw : Cond := .code y_L_draw c_L_draw 2 (Option.some FieldType.int)
theorem d_L_draw_0 : decode c_L_draw 0 = .ok (.iload_n 1, 1) := by decide +kernel
theorem d_L_draw_1 : decode c_L_draw 1 = .ok (.aload_n 0, 1) := by decide +kernel
theorem d_L_draw_2 : decode c_L_draw 2 = .ok (.arraylength, 1) := by decide +kernel
theorem d_L_draw_3 : decode c_L_draw 3 = .ok (.if_icmp .ge 12, 3) := by decide +kernel
theorem d_L_draw_6 : decode c_L_draw 6 = .ok (.aload_n 0, 1) := by decide +kernel
theorem d_L_draw_7 : decode c_L_draw 7 = .ok (.iload_n 1, 1) := by decide +kernel
theorem d_L_draw_8 : decode c_L_draw 8 = .ok (.iaload, 1) := by decide +kernel
theorem d_L_draw_9 : decode c_L_draw 9 = .ok (.ldc 7, 2) := by decide +kernel
theorem d_L_draw_11 : decode c_L_draw 11 = .ok (.iand, 1) := by decide +kernel
theorem d_L_draw_12 : decode c_L_draw 12 = .ok (.goto 12, 3) := by decide +kernel
theorem d_L_draw_15 : decode c_L_draw 15 = .ok (.ldc 8, 2) := by decide +kernel
theorem d_L_draw_17 : decode c_L_draw 17 = .ok (.iload_n 1, 1) := by decide +kernel
theorem d_L_draw_18 : decode c_L_draw 18 = .ok (.iconst 2, 1) := by decide +kernel
theorem d_L_draw_19 : decode c_L_draw 19 = .ok (.iadd, 1) := by decide +kernel
theorem d_L_draw_20 : decode c_L_draw 20 = .ok (.imul, 1) := by decide +kernel
theorem d_L_draw_21 : decode c_L_draw 21 = .ok (.ldc 9, 2) := by decide +kernel
theorem d_L_draw_23 : decode c_L_draw 23 = .ok (.irem, 1) := by decide +kernel
theorem d_L_draw_24 : decode c_L_draw 24 = .ok (.ireturn, 1) := by decide +kernel
abbrev c_L_step : ByteArray := method_3_code
abbrev y_L_step : MethodName := { cls := "ContainerHostLaw", name := "step", desc := "(LContainerHost;[I[IIII)Z" }
abbrev k_L_step : Cond := .code y_L_step c_L_step 14 (Option.some FieldType.boolean)
theorem d_L_step_0 : decode c_L_step 0 = .ok (.aload_n 2, 1) := by decide +kernel
theorem d_L_step_1 : decode c_L_step 1 = .ok (.bipush 20, 2) := by decide +kernel
theorem d_L_step_3 : decode c_L_step 3 = .ok (.iaload, 1) := by decide +kernel
theorem d_L_step_4 : decode c_L_step 4 = .ok (.ifCond .ne 7, 3) := by decide +kernel
theorem d_L_step_7 : decode c_L_step 7 = .ok (.iconst 0, 1) := by decide +kernel
theorem d_L_step_8 : decode c_L_step 8 = .ok (.goto 10, 3) := by decide +kernel
theorem d_L_step_11 : decode c_L_step 11 = .ok (.iload 4, 2) := by decide +kernel
theorem d_L_step_13 : decode c_L_step 13 = .ok (.aload_n 2, 1) := by decide +kernel
theorem d_L_step_14 : decode c_L_step 14 = .ok (.bipush 20, 2) := by decide +kernel
theorem d_L_step_16 : decode c_L_step 16 = .ok (.iaload, 1) := by decide +kernel
theorem d_L_step_17 : decode c_L_step 17 = .ok (.irem, 1) := by decide +kernel
theorem d_L_step_18 : decode c_L_step 18 = .ok (.istore 6, 2) := by decide +kernel
theorem d_L_step_20 : decode c_L_step 20 = .ok (.aload_n 2, 1) := by decide +kernel
theorem d_L_step_21 : decode c_L_step 21 = .ok (.bipush 20, 2) := by decide +kernel
theorem d_L_step_23 : decode c_L_step 23 = .ok (.iaload, 1) := by decide +kernel
theorem d_L_step_24 : decode c_L_step 24 = .ok (.ifCond .eq 19, 3) := by decide +kernel
theorem d_L_step_27 : decode c_L_step 27 = .ok (.iload_n 3, 1) := by decide +kernel
theorem d_L_step_28 : decode c_L_step 28 = .ok (.bipush 24, 2) := by decide +kernel
theorem d_L_step_30 : decode c_L_step 30 = .ok (.irem, 1) := by decide +kernel
theorem d_L_step_31 : decode c_L_step 31 = .ok (.ifCond .ne 185, 3) := by decide +kernel
theorem d_L_step_34 : decode c_L_step 34 = .ok (.aload_n 2, 1) := by decide +kernel
theorem d_L_step_35 : decode c_L_step 35 = .ok (.bipush 20, 2) := by decide +kernel
theorem d_L_step_37 : decode c_L_step 37 = .ok (.iaload, 1) := by decide +kernel
theorem d_L_step_38 : decode c_L_step 38 = .ok (.bipush 10, 2) := by decide +kernel
theorem d_L_step_40 : decode c_L_step 40 = .ok (.if_icmp .ge 176, 3) := by decide +kernel
theorem d_L_step_43 : decode c_L_step 43 = .ok (.aload_n 2, 1) := by decide +kernel
theorem d_L_step_44 : decode c_L_step 44 = .ok (.bipush 20, 2) := by decide +kernel
theorem d_L_step_46 : decode c_L_step 46 = .ok (.iaload, 1) := by decide +kernel
theorem d_L_step_47 : decode c_L_step 47 = .ok (.ifCond .le 34, 3) := by decide +kernel
theorem d_L_step_50 : decode c_L_step 50 = .ok (.aload_n 1, 1) := by decide +kernel
theorem d_L_step_51 : decode c_L_step 51 = .ok (.iload 6, 2) := by decide +kernel
theorem d_L_step_53 : decode c_L_step 53 = .ok (.iaload, 1) := by decide +kernel
theorem d_L_step_54 : decode c_L_step 54 = .ok (.iconst 1, 1) := by decide +kernel
theorem d_L_step_55 : decode c_L_step 55 = .ok (.if_icmp .ne 26, 3) := by decide +kernel
theorem d_L_step_58 : decode c_L_step 58 = .ok (.aload_n 1, 1) := by decide +kernel
theorem d_L_step_59 : decode c_L_step 59 = .ok (.bipush 10, 2) := by decide +kernel
theorem d_L_step_61 : decode c_L_step 61 = .ok (.iload 6, 2) := by decide +kernel
theorem d_L_step_63 : decode c_L_step 63 = .ok (.iadd, 1) := by decide +kernel
theorem d_L_step_64 : decode c_L_step 64 = .ok (.iaload, 1) := by decide +kernel
theorem d_L_step_65 : decode c_L_step 65 = .ok (.bipush 8, 2) := by decide +kernel
theorem d_L_step_67 : decode c_L_step 67 = .ok (.if_icmp .ge 14, 3) := by decide +kernel
theorem d_L_step_70 : decode c_L_step 70 = .ok (.iload 5, 2) := by decide +kernel
theorem d_L_step_72 : decode c_L_step 72 = .ok (.iconst 3, 1) := by decide +kernel
theorem d_L_step_73 : decode c_L_step 73 = .ok (.irem, 1) := by decide +kernel
theorem d_L_step_74 : decode c_L_step 74 = .ok (.ifCond .le 7, 3) := by decide +kernel
theorem d_L_step_77 : decode c_L_step 77 = .ok (.iconst 1, 1) := by decide +kernel
theorem d_L_step_78 : decode c_L_step 78 = .ok (.goto 4, 3) := by decide +kernel
theorem d_L_step_81 : decode c_L_step 81 = .ok (.iconst 0, 1) := by decide +kernel
theorem d_L_step_82 : decode c_L_step 82 = .ok (.istore 7, 2) := by decide +kernel
theorem d_L_step_84 : decode c_L_step 84 = .ok (.aload_n 1, 1) := by decide +kernel
theorem d_L_step_85 : decode c_L_step 85 = .ok (.aload_n 2, 1) := by decide +kernel
theorem d_L_step_86 : decode c_L_step 86 = .ok (.bipush 20, 2) := by decide +kernel
theorem d_L_step_88 : decode c_L_step 88 = .ok (.iaload, 1) := by decide +kernel
theorem d_L_step_89 : decode c_L_step 89 = .ok (.iconst 0, 1) := by decide +kernel
theorem d_L_step_90 : decode c_L_step 90 = .ok (.iastore, 1) := by decide +kernel
theorem d_L_step_91 : decode c_L_step 91 = .ok (.aload_n 1, 1) := by decide +kernel
theorem d_L_step_92 : decode c_L_step 92 = .ok (.bipush 10, 2) := by decide +kernel
theorem d_L_step_94 : decode c_L_step 94 = .ok (.aload_n 2, 1) := by decide +kernel
theorem d_L_step_95 : decode c_L_step 95 = .ok (.bipush 20, 2) := by decide +kernel
theorem d_L_step_97 : decode c_L_step 97 = .ok (.iaload, 1) := by decide +kernel
theorem d_L_step_98 : decode c_L_step 98 = .ok (.iadd, 1) := by decide +kernel
theorem d_L_step_99 : decode c_L_step 99 = .ok (.iload 7, 2) := by decide +kernel
theorem d_L_step_101 : decode c_L_step 101 = .ok (.ifCond .eq 15, 3) := by decide +kernel
theorem d_L_step_104 : decode c_L_step 104 = .ok (.aload_n 1, 1) := by decide +kernel
theorem d_L_step_105 : decode c_L_step 105 = .ok (.bipush 10, 2) := by decide +kernel
theorem d_L_step_107 : decode c_L_step 107 = .ok (.iload 6, 2) := by decide +kernel
theorem d_L_step_109 : decode c_L_step 109 = .ok (.iadd, 1) := by decide +kernel
theorem d_L_step_110 : decode c_L_step 110 = .ok (.iaload, 1) := by decide +kernel
theorem d_L_step_111 : decode c_L_step 111 = .ok (.iconst 1, 1) := by decide +kernel
theorem d_L_step_112 : decode c_L_step 112 = .ok (.iadd, 1) := by decide +kernel
theorem d_L_step_113 : decode c_L_step 113 = .ok (.goto 4, 3) := by decide +kernel
theorem d_L_step_116 : decode c_L_step 116 = .ok (.iconst 1, 1) := by decide +kernel
theorem d_L_step_117 : decode c_L_step 117 = .ok (.iastore, 1) := by decide +kernel
theorem d_L_step_118 : decode c_L_step 118 = .ok (.aload_n 2, 1) := by decide +kernel
theorem d_L_step_119 : decode c_L_step 119 = .ok (.bipush 20, 2) := by decide +kernel
theorem d_L_step_121 : decode c_L_step 121 = .ok (.dup2, 1) := by decide +kernel
theorem d_L_step_122 : decode c_L_step 122 = .ok (.iaload, 1) := by decide +kernel
theorem d_L_step_123 : decode c_L_step 123 = .ok (.iconst 1, 1) := by decide +kernel
theorem d_L_step_124 : decode c_L_step 124 = .ok (.iadd, 1) := by decide +kernel
theorem d_L_step_125 : decode c_L_step 125 = .ok (.iastore, 1) := by decide +kernel
theorem d_L_step_126 : decode c_L_step 126 = .ok (.aload_n 0, 1) := by decide +kernel
theorem d_L_step_127 : decode c_L_step 127 = .ok (.iload 7, 2) := by decide +kernel
theorem d_L_step_129 : decode c_L_step 129 = .ok (.ifCond .eq 8, 3) := by decide +kernel
theorem d_L_step_132 : decode c_L_step 132 = .ok (.iload 6, 2) := by decide +kernel
theorem d_L_step_134 : decode c_L_step 134 = .ok (.goto 4, 3) := by decide +kernel
theorem d_L_step_137 : decode c_L_step 137 = .ok (.iconst (-1), 1) := by decide +kernel
theorem d_L_step_138 : decode c_L_step 138 = .ok (.invokevirtual 12, 3) := by decide +kernel
theorem d_L_step_141 : decode c_L_step 141 = .ok (.aload_n 2, 1) := by decide +kernel
theorem d_L_step_142 : decode c_L_step 142 = .ok (.bipush 20, 2) := by decide +kernel
theorem d_L_step_144 : decode c_L_step 144 = .ok (.iaload, 1) := by decide +kernel
theorem d_L_step_145 : decode c_L_step 145 = .ok (.iconst 1, 1) := by decide +kernel
theorem d_L_step_146 : decode c_L_step 146 = .ok (.isub, 1) := by decide +kernel
theorem d_L_step_147 : decode c_L_step 147 = .ok (.if_icmp .ne 67, 3) := by decide +kernel
theorem d_L_step_150 : decode c_L_step 150 = .ok (.aload_n 0, 1) := by decide +kernel
theorem d_L_step_151 : decode c_L_step 151 = .ok (.aload_n 2, 1) := by decide +kernel
theorem d_L_step_152 : decode c_L_step 152 = .ok (.bipush 20, 2) := by decide +kernel
theorem d_L_step_154 : decode c_L_step 154 = .ok (.iaload, 1) := by decide +kernel
theorem d_L_step_155 : decode c_L_step 155 = .ok (.iconst 1, 1) := by decide +kernel
theorem d_L_step_156 : decode c_L_step 156 = .ok (.isub, 1) := by decide +kernel
theorem d_L_step_157 : decode c_L_step 157 = .ok (.aload_n 1, 1) := by decide +kernel
theorem d_L_step_158 : decode c_L_step 158 = .ok (.bipush 10, 2) := by decide +kernel
theorem d_L_step_160 : decode c_L_step 160 = .ok (.aload_n 2, 1) := by decide +kernel
theorem d_L_step_161 : decode c_L_step 161 = .ok (.bipush 20, 2) := by decide +kernel
theorem d_L_step_163 : decode c_L_step 163 = .ok (.iaload, 1) := by decide +kernel
theorem d_L_step_164 : decode c_L_step 164 = .ok (.iadd, 1) := by decide +kernel
theorem d_L_step_165 : decode c_L_step 165 = .ok (.iconst 1, 1) := by decide +kernel
theorem d_L_step_166 : decode c_L_step 166 = .ok (.isub, 1) := by decide +kernel
theorem d_L_step_167 : decode c_L_step 167 = .ok (.iaload, 1) := by decide +kernel
theorem d_L_step_168 : decode c_L_step 168 = .ok (.iconst 1, 1) := by decide +kernel
theorem d_L_step_169 : decode c_L_step 169 = .ok (.isub, 1) := by decide +kernel
theorem d_L_step_170 : decode c_L_step 170 = .ok (.invokevirtual 18, 3) := by decide +kernel
theorem d_L_step_173 : decode c_L_step 173 = .ok (.ifCond .ne 41, 3) := by decide +kernel
theorem d_L_step_176 : decode c_L_step 176 = .ok (.iload 7, 2) := by decide +kernel
theorem d_L_step_178 : decode c_L_step 178 = .ok (.ifCond .eq 32, 3) := by decide +kernel
theorem d_L_step_181 : decode c_L_step 181 = .ok (.aload_n 0, 1) := by decide +kernel
theorem d_L_step_182 : decode c_L_step 182 = .ok (.aload_n 2, 1) := by decide +kernel
theorem d_L_step_183 : decode c_L_step 183 = .ok (.bipush 20, 2) := by decide +kernel
theorem d_L_step_185 : decode c_L_step 185 = .ok (.iaload, 1) := by decide +kernel
theorem d_L_step_186 : decode c_L_step 186 = .ok (.iconst 1, 1) := by decide +kernel
theorem d_L_step_187 : decode c_L_step 187 = .ok (.isub, 1) := by decide +kernel
theorem d_L_step_188 : decode c_L_step 188 = .ok (.iload 5, 2) := by decide +kernel
theorem d_L_step_190 : decode c_L_step 190 = .ok (.bipush 32, 2) := by decide +kernel
theorem d_L_step_192 : decode c_L_step 192 = .ok (.irem, 1) := by decide +kernel
theorem d_L_step_193 : decode c_L_step 193 = .ok (.invokevirtual 22, 3) := by decide +kernel
theorem d_L_step_196 : decode c_L_step 196 = .ok (.aload_n 0, 1) := by decide +kernel
theorem d_L_step_197 : decode c_L_step 197 = .ok (.iload 6, 2) := by decide +kernel
theorem d_L_step_199 : decode c_L_step 199 = .ok (.iload 5, 2) := by decide +kernel
theorem d_L_step_201 : decode c_L_step 201 = .ok (.bipush 32, 2) := by decide +kernel
theorem d_L_step_203 : decode c_L_step 203 = .ok (.irem, 1) := by decide +kernel
theorem d_L_step_204 : decode c_L_step 204 = .ok (.invokevirtual 22, 3) := by decide +kernel
theorem d_L_step_207 : decode c_L_step 207 = .ok (.if_icmp .ne 7, 3) := by decide +kernel
theorem d_L_step_210 : decode c_L_step 210 = .ok (.iconst 1, 1) := by decide +kernel
theorem d_L_step_211 : decode c_L_step 211 = .ok (.goto 4, 3) := by decide +kernel
theorem d_L_step_214 : decode c_L_step 214 = .ok (.iconst 0, 1) := by decide +kernel
theorem d_L_step_215 : decode c_L_step 215 = .ok (.ireturn, 1) := by decide +kernel
theorem d_L_step_216 : decode c_L_step 216 = .ok (.iload_n 3, 1) := by decide +kernel
theorem d_L_step_217 : decode c_L_step 217 = .ok (.bipush 24, 2) := by decide +kernel
theorem d_L_step_219 : decode c_L_step 219 = .ok (.irem, 1) := by decide +kernel
theorem d_L_step_220 : decode c_L_step 220 = .ok (.iconst 5, 1) := by decide +kernel
theorem d_L_step_221 : decode c_L_step 221 = .ok (.if_icmp .ge 18, 3) := by decide +kernel
theorem d_L_step_224 : decode c_L_step 224 = .ok (.aload_n 0, 1) := by decide +kernel
theorem d_L_step_225 : decode c_L_step 225 = .ok (.aload_n 1, 1) := by decide +kernel
theorem d_L_step_226 : decode c_L_step 226 = .ok (.aload_n 2, 1) := by decide +kernel
theorem d_L_step_227 : decode c_L_step 227 = .ok (.iload 6, 2) := by decide +kernel
theorem d_L_step_229 : decode c_L_step 229 = .ok (.iload_n 3, 1) := by decide +kernel
theorem d_L_step_230 : decode c_L_step 230 = .ok (.bipush 24, 2) := by decide +kernel
theorem d_L_step_232 : decode c_L_step 232 = .ok (.irem, 1) := by decide +kernel
theorem d_L_step_233 : decode c_L_step 233 = .ok (.iload 5, 2) := by decide +kernel
theorem d_L_step_235 : decode c_L_step 235 = .ok (.invokestatic 25, 3) := by decide +kernel
theorem d_L_step_238 : decode c_L_step 238 = .ok (.ireturn, 1) := by decide +kernel
theorem d_L_step_239 : decode c_L_step 239 = .ok (.iload_n 3, 1) := by decide +kernel
theorem d_L_step_240 : decode c_L_step 240 = .ok (.bipush 24, 2) := by decide +kernel
theorem d_L_step_242 : decode c_L_step 242 = .ok (.irem, 1) := by decide +kernel
theorem d_L_step_243 : decode c_L_step 243 = .ok (.iconst 5, 1) := by decide +kernel
theorem d_L_step_244 : decode c_L_step 244 = .ok (.if_icmp .ne 164, 3) := by decide +kernel
theorem d_L_step_247 : decode c_L_step 247 = .ok (.aload_n 2, 1) := by decide +kernel
theorem d_L_step_248 : decode c_L_step 248 = .ok (.bipush 21, 2) := by decide +kernel
theorem d_L_step_250 : decode c_L_step 250 = .ok (.iaload, 1) := by decide +kernel
theorem d_L_step_251 : decode c_L_step 251 = .ok (.bipush 8, 2) := by decide +kernel
theorem d_L_step_253 : decode c_L_step 253 = .ok (.if_icmp .ge 155, 3) := by decide +kernel
theorem d_L_step_256 : decode c_L_step 256 = .ok (.iload 4, 2) := by decide +kernel
theorem d_L_step_258 : decode c_L_step 258 = .ok (.aload_n 2, 1) := by decide +kernel
theorem d_L_step_259 : decode c_L_step 259 = .ok (.bipush 21, 2) := by decide +kernel
theorem d_L_step_261 : decode c_L_step 261 = .ok (.iaload, 1) := by decide +kernel
theorem d_L_step_262 : decode c_L_step 262 = .ok (.irem, 1) := by decide +kernel
theorem d_L_step_263 : decode c_L_step 263 = .ok (.istore 7, 2) := by decide +kernel
theorem d_L_step_265 : decode c_L_step 265 = .ok (.aload_n 1, 1) := by decide +kernel
theorem d_L_step_266 : decode c_L_step 266 = .ok (.bipush 20, 2) := by decide +kernel
theorem d_L_step_268 : decode c_L_step 268 = .ok (.aload_n 2, 1) := by decide +kernel
theorem d_L_step_269 : decode c_L_step 269 = .ok (.bipush 21, 2) := by decide +kernel
theorem d_L_step_271 : decode c_L_step 271 = .ok (.iaload, 1) := by decide +kernel
theorem d_L_step_272 : decode c_L_step 272 = .ok (.iadd, 1) := by decide +kernel
theorem d_L_step_273 : decode c_L_step 273 = .ok (.iload 7, 2) := by decide +kernel
theorem d_L_step_275 : decode c_L_step 275 = .ok (.iastore, 1) := by decide +kernel
theorem d_L_step_276 : decode c_L_step 276 = .ok (.aload_n 1, 1) := by decide +kernel
theorem d_L_step_277 : decode c_L_step 277 = .ok (.bipush 28, 2) := by decide +kernel
theorem d_L_step_279 : decode c_L_step 279 = .ok (.aload_n 2, 1) := by decide +kernel
theorem d_L_step_280 : decode c_L_step 280 = .ok (.bipush 21, 2) := by decide +kernel
theorem d_L_step_282 : decode c_L_step 282 = .ok (.iaload, 1) := by decide +kernel
theorem d_L_step_283 : decode c_L_step 283 = .ok (.iadd, 1) := by decide +kernel
theorem d_L_step_284 : decode c_L_step 284 = .ok (.iconst 1, 1) := by decide +kernel
theorem d_L_step_285 : decode c_L_step 285 = .ok (.iload 5, 2) := by decide +kernel
theorem d_L_step_287 : decode c_L_step 287 = .ok (.iload 5, 2) := by decide +kernel
theorem d_L_step_289 : decode c_L_step 289 = .ok (.iconst 2, 1) := by decide +kernel
theorem d_L_step_290 : decode c_L_step 290 = .ok (.irem, 1) := by decide +kernel
theorem d_L_step_291 : decode c_L_step 291 = .ok (.ifCond .ne 9, 3) := by decide +kernel
theorem d_L_step_294 : decode c_L_step 294 = .ok (.sipush 10000, 3) := by decide +kernel
theorem d_L_step_297 : decode c_L_step 297 = .ok (.goto 6, 3) := by decide +kernel
theorem d_L_step_300 : decode c_L_step 300 = .ok (.sipush 300, 3) := by decide +kernel
theorem d_L_step_303 : decode c_L_step 303 = .ok (.irem, 1) := by decide +kernel
theorem d_L_step_304 : decode c_L_step 304 = .ok (.iadd, 1) := by decide +kernel
theorem d_L_step_305 : decode c_L_step 305 = .ok (.iastore, 1) := by decide +kernel
theorem d_L_step_306 : decode c_L_step 306 = .ok (.aload_n 1, 1) := by decide +kernel
theorem d_L_step_307 : decode c_L_step 307 = .ok (.bipush 36, 2) := by decide +kernel
theorem d_L_step_309 : decode c_L_step 309 = .ok (.aload_n 2, 1) := by decide +kernel
theorem d_L_step_310 : decode c_L_step 310 = .ok (.bipush 21, 2) := by decide +kernel
theorem d_L_step_312 : decode c_L_step 312 = .ok (.iaload, 1) := by decide +kernel
theorem d_L_step_313 : decode c_L_step 313 = .ok (.iadd, 1) := by decide +kernel
theorem d_L_step_314 : decode c_L_step 314 = .ok (.iconst 1, 1) := by decide +kernel
theorem d_L_step_315 : decode c_L_step 315 = .ok (.iload 5, 2) := by decide +kernel
theorem d_L_step_317 : decode c_L_step 317 = .ok (.bipush 7, 2) := by decide +kernel
theorem d_L_step_319 : decode c_L_step 319 = .ok (.idiv, 1) := by decide +kernel
theorem d_L_step_320 : decode c_L_step 320 = .ok (.bipush 12, 2) := by decide +kernel
theorem d_L_step_322 : decode c_L_step 322 = .ok (.irem, 1) := by decide +kernel
theorem d_L_step_323 : decode c_L_step 323 = .ok (.iadd, 1) := by decide +kernel
theorem d_L_step_324 : decode c_L_step 324 = .ok (.iastore, 1) := by decide +kernel
theorem d_L_step_325 : decode c_L_step 325 = .ok (.aload_n 2, 1) := by decide +kernel
theorem d_L_step_326 : decode c_L_step 326 = .ok (.bipush 21, 2) := by decide +kernel
theorem d_L_step_328 : decode c_L_step 328 = .ok (.dup2, 1) := by decide +kernel
theorem d_L_step_329 : decode c_L_step 329 = .ok (.iaload, 1) := by decide +kernel
theorem d_L_step_330 : decode c_L_step 330 = .ok (.iconst 1, 1) := by decide +kernel
theorem d_L_step_331 : decode c_L_step 331 = .ok (.iadd, 1) := by decide +kernel
theorem d_L_step_332 : decode c_L_step 332 = .ok (.iastore, 1) := by decide +kernel
theorem d_L_step_333 : decode c_L_step 333 = .ok (.aload_n 0, 1) := by decide +kernel
theorem d_L_step_334 : decode c_L_step 334 = .ok (.iload 7, 2) := by decide +kernel
theorem d_L_step_336 : decode c_L_step 336 = .ok (.aload_n 1, 1) := by decide +kernel
theorem d_L_step_337 : decode c_L_step 337 = .ok (.bipush 27, 2) := by decide +kernel
theorem d_L_step_339 : decode c_L_step 339 = .ok (.aload_n 2, 1) := by decide +kernel
theorem d_L_step_340 : decode c_L_step 340 = .ok (.bipush 21, 2) := by decide +kernel
theorem d_L_step_342 : decode c_L_step 342 = .ok (.iaload, 1) := by decide +kernel
theorem d_L_step_343 : decode c_L_step 343 = .ok (.iadd, 1) := by decide +kernel
theorem d_L_step_344 : decode c_L_step 344 = .ok (.iaload, 1) := by decide +kernel
theorem d_L_step_345 : decode c_L_step 345 = .ok (.aload_n 1, 1) := by decide +kernel
theorem d_L_step_346 : decode c_L_step 346 = .ok (.bipush 35, 2) := by decide +kernel
theorem d_L_step_348 : decode c_L_step 348 = .ok (.aload_n 2, 1) := by decide +kernel
theorem d_L_step_349 : decode c_L_step 349 = .ok (.bipush 21, 2) := by decide +kernel
theorem d_L_step_351 : decode c_L_step 351 = .ok (.iaload, 1) := by decide +kernel
theorem d_L_step_352 : decode c_L_step 352 = .ok (.iadd, 1) := by decide +kernel
theorem d_L_step_353 : decode c_L_step 353 = .ok (.iaload, 1) := by decide +kernel
theorem d_L_step_354 : decode c_L_step 354 = .ok (.iconst 1, 1) := by decide +kernel
theorem d_L_step_355 : decode c_L_step 355 = .ok (.iload 5, 2) := by decide +kernel
theorem d_L_step_357 : decode c_L_step 357 = .ok (.bipush 11, 2) := by decide +kernel
theorem d_L_step_359 : decode c_L_step 359 = .ok (.idiv, 1) := by decide +kernel
theorem d_L_step_360 : decode c_L_step 360 = .ok (.bipush 100, 2) := by decide +kernel
theorem d_L_step_362 : decode c_L_step 362 = .ok (.irem, 1) := by decide +kernel
theorem d_L_step_363 : decode c_L_step 363 = .ok (.iadd, 1) := by decide +kernel
theorem d_L_step_364 : decode c_L_step 364 = .ok (.invokevirtual 29, 3) := by decide +kernel
theorem d_L_step_367 : decode c_L_step 367 = .ok (.aload_n 2, 1) := by decide +kernel
theorem d_L_step_368 : decode c_L_step 368 = .ok (.bipush 21, 2) := by decide +kernel
theorem d_L_step_370 : decode c_L_step 370 = .ok (.iaload, 1) := by decide +kernel
theorem d_L_step_371 : decode c_L_step 371 = .ok (.iconst 1, 1) := by decide +kernel
theorem d_L_step_372 : decode c_L_step 372 = .ok (.isub, 1) := by decide +kernel
theorem d_L_step_373 : decode c_L_step 373 = .ok (.if_icmp .ne 33, 3) := by decide +kernel
theorem d_L_step_376 : decode c_L_step 376 = .ok (.aload_n 0, 1) := by decide +kernel
theorem d_L_step_377 : decode c_L_step 377 = .ok (.aload_n 2, 1) := by decide +kernel
theorem d_L_step_378 : decode c_L_step 378 = .ok (.bipush 21, 2) := by decide +kernel
theorem d_L_step_380 : decode c_L_step 380 = .ok (.iaload, 1) := by decide +kernel
theorem d_L_step_381 : decode c_L_step 381 = .ok (.iconst 1, 1) := by decide +kernel
theorem d_L_step_382 : decode c_L_step 382 = .ok (.isub, 1) := by decide +kernel
theorem d_L_step_383 : decode c_L_step 383 = .ok (.invokevirtual 33, 3) := by decide +kernel
theorem d_L_step_386 : decode c_L_step 386 = .ok (.ifCond .ne 20, 3) := by decide +kernel
theorem d_L_step_389 : decode c_L_step 389 = .ok (.aload_n 0, 1) := by decide +kernel
theorem d_L_step_390 : decode c_L_step 390 = .ok (.aload_n 2, 1) := by decide +kernel
theorem d_L_step_391 : decode c_L_step 391 = .ok (.bipush 21, 2) := by decide +kernel
theorem d_L_step_393 : decode c_L_step 393 = .ok (.iaload, 1) := by decide +kernel
theorem d_L_step_394 : decode c_L_step 394 = .ok (.iconst 1, 1) := by decide +kernel
theorem d_L_step_395 : decode c_L_step 395 = .ok (.isub, 1) := by decide +kernel
theorem d_L_step_396 : decode c_L_step 396 = .ok (.invokevirtual 36, 3) := by decide +kernel
theorem d_L_step_399 : decode c_L_step 399 = .ok (.ifCond .ne 7, 3) := by decide +kernel
theorem d_L_step_402 : decode c_L_step 402 = .ok (.iconst 1, 1) := by decide +kernel
theorem d_L_step_403 : decode c_L_step 403 = .ok (.goto 4, 3) := by decide +kernel
theorem d_L_step_406 : decode c_L_step 406 = .ok (.iconst 0, 1) := by decide +kernel
theorem d_L_step_407 : decode c_L_step 407 = .ok (.ireturn, 1) := by decide +kernel
theorem d_L_step_408 : decode c_L_step 408 = .ok (.iload_n 3, 1) := by decide +kernel
theorem d_L_step_409 : decode c_L_step 409 = .ok (.bipush 24, 2) := by decide +kernel
theorem d_L_step_411 : decode c_L_step 411 = .ok (.irem, 1) := by decide +kernel
theorem d_L_step_412 : decode c_L_step 412 = .ok (.bipush 9, 2) := by decide +kernel
theorem d_L_step_414 : decode c_L_step 414 = .ok (.if_icmp .ge 12, 3) := by decide +kernel
theorem d_L_step_417 : decode c_L_step 417 = .ok (.aload_n 2, 1) := by decide +kernel
theorem d_L_step_418 : decode c_L_step 418 = .ok (.bipush 22, 2) := by decide +kernel
theorem d_L_step_420 : decode c_L_step 420 = .ok (.iaload, 1) := by decide +kernel
theorem d_L_step_421 : decode c_L_step 421 = .ok (.bipush 20, 2) := by decide +kernel
theorem d_L_step_423 : decode c_L_step 423 = .ok (.if_icmp .lt 10, 3) := by decide +kernel
theorem d_L_step_426 : decode c_L_step 426 = .ok (.aload_n 2, 1) := by decide +kernel
theorem d_L_step_427 : decode c_L_step 427 = .ok (.bipush 22, 2) := by decide +kernel
theorem d_L_step_429 : decode c_L_step 429 = .ok (.iaload, 1) := by decide +kernel
theorem d_L_step_430 : decode c_L_step 430 = .ok (.ifCond .ne 209, 3) := by decide +kernel
theorem d_L_step_433 : decode c_L_step 433 = .ok (.iload 5, 2) := by decide +kernel
theorem d_L_step_435 : decode c_L_step 435 = .ok (.aload_n 2, 1) := by decide +kernel
theorem d_L_step_436 : decode c_L_step 436 = .ok (.bipush 21, 2) := by decide +kernel
theorem d_L_step_438 : decode c_L_step 438 = .ok (.iaload, 1) := by decide +kernel
theorem d_L_step_439 : decode c_L_step 439 = .ok (.irem, 1) := by decide +kernel
theorem d_L_step_440 : decode c_L_step 440 = .ok (.istore 7, 2) := by decide +kernel
theorem d_L_step_442 : decode c_L_step 442 = .ok (.aload_n 1, 1) := by decide +kernel
theorem d_L_step_443 : decode c_L_step 443 = .ok (.iload 6, 2) := by decide +kernel
theorem d_L_step_445 : decode c_L_step 445 = .ok (.iaload, 1) := by decide +kernel
theorem d_L_step_446 : decode c_L_step 446 = .ok (.ifCond .eq 13, 3) := by decide +kernel
theorem d_L_step_449 : decode c_L_step 449 = .ok (.aload_n 0, 1) := by decide +kernel
theorem d_L_step_450 : decode c_L_step 450 = .ok (.aload_n 1, 1) := by decide +kernel
theorem d_L_step_451 : decode c_L_step 451 = .ok (.iload 7, 2) := by decide +kernel
theorem d_L_step_453 : decode c_L_step 453 = .ok (.invokestatic 39, 3) := by decide +kernel
theorem d_L_step_456 : decode c_L_step 456 = .ok (.ifCond .eq 18, 3) := by decide +kernel
theorem d_L_step_459 : decode c_L_step 459 = .ok (.aload_n 2, 1) := by decide +kernel
theorem d_L_step_460 : decode c_L_step 460 = .ok (.bipush 22, 2) := by decide +kernel
theorem d_L_step_462 : decode c_L_step 462 = .ok (.iaload, 1) := by decide +kernel
theorem d_L_step_463 : decode c_L_step 463 = .ok (.bipush 20, 2) := by decide +kernel
theorem d_L_step_465 : decode c_L_step 465 = .ok (.if_icmp .ge 7, 3) := by decide +kernel
theorem d_L_step_468 : decode c_L_step 468 = .ok (.iconst 1, 1) := by decide +kernel
theorem d_L_step_469 : decode c_L_step 469 = .ok (.goto 4, 3) := by decide +kernel
theorem d_L_step_472 : decode c_L_step 472 = .ok (.iconst 0, 1) := by decide +kernel
theorem d_L_step_473 : decode c_L_step 473 = .ok (.ireturn, 1) := by decide +kernel
theorem d_L_step_474 : decode c_L_step 474 = .ok (.aload_n 2, 1) := by decide +kernel
theorem d_L_step_475 : decode c_L_step 475 = .ok (.bipush 22, 2) := by decide +kernel
theorem d_L_step_477 : decode c_L_step 477 = .ok (.iaload, 1) := by decide +kernel
theorem d_L_step_478 : decode c_L_step 478 = .ok (.istore 8, 2) := by decide +kernel
theorem d_L_step_480 : decode c_L_step 480 = .ok (.aload_n 1, 1) := by decide +kernel
theorem d_L_step_481 : decode c_L_step 481 = .ok (.bipush 44, 2) := by decide +kernel
theorem d_L_step_483 : decode c_L_step 483 = .ok (.iload 8, 2) := by decide +kernel
theorem d_L_step_485 : decode c_L_step 485 = .ok (.iadd, 1) := by decide +kernel
theorem d_L_step_486 : decode c_L_step 486 = .ok (.iload 7, 2) := by decide +kernel
theorem d_L_step_488 : decode c_L_step 488 = .ok (.iastore, 1) := by decide +kernel
theorem d_L_step_489 : decode c_L_step 489 = .ok (.aload_n 2, 1) := by decide +kernel
theorem d_L_step_490 : decode c_L_step 490 = .ok (.iload 8, 2) := by decide +kernel
theorem d_L_step_492 : decode c_L_step 492 = .ok (.aload_n 1, 1) := by decide +kernel
theorem d_L_step_493 : decode c_L_step 493 = .ok (.bipush 10, 2) := by decide +kernel
theorem d_L_step_495 : decode c_L_step 495 = .ok (.iload 6, 2) := by decide +kernel
theorem d_L_step_497 : decode c_L_step 497 = .ok (.iadd, 1) := by decide +kernel
theorem d_L_step_498 : decode c_L_step 498 = .ok (.iaload, 1) := by decide +kernel
theorem d_L_step_499 : decode c_L_step 499 = .ok (.iastore, 1) := by decide +kernel
theorem d_L_step_500 : decode c_L_step 500 = .ok (.aload_n 2, 1) := by decide +kernel
theorem d_L_step_501 : decode c_L_step 501 = .ok (.bipush 22, 2) := by decide +kernel
theorem d_L_step_503 : decode c_L_step 503 = .ok (.dup2, 1) := by decide +kernel
theorem d_L_step_504 : decode c_L_step 504 = .ok (.iaload, 1) := by decide +kernel
theorem d_L_step_505 : decode c_L_step 505 = .ok (.iconst 1, 1) := by decide +kernel
theorem d_L_step_506 : decode c_L_step 506 = .ok (.iadd, 1) := by decide +kernel
theorem d_L_step_507 : decode c_L_step 507 = .ok (.iastore, 1) := by decide +kernel
theorem d_L_step_508 : decode c_L_step 508 = .ok (.aload_n 0, 1) := by decide +kernel
theorem d_L_step_509 : decode c_L_step 509 = .ok (.iload 6, 2) := by decide +kernel
theorem d_L_step_511 : decode c_L_step 511 = .ok (.iload 7, 2) := by decide +kernel
theorem d_L_step_513 : decode c_L_step 513 = .ok (.iload 5, 2) := by decide +kernel
theorem d_L_step_515 : decode c_L_step 515 = .ok (.bipush 8, 2) := by decide +kernel
theorem d_L_step_517 : decode c_L_step 517 = .ok (.idiv, 1) := by decide +kernel
theorem d_L_step_518 : decode c_L_step 518 = .ok (.bipush 16, 2) := by decide +kernel
theorem d_L_step_520 : decode c_L_step 520 = .ok (.irem, 1) := by decide +kernel
theorem d_L_step_521 : decode c_L_step 521 = .ok (.iconst 1, 1) := by decide +kernel
theorem d_L_step_522 : decode c_L_step 522 = .ok (.iload 5, 2) := by decide +kernel
theorem d_L_step_524 : decode c_L_step 524 = .ok (.sipush 128, 3) := by decide +kernel
theorem d_L_step_527 : decode c_L_step 527 = .ok (.idiv, 1) := by decide +kernel
theorem d_L_step_528 : decode c_L_step 528 = .ok (.bipush 100, 2) := by decide +kernel
theorem d_L_step_530 : decode c_L_step 530 = .ok (.irem, 1) := by decide +kernel
theorem d_L_step_531 : decode c_L_step 531 = .ok (.iadd, 1) := by decide +kernel
theorem d_L_step_532 : decode c_L_step 532 = .ok (.invokevirtual 43, 3) := by decide +kernel
theorem d_L_step_535 : decode c_L_step 535 = .ok (.iload 8, 2) := by decide +kernel
theorem d_L_step_537 : decode c_L_step 537 = .ok (.if_icmp .ne 100, 3) := by decide +kernel
theorem d_L_step_540 : decode c_L_step 540 = .ok (.aload_n 0, 1) := by decide +kernel
theorem d_L_step_541 : decode c_L_step 541 = .ok (.invokevirtual 46, 3) := by decide +kernel
theorem d_L_step_544 : decode c_L_step 544 = .ok (.iload 8, 2) := by decide +kernel
theorem d_L_step_546 : decode c_L_step 546 = .ok (.iconst 1, 1) := by decide +kernel
theorem d_L_step_547 : decode c_L_step 547 = .ok (.iadd, 1) := by decide +kernel
theorem d_L_step_548 : decode c_L_step 548 = .ok (.if_icmp .ne 89, 3) := by decide +kernel
theorem d_L_step_551 : decode c_L_step 551 = .ok (.aload_n 0, 1) := by decide +kernel
theorem d_L_step_552 : decode c_L_step 552 = .ok (.iload 8, 2) := by decide +kernel
theorem d_L_step_554 : decode c_L_step 554 = .ok (.invokevirtual 50, 3) := by decide +kernel
theorem d_L_step_557 : decode c_L_step 557 = .ok (.ifCond .ne 80, 3) := by decide +kernel
theorem d_L_step_560 : decode c_L_step 560 = .ok (.aload_n 0, 1) := by decide +kernel
theorem d_L_step_561 : decode c_L_step 561 = .ok (.iload 8, 2) := by decide +kernel
theorem d_L_step_563 : decode c_L_step 563 = .ok (.invokevirtual 53, 3) := by decide +kernel
theorem d_L_step_566 : decode c_L_step 566 = .ok (.ifCond .ne 71, 3) := by decide +kernel
theorem d_L_step_569 : decode c_L_step 569 = .ok (.aload_n 0, 1) := by decide +kernel
theorem d_L_step_570 : decode c_L_step 570 = .ok (.iload 8, 2) := by decide +kernel
theorem d_L_step_572 : decode c_L_step 572 = .ok (.invokevirtual 56, 3) := by decide +kernel
theorem d_L_step_575 : decode c_L_step 575 = .ok (.ifCond .ne 62, 3) := by decide +kernel
theorem d_L_step_578 : decode c_L_step 578 = .ok (.aload_n 0, 1) := by decide +kernel
theorem d_L_step_579 : decode c_L_step 579 = .ok (.iload 8, 2) := by decide +kernel
theorem d_L_step_581 : decode c_L_step 581 = .ok (.invokevirtual 59, 3) := by decide +kernel
theorem d_L_step_584 : decode c_L_step 584 = .ok (.iconst (-1), 1) := by decide +kernel
theorem d_L_step_585 : decode c_L_step 585 = .ok (.if_icmp .ne 52, 3) := by decide +kernel
theorem d_L_step_588 : decode c_L_step 588 = .ok (.aload_n 0, 1) := by decide +kernel
theorem d_L_step_589 : decode c_L_step 589 = .ok (.iload 8, 2) := by decide +kernel
theorem d_L_step_591 : decode c_L_step 591 = .ok (.invokevirtual 62, 3) := by decide +kernel
theorem d_L_step_594 : decode c_L_step 594 = .ok (.bipush 17, 2) := by decide +kernel
theorem d_L_step_596 : decode c_L_step 596 = .ok (.iload 5, 2) := by decide +kernel
theorem d_L_step_598 : decode c_L_step 598 = .ok (.bipush 8, 2) := by decide +kernel
theorem d_L_step_600 : decode c_L_step 600 = .ok (.idiv, 1) := by decide +kernel
theorem d_L_step_601 : decode c_L_step 601 = .ok (.bipush 16, 2) := by decide +kernel
theorem d_L_step_603 : decode c_L_step 603 = .ok (.irem, 1) := by decide +kernel
theorem d_L_step_604 : decode c_L_step 604 = .ok (.imul, 1) := by decide +kernel
theorem d_L_step_605 : decode c_L_step 605 = .ok (.if_icmp .ne 32, 3) := by decide +kernel
theorem d_L_step_608 : decode c_L_step 608 = .ok (.aload_n 0, 1) := by decide +kernel
theorem d_L_step_609 : decode c_L_step 609 = .ok (.iload 8, 2) := by decide +kernel
theorem d_L_step_611 : decode c_L_step 611 = .ok (.iload 5, 2) := by decide +kernel
theorem d_L_step_613 : decode c_L_step 613 = .ok (.bipush 32, 2) := by decide +kernel
theorem d_L_step_615 : decode c_L_step 615 = .ok (.irem, 1) := by decide +kernel
theorem d_L_step_616 : decode c_L_step 616 = .ok (.invokevirtual 65, 3) := by decide +kernel
theorem d_L_step_619 : decode c_L_step 619 = .ok (.aload_n 0, 1) := by decide +kernel
theorem d_L_step_620 : decode c_L_step 620 = .ok (.iload 6, 2) := by decide +kernel
theorem d_L_step_622 : decode c_L_step 622 = .ok (.iload 5, 2) := by decide +kernel
theorem d_L_step_624 : decode c_L_step 624 = .ok (.bipush 32, 2) := by decide +kernel
theorem d_L_step_626 : decode c_L_step 626 = .ok (.irem, 1) := by decide +kernel
theorem d_L_step_627 : decode c_L_step 627 = .ok (.invokevirtual 22, 3) := by decide +kernel
theorem d_L_step_630 : decode c_L_step 630 = .ok (.if_icmp .ne 7, 3) := by decide +kernel
theorem d_L_step_633 : decode c_L_step 633 = .ok (.iconst 1, 1) := by decide +kernel
theorem d_L_step_634 : decode c_L_step 634 = .ok (.goto 4, 3) := by decide +kernel
theorem d_L_step_637 : decode c_L_step 637 = .ok (.iconst 0, 1) := by decide +kernel
theorem d_L_step_638 : decode c_L_step 638 = .ok (.ireturn, 1) := by decide +kernel
theorem d_L_step_639 : decode c_L_step 639 = .ok (.iload 4, 2) := by decide +kernel
theorem d_L_step_641 : decode c_L_step 641 = .ok (.aload_n 2, 1) := by decide +kernel
theorem d_L_step_642 : decode c_L_step 642 = .ok (.bipush 22, 2) := by decide +kernel
theorem d_L_step_644 : decode c_L_step 644 = .ok (.iaload, 1) := by decide +kernel
theorem d_L_step_645 : decode c_L_step 645 = .ok (.irem, 1) := by decide +kernel
theorem d_L_step_646 : decode c_L_step 646 = .ok (.istore 7, 2) := by decide +kernel
theorem d_L_step_648 : decode c_L_step 648 = .ok (.aload_n 0, 1) := by decide +kernel
theorem d_L_step_649 : decode c_L_step 649 = .ok (.iload 7, 2) := by decide +kernel
theorem d_L_step_651 : decode c_L_step 651 = .ok (.invokevirtual 50, 3) := by decide +kernel
theorem d_L_step_654 : decode c_L_step 654 = .ok (.istore 8, 2) := by decide +kernel
theorem d_L_step_656 : decode c_L_step 656 = .ok (.iload_n 3, 1) := by decide +kernel
theorem d_L_step_657 : decode c_L_step 657 = .ok (.bipush 24, 2) := by decide +kernel
theorem d_L_step_659 : decode c_L_step 659 = .ok (.irem, 1) := by decide +kernel
theorem d_L_step_660 : decode c_L_step 660 = .ok (.bipush 9, 2) := by decide +kernel
theorem d_L_step_662 : decode c_L_step 662 = .ok (.if_icmp .ne 16, 3) := by decide +kernel
theorem d_L_step_665 : decode c_L_step 665 = .ok (.aload_n 0, 1) := by decide +kernel
theorem d_L_step_666 : decode c_L_step 666 = .ok (.aload_n 1, 1) := by decide +kernel
theorem d_L_step_667 : decode c_L_step 667 = .ok (.aload_n 2, 1) := by decide +kernel
theorem d_L_step_668 : decode c_L_step 668 = .ok (.iload 7, 2) := by decide +kernel
theorem d_L_step_670 : decode c_L_step 670 = .ok (.iload 8, 2) := by decide +kernel
theorem d_L_step_672 : decode c_L_step 672 = .ok (.iload 5, 2) := by decide +kernel
theorem d_L_step_674 : decode c_L_step 674 = .ok (.invokestatic 68, 3) := by decide +kernel
theorem d_L_step_677 : decode c_L_step 677 = .ok (.ireturn, 1) := by decide +kernel
theorem d_L_step_678 : decode c_L_step 678 = .ok (.iload_n 3, 1) := by decide +kernel
theorem d_L_step_679 : decode c_L_step 679 = .ok (.bipush 24, 2) := by decide +kernel
theorem d_L_step_681 : decode c_L_step 681 = .ok (.irem, 1) := by decide +kernel
theorem d_L_step_682 : decode c_L_step 682 = .ok (.bipush 10, 2) := by decide +kernel
theorem d_L_step_684 : decode c_L_step 684 = .ok (.if_icmp .ne 103, 3) := by decide +kernel
theorem d_L_step_687 : decode c_L_step 687 = .ok (.iconst 1, 1) := by decide +kernel
theorem d_L_step_688 : decode c_L_step 688 = .ok (.iload 5, 2) := by decide +kernel
theorem d_L_step_690 : decode c_L_step 690 = .ok (.sipush 10000, 3) := by decide +kernel
theorem d_L_step_693 : decode c_L_step 693 = .ok (.irem, 1) := by decide +kernel
theorem d_L_step_694 : decode c_L_step 694 = .ok (.iadd, 1) := by decide +kernel
theorem d_L_step_695 : decode c_L_step 695 = .ok (.istore 9, 2) := by decide +kernel
theorem d_L_step_697 : decode c_L_step 697 = .ok (.aload_n 0, 1) := by decide +kernel
theorem d_L_step_698 : decode c_L_step 698 = .ok (.invokestatic 71, 3) := by decide +kernel
theorem d_L_step_701 : decode c_L_step 701 = .ok (.istore 10, 2) := by decide +kernel
theorem d_L_step_703 : decode c_L_step 703 = .ok (.aload_n 0, 1) := by decide +kernel
theorem d_L_step_704 : decode c_L_step 704 = .ok (.iload 9, 2) := by decide +kernel
theorem d_L_step_706 : decode c_L_step 706 = .ok (.invokevirtual 75, 3) := by decide +kernel
theorem d_L_step_709 : decode c_L_step 709 = .ok (.istore 11, 2) := by decide +kernel
theorem d_L_step_711 : decode c_L_step 711 = .ok (.iconst 0, 1) := by decide +kernel
theorem d_L_step_712 : decode c_L_step 712 = .ok (.istore 12, 2) := by decide +kernel
theorem d_L_step_714 : decode c_L_step 714 = .ok (.iconst 0, 1) := by decide +kernel
theorem d_L_step_715 : decode c_L_step 715 = .ok (.istore 13, 2) := by decide +kernel
theorem d_L_step_717 : decode c_L_step 717 = .ok (.iload 13, 2) := by decide +kernel
theorem d_L_step_719 : decode c_L_step 719 = .ok (.aload_n 2, 1) := by decide +kernel
theorem d_L_step_720 : decode c_L_step 720 = .ok (.bipush 22, 2) := by decide +kernel
theorem d_L_step_722 : decode c_L_step 722 = .ok (.iaload, 1) := by decide +kernel
theorem d_L_step_723 : decode c_L_step 723 = .ok (.if_icmp .ge 30, 3) := by decide +kernel
theorem d_L_step_726 : decode c_L_step 726 = .ok (.iload 12, 2) := by decide +kernel
theorem d_L_step_728 : decode c_L_step 728 = .ok (.ifCond .ne 12, 3) := by decide +kernel
theorem d_L_step_731 : decode c_L_step 731 = .ok (.aload_n 0, 1) := by decide +kernel
theorem d_L_step_732 : decode c_L_step 732 = .ok (.iload 13, 2) := by decide +kernel
theorem d_L_step_734 : decode c_L_step 734 = .ok (.invokevirtual 50, 3) := by decide +kernel
theorem d_L_step_737 : decode c_L_step 737 = .ok (.ifCond .ne 7, 3) := by decide +kernel
theorem d_L_step_740 : decode c_L_step 740 = .ok (.iconst 1, 1) := by decide +kernel
theorem d_L_step_741 : decode c_L_step 741 = .ok (.goto 4, 3) := by decide +kernel
theorem d_L_step_744 : decode c_L_step 744 = .ok (.iconst 0, 1) := by decide +kernel
theorem d_L_step_745 : decode c_L_step 745 = .ok (.istore 12, 2) := by decide +kernel
theorem d_L_step_747 : decode c_L_step 747 = .ok (.iinc 13 1, 3) := by decide +kernel
theorem d_L_step_750 : decode c_L_step 750 = .ok (.goto (-33), 3) := by decide +kernel
theorem d_L_step_753 : decode c_L_step 753 = .ok (.iload 11, 2) := by decide +kernel
theorem d_L_step_755 : decode c_L_step 755 = .ok (.iload 12, 2) := by decide +kernel
theorem d_L_step_757 : decode c_L_step 757 = .ok (.ifCond .eq 8, 3) := by decide +kernel
theorem d_L_step_760 : decode c_L_step 760 = .ok (.iload 9, 2) := by decide +kernel
theorem d_L_step_762 : decode c_L_step 762 = .ok (.goto 4, 3) := by decide +kernel
theorem d_L_step_765 : decode c_L_step 765 = .ok (.iconst 0, 1) := by decide +kernel
theorem d_L_step_766 : decode c_L_step 766 = .ok (.if_icmp .ne 19, 3) := by decide +kernel
theorem d_L_step_769 : decode c_L_step 769 = .ok (.aload_n 0, 1) := by decide +kernel
theorem d_L_step_770 : decode c_L_step 770 = .ok (.invokestatic 71, 3) := by decide +kernel
theorem d_L_step_773 : decode c_L_step 773 = .ok (.iload 10, 2) := by decide +kernel
theorem d_L_step_775 : decode c_L_step 775 = .ok (.iload 11, 2) := by decide +kernel
theorem d_L_step_777 : decode c_L_step 777 = .ok (.iadd, 1) := by decide +kernel
theorem d_L_step_778 : decode c_L_step 778 = .ok (.if_icmp .ne 7, 3) := by decide +kernel
theorem d_L_step_781 : decode c_L_step 781 = .ok (.iconst 1, 1) := by decide +kernel
theorem d_L_step_782 : decode c_L_step 782 = .ok (.goto 4, 3) := by decide +kernel
theorem d_L_step_785 : decode c_L_step 785 = .ok (.iconst 0, 1) := by decide +kernel
theorem d_L_step_786 : decode c_L_step 786 = .ok (.ireturn, 1) := by decide +kernel
theorem d_L_step_787 : decode c_L_step 787 = .ok (.iload 8, 2) := by decide +kernel
theorem d_L_step_789 : decode c_L_step 789 = .ok (.ifCond .ne 20, 3) := by decide +kernel
theorem d_L_step_792 : decode c_L_step 792 = .ok (.aload_n 0, 1) := by decide +kernel
theorem d_L_step_793 : decode c_L_step 793 = .ok (.aload_n 1, 1) := by decide +kernel
theorem d_L_step_794 : decode c_L_step 794 = .ok (.aload_n 2, 1) := by decide +kernel
theorem d_L_step_795 : decode c_L_step 795 = .ok (.iload 7, 2) := by decide +kernel
theorem d_L_step_797 : decode c_L_step 797 = .ok (.iload_n 3, 1) := by decide +kernel
theorem d_L_step_798 : decode c_L_step 798 = .ok (.bipush 24, 2) := by decide +kernel
theorem d_L_step_800 : decode c_L_step 800 = .ok (.irem, 1) := by decide +kernel
theorem d_L_step_801 : decode c_L_step 801 = .ok (.iload 5, 2) := by decide +kernel
theorem d_L_step_803 : decode c_L_step 803 = .ok (.invokestatic 78, 3) := by decide +kernel
theorem d_L_step_806 : decode c_L_step 806 = .ok (.ifCond .eq 7, 3) := by decide +kernel
theorem d_L_step_809 : decode c_L_step 809 = .ok (.iconst 1, 1) := by decide +kernel
theorem d_L_step_810 : decode c_L_step 810 = .ok (.goto 4, 3) := by decide +kernel
theorem d_L_step_813 : decode c_L_step 813 = .ok (.iconst 0, 1) := by decide +kernel
theorem d_L_step_814 : decode c_L_step 814 = .ok (.ireturn, 1) := by decide +kernel
abbrev c_L_images : ByteArray := method_6_code
abbrev y_L_images : MethodName := { cls := "ContainerHostLaw", name := "images", desc := "(LContainerHost;[I[IIII)Z" }
abbrev k_L_images : Cond := .code y_L_images c_L_images 10 (Option.some FieldType.boolean)
theorem d_L_images_0 : decode c_L_images 0 = .ok (.iload 5, 2) := by decide +kernel
theorem d_L_images_2 : decode c_L_images 2 = .ok (.bipush 32, 2) := by decide +kernel
theorem d_L_images_4 : decode c_L_images 4 = .ok (.irem, 1) := by decide +kernel
theorem d_L_images_5 : decode c_L_images 5 = .ok (.istore 6, 2) := by decide +kernel
theorem d_L_images_7 : decode c_L_images 7 = .ok (.aload_n 0, 1) := by decide +kernel
theorem d_L_images_8 : decode c_L_images 8 = .ok (.iload_n 3, 1) := by decide +kernel
theorem d_L_images_9 : decode c_L_images 9 = .ok (.iload 6, 2) := by decide +kernel
theorem d_L_images_11 : decode c_L_images 11 = .ok (.invokevirtual 22, 3) := by decide +kernel
theorem d_L_images_14 : decode c_L_images 14 = .ok (.istore 7, 2) := by decide +kernel
theorem d_L_images_16 : decode c_L_images 16 = .ok (.aload_n 1, 1) := by decide +kernel
theorem d_L_images_17 : decode c_L_images 17 = .ok (.iload_n 3, 1) := by decide +kernel
theorem d_L_images_18 : decode c_L_images 18 = .ok (.iaload, 1) := by decide +kernel
theorem d_L_images_19 : decode c_L_images 19 = .ok (.iconst 1, 1) := by decide +kernel
theorem d_L_images_20 : decode c_L_images 20 = .ok (.if_icmp .ne 14, 3) := by decide +kernel
theorem d_L_images_23 : decode c_L_images 23 = .ok (.iload 7, 2) := by decide +kernel
theorem d_L_images_25 : decode c_L_images 25 = .ok (.ifCond .lt 7, 3) := by decide +kernel
theorem d_L_images_28 : decode c_L_images 28 = .ok (.iconst 1, 1) := by decide +kernel
theorem d_L_images_29 : decode c_L_images 29 = .ok (.goto 4, 3) := by decide +kernel
theorem d_L_images_32 : decode c_L_images 32 = .ok (.iconst 0, 1) := by decide +kernel
theorem d_L_images_33 : decode c_L_images 33 = .ok (.ireturn, 1) := by decide +kernel
theorem d_L_images_34 : decode c_L_images 34 = .ok (.iload 4, 2) := by decide +kernel
theorem d_L_images_36 : decode c_L_images 36 = .ok (.iconst 1, 1) := by decide +kernel
theorem d_L_images_37 : decode c_L_images 37 = .ok (.if_icmp .eq 14, 3) := by decide +kernel
theorem d_L_images_40 : decode c_L_images 40 = .ok (.iload 4, 2) := by decide +kernel
theorem d_L_images_42 : decode c_L_images 42 = .ok (.iconst 2, 1) := by decide +kernel
theorem d_L_images_43 : decode c_L_images 43 = .ok (.if_icmp .ne 58, 3) := by decide +kernel
theorem d_L_images_46 : decode c_L_images 46 = .ok (.iload 7, 2) := by decide +kernel
theorem d_L_images_48 : decode c_L_images 48 = .ok (.ifCond .ne 53, 3) := by decide +kernel
theorem d_L_images_51 : decode c_L_images 51 = .ok (.aload_n 0, 1) := by decide +kernel
theorem d_L_images_52 : decode c_L_images 52 = .ok (.iload_n 3, 1) := by decide +kernel
theorem d_L_images_53 : decode c_L_images 53 = .ok (.iload 6, 2) := by decide +kernel
theorem d_L_images_55 : decode c_L_images 55 = .ok (.iconst 1, 1) := by decide +kernel
theorem d_L_images_56 : decode c_L_images 56 = .ok (.iload 5, 2) := by decide +kernel
theorem d_L_images_58 : decode c_L_images 58 = .ok (.bipush 32, 2) := by decide +kernel
theorem d_L_images_60 : decode c_L_images 60 = .ok (.idiv, 1) := by decide +kernel
theorem d_L_images_61 : decode c_L_images 61 = .ok (.sipush 999, 3) := by decide +kernel
theorem d_L_images_64 : decode c_L_images 64 = .ok (.irem, 1) := by decide +kernel
theorem d_L_images_65 : decode c_L_images 65 = .ok (.iadd, 1) := by decide +kernel
theorem d_L_images_66 : decode c_L_images 66 = .ok (.invokevirtual 81, 3) := by decide +kernel
theorem d_L_images_69 : decode c_L_images 69 = .ok (.iload 7, 2) := by decide +kernel
theorem d_L_images_71 : decode c_L_images 71 = .ok (.if_icmp .ne 28, 3) := by decide +kernel
theorem d_L_images_74 : decode c_L_images 74 = .ok (.aload_n 0, 1) := by decide +kernel
theorem d_L_images_75 : decode c_L_images 75 = .ok (.iload_n 3, 1) := by decide +kernel
theorem d_L_images_76 : decode c_L_images 76 = .ok (.iload 6, 2) := by decide +kernel
theorem d_L_images_78 : decode c_L_images 78 = .ok (.invokevirtual 22, 3) := by decide +kernel
theorem d_L_images_81 : decode c_L_images 81 = .ok (.iconst 1, 1) := by decide +kernel
theorem d_L_images_82 : decode c_L_images 82 = .ok (.iload 5, 2) := by decide +kernel
theorem d_L_images_84 : decode c_L_images 84 = .ok (.bipush 32, 2) := by decide +kernel
theorem d_L_images_86 : decode c_L_images 86 = .ok (.idiv, 1) := by decide +kernel
theorem d_L_images_87 : decode c_L_images 87 = .ok (.sipush 999, 3) := by decide +kernel
theorem d_L_images_90 : decode c_L_images 90 = .ok (.irem, 1) := by decide +kernel
theorem d_L_images_91 : decode c_L_images 91 = .ok (.iadd, 1) := by decide +kernel
theorem d_L_images_92 : decode c_L_images 92 = .ok (.if_icmp .ne 7, 3) := by decide +kernel
theorem d_L_images_95 : decode c_L_images 95 = .ok (.iconst 1, 1) := by decide +kernel
theorem d_L_images_96 : decode c_L_images 96 = .ok (.goto 4, 3) := by decide +kernel
theorem d_L_images_99 : decode c_L_images 99 = .ok (.iconst 0, 1) := by decide +kernel
theorem d_L_images_100 : decode c_L_images 100 = .ok (.ireturn, 1) := by decide +kernel
theorem d_L_images_101 : decode c_L_images 101 = .ok (.iload 4, 2) := by decide +kernel
theorem d_L_images_103 : decode c_L_images 103 = .ok (.iconst 2, 1) := by decide +kernel
theorem d_L_images_104 : decode c_L_images 104 = .ok (.if_icmp .ne 31, 3) := by decide +kernel
theorem d_L_images_107 : decode c_L_images 107 = .ok (.aload_n 0, 1) := by decide +kernel
theorem d_L_images_108 : decode c_L_images 108 = .ok (.iload_n 3, 1) := by decide +kernel
theorem d_L_images_109 : decode c_L_images 109 = .ok (.iload 6, 2) := by decide +kernel
theorem d_L_images_111 : decode c_L_images 111 = .ok (.invokevirtual 85, 3) := by decide +kernel
theorem d_L_images_114 : decode c_L_images 114 = .ok (.iload 7, 2) := by decide +kernel
theorem d_L_images_116 : decode c_L_images 116 = .ok (.if_icmp .ne 17, 3) := by decide +kernel
theorem d_L_images_119 : decode c_L_images 119 = .ok (.aload_n 0, 1) := by decide +kernel
theorem d_L_images_120 : decode c_L_images 120 = .ok (.iload_n 3, 1) := by decide +kernel
theorem d_L_images_121 : decode c_L_images 121 = .ok (.iload 6, 2) := by decide +kernel
theorem d_L_images_123 : decode c_L_images 123 = .ok (.invokevirtual 22, 3) := by decide +kernel
theorem d_L_images_126 : decode c_L_images 126 = .ok (.ifCond .ne 7, 3) := by decide +kernel
theorem d_L_images_129 : decode c_L_images 129 = .ok (.iconst 1, 1) := by decide +kernel
theorem d_L_images_130 : decode c_L_images 130 = .ok (.goto 4, 3) := by decide +kernel
theorem d_L_images_133 : decode c_L_images 133 = .ok (.iconst 0, 1) := by decide +kernel
theorem d_L_images_134 : decode c_L_images 134 = .ok (.ireturn, 1) := by decide +kernel
theorem d_L_images_135 : decode c_L_images 135 = .ok (.iload 4, 2) := by decide +kernel
theorem d_L_images_137 : decode c_L_images 137 = .ok (.iconst 3, 1) := by decide +kernel
theorem d_L_images_138 : decode c_L_images 138 = .ok (.if_icmp .ne 90, 3) := by decide +kernel
theorem d_L_images_141 : decode c_L_images 141 = .ok (.iload 5, 2) := by decide +kernel
theorem d_L_images_143 : decode c_L_images 143 = .ok (.iconst 2, 1) := by decide +kernel
theorem d_L_images_144 : decode c_L_images 144 = .ok (.irem, 1) := by decide +kernel
theorem d_L_images_145 : decode c_L_images 145 = .ok (.ifCond .ne 83, 3) := by decide +kernel
theorem d_L_images_148 : decode c_L_images 148 = .ok (.iconst 0, 1) := by decide +kernel
theorem d_L_images_149 : decode c_L_images 149 = .ok (.istore 8, 2) := by decide +kernel
theorem d_L_images_151 : decode c_L_images 151 = .ok (.iload 6, 2) := by decide +kernel
theorem d_L_images_153 : decode c_L_images 153 = .ok (.iconst 4, 1) := by decide +kernel
theorem d_L_images_154 : decode c_L_images 154 = .ok (.idiv, 1) := by decide +kernel
theorem d_L_images_155 : decode c_L_images 155 = .ok (.iconst 4, 1) := by decide +kernel
theorem d_L_images_156 : decode c_L_images 156 = .ok (.imul, 1) := by decide +kernel
theorem d_L_images_157 : decode c_L_images 157 = .ok (.istore 9, 2) := by decide +kernel
theorem d_L_images_159 : decode c_L_images 159 = .ok (.iload 9, 2) := by decide +kernel
theorem d_L_images_161 : decode c_L_images 161 = .ok (.iload 6, 2) := by decide +kernel
theorem d_L_images_163 : decode c_L_images 163 = .ok (.iconst 4, 1) := by decide +kernel
theorem d_L_images_164 : decode c_L_images 164 = .ok (.idiv, 1) := by decide +kernel
theorem d_L_images_165 : decode c_L_images 165 = .ok (.iconst 4, 1) := by decide +kernel
theorem d_L_images_166 : decode c_L_images 166 = .ok (.imul, 1) := by decide +kernel
theorem d_L_images_167 : decode c_L_images 167 = .ok (.iconst 4, 1) := by decide +kernel
theorem d_L_images_168 : decode c_L_images 168 = .ok (.iadd, 1) := by decide +kernel
theorem d_L_images_169 : decode c_L_images 169 = .ok (.if_icmp .ge 29, 3) := by decide +kernel
theorem d_L_images_172 : decode c_L_images 172 = .ok (.iload 8, 2) := by decide +kernel
theorem d_L_images_174 : decode c_L_images 174 = .ok (.aload_n 0, 1) := by decide +kernel
theorem d_L_images_175 : decode c_L_images 175 = .ok (.iload_n 3, 1) := by decide +kernel
theorem d_L_images_176 : decode c_L_images 176 = .ok (.iload 9, 2) := by decide +kernel
theorem d_L_images_178 : decode c_L_images 178 = .ok (.invokevirtual 22, 3) := by decide +kernel
theorem d_L_images_181 : decode c_L_images 181 = .ok (.ifCond .le 7, 3) := by decide +kernel
theorem d_L_images_184 : decode c_L_images 184 = .ok (.iconst 1, 1) := by decide +kernel
theorem d_L_images_185 : decode c_L_images 185 = .ok (.goto 4, 3) := by decide +kernel
theorem d_L_images_188 : decode c_L_images 188 = .ok (.iconst 0, 1) := by decide +kernel
theorem d_L_images_189 : decode c_L_images 189 = .ok (.iadd, 1) := by decide +kernel
theorem d_L_images_190 : decode c_L_images 190 = .ok (.istore 8, 2) := by decide +kernel
theorem d_L_images_192 : decode c_L_images 192 = .ok (.iinc 9 1, 3) := by decide +kernel
theorem d_L_images_195 : decode c_L_images 195 = .ok (.goto (-36), 3) := by decide +kernel
theorem d_L_images_198 : decode c_L_images 198 = .ok (.aload_n 0, 1) := by decide +kernel
theorem d_L_images_199 : decode c_L_images 199 = .ok (.iload_n 3, 1) := by decide +kernel
theorem d_L_images_200 : decode c_L_images 200 = .ok (.iload 6, 2) := by decide +kernel
theorem d_L_images_202 : decode c_L_images 202 = .ok (.iconst 4, 1) := by decide +kernel
theorem d_L_images_203 : decode c_L_images 203 = .ok (.idiv, 1) := by decide +kernel
theorem d_L_images_204 : decode c_L_images 204 = .ok (.invokevirtual 88, 3) := by decide +kernel
theorem d_L_images_207 : decode c_L_images 207 = .ok (.iload 8, 2) := by decide +kernel
theorem d_L_images_209 : decode c_L_images 209 = .ok (.if_icmp .ne 17, 3) := by decide +kernel
theorem d_L_images_212 : decode c_L_images 212 = .ok (.aload_n 0, 1) := by decide +kernel
theorem d_L_images_213 : decode c_L_images 213 = .ok (.iload_n 3, 1) := by decide +kernel
theorem d_L_images_214 : decode c_L_images 214 = .ok (.iload 6, 2) := by decide +kernel
theorem d_L_images_216 : decode c_L_images 216 = .ok (.invokevirtual 22, 3) := by decide +kernel
theorem d_L_images_219 : decode c_L_images 219 = .ok (.ifCond .ne 7, 3) := by decide +kernel
theorem d_L_images_222 : decode c_L_images 222 = .ok (.iconst 1, 1) := by decide +kernel
theorem d_L_images_223 : decode c_L_images 223 = .ok (.goto 4, 3) := by decide +kernel
theorem d_L_images_226 : decode c_L_images 226 = .ok (.iconst 0, 1) := by decide +kernel
theorem d_L_images_227 : decode c_L_images 227 = .ok (.ireturn, 1) := by decide +kernel
theorem d_L_images_228 : decode c_L_images 228 = .ok (.aload_n 1, 1) := by decide +kernel
theorem d_L_images_229 : decode c_L_images 229 = .ok (.iload_n 3, 1) := by decide +kernel
theorem d_L_images_230 : decode c_L_images 230 = .ok (.iconst 1, 1) := by decide +kernel
theorem d_L_images_231 : decode c_L_images 231 = .ok (.iastore, 1) := by decide +kernel
theorem d_L_images_232 : decode c_L_images 232 = .ok (.aload_n 0, 1) := by decide +kernel
theorem d_L_images_233 : decode c_L_images 233 = .ok (.iload_n 3, 1) := by decide +kernel
theorem d_L_images_234 : decode c_L_images 234 = .ok (.invokevirtual 91, 3) := by decide +kernel
theorem d_L_images_237 : decode c_L_images 237 = .ok (.aload_n 1, 1) := by decide +kernel
theorem d_L_images_238 : decode c_L_images 238 = .ok (.bipush 10, 2) := by decide +kernel
theorem d_L_images_240 : decode c_L_images 240 = .ok (.iload_n 3, 1) := by decide +kernel
theorem d_L_images_241 : decode c_L_images 241 = .ok (.iadd, 1) := by decide +kernel
theorem d_L_images_242 : decode c_L_images 242 = .ok (.iaload, 1) := by decide +kernel
theorem d_L_images_243 : decode c_L_images 243 = .ok (.if_icmp .ne 7, 3) := by decide +kernel
theorem d_L_images_246 : decode c_L_images 246 = .ok (.iconst 1, 1) := by decide +kernel
theorem d_L_images_247 : decode c_L_images 247 = .ok (.goto 4, 3) := by decide +kernel
theorem d_L_images_250 : decode c_L_images 250 = .ok (.iconst 0, 1) := by decide +kernel
theorem d_L_images_251 : decode c_L_images 251 = .ok (.ireturn, 1) := by decide +kernel
abbrev c_L_isFull : ByteArray := method_4_code
abbrev y_L_isFull : MethodName := { cls := "ContainerHostLaw", name := "isFull", desc := "(LContainerHost;[II)Z" }
abbrev k_L_isFull : Cond := .code y_L_isFull c_L_isFull 5 (Option.some FieldType.boolean)
theorem d_L_isFull_0 : decode c_L_isFull 0 = .ok (.iconst 0, 1) := by decide +kernel
theorem d_L_isFull_1 : decode c_L_isFull 1 = .ok (.istore_n 3, 1) := by decide +kernel
theorem d_L_isFull_2 : decode c_L_isFull 2 = .ok (.iload_n 2, 1) := by decide +kernel
theorem d_L_isFull_3 : decode c_L_isFull 3 = .ok (.istore 4, 2) := by decide +kernel
theorem d_L_isFull_5 : decode c_L_isFull 5 = .ok (.iload 4, 2) := by decide +kernel
theorem d_L_isFull_7 : decode c_L_isFull 7 = .ok (.iconst (-1), 1) := by decide +kernel
theorem d_L_isFull_8 : decode c_L_isFull 8 = .ok (.if_icmp .eq 41, 3) := by decide +kernel
theorem d_L_isFull_11 : decode c_L_isFull 11 = .ok (.iload_n 3, 1) := by decide +kernel
theorem d_L_isFull_12 : decode c_L_isFull 12 = .ok (.ifCond .ne 19, 3) := by decide +kernel
theorem d_L_isFull_15 : decode c_L_isFull 15 = .ok (.aload_n 0, 1) := by decide +kernel
theorem d_L_isFull_16 : decode c_L_isFull 16 = .ok (.iload 4, 2) := by decide +kernel
theorem d_L_isFull_18 : decode c_L_isFull 18 = .ok (.invokevirtual 36, 3) := by decide +kernel
theorem d_L_isFull_21 : decode c_L_isFull 21 = .ok (.aload_n 1, 1) := by decide +kernel
theorem d_L_isFull_22 : decode c_L_isFull 22 = .ok (.bipush 36, 2) := by decide +kernel
theorem d_L_isFull_24 : decode c_L_isFull 24 = .ok (.iload 4, 2) := by decide +kernel
theorem d_L_isFull_26 : decode c_L_isFull 26 = .ok (.iadd, 1) := by decide +kernel
theorem d_L_isFull_27 : decode c_L_isFull 27 = .ok (.iaload, 1) := by decide +kernel
theorem d_L_isFull_28 : decode c_L_isFull 28 = .ok (.if_icmp .ne 7, 3) := by decide +kernel
theorem d_L_isFull_31 : decode c_L_isFull 31 = .ok (.iconst 1, 1) := by decide +kernel
theorem d_L_isFull_32 : decode c_L_isFull 32 = .ok (.goto 4, 3) := by decide +kernel
theorem d_L_isFull_35 : decode c_L_isFull 35 = .ok (.iconst 0, 1) := by decide +kernel
theorem d_L_isFull_36 : decode c_L_isFull 36 = .ok (.istore_n 3, 1) := by decide +kernel
theorem d_L_isFull_37 : decode c_L_isFull 37 = .ok (.aload_n 1, 1) := by decide +kernel
theorem d_L_isFull_38 : decode c_L_isFull 38 = .ok (.bipush 20, 2) := by decide +kernel
theorem d_L_isFull_40 : decode c_L_isFull 40 = .ok (.iload 4, 2) := by decide +kernel
theorem d_L_isFull_42 : decode c_L_isFull 42 = .ok (.iadd, 1) := by decide +kernel
theorem d_L_isFull_43 : decode c_L_isFull 43 = .ok (.iaload, 1) := by decide +kernel
theorem d_L_isFull_44 : decode c_L_isFull 44 = .ok (.istore 4, 2) := by decide +kernel
theorem d_L_isFull_46 : decode c_L_isFull 46 = .ok (.goto (-41), 3) := by decide +kernel
theorem d_L_isFull_49 : decode c_L_isFull 49 = .ok (.iload_n 3, 1) := by decide +kernel
theorem d_L_isFull_50 : decode c_L_isFull 50 = .ok (.ireturn, 1) := by decide +kernel
abbrev c_L_checks : ByteArray := method_7_code
abbrev y_L_checks : MethodName := { cls := "ContainerHostLaw", name := "checks", desc := "(LContainerHost;[I[IIII)Z" }
abbrev k_L_checks : Cond := .code y_L_checks c_L_checks 7 (Option.some FieldType.boolean)
theorem d_L_checks_0 : decode c_L_checks 0 = .ok (.iload 5, 2) := by decide +kernel
theorem d_L_checks_2 : decode c_L_checks 2 = .ok (.bipush 6, 2) := by decide +kernel
theorem d_L_checks_4 : decode c_L_checks 4 = .ok (.irem, 1) := by decide +kernel
theorem d_L_checks_5 : decode c_L_checks 5 = .ok (.ifCond .ne 41, 3) := by decide +kernel
theorem d_L_checks_8 : decode c_L_checks 8 = .ok (.aload_n 0, 1) := by decide +kernel
theorem d_L_checks_9 : decode c_L_checks 9 = .ok (.iload_n 3, 1) := by decide +kernel
theorem d_L_checks_10 : decode c_L_checks 10 = .ok (.invokevirtual 53, 3) := by decide +kernel
theorem d_L_checks_13 : decode c_L_checks 13 = .ok (.istore 6, 2) := by decide +kernel
theorem d_L_checks_15 : decode c_L_checks 15 = .ok (.iload 4, 2) := by decide +kernel
theorem d_L_checks_17 : decode c_L_checks 17 = .ok (.iconst 2, 1) := by decide +kernel
theorem d_L_checks_18 : decode c_L_checks 18 = .ok (.if_icmp .eq 22, 3) := by decide +kernel
theorem d_L_checks_21 : decode c_L_checks 21 = .ok (.aload_n 0, 1) := by decide +kernel
theorem d_L_checks_22 : decode c_L_checks 22 = .ok (.iload_n 3, 1) := by decide +kernel
theorem d_L_checks_23 : decode c_L_checks 23 = .ok (.invokevirtual 94, 3) := by decide +kernel
theorem d_L_checks_26 : decode c_L_checks 26 = .ok (.iload 6, 2) := by decide +kernel
theorem d_L_checks_28 : decode c_L_checks 28 = .ok (.if_icmp .ne 16, 3) := by decide +kernel
theorem d_L_checks_31 : decode c_L_checks 31 = .ok (.aload_n 0, 1) := by decide +kernel
theorem d_L_checks_32 : decode c_L_checks 32 = .ok (.iload_n 3, 1) := by decide +kernel
theorem d_L_checks_33 : decode c_L_checks 33 = .ok (.invokevirtual 50, 3) := by decide +kernel
theorem d_L_checks_36 : decode c_L_checks 36 = .ok (.iconst 2, 1) := by decide +kernel
theorem d_L_checks_37 : decode c_L_checks 37 = .ok (.if_icmp .ne 7, 3) := by decide +kernel
theorem d_L_checks_40 : decode c_L_checks 40 = .ok (.iconst 1, 1) := by decide +kernel
theorem d_L_checks_41 : decode c_L_checks 41 = .ok (.goto 4, 3) := by decide +kernel
theorem d_L_checks_44 : decode c_L_checks 44 = .ok (.iconst 0, 1) := by decide +kernel
theorem d_L_checks_45 : decode c_L_checks 45 = .ok (.ireturn, 1) := by decide +kernel
theorem d_L_checks_46 : decode c_L_checks 46 = .ok (.iload 4, 2) := by decide +kernel
theorem d_L_checks_48 : decode c_L_checks 48 = .ok (.ifCond .ne 23, 3) := by decide +kernel
theorem d_L_checks_51 : decode c_L_checks 51 = .ok (.aload_n 0, 1) := by decide +kernel
theorem d_L_checks_52 : decode c_L_checks 52 = .ok (.iload_n 3, 1) := by decide +kernel
theorem d_L_checks_53 : decode c_L_checks 53 = .ok (.invokevirtual 97, 3) := by decide +kernel
theorem d_L_checks_56 : decode c_L_checks 56 = .ok (.aload_n 0, 1) := by decide +kernel
theorem d_L_checks_57 : decode c_L_checks 57 = .ok (.iload_n 3, 1) := by decide +kernel
theorem d_L_checks_58 : decode c_L_checks 58 = .ok (.invokevirtual 50, 3) := by decide +kernel
theorem d_L_checks_61 : decode c_L_checks 61 = .ok (.iconst 1, 1) := by decide +kernel
theorem d_L_checks_62 : decode c_L_checks 62 = .ok (.if_icmp .ne 7, 3) := by decide +kernel
theorem d_L_checks_65 : decode c_L_checks 65 = .ok (.iconst 1, 1) := by decide +kernel
theorem d_L_checks_66 : decode c_L_checks 66 = .ok (.goto 4, 3) := by decide +kernel
theorem d_L_checks_69 : decode c_L_checks 69 = .ok (.iconst 0, 1) := by decide +kernel
theorem d_L_checks_70 : decode c_L_checks 70 = .ok (.ireturn, 1) := by decide +kernel
theorem d_L_checks_71 : decode c_L_checks 71 = .ok (.iload 5, 2) := by decide +kernel
theorem d_L_checks_73 : decode c_L_checks 73 = .ok (.bipush 6, 2) := by decide +kernel
theorem d_L_checks_75 : decode c_L_checks 75 = .ok (.irem, 1) := by decide +kernel
theorem d_L_checks_76 : decode c_L_checks 76 = .ok (.iconst 1, 1) := by decide +kernel
theorem d_L_checks_77 : decode c_L_checks 77 = .ok (.if_icmp .ne 20, 3) := by decide +kernel
theorem d_L_checks_80 : decode c_L_checks 80 = .ok (.aload_n 2, 1) := by decide +kernel
theorem d_L_checks_81 : decode c_L_checks 81 = .ok (.bipush 20, 2) := by decide +kernel
theorem d_L_checks_83 : decode c_L_checks 83 = .ok (.iaload, 1) := by decide +kernel
theorem d_L_checks_84 : decode c_L_checks 84 = .ok (.bipush 10, 2) := by decide +kernel
theorem d_L_checks_86 : decode c_L_checks 86 = .ok (.if_icmp .ge 11, 3) := by decide +kernel
theorem d_L_checks_89 : decode c_L_checks 89 = .ok (.aload_n 0, 1) := by decide +kernel
theorem d_L_checks_90 : decode c_L_checks 90 = .ok (.aload_n 1, 1) := by decide +kernel
theorem d_L_checks_91 : decode c_L_checks 91 = .ok (.aload_n 2, 1) := by decide +kernel
theorem d_L_checks_92 : decode c_L_checks 92 = .ok (.iload_n 3, 1) := by decide +kernel
theorem d_L_checks_93 : decode c_L_checks 93 = .ok (.invokestatic 101, 3) := by decide +kernel
theorem d_L_checks_96 : decode c_L_checks 96 = .ok (.ireturn, 1) := by decide +kernel
theorem d_L_checks_97 : decode c_L_checks 97 = .ok (.iload 4, 2) := by decide +kernel
theorem d_L_checks_99 : decode c_L_checks 99 = .ok (.iconst 1, 1) := by decide +kernel
theorem d_L_checks_100 : decode c_L_checks 100 = .ok (.if_icmp .ne 37, 3) := by decide +kernel
theorem d_L_checks_103 : decode c_L_checks 103 = .ok (.iload 5, 2) := by decide +kernel
theorem d_L_checks_105 : decode c_L_checks 105 = .ok (.bipush 6, 2) := by decide +kernel
theorem d_L_checks_107 : decode c_L_checks 107 = .ok (.irem, 1) := by decide +kernel
theorem d_L_checks_108 : decode c_L_checks 108 = .ok (.iconst 4, 1) := by decide +kernel
theorem d_L_checks_109 : decode c_L_checks 109 = .ok (.if_icmp .ge 28, 3) := by decide +kernel
theorem d_L_checks_112 : decode c_L_checks 112 = .ok (.aload_n 2, 1) := by decide +kernel
theorem d_L_checks_113 : decode c_L_checks 113 = .ok (.bipush 23, 2) := by decide +kernel
theorem d_L_checks_115 : decode c_L_checks 115 = .ok (.iaload, 1) := by decide +kernel
theorem d_L_checks_116 : decode c_L_checks 116 = .ok (.iconst 5, 1) := by decide +kernel
theorem d_L_checks_117 : decode c_L_checks 117 = .ok (.if_icmp .ge 20, 3) := by decide +kernel
theorem d_L_checks_120 : decode c_L_checks 120 = .ok (.aload_n 2, 1) := by decide +kernel
theorem d_L_checks_121 : decode c_L_checks 121 = .ok (.bipush 22, 2) := by decide +kernel
theorem d_L_checks_123 : decode c_L_checks 123 = .ok (.iaload, 1) := by decide +kernel
theorem d_L_checks_124 : decode c_L_checks 124 = .ok (.bipush 20, 2) := by decide +kernel
theorem d_L_checks_126 : decode c_L_checks 126 = .ok (.if_icmp .ge 11, 3) := by decide +kernel
theorem d_L_checks_129 : decode c_L_checks 129 = .ok (.aload_n 0, 1) := by decide +kernel
theorem d_L_checks_130 : decode c_L_checks 130 = .ok (.aload_n 1, 1) := by decide +kernel
theorem d_L_checks_131 : decode c_L_checks 131 = .ok (.aload_n 2, 1) := by decide +kernel
theorem d_L_checks_132 : decode c_L_checks 132 = .ok (.iload_n 3, 1) := by decide +kernel
theorem d_L_checks_133 : decode c_L_checks 133 = .ok (.invokestatic 105, 3) := by decide +kernel
theorem d_L_checks_136 : decode c_L_checks 136 = .ok (.ireturn, 1) := by decide +kernel
theorem d_L_checks_137 : decode c_L_checks 137 = .ok (.iload 4, 2) := by decide +kernel
theorem d_L_checks_139 : decode c_L_checks 139 = .ok (.iconst 1, 1) := by decide +kernel
theorem d_L_checks_140 : decode c_L_checks 140 = .ok (.if_icmp .ne 22, 3) := by decide +kernel
theorem d_L_checks_143 : decode c_L_checks 143 = .ok (.aload_n 0, 1) := by decide +kernel
theorem d_L_checks_144 : decode c_L_checks 144 = .ok (.iload_n 3, 1) := by decide +kernel
theorem d_L_checks_145 : decode c_L_checks 145 = .ok (.invokevirtual 108, 3) := by decide +kernel
theorem d_L_checks_148 : decode c_L_checks 148 = .ok (.aload_n 0, 1) := by decide +kernel
theorem d_L_checks_149 : decode c_L_checks 149 = .ok (.iload_n 3, 1) := by decide +kernel
theorem d_L_checks_150 : decode c_L_checks 150 = .ok (.invokevirtual 50, 3) := by decide +kernel
theorem d_L_checks_153 : decode c_L_checks 153 = .ok (.ifCond .ne 7, 3) := by decide +kernel
theorem d_L_checks_156 : decode c_L_checks 156 = .ok (.iconst 1, 1) := by decide +kernel
theorem d_L_checks_157 : decode c_L_checks 157 = .ok (.goto 4, 3) := by decide +kernel
theorem d_L_checks_160 : decode c_L_checks 160 = .ok (.iconst 0, 1) := by decide +kernel
theorem d_L_checks_161 : decode c_L_checks 161 = .ok (.ireturn, 1) := by decide +kernel
theorem d_L_checks_162 : decode c_L_checks 162 = .ok (.aload_n 0, 1) := by decide +kernel
theorem d_L_checks_163 : decode c_L_checks 163 = .ok (.iload_n 3, 1) := by decide +kernel
theorem d_L_checks_164 : decode c_L_checks 164 = .ok (.invokevirtual 53, 3) := by decide +kernel
theorem d_L_checks_167 : decode c_L_checks 167 = .ok (.ifCond .ne 7, 3) := by decide +kernel
theorem d_L_checks_170 : decode c_L_checks 170 = .ok (.iconst 1, 1) := by decide +kernel
theorem d_L_checks_171 : decode c_L_checks 171 = .ok (.goto 4, 3) := by decide +kernel
theorem d_L_checks_174 : decode c_L_checks 174 = .ok (.iconst 0, 1) := by decide +kernel
theorem d_L_checks_175 : decode c_L_checks 175 = .ok (.ireturn, 1) := by decide +kernel
abbrev c_L_commits : ByteArray := method_8_code
abbrev y_L_commits : MethodName := { cls := "ContainerHostLaw", name := "commits", desc := "(LContainerHost;[I[II)Z" }
abbrev k_L_commits : Cond := .code y_L_commits c_L_commits 7 (Option.some FieldType.boolean)
theorem d_L_commits_0 : decode c_L_commits 0 = .ok (.aload_n 2, 1) := by decide +kernel
theorem d_L_commits_1 : decode c_L_commits 1 = .ok (.bipush 20, 2) := by decide +kernel
theorem d_L_commits_3 : decode c_L_commits 3 = .ok (.iaload, 1) := by decide +kernel
theorem d_L_commits_4 : decode c_L_commits 4 = .ok (.istore 4, 2) := by decide +kernel
theorem d_L_commits_6 : decode c_L_commits 6 = .ok (.aload_n 2, 1) := by decide +kernel
theorem d_L_commits_7 : decode c_L_commits 7 = .ok (.iload_n 3, 1) := by decide +kernel
theorem d_L_commits_8 : decode c_L_commits 8 = .ok (.iaload, 1) := by decide +kernel
theorem d_L_commits_9 : decode c_L_commits 9 = .ok (.bipush 8, 2) := by decide +kernel
theorem d_L_commits_11 : decode c_L_commits 11 = .ok (.if_icmp .ne 16, 3) := by decide +kernel
theorem d_L_commits_14 : decode c_L_commits 14 = .ok (.iload 4, 2) := by decide +kernel
theorem d_L_commits_16 : decode c_L_commits 16 = .ok (.bipush 10, 2) := by decide +kernel
theorem d_L_commits_18 : decode c_L_commits 18 = .ok (.if_icmp .gt 7, 3) := by decide +kernel
theorem d_L_commits_21 : decode c_L_commits 21 = .ok (.iconst 1, 1) := by decide +kernel
theorem d_L_commits_22 : decode c_L_commits 22 = .ok (.goto 4, 3) := by decide +kernel
theorem d_L_commits_25 : decode c_L_commits 25 = .ok (.iconst 0, 1) := by decide +kernel
theorem d_L_commits_26 : decode c_L_commits 26 = .ok (.ireturn, 1) := by decide +kernel
theorem d_L_commits_27 : decode c_L_commits 27 = .ok (.aload_n 1, 1) := by decide +kernel
theorem d_L_commits_28 : decode c_L_commits 28 = .ok (.iload 4, 2) := by decide +kernel
theorem d_L_commits_30 : decode c_L_commits 30 = .ok (.iconst 1, 1) := by decide +kernel
theorem d_L_commits_31 : decode c_L_commits 31 = .ok (.iastore, 1) := by decide +kernel
theorem d_L_commits_32 : decode c_L_commits 32 = .ok (.aload_n 1, 1) := by decide +kernel
theorem d_L_commits_33 : decode c_L_commits 33 = .ok (.bipush 10, 2) := by decide +kernel
theorem d_L_commits_35 : decode c_L_commits 35 = .ok (.iload 4, 2) := by decide +kernel
theorem d_L_commits_37 : decode c_L_commits 37 = .ok (.iadd, 1) := by decide +kernel
theorem d_L_commits_38 : decode c_L_commits 38 = .ok (.aload_n 2, 1) := by decide +kernel
theorem d_L_commits_39 : decode c_L_commits 39 = .ok (.iload_n 3, 1) := by decide +kernel
theorem d_L_commits_40 : decode c_L_commits 40 = .ok (.iaload, 1) := by decide +kernel
theorem d_L_commits_41 : decode c_L_commits 41 = .ok (.iconst 1, 1) := by decide +kernel
theorem d_L_commits_42 : decode c_L_commits 42 = .ok (.iadd, 1) := by decide +kernel
theorem d_L_commits_43 : decode c_L_commits 43 = .ok (.iastore, 1) := by decide +kernel
theorem d_L_commits_44 : decode c_L_commits 44 = .ok (.aload_n 2, 1) := by decide +kernel
theorem d_L_commits_45 : decode c_L_commits 45 = .ok (.bipush 20, 2) := by decide +kernel
theorem d_L_commits_47 : decode c_L_commits 47 = .ok (.dup2, 1) := by decide +kernel
theorem d_L_commits_48 : decode c_L_commits 48 = .ok (.iaload, 1) := by decide +kernel
theorem d_L_commits_49 : decode c_L_commits 49 = .ok (.iconst 1, 1) := by decide +kernel
theorem d_L_commits_50 : decode c_L_commits 50 = .ok (.iadd, 1) := by decide +kernel
theorem d_L_commits_51 : decode c_L_commits 51 = .ok (.iastore, 1) := by decide +kernel
theorem d_L_commits_52 : decode c_L_commits 52 = .ok (.aload_n 0, 1) := by decide +kernel
theorem d_L_commits_53 : decode c_L_commits 53 = .ok (.iload_n 3, 1) := by decide +kernel
theorem d_L_commits_54 : decode c_L_commits 54 = .ok (.invokevirtual 111, 3) := by decide +kernel
theorem d_L_commits_57 : decode c_L_commits 57 = .ok (.iload 4, 2) := by decide +kernel
theorem d_L_commits_59 : decode c_L_commits 59 = .ok (.if_icmp .ne 7, 3) := by decide +kernel
theorem d_L_commits_62 : decode c_L_commits 62 = .ok (.iconst 1, 1) := by decide +kernel
theorem d_L_commits_63 : decode c_L_commits 63 = .ok (.goto 4, 3) := by decide +kernel
theorem d_L_commits_66 : decode c_L_commits 66 = .ok (.iconst 0, 1) := by decide +kernel
theorem d_L_commits_67 : decode c_L_commits 67 = .ok (.istore 5, 2) := by decide +kernel
theorem d_L_commits_69 : decode c_L_commits 69 = .ok (.iconst 0, 1) := by decide +kernel
theorem d_L_commits_70 : decode c_L_commits 70 = .ok (.istore 6, 2) := by decide +kernel
theorem d_L_commits_72 : decode c_L_commits 72 = .ok (.iload 6, 2) := by decide +kernel
theorem d_L_commits_74 : decode c_L_commits 74 = .ok (.bipush 32, 2) := by decide +kernel
theorem d_L_commits_76 : decode c_L_commits 76 = .ok (.if_icmp .ge 39, 3) := by decide +kernel
theorem d_L_commits_79 : decode c_L_commits 79 = .ok (.iload 5, 2) := by decide +kernel
theorem d_L_commits_81 : decode c_L_commits 81 = .ok (.ifCond .eq 25, 3) := by decide +kernel
theorem d_L_commits_84 : decode c_L_commits 84 = .ok (.aload_n 0, 1) := by decide +kernel
theorem d_L_commits_85 : decode c_L_commits 85 = .ok (.iload 4, 2) := by decide +kernel
theorem d_L_commits_87 : decode c_L_commits 87 = .ok (.iload 6, 2) := by decide +kernel
theorem d_L_commits_89 : decode c_L_commits 89 = .ok (.invokevirtual 22, 3) := by decide +kernel
theorem d_L_commits_92 : decode c_L_commits 92 = .ok (.aload_n 0, 1) := by decide +kernel
theorem d_L_commits_93 : decode c_L_commits 93 = .ok (.iload_n 3, 1) := by decide +kernel
theorem d_L_commits_94 : decode c_L_commits 94 = .ok (.iload 6, 2) := by decide +kernel
theorem d_L_commits_96 : decode c_L_commits 96 = .ok (.invokevirtual 65, 3) := by decide +kernel
theorem d_L_commits_99 : decode c_L_commits 99 = .ok (.if_icmp .ne 7, 3) := by decide +kernel
theorem d_L_commits_102 : decode c_L_commits 102 = .ok (.iconst 1, 1) := by decide +kernel
theorem d_L_commits_103 : decode c_L_commits 103 = .ok (.goto 4, 3) := by decide +kernel
theorem d_L_commits_106 : decode c_L_commits 106 = .ok (.iconst 0, 1) := by decide +kernel
theorem d_L_commits_107 : decode c_L_commits 107 = .ok (.istore 5, 2) := by decide +kernel
theorem d_L_commits_109 : decode c_L_commits 109 = .ok (.iinc 6 1, 3) := by decide +kernel
theorem d_L_commits_112 : decode c_L_commits 112 = .ok (.goto (-40), 3) := by decide +kernel
theorem d_L_commits_115 : decode c_L_commits 115 = .ok (.iload 5, 2) := by decide +kernel
theorem d_L_commits_117 : decode c_L_commits 117 = .ok (.ifCond .eq 19, 3) := by decide +kernel
theorem d_L_commits_120 : decode c_L_commits 120 = .ok (.aload_n 0, 1) := by decide +kernel
theorem d_L_commits_121 : decode c_L_commits 121 = .ok (.iload 4, 2) := by decide +kernel
theorem d_L_commits_123 : decode c_L_commits 123 = .ok (.aload_n 2, 1) := by decide +kernel
theorem d_L_commits_124 : decode c_L_commits 124 = .ok (.iload_n 3, 1) := by decide +kernel
theorem d_L_commits_125 : decode c_L_commits 125 = .ok (.iaload, 1) := by decide +kernel
theorem d_L_commits_126 : decode c_L_commits 126 = .ok (.invokevirtual 18, 3) := by decide +kernel
theorem d_L_commits_129 : decode c_L_commits 129 = .ok (.ifCond .lt 7, 3) := by decide +kernel
theorem d_L_commits_132 : decode c_L_commits 132 = .ok (.iconst 1, 1) := by decide +kernel
theorem d_L_commits_133 : decode c_L_commits 133 = .ok (.goto 4, 3) := by decide +kernel
theorem d_L_commits_136 : decode c_L_commits 136 = .ok (.iconst 0, 1) := by decide +kernel
theorem d_L_commits_137 : decode c_L_commits 137 = .ok (.ireturn, 1) := by decide +kernel
abbrev c_L_saves : ByteArray := method_9_code
abbrev y_L_saves : MethodName := { cls := "ContainerHostLaw", name := "saves", desc := "(LContainerHost;[I[II)Z" }
abbrev k_L_saves : Cond := .code y_L_saves c_L_saves 10 (Option.some FieldType.boolean)
theorem d_L_saves_0 : decode c_L_saves 0 = .ok (.aload_n 1, 1) := by decide +kernel
theorem d_L_saves_1 : decode c_L_saves 1 = .ok (.bipush 44, 2) := by decide +kernel
theorem d_L_saves_3 : decode c_L_saves 3 = .ok (.iload_n 3, 1) := by decide +kernel
theorem d_L_saves_4 : decode c_L_saves 4 = .ok (.iadd, 1) := by decide +kernel
theorem d_L_saves_5 : decode c_L_saves 5 = .ok (.iaload, 1) := by decide +kernel
theorem d_L_saves_6 : decode c_L_saves 6 = .ok (.istore 4, 2) := by decide +kernel
theorem d_L_saves_8 : decode c_L_saves 8 = .ok (.aload_n 0, 1) := by decide +kernel
theorem d_L_saves_9 : decode c_L_saves 9 = .ok (.iload 4, 2) := by decide +kernel
theorem d_L_saves_11 : decode c_L_saves 11 = .ok (.invokevirtual 36, 3) := by decide +kernel
theorem d_L_saves_14 : decode c_L_saves 14 = .ok (.istore 5, 2) := by decide +kernel
theorem d_L_saves_16 : decode c_L_saves 16 = .ok (.aload_n 0, 1) := by decide +kernel
theorem d_L_saves_17 : decode c_L_saves 17 = .ok (.iload_n 3, 1) := by decide +kernel
theorem d_L_saves_18 : decode c_L_saves 18 = .ok (.invokevirtual 114, 3) := by decide +kernel
theorem d_L_saves_21 : decode c_L_saves 21 = .ok (.aload_n 2, 1) := by decide +kernel
theorem d_L_saves_22 : decode c_L_saves 22 = .ok (.bipush 23, 2) := by decide +kernel
theorem d_L_saves_24 : decode c_L_saves 24 = .ok (.iaload, 1) := by decide +kernel
theorem d_L_saves_25 : decode c_L_saves 25 = .ok (.if_icmp .ne 7, 3) := by decide +kernel
theorem d_L_saves_28 : decode c_L_saves 28 = .ok (.iconst 1, 1) := by decide +kernel
theorem d_L_saves_29 : decode c_L_saves 29 = .ok (.goto 4, 3) := by decide +kernel
theorem d_L_saves_32 : decode c_L_saves 32 = .ok (.iconst 0, 1) := by decide +kernel
theorem d_L_saves_33 : decode c_L_saves 33 = .ok (.istore 6, 2) := by decide +kernel
theorem d_L_saves_35 : decode c_L_saves 35 = .ok (.aload_n 0, 1) := by decide +kernel
theorem d_L_saves_36 : decode c_L_saves 36 = .ok (.iload_n 3, 1) := by decide +kernel
theorem d_L_saves_37 : decode c_L_saves 37 = .ok (.invokevirtual 94, 3) := by decide +kernel
theorem d_L_saves_40 : decode c_L_saves 40 = .ok (.istore 7, 2) := by decide +kernel
theorem d_L_saves_42 : decode c_L_saves 42 = .ok (.aload_n 2, 1) := by decide +kernel
theorem d_L_saves_43 : decode c_L_saves 43 = .ok (.bipush 22, 2) := by decide +kernel
theorem d_L_saves_45 : decode c_L_saves 45 = .ok (.iaload, 1) := by decide +kernel
theorem d_L_saves_46 : decode c_L_saves 46 = .ok (.istore 8, 2) := by decide +kernel
theorem d_L_saves_48 : decode c_L_saves 48 = .ok (.aload_n 2, 1) := by decide +kernel
theorem d_L_saves_49 : decode c_L_saves 49 = .ok (.bipush 23, 2) := by decide +kernel
theorem d_L_saves_51 : decode c_L_saves 51 = .ok (.dup2, 1) := by decide +kernel
theorem d_L_saves_52 : decode c_L_saves 52 = .ok (.iaload, 1) := by decide +kernel
theorem d_L_saves_53 : decode c_L_saves 53 = .ok (.iconst 1, 1) := by decide +kernel
theorem d_L_saves_54 : decode c_L_saves 54 = .ok (.iadd, 1) := by decide +kernel
theorem d_L_saves_55 : decode c_L_saves 55 = .ok (.iastore, 1) := by decide +kernel
theorem d_L_saves_56 : decode c_L_saves 56 = .ok (.aload_n 1, 1) := by decide +kernel
theorem d_L_saves_57 : decode c_L_saves 57 = .ok (.bipush 44, 2) := by decide +kernel
theorem d_L_saves_59 : decode c_L_saves 59 = .ok (.iload 8, 2) := by decide +kernel
theorem d_L_saves_61 : decode c_L_saves 61 = .ok (.iadd, 1) := by decide +kernel
theorem d_L_saves_62 : decode c_L_saves 62 = .ok (.iload 4, 2) := by decide +kernel
theorem d_L_saves_64 : decode c_L_saves 64 = .ok (.iastore, 1) := by decide +kernel
theorem d_L_saves_65 : decode c_L_saves 65 = .ok (.aload_n 2, 1) := by decide +kernel
theorem d_L_saves_66 : decode c_L_saves 66 = .ok (.iload 8, 2) := by decide +kernel
theorem d_L_saves_68 : decode c_L_saves 68 = .ok (.aload_n 2, 1) := by decide +kernel
theorem d_L_saves_69 : decode c_L_saves 69 = .ok (.iload_n 3, 1) := by decide +kernel
theorem d_L_saves_70 : decode c_L_saves 70 = .ok (.iaload, 1) := by decide +kernel
theorem d_L_saves_71 : decode c_L_saves 71 = .ok (.iastore, 1) := by decide +kernel
theorem d_L_saves_72 : decode c_L_saves 72 = .ok (.aload_n 2, 1) := by decide +kernel
theorem d_L_saves_73 : decode c_L_saves 73 = .ok (.bipush 22, 2) := by decide +kernel
theorem d_L_saves_75 : decode c_L_saves 75 = .ok (.dup2, 1) := by decide +kernel
theorem d_L_saves_76 : decode c_L_saves 76 = .ok (.iaload, 1) := by decide +kernel
theorem d_L_saves_77 : decode c_L_saves 77 = .ok (.iconst 1, 1) := by decide +kernel
theorem d_L_saves_78 : decode c_L_saves 78 = .ok (.iadd, 1) := by decide +kernel
theorem d_L_saves_79 : decode c_L_saves 79 = .ok (.iastore, 1) := by decide +kernel
theorem d_L_saves_80 : decode c_L_saves 80 = .ok (.iload 6, 2) := by decide +kernel
theorem d_L_saves_82 : decode c_L_saves 82 = .ok (.ifCond .eq 79, 3) := by decide +kernel
theorem d_L_saves_85 : decode c_L_saves 85 = .ok (.aload_n 0, 1) := by decide +kernel
theorem d_L_saves_86 : decode c_L_saves 86 = .ok (.aload_n 2, 1) := by decide +kernel
theorem d_L_saves_87 : decode c_L_saves 87 = .ok (.bipush 23, 2) := by decide +kernel
theorem d_L_saves_89 : decode c_L_saves 89 = .ok (.iaload, 1) := by decide +kernel
theorem d_L_saves_90 : decode c_L_saves 90 = .ok (.iconst 1, 1) := by decide +kernel
theorem d_L_saves_91 : decode c_L_saves 91 = .ok (.isub, 1) := by decide +kernel
theorem d_L_saves_92 : decode c_L_saves 92 = .ok (.iload 4, 2) := by decide +kernel
theorem d_L_saves_94 : decode c_L_saves 94 = .ok (.invokevirtual 117, 3) := by decide +kernel
theorem d_L_saves_97 : decode c_L_saves 97 = .ok (.iload 8, 2) := by decide +kernel
theorem d_L_saves_99 : decode c_L_saves 99 = .ok (.if_icmp .ne 62, 3) := by decide +kernel
theorem d_L_saves_102 : decode c_L_saves 102 = .ok (.aload_n 0, 1) := by decide +kernel
theorem d_L_saves_103 : decode c_L_saves 103 = .ok (.iload 8, 2) := by decide +kernel
theorem d_L_saves_105 : decode c_L_saves 105 = .ok (.invokevirtual 50, 3) := by decide +kernel
theorem d_L_saves_108 : decode c_L_saves 108 = .ok (.ifCond .ne 53, 3) := by decide +kernel
theorem d_L_saves_111 : decode c_L_saves 111 = .ok (.aload_n 0, 1) := by decide +kernel
theorem d_L_saves_112 : decode c_L_saves 112 = .ok (.iload 8, 2) := by decide +kernel
theorem d_L_saves_114 : decode c_L_saves 114 = .ok (.invokevirtual 53, 3) := by decide +kernel
theorem d_L_saves_117 : decode c_L_saves 117 = .ok (.iload 7, 2) := by decide +kernel
theorem d_L_saves_119 : decode c_L_saves 119 = .ok (.if_icmp .ne 42, 3) := by decide +kernel
theorem d_L_saves_122 : decode c_L_saves 122 = .ok (.aload_n 0, 1) := by decide +kernel
theorem d_L_saves_123 : decode c_L_saves 123 = .ok (.iload 4, 2) := by decide +kernel
theorem d_L_saves_125 : decode c_L_saves 125 = .ok (.invokevirtual 36, 3) := by decide +kernel
theorem d_L_saves_128 : decode c_L_saves 128 = .ok (.iload 5, 2) := by decide +kernel
theorem d_L_saves_130 : decode c_L_saves 130 = .ok (.if_icmp .ne 31, 3) := by decide +kernel
theorem d_L_saves_133 : decode c_L_saves 133 = .ok (.aload_n 0, 1) := by decide +kernel
theorem d_L_saves_134 : decode c_L_saves 134 = .ok (.iload 8, 2) := by decide +kernel
theorem d_L_saves_136 : decode c_L_saves 136 = .ok (.invokevirtual 59, 3) := by decide +kernel
theorem d_L_saves_139 : decode c_L_saves 139 = .ok (.iconst (-1), 1) := by decide +kernel
theorem d_L_saves_140 : decode c_L_saves 140 = .ok (.if_icmp .ne 21, 3) := by decide +kernel
theorem d_L_saves_143 : decode c_L_saves 143 = .ok (.aload_n 0, 1) := by decide +kernel
theorem d_L_saves_144 : decode c_L_saves 144 = .ok (.iload 8, 2) := by decide +kernel
theorem d_L_saves_146 : decode c_L_saves 146 = .ok (.invokevirtual 62, 3) := by decide +kernel
theorem d_L_saves_149 : decode c_L_saves 149 = .ok (.aload_n 0, 1) := by decide +kernel
theorem d_L_saves_150 : decode c_L_saves 150 = .ok (.iload_n 3, 1) := by decide +kernel
theorem d_L_saves_151 : decode c_L_saves 151 = .ok (.invokevirtual 62, 3) := by decide +kernel
theorem d_L_saves_154 : decode c_L_saves 154 = .ok (.if_icmp .ne 7, 3) := by decide +kernel
theorem d_L_saves_157 : decode c_L_saves 157 = .ok (.iconst 1, 1) := by decide +kernel
theorem d_L_saves_158 : decode c_L_saves 158 = .ok (.goto 4, 3) := by decide +kernel
theorem d_L_saves_161 : decode c_L_saves 161 = .ok (.iconst 0, 1) := by decide +kernel
theorem d_L_saves_162 : decode c_L_saves 162 = .ok (.istore 6, 2) := by decide +kernel
theorem d_L_saves_164 : decode c_L_saves 164 = .ok (.iconst 0, 1) := by decide +kernel
theorem d_L_saves_165 : decode c_L_saves 165 = .ok (.istore 9, 2) := by decide +kernel
theorem d_L_saves_167 : decode c_L_saves 167 = .ok (.iload 9, 2) := by decide +kernel
theorem d_L_saves_169 : decode c_L_saves 169 = .ok (.bipush 32, 2) := by decide +kernel
theorem d_L_saves_171 : decode c_L_saves 171 = .ok (.if_icmp .ge 39, 3) := by decide +kernel
theorem d_L_saves_174 : decode c_L_saves 174 = .ok (.iload 6, 2) := by decide +kernel
theorem d_L_saves_176 : decode c_L_saves 176 = .ok (.ifCond .eq 25, 3) := by decide +kernel
theorem d_L_saves_179 : decode c_L_saves 179 = .ok (.aload_n 0, 1) := by decide +kernel
theorem d_L_saves_180 : decode c_L_saves 180 = .ok (.iload 8, 2) := by decide +kernel
theorem d_L_saves_182 : decode c_L_saves 182 = .ok (.iload 9, 2) := by decide +kernel
theorem d_L_saves_184 : decode c_L_saves 184 = .ok (.invokevirtual 65, 3) := by decide +kernel
theorem d_L_saves_187 : decode c_L_saves 187 = .ok (.aload_n 0, 1) := by decide +kernel
theorem d_L_saves_188 : decode c_L_saves 188 = .ok (.iload_n 3, 1) := by decide +kernel
theorem d_L_saves_189 : decode c_L_saves 189 = .ok (.iload 9, 2) := by decide +kernel
theorem d_L_saves_191 : decode c_L_saves 191 = .ok (.invokevirtual 65, 3) := by decide +kernel
theorem d_L_saves_194 : decode c_L_saves 194 = .ok (.if_icmp .ne 7, 3) := by decide +kernel
theorem d_L_saves_197 : decode c_L_saves 197 = .ok (.iconst 1, 1) := by decide +kernel
theorem d_L_saves_198 : decode c_L_saves 198 = .ok (.goto 4, 3) := by decide +kernel
theorem d_L_saves_201 : decode c_L_saves 201 = .ok (.iconst 0, 1) := by decide +kernel
theorem d_L_saves_202 : decode c_L_saves 202 = .ok (.istore 6, 2) := by decide +kernel
theorem d_L_saves_204 : decode c_L_saves 204 = .ok (.iinc 9 1, 3) := by decide +kernel
theorem d_L_saves_207 : decode c_L_saves 207 = .ok (.goto (-40), 3) := by decide +kernel
theorem d_L_saves_210 : decode c_L_saves 210 = .ok (.iload 6, 2) := by decide +kernel
theorem d_L_saves_212 : decode c_L_saves 212 = .ok (.ireturn, 1) := by decide +kernel
abbrev c_L_times : ByteArray := method_5_code
abbrev y_L_times : MethodName := { cls := "ContainerHostLaw", name := "times", desc := "(LContainerHost;)I" }
abbrev k_L_times : Cond := .code y_L_times c_L_times 3 (Option.some FieldType.int)
theorem d_L_times_0 : decode c_L_times 0 = .ok (.iconst 0, 1) := by decide +kernel
theorem d_L_times_1 : decode c_L_times 1 = .ok (.istore_n 1, 1) := by decide +kernel
theorem d_L_times_2 : decode c_L_times 2 = .ok (.iconst 0, 1) := by decide +kernel
theorem d_L_times_3 : decode c_L_times 3 = .ok (.istore_n 2, 1) := by decide +kernel
theorem d_L_times_4 : decode c_L_times 4 = .ok (.iload_n 2, 1) := by decide +kernel
theorem d_L_times_5 : decode c_L_times 5 = .ok (.aload_n 0, 1) := by decide +kernel
theorem d_L_times_6 : decode c_L_times 6 = .ok (.invokevirtual 46, 3) := by decide +kernel
theorem d_L_times_9 : decode c_L_times 9 = .ok (.if_icmp .ge 17, 3) := by decide +kernel
theorem d_L_times_12 : decode c_L_times 12 = .ok (.iload_n 1, 1) := by decide +kernel
theorem d_L_times_13 : decode c_L_times 13 = .ok (.aload_n 0, 1) := by decide +kernel
theorem d_L_times_14 : decode c_L_times 14 = .ok (.iload_n 2, 1) := by decide +kernel
theorem d_L_times_15 : decode c_L_times 15 = .ok (.invokevirtual 56, 3) := by decide +kernel
theorem d_L_times_18 : decode c_L_times 18 = .ok (.iadd, 1) := by decide +kernel
theorem d_L_times_19 : decode c_L_times 19 = .ok (.istore_n 1, 1) := by decide +kernel
theorem d_L_times_20 : decode c_L_times 20 = .ok (.iinc 2 1, 3) := by decide +kernel
theorem d_L_times_23 : decode c_L_times 23 = .ok (.goto (-19), 3) := by decide +kernel
theorem d_L_times_26 : decode c_L_times 26 = .ok (.iload_n 1, 1) := by decide +kernel
theorem d_L_times_27 : decode c_L_times 27 = .ok (.ireturn, 1) := by decide +kernel
abbrev c_L_works : ByteArray := method_10_code
abbrev y_L_works : MethodName := { cls := "ContainerHostLaw", name := "works", desc := "(LContainerHost;[I[IIII)Z" }
abbrev k_L_works : Cond := .code y_L_works c_L_works 15 (Option.some FieldType.boolean)
theorem d_L_works_0 : decode c_L_works 0 = .ok (.aload_n 0, 1) := by decide +kernel
theorem d_L_works_1 : decode c_L_works 1 = .ok (.iload_n 3, 1) := by decide +kernel
theorem d_L_works_2 : decode c_L_works 2 = .ok (.invokevirtual 62, 3) := by decide +kernel
theorem d_L_works_5 : decode c_L_works 5 = .ok (.istore 6, 2) := by decide +kernel
theorem d_L_works_7 : decode c_L_works 7 = .ok (.aload_n 0, 1) := by decide +kernel
theorem d_L_works_8 : decode c_L_works 8 = .ok (.iload_n 3, 1) := by decide +kernel
theorem d_L_works_9 : decode c_L_works 9 = .ok (.invokevirtual 53, 3) := by decide +kernel
theorem d_L_works_12 : decode c_L_works 12 = .ok (.istore 7, 2) := by decide +kernel
theorem d_L_works_14 : decode c_L_works 14 = .ok (.iload 5, 2) := by decide +kernel
theorem d_L_works_16 : decode c_L_works 16 = .ok (.bipush 32, 2) := by decide +kernel
theorem d_L_works_18 : decode c_L_works 18 = .ok (.irem, 1) := by decide +kernel
theorem d_L_works_19 : decode c_L_works 19 = .ok (.istore 8, 2) := by decide +kernel
theorem d_L_works_21 : decode c_L_works 21 = .ok (.aload_n 0, 1) := by decide +kernel
theorem d_L_works_22 : decode c_L_works 22 = .ok (.iload_n 3, 1) := by decide +kernel
theorem d_L_works_23 : decode c_L_works 23 = .ok (.iload 8, 2) := by decide +kernel
theorem d_L_works_25 : decode c_L_works 25 = .ok (.invokevirtual 65, 3) := by decide +kernel
theorem d_L_works_28 : decode c_L_works 28 = .ok (.istore 9, 2) := by decide +kernel
theorem d_L_works_30 : decode c_L_works 30 = .ok (.iload 8, 2) := by decide +kernel
theorem d_L_works_32 : decode c_L_works 32 = .ok (.iconst 3, 1) := by decide +kernel
theorem d_L_works_33 : decode c_L_works 33 = .ok (.if_icmp .gt 13, 3) := by decide +kernel
theorem d_L_works_36 : decode c_L_works 36 = .ok (.iload 6, 2) := by decide +kernel
theorem d_L_works_38 : decode c_L_works 38 = .ok (.iconst 1, 1) := by decide +kernel
theorem d_L_works_39 : decode c_L_works 39 = .ok (.ishr, 1) := by decide +kernel
theorem d_L_works_40 : decode c_L_works 40 = .ok (.iconst 1, 1) := by decide +kernel
theorem d_L_works_41 : decode c_L_works 41 = .ok (.iand, 1) := by decide +kernel
theorem d_L_works_42 : decode c_L_works 42 = .ok (.iconst 1, 1) := by decide +kernel
theorem d_L_works_43 : decode c_L_works 43 = .ok (.if_icmp .ne 7, 3) := by decide +kernel
theorem d_L_works_46 : decode c_L_works 46 = .ok (.iconst 1, 1) := by decide +kernel
theorem d_L_works_47 : decode c_L_works 47 = .ok (.goto 4, 3) := by decide +kernel
theorem d_L_works_50 : decode c_L_works 50 = .ok (.iconst 0, 1) := by decide +kernel
theorem d_L_works_51 : decode c_L_works 51 = .ok (.istore 10, 2) := by decide +kernel
theorem d_L_works_53 : decode c_L_works 53 = .ok (.iload 4, 2) := by decide +kernel
theorem d_L_works_55 : decode c_L_works 55 = .ok (.tableswitch 581 11 21 #[57, 57, 153, 217, 275, 311, 311, 366, 404, 553, 569], 57) := by decide +kernel
theorem d_L_works_112 : decode c_L_works 112 = .ok (.iconst 1, 1) := by decide +kernel
theorem d_L_works_113 : decode c_L_works 113 = .ok (.iload 5, 2) := by decide +kernel
theorem d_L_works_115 : decode c_L_works 115 = .ok (.iload 5, 2) := by decide +kernel
theorem d_L_works_117 : decode c_L_works 117 = .ok (.iconst 2, 1) := by decide +kernel
theorem d_L_works_118 : decode c_L_works 118 = .ok (.irem, 1) := by decide +kernel
theorem d_L_works_119 : decode c_L_works 119 = .ok (.ifCond .ne 9, 3) := by decide +kernel
theorem d_L_works_122 : decode c_L_works 122 = .ok (.sipush 5000, 3) := by decide +kernel
theorem d_L_works_125 : decode c_L_works 125 = .ok (.goto 5, 3) := by decide +kernel
theorem d_L_works_128 : decode c_L_works 128 = .ok (.bipush 120, 2) := by decide +kernel
theorem d_L_works_130 : decode c_L_works 130 = .ok (.irem, 1) := by decide +kernel
theorem d_L_works_131 : decode c_L_works 131 = .ok (.iadd, 1) := by decide +kernel
theorem d_L_works_132 : decode c_L_works 132 = .ok (.istore 11, 2) := by decide +kernel
theorem d_L_works_134 : decode c_L_works 134 = .ok (.aload_n 0, 1) := by decide +kernel
theorem d_L_works_135 : decode c_L_works 135 = .ok (.iload_n 3, 1) := by decide +kernel
theorem d_L_works_136 : decode c_L_works 136 = .ok (.iload 11, 2) := by decide +kernel
theorem d_L_works_138 : decode c_L_works 138 = .ok (.invokevirtual 120, 3) := by decide +kernel
theorem d_L_works_141 : decode c_L_works 141 = .ok (.istore 12, 2) := by decide +kernel
theorem d_L_works_143 : decode c_L_works 143 = .ok (.iload 12, 2) := by decide +kernel
theorem d_L_works_145 : decode c_L_works 145 = .ok (.iconst (-1), 1) := by decide +kernel
theorem d_L_works_146 : decode c_L_works 146 = .ok (.if_icmp .ne 28, 3) := by decide +kernel
theorem d_L_works_149 : decode c_L_works 149 = .ok (.aload_n 0, 1) := by decide +kernel
theorem d_L_works_150 : decode c_L_works 150 = .ok (.iload_n 3, 1) := by decide +kernel
theorem d_L_works_151 : decode c_L_works 151 = .ok (.invokevirtual 50, 3) := by decide +kernel
theorem d_L_works_154 : decode c_L_works 154 = .ok (.iconst 2, 1) := by decide +kernel
theorem d_L_works_155 : decode c_L_works 155 = .ok (.if_icmp .ne 15, 3) := by decide +kernel
theorem d_L_works_158 : decode c_L_works 158 = .ok (.aload_n 0, 1) := by decide +kernel
theorem d_L_works_159 : decode c_L_works 159 = .ok (.iload_n 3, 1) := by decide +kernel
theorem d_L_works_160 : decode c_L_works 160 = .ok (.invokevirtual 53, 3) := by decide +kernel
theorem d_L_works_163 : decode c_L_works 163 = .ok (.ifCond .ne 7, 3) := by decide +kernel
theorem d_L_works_166 : decode c_L_works 166 = .ok (.iconst 1, 1) := by decide +kernel
theorem d_L_works_167 : decode c_L_works 167 = .ok (.goto 40, 3) := by decide +kernel
theorem d_L_works_170 : decode c_L_works 170 = .ok (.iconst 0, 1) := by decide +kernel
theorem d_L_works_171 : decode c_L_works 171 = .ok (.goto 36, 3) := by decide +kernel
theorem d_L_works_174 : decode c_L_works 174 = .ok (.iload 12, 2) := by decide +kernel
theorem d_L_works_176 : decode c_L_works 176 = .ok (.iload 7, 2) := by decide +kernel
theorem d_L_works_178 : decode c_L_works 178 = .ok (.iload 11, 2) := by decide +kernel
theorem d_L_works_180 : decode c_L_works 180 = .ok (.iadd, 1) := by decide +kernel
theorem d_L_works_181 : decode c_L_works 181 = .ok (.if_icmp .ne 25, 3) := by decide +kernel
theorem d_L_works_184 : decode c_L_works 184 = .ok (.aload_n 0, 1) := by decide +kernel
theorem d_L_works_185 : decode c_L_works 185 = .ok (.iload_n 3, 1) := by decide +kernel
theorem d_L_works_186 : decode c_L_works 186 = .ok (.invokevirtual 53, 3) := by decide +kernel
theorem d_L_works_189 : decode c_L_works 189 = .ok (.iload 12, 2) := by decide +kernel
theorem d_L_works_191 : decode c_L_works 191 = .ok (.if_icmp .ne 15, 3) := by decide +kernel
theorem d_L_works_194 : decode c_L_works 194 = .ok (.aload_n 0, 1) := by decide +kernel
theorem d_L_works_195 : decode c_L_works 195 = .ok (.iload_n 3, 1) := by decide +kernel
theorem d_L_works_196 : decode c_L_works 196 = .ok (.invokevirtual 50, 3) := by decide +kernel
theorem d_L_works_199 : decode c_L_works 199 = .ok (.ifCond .ne 7, 3) := by decide +kernel
theorem d_L_works_202 : decode c_L_works 202 = .ok (.iconst 1, 1) := by decide +kernel
theorem d_L_works_203 : decode c_L_works 203 = .ok (.goto 4, 3) := by decide +kernel
theorem d_L_works_206 : decode c_L_works 206 = .ok (.iconst 0, 1) := by decide +kernel
theorem d_L_works_207 : decode c_L_works 207 = .ok (.ireturn, 1) := by decide +kernel
theorem d_L_works_208 : decode c_L_works 208 = .ok (.iload 7, 2) := by decide +kernel
theorem d_L_works_210 : decode c_L_works 210 = .ok (.ifCond .eq 56, 3) := by decide +kernel
theorem d_L_works_213 : decode c_L_works 213 = .ok (.aload_n 0, 1) := by decide +kernel
theorem d_L_works_214 : decode c_L_works 214 = .ok (.iload_n 3, 1) := by decide +kernel
theorem d_L_works_215 : decode c_L_works 215 = .ok (.iconst 1, 1) := by decide +kernel
theorem d_L_works_216 : decode c_L_works 216 = .ok (.iload 5, 2) := by decide +kernel
theorem d_L_works_218 : decode c_L_works 218 = .ok (.iload 7, 2) := by decide +kernel
theorem d_L_works_220 : decode c_L_works 220 = .ok (.sipush 5000, 3) := by decide +kernel
theorem d_L_works_223 : decode c_L_works 223 = .ok (.if_icmp .ge 8, 3) := by decide +kernel
theorem d_L_works_226 : decode c_L_works 226 = .ok (.iload 7, 2) := by decide +kernel
theorem d_L_works_228 : decode c_L_works 228 = .ok (.goto 6, 3) := by decide +kernel
theorem d_L_works_231 : decode c_L_works 231 = .ok (.sipush 5000, 3) := by decide +kernel
theorem d_L_works_234 : decode c_L_works 234 = .ok (.irem, 1) := by decide +kernel
theorem d_L_works_235 : decode c_L_works 235 = .ok (.iadd, 1) := by decide +kernel
theorem d_L_works_236 : decode c_L_works 236 = .ok (.invokevirtual 123, 3) := by decide +kernel
theorem d_L_works_239 : decode c_L_works 239 = .ok (.iload 7, 2) := by decide +kernel
theorem d_L_works_241 : decode c_L_works 241 = .ok (.iconst 1, 1) := by decide +kernel
theorem d_L_works_242 : decode c_L_works 242 = .ok (.isub, 1) := by decide +kernel
theorem d_L_works_243 : decode c_L_works 243 = .ok (.iload 5, 2) := by decide +kernel
theorem d_L_works_245 : decode c_L_works 245 = .ok (.iload 7, 2) := by decide +kernel
theorem d_L_works_247 : decode c_L_works 247 = .ok (.sipush 5000, 3) := by decide +kernel
theorem d_L_works_250 : decode c_L_works 250 = .ok (.if_icmp .ge 8, 3) := by decide +kernel
theorem d_L_works_253 : decode c_L_works 253 = .ok (.iload 7, 2) := by decide +kernel
theorem d_L_works_255 : decode c_L_works 255 = .ok (.goto 6, 3) := by decide +kernel
theorem d_L_works_258 : decode c_L_works 258 = .ok (.sipush 5000, 3) := by decide +kernel
theorem d_L_works_261 : decode c_L_works 261 = .ok (.irem, 1) := by decide +kernel
theorem d_L_works_262 : decode c_L_works 262 = .ok (.isub, 1) := by decide +kernel
theorem d_L_works_263 : decode c_L_works 263 = .ok (.if_icmp .ne 7, 3) := by decide +kernel
theorem d_L_works_266 : decode c_L_works 266 = .ok (.iconst 1, 1) := by decide +kernel
theorem d_L_works_267 : decode c_L_works 267 = .ok (.goto 4, 3) := by decide +kernel
theorem d_L_works_270 : decode c_L_works 270 = .ok (.iconst 0, 1) := by decide +kernel
theorem d_L_works_271 : decode c_L_works 271 = .ok (.ireturn, 1) := by decide +kernel
theorem d_L_works_272 : decode c_L_works 272 = .ok (.aload_n 0, 1) := by decide +kernel
theorem d_L_works_273 : decode c_L_works 273 = .ok (.aload_n 1, 1) := by decide +kernel
theorem d_L_works_274 : decode c_L_works 274 = .ok (.bipush 44, 2) := by decide +kernel
theorem d_L_works_276 : decode c_L_works 276 = .ok (.iload_n 3, 1) := by decide +kernel
theorem d_L_works_277 : decode c_L_works 277 = .ok (.iadd, 1) := by decide +kernel
theorem d_L_works_278 : decode c_L_works 278 = .ok (.iaload, 1) := by decide +kernel
theorem d_L_works_279 : decode c_L_works 279 = .ok (.invokevirtual 36, 3) := by decide +kernel
theorem d_L_works_282 : decode c_L_works 282 = .ok (.istore 13, 2) := by decide +kernel
theorem d_L_works_284 : decode c_L_works 284 = .ok (.aload_n 0, 1) := by decide +kernel
theorem d_L_works_285 : decode c_L_works 285 = .ok (.aload_n 1, 1) := by decide +kernel
theorem d_L_works_286 : decode c_L_works 286 = .ok (.aload_n 1, 1) := by decide +kernel
theorem d_L_works_287 : decode c_L_works 287 = .ok (.bipush 44, 2) := by decide +kernel
theorem d_L_works_289 : decode c_L_works 289 = .ok (.iload_n 3, 1) := by decide +kernel
theorem d_L_works_290 : decode c_L_works 290 = .ok (.iadd, 1) := by decide +kernel
theorem d_L_works_291 : decode c_L_works 291 = .ok (.iaload, 1) := by decide +kernel
theorem d_L_works_292 : decode c_L_works 292 = .ok (.invokestatic 39, 3) := by decide +kernel
theorem d_L_works_295 : decode c_L_works 295 = .ok (.ifCond .ne 29, 3) := by decide +kernel
theorem d_L_works_298 : decode c_L_works 298 = .ok (.aload_n 0, 1) := by decide +kernel
theorem d_L_works_299 : decode c_L_works 299 = .ok (.iload_n 3, 1) := by decide +kernel
theorem d_L_works_300 : decode c_L_works 300 = .ok (.invokevirtual 126, 3) := by decide +kernel
theorem d_L_works_303 : decode c_L_works 303 = .ok (.iconst 2, 1) := by decide +kernel
theorem d_L_works_304 : decode c_L_works 304 = .ok (.if_icmp .lt 24, 3) := by decide +kernel
theorem d_L_works_307 : decode c_L_works 307 = .ok (.aload_n 0, 1) := by decide +kernel
theorem d_L_works_308 : decode c_L_works 308 = .ok (.aload_n 1, 1) := by decide +kernel
theorem d_L_works_309 : decode c_L_works 309 = .ok (.bipush 44, 2) := by decide +kernel
theorem d_L_works_311 : decode c_L_works 311 = .ok (.iload_n 3, 1) := by decide +kernel
theorem d_L_works_312 : decode c_L_works 312 = .ok (.iadd, 1) := by decide +kernel
theorem d_L_works_313 : decode c_L_works 313 = .ok (.iaload, 1) := by decide +kernel
theorem d_L_works_314 : decode c_L_works 314 = .ok (.invokevirtual 36, 3) := by decide +kernel
theorem d_L_works_317 : decode c_L_works 317 = .ok (.iload 13, 2) := by decide +kernel
theorem d_L_works_319 : decode c_L_works 319 = .ok (.iconst 1, 1) := by decide +kernel
theorem d_L_works_320 : decode c_L_works 320 = .ok (.iadd, 1) := by decide +kernel
theorem d_L_works_321 : decode c_L_works 321 = .ok (.if_icmp .ne 7, 3) := by decide +kernel
theorem d_L_works_324 : decode c_L_works 324 = .ok (.iconst 1, 1) := by decide +kernel
theorem d_L_works_325 : decode c_L_works 325 = .ok (.goto 4, 3) := by decide +kernel
theorem d_L_works_328 : decode c_L_works 328 = .ok (.iconst 0, 1) := by decide +kernel
theorem d_L_works_329 : decode c_L_works 329 = .ok (.ireturn, 1) := by decide +kernel
theorem d_L_works_330 : decode c_L_works 330 = .ok (.aload_n 0, 1) := by decide +kernel
theorem d_L_works_331 : decode c_L_works 331 = .ok (.iload_n 3, 1) := by decide +kernel
theorem d_L_works_332 : decode c_L_works 332 = .ok (.invokevirtual 129, 3) := by decide +kernel
theorem d_L_works_335 : decode c_L_works 335 = .ok (.ifCond .ne 7, 3) := by decide +kernel
theorem d_L_works_338 : decode c_L_works 338 = .ok (.iconst 1, 1) := by decide +kernel
theorem d_L_works_339 : decode c_L_works 339 = .ok (.goto 4, 3) := by decide +kernel
theorem d_L_works_342 : decode c_L_works 342 = .ok (.iconst 0, 1) := by decide +kernel
theorem d_L_works_343 : decode c_L_works 343 = .ok (.aload_n 0, 1) := by decide +kernel
theorem d_L_works_344 : decode c_L_works 344 = .ok (.iload_n 3, 1) := by decide +kernel
theorem d_L_works_345 : decode c_L_works 345 = .ok (.invokevirtual 50, 3) := by decide +kernel
theorem d_L_works_348 : decode c_L_works 348 = .ok (.iconst 2, 1) := by decide +kernel
theorem d_L_works_349 : decode c_L_works 349 = .ok (.if_icmp .ne 7, 3) := by decide +kernel
theorem d_L_works_352 : decode c_L_works 352 = .ok (.iconst 1, 1) := by decide +kernel
theorem d_L_works_353 : decode c_L_works 353 = .ok (.goto 4, 3) := by decide +kernel
theorem d_L_works_356 : decode c_L_works 356 = .ok (.iconst 0, 1) := by decide +kernel
theorem d_L_works_357 : decode c_L_works 357 = .ok (.if_icmp .ne 7, 3) := by decide +kernel
theorem d_L_works_360 : decode c_L_works 360 = .ok (.iconst 1, 1) := by decide +kernel
theorem d_L_works_361 : decode c_L_works 361 = .ok (.goto 4, 3) := by decide +kernel
theorem d_L_works_364 : decode c_L_works 364 = .ok (.iconst 0, 1) := by decide +kernel
theorem d_L_works_365 : decode c_L_works 365 = .ok (.ireturn, 1) := by decide +kernel
theorem d_L_works_366 : decode c_L_works 366 = .ok (.iload 10, 2) := by decide +kernel
theorem d_L_works_368 : decode c_L_works 368 = .ok (.ifCond .eq 47, 3) := by decide +kernel
theorem d_L_works_371 : decode c_L_works 371 = .ok (.aload_n 0, 1) := by decide +kernel
theorem d_L_works_372 : decode c_L_works 372 = .ok (.iload_n 3, 1) := by decide +kernel
theorem d_L_works_373 : decode c_L_works 373 = .ok (.iload 8, 2) := by decide +kernel
theorem d_L_works_375 : decode c_L_works 375 = .ok (.iconst 1, 1) := by decide +kernel
theorem d_L_works_376 : decode c_L_works 376 = .ok (.iload 5, 2) := by decide +kernel
theorem d_L_works_378 : decode c_L_works 378 = .ok (.bipush 32, 2) := by decide +kernel
theorem d_L_works_380 : decode c_L_works 380 = .ok (.idiv, 1) := by decide +kernel
theorem d_L_works_381 : decode c_L_works 381 = .ok (.sipush 999, 3) := by decide +kernel
theorem d_L_works_384 : decode c_L_works 384 = .ok (.irem, 1) := by decide +kernel
theorem d_L_works_385 : decode c_L_works 385 = .ok (.iadd, 1) := by decide +kernel
theorem d_L_works_386 : decode c_L_works 386 = .ok (.invokevirtual 132, 3) := by decide +kernel
theorem d_L_works_389 : decode c_L_works 389 = .ok (.iload 9, 2) := by decide +kernel
theorem d_L_works_391 : decode c_L_works 391 = .ok (.if_icmp .ne 28, 3) := by decide +kernel
theorem d_L_works_394 : decode c_L_works 394 = .ok (.aload_n 0, 1) := by decide +kernel
theorem d_L_works_395 : decode c_L_works 395 = .ok (.iload_n 3, 1) := by decide +kernel
theorem d_L_works_396 : decode c_L_works 396 = .ok (.iload 8, 2) := by decide +kernel
theorem d_L_works_398 : decode c_L_works 398 = .ok (.invokevirtual 65, 3) := by decide +kernel
theorem d_L_works_401 : decode c_L_works 401 = .ok (.iconst 1, 1) := by decide +kernel
theorem d_L_works_402 : decode c_L_works 402 = .ok (.iload 5, 2) := by decide +kernel
theorem d_L_works_404 : decode c_L_works 404 = .ok (.bipush 32, 2) := by decide +kernel
theorem d_L_works_406 : decode c_L_works 406 = .ok (.idiv, 1) := by decide +kernel
theorem d_L_works_407 : decode c_L_works 407 = .ok (.sipush 999, 3) := by decide +kernel
theorem d_L_works_410 : decode c_L_works 410 = .ok (.irem, 1) := by decide +kernel
theorem d_L_works_411 : decode c_L_works 411 = .ok (.iadd, 1) := by decide +kernel
theorem d_L_works_412 : decode c_L_works 412 = .ok (.if_icmp .ne 7, 3) := by decide +kernel
theorem d_L_works_415 : decode c_L_works 415 = .ok (.iconst 1, 1) := by decide +kernel
theorem d_L_works_416 : decode c_L_works 416 = .ok (.goto 4, 3) := by decide +kernel
theorem d_L_works_419 : decode c_L_works 419 = .ok (.iconst 0, 1) := by decide +kernel
theorem d_L_works_420 : decode c_L_works 420 = .ok (.ireturn, 1) := by decide +kernel
theorem d_L_works_421 : decode c_L_works 421 = .ok (.iload 10, 2) := by decide +kernel
theorem d_L_works_423 : decode c_L_works 423 = .ok (.ifCond .eq 30, 3) := by decide +kernel
theorem d_L_works_426 : decode c_L_works 426 = .ok (.iload 9, 2) := by decide +kernel
theorem d_L_works_428 : decode c_L_works 428 = .ok (.ifCond .eq 25, 3) := by decide +kernel
theorem d_L_works_431 : decode c_L_works 431 = .ok (.aload_n 0, 1) := by decide +kernel
theorem d_L_works_432 : decode c_L_works 432 = .ok (.iload_n 3, 1) := by decide +kernel
theorem d_L_works_433 : decode c_L_works 433 = .ok (.iload 8, 2) := by decide +kernel
theorem d_L_works_435 : decode c_L_works 435 = .ok (.invokevirtual 135, 3) := by decide +kernel
theorem d_L_works_438 : decode c_L_works 438 = .ok (.iload 9, 2) := by decide +kernel
theorem d_L_works_440 : decode c_L_works 440 = .ok (.if_icmp .ne 17, 3) := by decide +kernel
theorem d_L_works_443 : decode c_L_works 443 = .ok (.aload_n 0, 1) := by decide +kernel
theorem d_L_works_444 : decode c_L_works 444 = .ok (.iload_n 3, 1) := by decide +kernel
theorem d_L_works_445 : decode c_L_works 445 = .ok (.iload 8, 2) := by decide +kernel
theorem d_L_works_447 : decode c_L_works 447 = .ok (.invokevirtual 65, 3) := by decide +kernel
theorem d_L_works_450 : decode c_L_works 450 = .ok (.ifCond .ne 7, 3) := by decide +kernel
theorem d_L_works_453 : decode c_L_works 453 = .ok (.iconst 1, 1) := by decide +kernel
theorem d_L_works_454 : decode c_L_works 454 = .ok (.goto 4, 3) := by decide +kernel
theorem d_L_works_457 : decode c_L_works 457 = .ok (.iconst 0, 1) := by decide +kernel
theorem d_L_works_458 : decode c_L_works 458 = .ok (.ireturn, 1) := by decide +kernel
theorem d_L_works_459 : decode c_L_works 459 = .ok (.iload 5, 2) := by decide +kernel
theorem d_L_works_461 : decode c_L_works 461 = .ok (.iconst 4, 1) := by decide +kernel
theorem d_L_works_462 : decode c_L_works 462 = .ok (.irem, 1) := by decide +kernel
theorem d_L_works_463 : decode c_L_works 463 = .ok (.istore 14, 2) := by decide +kernel
theorem d_L_works_465 : decode c_L_works 465 = .ok (.iload 5, 2) := by decide +kernel
theorem d_L_works_467 : decode c_L_works 467 = .ok (.iconst 3, 1) := by decide +kernel
theorem d_L_works_468 : decode c_L_works 468 = .ok (.irem, 1) := by decide +kernel
theorem d_L_works_469 : decode c_L_works 469 = .ok (.ifCond .ne 48, 3) := by decide +kernel
theorem d_L_works_472 : decode c_L_works 472 = .ok (.aload_n 0, 1) := by decide +kernel
theorem d_L_works_473 : decode c_L_works 473 = .ok (.iload_n 3, 1) := by decide +kernel
theorem d_L_works_474 : decode c_L_works 474 = .ok (.iload 14, 2) := by decide +kernel
theorem d_L_works_476 : decode c_L_works 476 = .ok (.invokevirtual 138, 3) := by decide +kernel
theorem d_L_works_479 : decode c_L_works 479 = .ok (.iload 6, 2) := by decide +kernel
theorem d_L_works_481 : decode c_L_works 481 = .ok (.bipush 15, 2) := by decide +kernel
theorem d_L_works_483 : decode c_L_works 483 = .ok (.iand, 1) := by decide +kernel
theorem d_L_works_484 : decode c_L_works 484 = .ok (.iconst 1, 1) := by decide +kernel
theorem d_L_works_485 : decode c_L_works 485 = .ok (.iload 14, 2) := by decide +kernel
theorem d_L_works_487 : decode c_L_works 487 = .ok (.ishl, 1) := by decide +kernel
theorem d_L_works_488 : decode c_L_works 488 = .ok (.iconst (-1), 1) := by decide +kernel
theorem d_L_works_489 : decode c_L_works 489 = .ok (.ixor, 1) := by decide +kernel
theorem d_L_works_490 : decode c_L_works 490 = .ok (.iand, 1) := by decide +kernel
theorem d_L_works_491 : decode c_L_works 491 = .ok (.if_icmp .ne 24, 3) := by decide +kernel
theorem d_L_works_494 : decode c_L_works 494 = .ok (.aload_n 0, 1) := by decide +kernel
theorem d_L_works_495 : decode c_L_works 495 = .ok (.iload_n 3, 1) := by decide +kernel
theorem d_L_works_496 : decode c_L_works 496 = .ok (.invokevirtual 62, 3) := by decide +kernel
theorem d_L_works_499 : decode c_L_works 499 = .ok (.iload 6, 2) := by decide +kernel
theorem d_L_works_501 : decode c_L_works 501 = .ok (.iconst 1, 1) := by decide +kernel
theorem d_L_works_502 : decode c_L_works 502 = .ok (.iload 14, 2) := by decide +kernel
theorem d_L_works_504 : decode c_L_works 504 = .ok (.ishl, 1) := by decide +kernel
theorem d_L_works_505 : decode c_L_works 505 = .ok (.iconst (-1), 1) := by decide +kernel
theorem d_L_works_506 : decode c_L_works 506 = .ok (.ixor, 1) := by decide +kernel
theorem d_L_works_507 : decode c_L_works 507 = .ok (.iand, 1) := by decide +kernel
theorem d_L_works_508 : decode c_L_works 508 = .ok (.if_icmp .ne 7, 3) := by decide +kernel
theorem d_L_works_511 : decode c_L_works 511 = .ok (.iconst 1, 1) := by decide +kernel
theorem d_L_works_512 : decode c_L_works 512 = .ok (.goto 4, 3) := by decide +kernel
theorem d_L_works_515 : decode c_L_works 515 = .ok (.iconst 0, 1) := by decide +kernel
theorem d_L_works_516 : decode c_L_works 516 = .ok (.ireturn, 1) := by decide +kernel
theorem d_L_works_517 : decode c_L_works 517 = .ok (.iload 5, 2) := by decide +kernel
theorem d_L_works_519 : decode c_L_works 519 = .ok (.iconst 3, 1) := by decide +kernel
theorem d_L_works_520 : decode c_L_works 520 = .ok (.irem, 1) := by decide +kernel
theorem d_L_works_521 : decode c_L_works 521 = .ok (.iconst 1, 1) := by decide +kernel
theorem d_L_works_522 : decode c_L_works 522 = .ok (.if_icmp .ne 48, 3) := by decide +kernel
theorem d_L_works_525 : decode c_L_works 525 = .ok (.aload_n 0, 1) := by decide +kernel
theorem d_L_works_526 : decode c_L_works 526 = .ok (.iload_n 3, 1) := by decide +kernel
theorem d_L_works_527 : decode c_L_works 527 = .ok (.iload 14, 2) := by decide +kernel
theorem d_L_works_529 : decode c_L_works 529 = .ok (.invokevirtual 141, 3) := by decide +kernel
theorem d_L_works_532 : decode c_L_works 532 = .ok (.iload 6, 2) := by decide +kernel
theorem d_L_works_534 : decode c_L_works 534 = .ok (.iconst 4, 1) := by decide +kernel
theorem d_L_works_535 : decode c_L_works 535 = .ok (.ishr, 1) := by decide +kernel
theorem d_L_works_536 : decode c_L_works 536 = .ok (.iconst 1, 1) := by decide +kernel
theorem d_L_works_537 : decode c_L_works 537 = .ok (.iload 14, 2) := by decide +kernel
theorem d_L_works_539 : decode c_L_works 539 = .ok (.ishl, 1) := by decide +kernel
theorem d_L_works_540 : decode c_L_works 540 = .ok (.iconst (-1), 1) := by decide +kernel
theorem d_L_works_541 : decode c_L_works 541 = .ok (.ixor, 1) := by decide +kernel
theorem d_L_works_542 : decode c_L_works 542 = .ok (.iand, 1) := by decide +kernel
theorem d_L_works_543 : decode c_L_works 543 = .ok (.if_icmp .ne 25, 3) := by decide +kernel
theorem d_L_works_546 : decode c_L_works 546 = .ok (.aload_n 0, 1) := by decide +kernel
theorem d_L_works_547 : decode c_L_works 547 = .ok (.iload_n 3, 1) := by decide +kernel
theorem d_L_works_548 : decode c_L_works 548 = .ok (.invokevirtual 62, 3) := by decide +kernel
theorem d_L_works_551 : decode c_L_works 551 = .ok (.iload 6, 2) := by decide +kernel
theorem d_L_works_553 : decode c_L_works 553 = .ok (.bipush 17, 2) := by decide +kernel
theorem d_L_works_555 : decode c_L_works 555 = .ok (.iload 14, 2) := by decide +kernel
theorem d_L_works_557 : decode c_L_works 557 = .ok (.ishl, 1) := by decide +kernel
theorem d_L_works_558 : decode c_L_works 558 = .ok (.iconst (-1), 1) := by decide +kernel
theorem d_L_works_559 : decode c_L_works 559 = .ok (.ixor, 1) := by decide +kernel
theorem d_L_works_560 : decode c_L_works 560 = .ok (.iand, 1) := by decide +kernel
theorem d_L_works_561 : decode c_L_works 561 = .ok (.if_icmp .ne 7, 3) := by decide +kernel
theorem d_L_works_564 : decode c_L_works 564 = .ok (.iconst 1, 1) := by decide +kernel
theorem d_L_works_565 : decode c_L_works 565 = .ok (.goto 4, 3) := by decide +kernel
theorem d_L_works_568 : decode c_L_works 568 = .ok (.iconst 0, 1) := by decide +kernel
theorem d_L_works_569 : decode c_L_works 569 = .ok (.ireturn, 1) := by decide +kernel
theorem d_L_works_570 : decode c_L_works 570 = .ok (.iload 6, 2) := by decide +kernel
theorem d_L_works_572 : decode c_L_works 572 = .ok (.iconst 4, 1) := by decide +kernel
theorem d_L_works_573 : decode c_L_works 573 = .ok (.iload 14, 2) := by decide +kernel
theorem d_L_works_575 : decode c_L_works 575 = .ok (.iadd, 1) := by decide +kernel
theorem d_L_works_576 : decode c_L_works 576 = .ok (.ishr, 1) := by decide +kernel
theorem d_L_works_577 : decode c_L_works 577 = .ok (.iconst 1, 1) := by decide +kernel
theorem d_L_works_578 : decode c_L_works 578 = .ok (.iand, 1) := by decide +kernel
theorem d_L_works_579 : decode c_L_works 579 = .ok (.ifCond .eq 23, 3) := by decide +kernel
theorem d_L_works_582 : decode c_L_works 582 = .ok (.aload_n 0, 1) := by decide +kernel
theorem d_L_works_583 : decode c_L_works 583 = .ok (.iload_n 3, 1) := by decide +kernel
theorem d_L_works_584 : decode c_L_works 584 = .ok (.iload 14, 2) := by decide +kernel
theorem d_L_works_586 : decode c_L_works 586 = .ok (.invokevirtual 144, 3) := by decide +kernel
theorem d_L_works_589 : decode c_L_works 589 = .ok (.iload 6, 2) := by decide +kernel
theorem d_L_works_591 : decode c_L_works 591 = .ok (.bipush 15, 2) := by decide +kernel
theorem d_L_works_593 : decode c_L_works 593 = .ok (.iand, 1) := by decide +kernel
theorem d_L_works_594 : decode c_L_works 594 = .ok (.iconst 1, 1) := by decide +kernel
theorem d_L_works_595 : decode c_L_works 595 = .ok (.iload 14, 2) := by decide +kernel
theorem d_L_works_597 : decode c_L_works 597 = .ok (.ishl, 1) := by decide +kernel
theorem d_L_works_598 : decode c_L_works 598 = .ok (.ior, 1) := by decide +kernel
theorem d_L_works_599 : decode c_L_works 599 = .ok (.if_icmp .ne 7, 3) := by decide +kernel
theorem d_L_works_602 : decode c_L_works 602 = .ok (.iconst 1, 1) := by decide +kernel
theorem d_L_works_603 : decode c_L_works 603 = .ok (.goto 4, 3) := by decide +kernel
theorem d_L_works_606 : decode c_L_works 606 = .ok (.iconst 0, 1) := by decide +kernel
theorem d_L_works_607 : decode c_L_works 607 = .ok (.ireturn, 1) := by decide +kernel
theorem d_L_works_608 : decode c_L_works 608 = .ok (.aload_n 0, 1) := by decide +kernel
theorem d_L_works_609 : decode c_L_works 609 = .ok (.aload_n 1, 1) := by decide +kernel
theorem d_L_works_610 : decode c_L_works 610 = .ok (.iload_n 3, 1) := by decide +kernel
theorem d_L_works_611 : decode c_L_works 611 = .ok (.iload 5, 2) := by decide +kernel
theorem d_L_works_613 : decode c_L_works 613 = .ok (.aload_n 2, 1) := by decide +kernel
theorem d_L_works_614 : decode c_L_works 614 = .ok (.bipush 22, 2) := by decide +kernel
theorem d_L_works_616 : decode c_L_works 616 = .ok (.iaload, 1) := by decide +kernel
theorem d_L_works_617 : decode c_L_works 617 = .ok (.irem, 1) := by decide +kernel
theorem d_L_works_618 : decode c_L_works 618 = .ok (.iload 6, 2) := by decide +kernel
theorem d_L_works_620 : decode c_L_works 620 = .ok (.invokestatic 147, 3) := by decide +kernel
theorem d_L_works_623 : decode c_L_works 623 = .ok (.ireturn, 1) := by decide +kernel
theorem d_L_works_624 : decode c_L_works 624 = .ok (.aload_n 0, 1) := by decide +kernel
theorem d_L_works_625 : decode c_L_works 625 = .ok (.iload_n 3, 1) := by decide +kernel
theorem d_L_works_626 : decode c_L_works 626 = .ok (.iload 5, 2) := by decide +kernel
theorem d_L_works_628 : decode c_L_works 628 = .ok (.iconst 4, 1) := by decide +kernel
theorem d_L_works_629 : decode c_L_works 629 = .ok (.irem, 1) := by decide +kernel
theorem d_L_works_630 : decode c_L_works 630 = .ok (.iload 6, 2) := by decide +kernel
theorem d_L_works_632 : decode c_L_works 632 = .ok (.invokestatic 151, 3) := by decide +kernel
theorem d_L_works_635 : decode c_L_works 635 = .ok (.ireturn, 1) := by decide +kernel
theorem d_L_works_636 : decode c_L_works 636 = .ok (.aload_n 0, 1) := by decide +kernel
theorem d_L_works_637 : decode c_L_works 637 = .ok (.iload_n 3, 1) := by decide +kernel
theorem d_L_works_638 : decode c_L_works 638 = .ok (.iload 5, 2) := by decide +kernel
theorem d_L_works_640 : decode c_L_works 640 = .ok (.iload 6, 2) := by decide +kernel
theorem d_L_works_642 : decode c_L_works 642 = .ok (.invokestatic 155, 3) := by decide +kernel
theorem d_L_works_645 : decode c_L_works 645 = .ok (.ireturn, 1) := by decide +kernel
abbrev c_L_kills : ByteArray := method_11_code
abbrev y_L_kills : MethodName := { cls := "ContainerHostLaw", name := "kills", desc := "(LContainerHost;[IIII)Z" }
abbrev k_L_kills : Cond := .code y_L_kills c_L_kills 7 (Option.some FieldType.boolean)
theorem d_L_kills_0 : decode c_L_kills 0 = .ok (.iconst 0, 1) := by decide +kernel
theorem d_L_kills_1 : decode c_L_kills 1 = .ok (.istore 5, 2) := by decide +kernel
theorem d_L_kills_3 : decode c_L_kills 3 = .ok (.aload_n 1, 1) := by decide +kernel
theorem d_L_kills_4 : decode c_L_kills 4 = .ok (.bipush 44, 2) := by decide +kernel
theorem d_L_kills_6 : decode c_L_kills 6 = .ok (.iload_n 3, 1) := by decide +kernel
theorem d_L_kills_7 : decode c_L_kills 7 = .ok (.iadd, 1) := by decide +kernel
theorem d_L_kills_8 : decode c_L_kills 8 = .ok (.iaload, 1) := by decide +kernel
theorem d_L_kills_9 : decode c_L_kills 9 = .ok (.istore 6, 2) := by decide +kernel
theorem d_L_kills_11 : decode c_L_kills 11 = .ok (.iload 6, 2) := by decide +kernel
theorem d_L_kills_13 : decode c_L_kills 13 = .ok (.iconst (-1), 1) := by decide +kernel
theorem d_L_kills_14 : decode c_L_kills 14 = .ok (.if_icmp .eq 38, 3) := by decide +kernel
theorem d_L_kills_17 : decode c_L_kills 17 = .ok (.iload 5, 2) := by decide +kernel
theorem d_L_kills_19 : decode c_L_kills 19 = .ok (.ifCond .ne 14, 3) := by decide +kernel
theorem d_L_kills_22 : decode c_L_kills 22 = .ok (.iload 6, 2) := by decide +kernel
theorem d_L_kills_24 : decode c_L_kills 24 = .ok (.aload_n 1, 1) := by decide +kernel
theorem d_L_kills_25 : decode c_L_kills 25 = .ok (.bipush 44, 2) := by decide +kernel
theorem d_L_kills_27 : decode c_L_kills 27 = .ok (.iload_n 2, 1) := by decide +kernel
theorem d_L_kills_28 : decode c_L_kills 28 = .ok (.iadd, 1) := by decide +kernel
theorem d_L_kills_29 : decode c_L_kills 29 = .ok (.iaload, 1) := by decide +kernel
theorem d_L_kills_30 : decode c_L_kills 30 = .ok (.if_icmp .ne 7, 3) := by decide +kernel
theorem d_L_kills_33 : decode c_L_kills 33 = .ok (.iconst 1, 1) := by decide +kernel
theorem d_L_kills_34 : decode c_L_kills 34 = .ok (.goto 4, 3) := by decide +kernel
theorem d_L_kills_37 : decode c_L_kills 37 = .ok (.iconst 0, 1) := by decide +kernel
theorem d_L_kills_38 : decode c_L_kills 38 = .ok (.istore 5, 2) := by decide +kernel
theorem d_L_kills_40 : decode c_L_kills 40 = .ok (.aload_n 1, 1) := by decide +kernel
theorem d_L_kills_41 : decode c_L_kills 41 = .ok (.bipush 20, 2) := by decide +kernel
theorem d_L_kills_43 : decode c_L_kills 43 = .ok (.iload 6, 2) := by decide +kernel
theorem d_L_kills_45 : decode c_L_kills 45 = .ok (.iadd, 1) := by decide +kernel
theorem d_L_kills_46 : decode c_L_kills 46 = .ok (.iaload, 1) := by decide +kernel
theorem d_L_kills_47 : decode c_L_kills 47 = .ok (.istore 6, 2) := by decide +kernel
theorem d_L_kills_49 : decode c_L_kills 49 = .ok (.goto (-38), 3) := by decide +kernel
theorem d_L_kills_52 : decode c_L_kills 52 = .ok (.aload_n 0, 1) := by decide +kernel
theorem d_L_kills_53 : decode c_L_kills 53 = .ok (.iload_n 3, 1) := by decide +kernel
theorem d_L_kills_54 : decode c_L_kills 54 = .ok (.invokevirtual 53, 3) := by decide +kernel
theorem d_L_kills_57 : decode c_L_kills 57 = .ok (.istore 6, 2) := by decide +kernel
theorem d_L_kills_59 : decode c_L_kills 59 = .ok (.iload 4, 2) := by decide +kernel
theorem d_L_kills_61 : decode c_L_kills 61 = .ok (.iconst 3, 1) := by decide +kernel
theorem d_L_kills_62 : decode c_L_kills 62 = .ok (.ishr, 1) := by decide +kernel
theorem d_L_kills_63 : decode c_L_kills 63 = .ok (.iconst 1, 1) := by decide +kernel
theorem d_L_kills_64 : decode c_L_kills 64 = .ok (.iand, 1) := by decide +kernel
theorem d_L_kills_65 : decode c_L_kills 65 = .ok (.ifCond .eq 50, 3) := by decide +kernel
theorem d_L_kills_68 : decode c_L_kills 68 = .ok (.iload_n 3, 1) := by decide +kernel
theorem d_L_kills_69 : decode c_L_kills 69 = .ok (.iload_n 2, 1) := by decide +kernel
theorem d_L_kills_70 : decode c_L_kills 70 = .ok (.if_icmp .eq 45, 3) := by decide +kernel
theorem d_L_kills_73 : decode c_L_kills 73 = .ok (.aload_n 0, 1) := by decide +kernel
theorem d_L_kills_74 : decode c_L_kills 74 = .ok (.iload_n 3, 1) := by decide +kernel
theorem d_L_kills_75 : decode c_L_kills 75 = .ok (.invokevirtual 50, 3) := by decide +kernel
theorem d_L_kills_78 : decode c_L_kills 78 = .ok (.iconst 2, 1) := by decide +kernel
theorem d_L_kills_79 : decode c_L_kills 79 = .ok (.if_icmp .eq 36, 3) := by decide +kernel
theorem d_L_kills_82 : decode c_L_kills 82 = .ok (.iload 5, 2) := by decide +kernel
theorem d_L_kills_84 : decode c_L_kills 84 = .ok (.ifCond .eq 31, 3) := by decide +kernel
theorem d_L_kills_87 : decode c_L_kills 87 = .ok (.aload_n 0, 1) := by decide +kernel
theorem d_L_kills_88 : decode c_L_kills 88 = .ok (.iload_n 2, 1) := by decide +kernel
theorem d_L_kills_89 : decode c_L_kills 89 = .ok (.iload_n 3, 1) := by decide +kernel
theorem d_L_kills_90 : decode c_L_kills 90 = .ok (.invokevirtual 158, 3) := by decide +kernel
theorem d_L_kills_93 : decode c_L_kills 93 = .ok (.iload 6, 2) := by decide +kernel
theorem d_L_kills_95 : decode c_L_kills 95 = .ok (.if_icmp .ne 24, 3) := by decide +kernel
theorem d_L_kills_98 : decode c_L_kills 98 = .ok (.aload_n 0, 1) := by decide +kernel
theorem d_L_kills_99 : decode c_L_kills 99 = .ok (.iload_n 3, 1) := by decide +kernel
theorem d_L_kills_100 : decode c_L_kills 100 = .ok (.invokevirtual 50, 3) := by decide +kernel
theorem d_L_kills_103 : decode c_L_kills 103 = .ok (.iconst 2, 1) := by decide +kernel
theorem d_L_kills_104 : decode c_L_kills 104 = .ok (.if_icmp .ne 15, 3) := by decide +kernel
theorem d_L_kills_107 : decode c_L_kills 107 = .ok (.aload_n 0, 1) := by decide +kernel
theorem d_L_kills_108 : decode c_L_kills 108 = .ok (.iload_n 3, 1) := by decide +kernel
theorem d_L_kills_109 : decode c_L_kills 109 = .ok (.invokevirtual 53, 3) := by decide +kernel
theorem d_L_kills_112 : decode c_L_kills 112 = .ok (.ifCond .ne 7, 3) := by decide +kernel
theorem d_L_kills_115 : decode c_L_kills 115 = .ok (.iconst 1, 1) := by decide +kernel
theorem d_L_kills_116 : decode c_L_kills 116 = .ok (.goto 4, 3) := by decide +kernel
theorem d_L_kills_119 : decode c_L_kills 119 = .ok (.iconst 0, 1) := by decide +kernel
theorem d_L_kills_120 : decode c_L_kills 120 = .ok (.ireturn, 1) := by decide +kernel
abbrev c_L_attaches : ByteArray := method_12_code
abbrev y_L_attaches : MethodName := { cls := "ContainerHostLaw", name := "attaches", desc := "(LContainerHost;III)Z" }
abbrev k_L_attaches : Cond := .code y_L_attaches c_L_attaches 9 (Option.some FieldType.boolean)
theorem d_L_attaches_0 : decode c_L_attaches 0 = .ok (.aload_n 0, 1) := by decide +kernel
theorem d_L_attaches_1 : decode c_L_attaches 1 = .ok (.iload_n 1, 1) := by decide +kernel
theorem d_L_attaches_2 : decode c_L_attaches 2 = .ok (.invokevirtual 59, 3) := by decide +kernel
theorem d_L_attaches_5 : decode c_L_attaches 5 = .ok (.istore 4, 2) := by decide +kernel
theorem d_L_attaches_7 : decode c_L_attaches 7 = .ok (.iload 4, 2) := by decide +kernel
theorem d_L_attaches_9 : decode c_L_attaches 9 = .ok (.iconst (-1), 1) := by decide +kernel
theorem d_L_attaches_10 : decode c_L_attaches 10 = .ok (.if_icmp .eq 31, 3) := by decide +kernel
theorem d_L_attaches_13 : decode c_L_attaches 13 = .ok (.aload_n 0, 1) := by decide +kernel
theorem d_L_attaches_14 : decode c_L_attaches 14 = .ok (.iload_n 1, 1) := by decide +kernel
theorem d_L_attaches_15 : decode c_L_attaches 15 = .ok (.invokevirtual 161, 3) := by decide +kernel
theorem d_L_attaches_18 : decode c_L_attaches 18 = .ok (.iload 4, 2) := by decide +kernel
theorem d_L_attaches_20 : decode c_L_attaches 20 = .ok (.bipush 10, 2) := by decide +kernel
theorem d_L_attaches_22 : decode c_L_attaches 22 = .ok (.idiv, 1) := by decide +kernel
theorem d_L_attaches_23 : decode c_L_attaches 23 = .ok (.if_icmp .ne 16, 3) := by decide +kernel
theorem d_L_attaches_26 : decode c_L_attaches 26 = .ok (.aload_n 0, 1) := by decide +kernel
theorem d_L_attaches_27 : decode c_L_attaches 27 = .ok (.iload_n 1, 1) := by decide +kernel
theorem d_L_attaches_28 : decode c_L_attaches 28 = .ok (.invokevirtual 59, 3) := by decide +kernel
theorem d_L_attaches_31 : decode c_L_attaches 31 = .ok (.iconst (-1), 1) := by decide +kernel
theorem d_L_attaches_32 : decode c_L_attaches 32 = .ok (.if_icmp .ne 7, 3) := by decide +kernel
theorem d_L_attaches_35 : decode c_L_attaches 35 = .ok (.iconst 1, 1) := by decide +kernel
theorem d_L_attaches_36 : decode c_L_attaches 36 = .ok (.goto 4, 3) := by decide +kernel
theorem d_L_attaches_39 : decode c_L_attaches 39 = .ok (.iconst 0, 1) := by decide +kernel
theorem d_L_attaches_40 : decode c_L_attaches 40 = .ok (.ireturn, 1) := by decide +kernel
theorem d_L_attaches_41 : decode c_L_attaches 41 = .ok (.bipush 7, 2) := by decide +kernel
theorem d_L_attaches_43 : decode c_L_attaches 43 = .ok (.istore 5, 2) := by decide +kernel
theorem d_L_attaches_45 : decode c_L_attaches 45 = .ok (.bipush 6, 2) := by decide +kernel
theorem d_L_attaches_47 : decode c_L_attaches 47 = .ok (.istore 6, 2) := by decide +kernel
theorem d_L_attaches_49 : decode c_L_attaches 49 = .ok (.iload 6, 2) := by decide +kernel
theorem d_L_attaches_51 : decode c_L_attaches 51 = .ok (.iconst 1, 1) := by decide +kernel
theorem d_L_attaches_52 : decode c_L_attaches 52 = .ok (.if_icmp .lt 72, 3) := by decide +kernel
theorem d_L_attaches_55 : decode c_L_attaches 55 = .ok (.iconst 1, 1) := by decide +kernel
theorem d_L_attaches_56 : decode c_L_attaches 56 = .ok (.istore 7, 2) := by decide +kernel
theorem d_L_attaches_58 : decode c_L_attaches 58 = .ok (.iconst 0, 1) := by decide +kernel
theorem d_L_attaches_59 : decode c_L_attaches 59 = .ok (.istore 8, 2) := by decide +kernel
theorem d_L_attaches_61 : decode c_L_attaches 61 = .ok (.iload 8, 2) := by decide +kernel
theorem d_L_attaches_63 : decode c_L_attaches 63 = .ok (.aload_n 0, 1) := by decide +kernel
theorem d_L_attaches_64 : decode c_L_attaches 64 = .ok (.invokevirtual 46, 3) := by decide +kernel
theorem d_L_attaches_67 : decode c_L_attaches 67 = .ok (.if_icmp .ge 37, 3) := by decide +kernel
theorem d_L_attaches_70 : decode c_L_attaches 70 = .ok (.iload 7, 2) := by decide +kernel
theorem d_L_attaches_72 : decode c_L_attaches 72 = .ok (.ifCond .eq 23, 3) := by decide +kernel
theorem d_L_attaches_75 : decode c_L_attaches 75 = .ok (.aload_n 0, 1) := by decide +kernel
theorem d_L_attaches_76 : decode c_L_attaches 76 = .ok (.iload 8, 2) := by decide +kernel
theorem d_L_attaches_78 : decode c_L_attaches 78 = .ok (.invokevirtual 59, 3) := by decide +kernel
theorem d_L_attaches_81 : decode c_L_attaches 81 = .ok (.bipush 10, 2) := by decide +kernel
theorem d_L_attaches_83 : decode c_L_attaches 83 = .ok (.iload_n 2, 1) := by decide +kernel
theorem d_L_attaches_84 : decode c_L_attaches 84 = .ok (.imul, 1) := by decide +kernel
theorem d_L_attaches_85 : decode c_L_attaches 85 = .ok (.iload 6, 2) := by decide +kernel
theorem d_L_attaches_87 : decode c_L_attaches 87 = .ok (.iadd, 1) := by decide +kernel
theorem d_L_attaches_88 : decode c_L_attaches 88 = .ok (.if_icmp .eq 7, 3) := by decide +kernel
theorem d_L_attaches_91 : decode c_L_attaches 91 = .ok (.iconst 1, 1) := by decide +kernel
theorem d_L_attaches_92 : decode c_L_attaches 92 = .ok (.goto 4, 3) := by decide +kernel
theorem d_L_attaches_95 : decode c_L_attaches 95 = .ok (.iconst 0, 1) := by decide +kernel
theorem d_L_attaches_96 : decode c_L_attaches 96 = .ok (.istore 7, 2) := by decide +kernel
theorem d_L_attaches_98 : decode c_L_attaches 98 = .ok (.iinc 8 1, 3) := by decide +kernel
theorem d_L_attaches_101 : decode c_L_attaches 101 = .ok (.goto (-40), 3) := by decide +kernel
theorem d_L_attaches_104 : decode c_L_attaches 104 = .ok (.iload 7, 2) := by decide +kernel
theorem d_L_attaches_106 : decode c_L_attaches 106 = .ok (.ifCond .eq 8, 3) := by decide +kernel
theorem d_L_attaches_109 : decode c_L_attaches 109 = .ok (.iload 6, 2) := by decide +kernel
theorem d_L_attaches_111 : decode c_L_attaches 111 = .ok (.goto 5, 3) := by decide +kernel
theorem d_L_attaches_114 : decode c_L_attaches 114 = .ok (.iload 5, 2) := by decide +kernel
theorem d_L_attaches_116 : decode c_L_attaches 116 = .ok (.istore 5, 2) := by decide +kernel
theorem d_L_attaches_118 : decode c_L_attaches 118 = .ok (.iinc 6 (-1), 3) := by decide +kernel
theorem d_L_attaches_121 : decode c_L_attaches 121 = .ok (.goto (-72), 3) := by decide +kernel
theorem d_L_attaches_124 : decode c_L_attaches 124 = .ok (.iload_n 3, 1) := by decide +kernel
theorem d_L_attaches_125 : decode c_L_attaches 125 = .ok (.iconst 2, 1) := by decide +kernel
theorem d_L_attaches_126 : decode c_L_attaches 126 = .ok (.ishr, 1) := by decide +kernel
theorem d_L_attaches_127 : decode c_L_attaches 127 = .ok (.iconst 1, 1) := by decide +kernel
theorem d_L_attaches_128 : decode c_L_attaches 128 = .ok (.iand, 1) := by decide +kernel
theorem d_L_attaches_129 : decode c_L_attaches 129 = .ok (.ifCond .eq 36, 3) := by decide +kernel
theorem d_L_attaches_132 : decode c_L_attaches 132 = .ok (.iload 5, 2) := by decide +kernel
theorem d_L_attaches_134 : decode c_L_attaches 134 = .ok (.bipush 7, 2) := by decide +kernel
theorem d_L_attaches_136 : decode c_L_attaches 136 = .ok (.if_icmp .eq 29, 3) := by decide +kernel
theorem d_L_attaches_139 : decode c_L_attaches 139 = .ok (.aload_n 0, 1) := by decide +kernel
theorem d_L_attaches_140 : decode c_L_attaches 140 = .ok (.iload_n 1, 1) := by decide +kernel
theorem d_L_attaches_141 : decode c_L_attaches 141 = .ok (.iload_n 2, 1) := by decide +kernel
theorem d_L_attaches_142 : decode c_L_attaches 142 = .ok (.invokevirtual 164, 3) := by decide +kernel
theorem d_L_attaches_145 : decode c_L_attaches 145 = .ok (.iload 5, 2) := by decide +kernel
theorem d_L_attaches_147 : decode c_L_attaches 147 = .ok (.if_icmp .ne 22, 3) := by decide +kernel
theorem d_L_attaches_150 : decode c_L_attaches 150 = .ok (.aload_n 0, 1) := by decide +kernel
theorem d_L_attaches_151 : decode c_L_attaches 151 = .ok (.iload_n 1, 1) := by decide +kernel
theorem d_L_attaches_152 : decode c_L_attaches 152 = .ok (.invokevirtual 59, 3) := by decide +kernel
theorem d_L_attaches_155 : decode c_L_attaches 155 = .ok (.bipush 10, 2) := by decide +kernel
theorem d_L_attaches_157 : decode c_L_attaches 157 = .ok (.iload_n 2, 1) := by decide +kernel
theorem d_L_attaches_158 : decode c_L_attaches 158 = .ok (.imul, 1) := by decide +kernel
theorem d_L_attaches_159 : decode c_L_attaches 159 = .ok (.iload 5, 2) := by decide +kernel
theorem d_L_attaches_161 : decode c_L_attaches 161 = .ok (.iadd, 1) := by decide +kernel
theorem d_L_attaches_162 : decode c_L_attaches 162 = .ok (.if_icmp .ne 7, 3) := by decide +kernel
theorem d_L_attaches_165 : decode c_L_attaches 165 = .ok (.iconst 1, 1) := by decide +kernel
theorem d_L_attaches_166 : decode c_L_attaches 166 = .ok (.goto 4, 3) := by decide +kernel
theorem d_L_attaches_169 : decode c_L_attaches 169 = .ok (.iconst 0, 1) := by decide +kernel
theorem d_L_attaches_170 : decode c_L_attaches 170 = .ok (.ireturn, 1) := by decide +kernel
abbrev c_L_ports : ByteArray := method_13_code
abbrev y_L_ports : MethodName := { cls := "ContainerHostLaw", name := "ports", desc := "(LContainerHost;III)Z" }
abbrev k_L_ports : Cond := .code y_L_ports c_L_ports 9 (Option.some FieldType.boolean)
theorem d_L_ports_0 : decode c_L_ports 0 = .ok (.iload_n 2, 1) := by decide +kernel
theorem d_L_ports_1 : decode c_L_ports 1 = .ok (.bipush 16, 2) := by decide +kernel
theorem d_L_ports_3 : decode c_L_ports 3 = .ok (.irem, 1) := by decide +kernel
theorem d_L_ports_4 : decode c_L_ports 4 = .ok (.istore 4, 2) := by decide +kernel
theorem d_L_ports_6 : decode c_L_ports 6 = .ok (.iload_n 2, 1) := by decide +kernel
theorem d_L_ports_7 : decode c_L_ports 7 = .ok (.bipush 16, 2) := by decide +kernel
theorem d_L_ports_9 : decode c_L_ports 9 = .ok (.idiv, 1) := by decide +kernel
theorem d_L_ports_10 : decode c_L_ports 10 = .ok (.bipush 32, 2) := by decide +kernel
theorem d_L_ports_12 : decode c_L_ports 12 = .ok (.irem, 1) := by decide +kernel
theorem d_L_ports_13 : decode c_L_ports 13 = .ok (.istore 5, 2) := by decide +kernel
theorem d_L_ports_15 : decode c_L_ports 15 = .ok (.aload_n 0, 1) := by decide +kernel
theorem d_L_ports_16 : decode c_L_ports 16 = .ok (.iload_n 1, 1) := by decide +kernel
theorem d_L_ports_17 : decode c_L_ports 17 = .ok (.invokevirtual 59, 3) := by decide +kernel
theorem d_L_ports_20 : decode c_L_ports 20 = .ok (.istore 6, 2) := by decide +kernel
theorem d_L_ports_22 : decode c_L_ports 22 = .ok (.aload_n 0, 1) := by decide +kernel
theorem d_L_ports_23 : decode c_L_ports 23 = .ok (.iload 5, 2) := by decide +kernel
theorem d_L_ports_25 : decode c_L_ports 25 = .ok (.invokevirtual 167, 3) := by decide +kernel
theorem d_L_ports_28 : decode c_L_ports 28 = .ok (.istore 7, 2) := by decide +kernel
theorem d_L_ports_30 : decode c_L_ports 30 = .ok (.iload 6, 2) := by decide +kernel
theorem d_L_ports_32 : decode c_L_ports 32 = .ok (.iconst (-1), 1) := by decide +kernel
theorem d_L_ports_33 : decode c_L_ports 33 = .ok (.if_icmp .eq 15, 3) := by decide +kernel
theorem d_L_ports_36 : decode c_L_ports 36 = .ok (.iload 4, 2) := by decide +kernel
theorem d_L_ports_38 : decode c_L_ports 38 = .ok (.iconst 4, 1) := by decide +kernel
theorem d_L_ports_39 : decode c_L_ports 39 = .ok (.if_icmp .ge 30, 3) := by decide +kernel
theorem d_L_ports_42 : decode c_L_ports 42 = .ok (.iload_n 3, 1) := by decide +kernel
theorem d_L_ports_43 : decode c_L_ports 43 = .ok (.iconst 1, 1) := by decide +kernel
theorem d_L_ports_44 : decode c_L_ports 44 = .ok (.iand, 1) := by decide +kernel
theorem d_L_ports_45 : decode c_L_ports 45 = .ok (.ifCond .ne 24, 3) := by decide +kernel
theorem d_L_ports_48 : decode c_L_ports 48 = .ok (.iload 7, 2) := by decide +kernel
theorem d_L_ports_50 : decode c_L_ports 50 = .ok (.iconst (-1), 1) := by decide +kernel
theorem d_L_ports_51 : decode c_L_ports 51 = .ok (.if_icmp .eq 12, 3) := by decide +kernel
theorem d_L_ports_54 : decode c_L_ports 54 = .ok (.aload_n 0, 1) := by decide +kernel
theorem d_L_ports_55 : decode c_L_ports 55 = .ok (.iload 7, 2) := by decide +kernel
theorem d_L_ports_57 : decode c_L_ports 57 = .ok (.invokevirtual 50, 3) := by decide +kernel
theorem d_L_ports_60 : decode c_L_ports 60 = .ok (.ifCond .ne 7, 3) := by decide +kernel
theorem d_L_ports_63 : decode c_L_ports 63 = .ok (.iconst 1, 1) := by decide +kernel
theorem d_L_ports_64 : decode c_L_ports 64 = .ok (.goto 4, 3) := by decide +kernel
theorem d_L_ports_67 : decode c_L_ports 67 = .ok (.iconst 0, 1) := by decide +kernel
theorem d_L_ports_68 : decode c_L_ports 68 = .ok (.ireturn, 1) := by decide +kernel
theorem d_L_ports_69 : decode c_L_ports 69 = .ok (.aload_n 0, 1) := by decide +kernel
theorem d_L_ports_70 : decode c_L_ports 70 = .ok (.iload_n 1, 1) := by decide +kernel
theorem d_L_ports_71 : decode c_L_ports 71 = .ok (.iload 6, 2) := by decide +kernel
theorem d_L_ports_73 : decode c_L_ports 73 = .ok (.bipush 10, 2) := by decide +kernel
theorem d_L_ports_75 : decode c_L_ports 75 = .ok (.irem, 1) := by decide +kernel
theorem d_L_ports_76 : decode c_L_ports 76 = .ok (.iload 4, 2) := by decide +kernel
theorem d_L_ports_78 : decode c_L_ports 78 = .ok (.invokevirtual 170, 3) := by decide +kernel
theorem d_L_ports_81 : decode c_L_ports 81 = .ok (.iload_n 1, 1) := by decide +kernel
theorem d_L_ports_82 : decode c_L_ports 82 = .ok (.if_icmp .eq 30, 3) := by decide +kernel
theorem d_L_ports_85 : decode c_L_ports 85 = .ok (.aload_n 0, 1) := by decide +kernel
theorem d_L_ports_86 : decode c_L_ports 86 = .ok (.iload_n 1, 1) := by decide +kernel
theorem d_L_ports_87 : decode c_L_ports 87 = .ok (.iload 4, 2) := by decide +kernel
theorem d_L_ports_89 : decode c_L_ports 89 = .ok (.invokevirtual 173, 3) := by decide +kernel
theorem d_L_ports_92 : decode c_L_ports 92 = .ok (.iconst 1, 1) := by decide +kernel
theorem d_L_ports_93 : decode c_L_ports 93 = .ok (.if_icmp .lt 23, 3) := by decide +kernel
theorem d_L_ports_96 : decode c_L_ports 96 = .ok (.aload_n 0, 1) := by decide +kernel
theorem d_L_ports_97 : decode c_L_ports 97 = .ok (.iload_n 1, 1) := by decide +kernel
theorem d_L_ports_98 : decode c_L_ports 98 = .ok (.iload 6, 2) := by decide +kernel
theorem d_L_ports_100 : decode c_L_ports 100 = .ok (.bipush 10, 2) := by decide +kernel
theorem d_L_ports_102 : decode c_L_ports 102 = .ok (.irem, 1) := by decide +kernel
theorem d_L_ports_103 : decode c_L_ports 103 = .ok (.iload 4, 2) := by decide +kernel
theorem d_L_ports_105 : decode c_L_ports 105 = .ok (.invokevirtual 170, 3) := by decide +kernel
theorem d_L_ports_108 : decode c_L_ports 108 = .ok (.iload_n 1, 1) := by decide +kernel
theorem d_L_ports_109 : decode c_L_ports 109 = .ok (.if_icmp .ne 7, 3) := by decide +kernel
theorem d_L_ports_112 : decode c_L_ports 112 = .ok (.iconst 1, 1) := by decide +kernel
theorem d_L_ports_113 : decode c_L_ports 113 = .ok (.goto 4, 3) := by decide +kernel
theorem d_L_ports_116 : decode c_L_ports 116 = .ok (.iconst 0, 1) := by decide +kernel
theorem d_L_ports_117 : decode c_L_ports 117 = .ok (.istore 8, 2) := by decide +kernel
theorem d_L_ports_119 : decode c_L_ports 119 = .ok (.iload 8, 2) := by decide +kernel
theorem d_L_ports_121 : decode c_L_ports 121 = .ok (.ifCond .eq 22, 3) := by decide +kernel
theorem d_L_ports_124 : decode c_L_ports 124 = .ok (.iload 7, 2) := by decide +kernel
theorem d_L_ports_126 : decode c_L_ports 126 = .ok (.iconst (-1), 1) := by decide +kernel
theorem d_L_ports_127 : decode c_L_ports 127 = .ok (.if_icmp .eq 12, 3) := by decide +kernel
theorem d_L_ports_130 : decode c_L_ports 130 = .ok (.aload_n 0, 1) := by decide +kernel
theorem d_L_ports_131 : decode c_L_ports 131 = .ok (.iload 7, 2) := by decide +kernel
theorem d_L_ports_133 : decode c_L_ports 133 = .ok (.invokevirtual 50, 3) := by decide +kernel
theorem d_L_ports_136 : decode c_L_ports 136 = .ok (.ifCond .ne 7, 3) := by decide +kernel
theorem d_L_ports_139 : decode c_L_ports 139 = .ok (.iconst 1, 1) := by decide +kernel
theorem d_L_ports_140 : decode c_L_ports 140 = .ok (.goto 4, 3) := by decide +kernel
theorem d_L_ports_143 : decode c_L_ports 143 = .ok (.iconst 0, 1) := by decide +kernel
theorem d_L_ports_144 : decode c_L_ports 144 = .ok (.ireturn, 1) := by decide +kernel
abbrev c_L_areGroups : ByteArray := method_14_code
abbrev y_L_areGroups : MethodName := { cls := "ContainerHostLaw", name := "areGroups", desc := "(LContainerHost;[I[I)Z" }
abbrev k_L_areGroups : Cond := .code y_L_areGroups c_L_areGroups 9 (Option.some FieldType.boolean)
theorem d_L_areGroups_0 : decode c_L_areGroups 0 = .ok (.iconst 1, 1) := by decide +kernel
theorem d_L_areGroups_1 : decode c_L_areGroups 1 = .ok (.istore_n 3, 1) := by decide +kernel
theorem d_L_areGroups_2 : decode c_L_areGroups 2 = .ok (.iconst 0, 1) := by decide +kernel
theorem d_L_areGroups_3 : decode c_L_areGroups 3 = .ok (.istore 4, 2) := by decide +kernel
theorem d_L_areGroups_5 : decode c_L_areGroups 5 = .ok (.iload 4, 2) := by decide +kernel
theorem d_L_areGroups_7 : decode c_L_areGroups 7 = .ok (.aload_n 2, 1) := by decide +kernel
theorem d_L_areGroups_8 : decode c_L_areGroups 8 = .ok (.bipush 21, 2) := by decide +kernel
theorem d_L_areGroups_10 : decode c_L_areGroups 10 = .ok (.iaload, 1) := by decide +kernel
theorem d_L_areGroups_11 : decode c_L_areGroups 11 = .ok (.if_icmp .ge 157, 3) := by decide +kernel
theorem d_L_areGroups_14 : decode c_L_areGroups 14 = .ok (.iload_n 3, 1) := by decide +kernel
theorem d_L_areGroups_15 : decode c_L_areGroups 15 = .ok (.ifCond .eq 153, 3) := by decide +kernel
theorem d_L_areGroups_18 : decode c_L_areGroups 18 = .ok (.iconst 0, 1) := by decide +kernel
theorem d_L_areGroups_19 : decode c_L_areGroups 19 = .ok (.istore 5, 2) := by decide +kernel
theorem d_L_areGroups_21 : decode c_L_areGroups 21 = .ok (.iconst 0, 1) := by decide +kernel
theorem d_L_areGroups_22 : decode c_L_areGroups 22 = .ok (.istore 6, 2) := by decide +kernel
theorem d_L_areGroups_24 : decode c_L_areGroups 24 = .ok (.iload 6, 2) := by decide +kernel
theorem d_L_areGroups_26 : decode c_L_areGroups 26 = .ok (.aload_n 2, 1) := by decide +kernel
theorem d_L_areGroups_27 : decode c_L_areGroups 27 = .ok (.bipush 22, 2) := by decide +kernel
theorem d_L_areGroups_29 : decode c_L_areGroups 29 = .ok (.iaload, 1) := by decide +kernel
theorem d_L_areGroups_30 : decode c_L_areGroups 30 = .ok (.if_icmp .ge 78, 3) := by decide +kernel
theorem d_L_areGroups_33 : decode c_L_areGroups 33 = .ok (.iconst 0, 1) := by decide +kernel
theorem d_L_areGroups_34 : decode c_L_areGroups 34 = .ok (.istore 7, 2) := by decide +kernel
theorem d_L_areGroups_36 : decode c_L_areGroups 36 = .ok (.aload_n 1, 1) := by decide +kernel
theorem d_L_areGroups_37 : decode c_L_areGroups 37 = .ok (.bipush 44, 2) := by decide +kernel
theorem d_L_areGroups_39 : decode c_L_areGroups 39 = .ok (.iload 6, 2) := by decide +kernel
theorem d_L_areGroups_41 : decode c_L_areGroups 41 = .ok (.iadd, 1) := by decide +kernel
theorem d_L_areGroups_42 : decode c_L_areGroups 42 = .ok (.iaload, 1) := by decide +kernel
theorem d_L_areGroups_43 : decode c_L_areGroups 43 = .ok (.istore 8, 2) := by decide +kernel
theorem d_L_areGroups_45 : decode c_L_areGroups 45 = .ok (.iload 8, 2) := by decide +kernel
theorem d_L_areGroups_47 : decode c_L_areGroups 47 = .ok (.iconst (-1), 1) := by decide +kernel
theorem d_L_areGroups_48 : decode c_L_areGroups 48 = .ok (.if_icmp .eq 34, 3) := by decide +kernel
theorem d_L_areGroups_51 : decode c_L_areGroups 51 = .ok (.iload 7, 2) := by decide +kernel
theorem d_L_areGroups_53 : decode c_L_areGroups 53 = .ok (.ifCond .ne 10, 3) := by decide +kernel
theorem d_L_areGroups_56 : decode c_L_areGroups 56 = .ok (.iload 8, 2) := by decide +kernel
theorem d_L_areGroups_58 : decode c_L_areGroups 58 = .ok (.iload 4, 2) := by decide +kernel
theorem d_L_areGroups_60 : decode c_L_areGroups 60 = .ok (.if_icmp .ne 7, 3) := by decide +kernel
theorem d_L_areGroups_63 : decode c_L_areGroups 63 = .ok (.iconst 1, 1) := by decide +kernel
theorem d_L_areGroups_64 : decode c_L_areGroups 64 = .ok (.goto 4, 3) := by decide +kernel
theorem d_L_areGroups_67 : decode c_L_areGroups 67 = .ok (.iconst 0, 1) := by decide +kernel
theorem d_L_areGroups_68 : decode c_L_areGroups 68 = .ok (.istore 7, 2) := by decide +kernel
theorem d_L_areGroups_70 : decode c_L_areGroups 70 = .ok (.aload_n 1, 1) := by decide +kernel
theorem d_L_areGroups_71 : decode c_L_areGroups 71 = .ok (.bipush 20, 2) := by decide +kernel
theorem d_L_areGroups_73 : decode c_L_areGroups 73 = .ok (.iload 8, 2) := by decide +kernel
theorem d_L_areGroups_75 : decode c_L_areGroups 75 = .ok (.iadd, 1) := by decide +kernel
theorem d_L_areGroups_76 : decode c_L_areGroups 76 = .ok (.iaload, 1) := by decide +kernel
theorem d_L_areGroups_77 : decode c_L_areGroups 77 = .ok (.istore 8, 2) := by decide +kernel
theorem d_L_areGroups_79 : decode c_L_areGroups 79 = .ok (.goto (-34), 3) := by decide +kernel
theorem d_L_areGroups_82 : decode c_L_areGroups 82 = .ok (.iload 5, 2) := by decide +kernel
theorem d_L_areGroups_84 : decode c_L_areGroups 84 = .ok (.iload 7, 2) := by decide +kernel
theorem d_L_areGroups_86 : decode c_L_areGroups 86 = .ok (.ifCond .eq 12, 3) := by decide +kernel
theorem d_L_areGroups_89 : decode c_L_areGroups 89 = .ok (.aload_n 0, 1) := by decide +kernel
theorem d_L_areGroups_90 : decode c_L_areGroups 90 = .ok (.iload 6, 2) := by decide +kernel
theorem d_L_areGroups_92 : decode c_L_areGroups 92 = .ok (.invokevirtual 53, 3) := by decide +kernel
theorem d_L_areGroups_95 : decode c_L_areGroups 95 = .ok (.goto 4, 3) := by decide +kernel
theorem d_L_areGroups_98 : decode c_L_areGroups 98 = .ok (.iconst 0, 1) := by decide +kernel
theorem d_L_areGroups_99 : decode c_L_areGroups 99 = .ok (.iadd, 1) := by decide +kernel
theorem d_L_areGroups_100 : decode c_L_areGroups 100 = .ok (.istore 5, 2) := by decide +kernel
theorem d_L_areGroups_102 : decode c_L_areGroups 102 = .ok (.iinc 6 1, 3) := by decide +kernel
theorem d_L_areGroups_105 : decode c_L_areGroups 105 = .ok (.goto (-81), 3) := by decide +kernel
theorem d_L_areGroups_108 : decode c_L_areGroups 108 = .ok (.aload_n 0, 1) := by decide +kernel
theorem d_L_areGroups_109 : decode c_L_areGroups 109 = .ok (.iload 4, 2) := by decide +kernel
theorem d_L_areGroups_111 : decode c_L_areGroups 111 = .ok (.invokevirtual 33, 3) := by decide +kernel
theorem d_L_areGroups_114 : decode c_L_areGroups 114 = .ok (.iload 5, 2) := by decide +kernel
theorem d_L_areGroups_116 : decode c_L_areGroups 116 = .ok (.if_icmp .ne 44, 3) := by decide +kernel
theorem d_L_areGroups_119 : decode c_L_areGroups 119 = .ok (.iload 5, 2) := by decide +kernel
theorem d_L_areGroups_121 : decode c_L_areGroups 121 = .ok (.aload_n 1, 1) := by decide +kernel
theorem d_L_areGroups_122 : decode c_L_areGroups 122 = .ok (.bipush 28, 2) := by decide +kernel
theorem d_L_areGroups_124 : decode c_L_areGroups 124 = .ok (.iload 4, 2) := by decide +kernel
theorem d_L_areGroups_126 : decode c_L_areGroups 126 = .ok (.iadd, 1) := by decide +kernel
theorem d_L_areGroups_127 : decode c_L_areGroups 127 = .ok (.iaload, 1) := by decide +kernel
theorem d_L_areGroups_128 : decode c_L_areGroups 128 = .ok (.if_icmp .gt 32, 3) := by decide +kernel
theorem d_L_areGroups_131 : decode c_L_areGroups 131 = .ok (.aload_n 0, 1) := by decide +kernel
theorem d_L_areGroups_132 : decode c_L_areGroups 132 = .ok (.iload 4, 2) := by decide +kernel
theorem d_L_areGroups_134 : decode c_L_areGroups 134 = .ok (.invokevirtual 36, 3) := by decide +kernel
theorem d_L_areGroups_137 : decode c_L_areGroups 137 = .ok (.aload_n 1, 1) := by decide +kernel
theorem d_L_areGroups_138 : decode c_L_areGroups 138 = .ok (.bipush 36, 2) := by decide +kernel
theorem d_L_areGroups_140 : decode c_L_areGroups 140 = .ok (.iload 4, 2) := by decide +kernel
theorem d_L_areGroups_142 : decode c_L_areGroups 142 = .ok (.iadd, 1) := by decide +kernel
theorem d_L_areGroups_143 : decode c_L_areGroups 143 = .ok (.iaload, 1) := by decide +kernel
theorem d_L_areGroups_144 : decode c_L_areGroups 144 = .ok (.if_icmp .gt 16, 3) := by decide +kernel
theorem d_L_areGroups_147 : decode c_L_areGroups 147 = .ok (.aload_n 0, 1) := by decide +kernel
theorem d_L_areGroups_148 : decode c_L_areGroups 148 = .ok (.iload 4, 2) := by decide +kernel
theorem d_L_areGroups_150 : decode c_L_areGroups 150 = .ok (.invokevirtual 36, 3) := by decide +kernel
theorem d_L_areGroups_153 : decode c_L_areGroups 153 = .ok (.ifCond .lt 7, 3) := by decide +kernel
theorem d_L_areGroups_156 : decode c_L_areGroups 156 = .ok (.iconst 1, 1) := by decide +kernel
theorem d_L_areGroups_157 : decode c_L_areGroups 157 = .ok (.goto 4, 3) := by decide +kernel
theorem d_L_areGroups_160 : decode c_L_areGroups 160 = .ok (.iconst 0, 1) := by decide +kernel
theorem d_L_areGroups_161 : decode c_L_areGroups 161 = .ok (.istore_n 3, 1) := by decide +kernel
theorem d_L_areGroups_162 : decode c_L_areGroups 162 = .ok (.iinc 4 1, 3) := by decide +kernel
theorem d_L_areGroups_165 : decode c_L_areGroups 165 = .ok (.goto (-160), 3) := by decide +kernel
theorem d_L_areGroups_168 : decode c_L_areGroups 168 = .ok (.iload_n 3, 1) := by decide +kernel
theorem d_L_areGroups_169 : decode c_L_areGroups 169 = .ok (.ireturn, 1) := by decide +kernel
abbrev c_L_areContainers : ByteArray := method_15_code
abbrev y_L_areContainers : MethodName := { cls := "ContainerHostLaw", name := "areContainers", desc := "(LContainerHost;)Z" }
abbrev k_L_areContainers : Cond := .code y_L_areContainers c_L_areContainers 5 (Option.some FieldType.boolean)
theorem d_L_areContainers_0 : decode c_L_areContainers 0 = .ok (.iconst 1, 1) := by decide +kernel
theorem d_L_areContainers_1 : decode c_L_areContainers 1 = .ok (.istore_n 1, 1) := by decide +kernel
theorem d_L_areContainers_2 : decode c_L_areContainers 2 = .ok (.iconst 0, 1) := by decide +kernel
theorem d_L_areContainers_3 : decode c_L_areContainers 3 = .ok (.istore_n 2, 1) := by decide +kernel
theorem d_L_areContainers_4 : decode c_L_areContainers 4 = .ok (.iload_n 2, 1) := by decide +kernel
theorem d_L_areContainers_5 : decode c_L_areContainers 5 = .ok (.aload_n 0, 1) := by decide +kernel
theorem d_L_areContainers_6 : decode c_L_areContainers 6 = .ok (.invokevirtual 46, 3) := by decide +kernel
theorem d_L_areContainers_9 : decode c_L_areContainers 9 = .ok (.if_icmp .ge 181, 3) := by decide +kernel
theorem d_L_areContainers_12 : decode c_L_areContainers 12 = .ok (.iload_n 1, 1) := by decide +kernel
theorem d_L_areContainers_13 : decode c_L_areContainers 13 = .ok (.ifCond .eq 177, 3) := by decide +kernel
theorem d_L_areContainers_16 : decode c_L_areContainers 16 = .ok (.aload_n 0, 1) := by decide +kernel
theorem d_L_areContainers_17 : decode c_L_areContainers 17 = .ok (.iload_n 2, 1) := by decide +kernel
theorem d_L_areContainers_18 : decode c_L_areContainers 18 = .ok (.invokevirtual 59, 3) := by decide +kernel
theorem d_L_areContainers_21 : decode c_L_areContainers 21 = .ok (.istore_n 3, 1) := by decide +kernel
theorem d_L_areContainers_22 : decode c_L_areContainers 22 = .ok (.aload_n 0, 1) := by decide +kernel
theorem d_L_areContainers_23 : decode c_L_areContainers 23 = .ok (.iload_n 2, 1) := by decide +kernel
theorem d_L_areContainers_24 : decode c_L_areContainers 24 = .ok (.invokevirtual 50, 3) := by decide +kernel
theorem d_L_areContainers_27 : decode c_L_areContainers 27 = .ok (.iconst 2, 1) := by decide +kernel
theorem d_L_areContainers_28 : decode c_L_areContainers 28 = .ok (.if_icmp .lt 16, 3) := by decide +kernel
theorem d_L_areContainers_31 : decode c_L_areContainers 31 = .ok (.aload_n 0, 1) := by decide +kernel
theorem d_L_areContainers_32 : decode c_L_areContainers 32 = .ok (.iload_n 2, 1) := by decide +kernel
theorem d_L_areContainers_33 : decode c_L_areContainers 33 = .ok (.invokevirtual 53, 3) := by decide +kernel
theorem d_L_areContainers_36 : decode c_L_areContainers 36 = .ok (.ifCond .ne 63, 3) := by decide +kernel
theorem d_L_areContainers_39 : decode c_L_areContainers 39 = .ok (.iload_n 3, 1) := by decide +kernel
theorem d_L_areContainers_40 : decode c_L_areContainers 40 = .ok (.iconst (-1), 1) := by decide +kernel
theorem d_L_areContainers_41 : decode c_L_areContainers 41 = .ok (.if_icmp .ne 58, 3) := by decide +kernel
theorem d_L_areContainers_44 : decode c_L_areContainers 44 = .ok (.aload_n 0, 1) := by decide +kernel
theorem d_L_areContainers_45 : decode c_L_areContainers 45 = .ok (.iload_n 2, 1) := by decide +kernel
theorem d_L_areContainers_46 : decode c_L_areContainers 46 = .ok (.invokevirtual 62, 3) := by decide +kernel
theorem d_L_areContainers_49 : decode c_L_areContainers 49 = .ok (.bipush 15, 2) := by decide +kernel
theorem d_L_areContainers_51 : decode c_L_areContainers 51 = .ok (.iand, 1) := by decide +kernel
theorem d_L_areContainers_52 : decode c_L_areContainers 52 = .ok (.aload_n 0, 1) := by decide +kernel
theorem d_L_areContainers_53 : decode c_L_areContainers 53 = .ok (.iload_n 2, 1) := by decide +kernel
theorem d_L_areContainers_54 : decode c_L_areContainers 54 = .ok (.invokevirtual 62, 3) := by decide +kernel
theorem d_L_areContainers_57 : decode c_L_areContainers 57 = .ok (.iconst 4, 1) := by decide +kernel
theorem d_L_areContainers_58 : decode c_L_areContainers 58 = .ok (.ishr, 1) := by decide +kernel
theorem d_L_areContainers_59 : decode c_L_areContainers 59 = .ok (.iconst (-1), 1) := by decide +kernel
theorem d_L_areContainers_60 : decode c_L_areContainers 60 = .ok (.ixor, 1) := by decide +kernel
theorem d_L_areContainers_61 : decode c_L_areContainers 61 = .ok (.iand, 1) := by decide +kernel
theorem d_L_areContainers_62 : decode c_L_areContainers 62 = .ok (.ifCond .ne 37, 3) := by decide +kernel
theorem d_L_areContainers_65 : decode c_L_areContainers 65 = .ok (.iload_n 3, 1) := by decide +kernel
theorem d_L_areContainers_66 : decode c_L_areContainers 66 = .ok (.iconst (-1), 1) := by decide +kernel
theorem d_L_areContainers_67 : decode c_L_areContainers 67 = .ok (.if_icmp .eq 28, 3) := by decide +kernel
theorem d_L_areContainers_70 : decode c_L_areContainers 70 = .ok (.iload_n 3, 1) := by decide +kernel
theorem d_L_areContainers_71 : decode c_L_areContainers 71 = .ok (.bipush 10, 2) := by decide +kernel
theorem d_L_areContainers_73 : decode c_L_areContainers 73 = .ok (.irem, 1) := by decide +kernel
theorem d_L_areContainers_74 : decode c_L_areContainers 74 = .ok (.iconst 1, 1) := by decide +kernel
theorem d_L_areContainers_75 : decode c_L_areContainers 75 = .ok (.if_icmp .lt 24, 3) := by decide +kernel
theorem d_L_areContainers_78 : decode c_L_areContainers 78 = .ok (.iload_n 3, 1) := by decide +kernel
theorem d_L_areContainers_79 : decode c_L_areContainers 79 = .ok (.bipush 10, 2) := by decide +kernel
theorem d_L_areContainers_81 : decode c_L_areContainers 81 = .ok (.irem, 1) := by decide +kernel
theorem d_L_areContainers_82 : decode c_L_areContainers 82 = .ok (.bipush 6, 2) := by decide +kernel
theorem d_L_areContainers_84 : decode c_L_areContainers 84 = .ok (.if_icmp .gt 15, 3) := by decide +kernel
theorem d_L_areContainers_87 : decode c_L_areContainers 87 = .ok (.iload_n 3, 1) := by decide +kernel
theorem d_L_areContainers_88 : decode c_L_areContainers 88 = .ok (.bipush 10, 2) := by decide +kernel
theorem d_L_areContainers_90 : decode c_L_areContainers 90 = .ok (.idiv, 1) := by decide +kernel
theorem d_L_areContainers_91 : decode c_L_areContainers 91 = .ok (.iconst 3, 1) := by decide +kernel
theorem d_L_areContainers_92 : decode c_L_areContainers 92 = .ok (.if_icmp .gt 7, 3) := by decide +kernel
theorem d_L_areContainers_95 : decode c_L_areContainers 95 = .ok (.iconst 1, 1) := by decide +kernel
theorem d_L_areContainers_96 : decode c_L_areContainers 96 = .ok (.goto 4, 3) := by decide +kernel
theorem d_L_areContainers_99 : decode c_L_areContainers 99 = .ok (.iconst 0, 1) := by decide +kernel
theorem d_L_areContainers_100 : decode c_L_areContainers 100 = .ok (.istore_n 1, 1) := by decide +kernel
theorem d_L_areContainers_101 : decode c_L_areContainers 101 = .ok (.iconst 0, 1) := by decide +kernel
theorem d_L_areContainers_102 : decode c_L_areContainers 102 = .ok (.istore 4, 2) := by decide +kernel
theorem d_L_areContainers_104 : decode c_L_areContainers 104 = .ok (.iload 4, 2) := by decide +kernel
theorem d_L_areContainers_106 : decode c_L_areContainers 106 = .ok (.iload_n 2, 1) := by decide +kernel
theorem d_L_areContainers_107 : decode c_L_areContainers 107 = .ok (.if_icmp .ge 34, 3) := by decide +kernel
theorem d_L_areContainers_110 : decode c_L_areContainers 110 = .ok (.iload_n 1, 1) := by decide +kernel
theorem d_L_areContainers_111 : decode c_L_areContainers 111 = .ok (.ifCond .eq 22, 3) := by decide +kernel
theorem d_L_areContainers_114 : decode c_L_areContainers 114 = .ok (.iload_n 3, 1) := by decide +kernel
theorem d_L_areContainers_115 : decode c_L_areContainers 115 = .ok (.iconst (-1), 1) := by decide +kernel
theorem d_L_areContainers_116 : decode c_L_areContainers 116 = .ok (.if_icmp .eq 13, 3) := by decide +kernel
theorem d_L_areContainers_119 : decode c_L_areContainers 119 = .ok (.aload_n 0, 1) := by decide +kernel
theorem d_L_areContainers_120 : decode c_L_areContainers 120 = .ok (.iload 4, 2) := by decide +kernel
theorem d_L_areContainers_122 : decode c_L_areContainers 122 = .ok (.invokevirtual 59, 3) := by decide +kernel
theorem d_L_areContainers_125 : decode c_L_areContainers 125 = .ok (.iload_n 3, 1) := by decide +kernel
theorem d_L_areContainers_126 : decode c_L_areContainers 126 = .ok (.if_icmp .eq 7, 3) := by decide +kernel
theorem d_L_areContainers_129 : decode c_L_areContainers 129 = .ok (.iconst 1, 1) := by decide +kernel
theorem d_L_areContainers_130 : decode c_L_areContainers 130 = .ok (.goto 4, 3) := by decide +kernel
theorem d_L_areContainers_133 : decode c_L_areContainers 133 = .ok (.iconst 0, 1) := by decide +kernel
theorem d_L_areContainers_134 : decode c_L_areContainers 134 = .ok (.istore_n 1, 1) := by decide +kernel
theorem d_L_areContainers_135 : decode c_L_areContainers 135 = .ok (.iinc 4 1, 3) := by decide +kernel
theorem d_L_areContainers_138 : decode c_L_areContainers 138 = .ok (.goto (-34), 3) := by decide +kernel
theorem d_L_areContainers_141 : decode c_L_areContainers 141 = .ok (.iconst 0, 1) := by decide +kernel
theorem d_L_areContainers_142 : decode c_L_areContainers 142 = .ok (.istore 4, 2) := by decide +kernel
theorem d_L_areContainers_144 : decode c_L_areContainers 144 = .ok (.iload 4, 2) := by decide +kernel
theorem d_L_areContainers_146 : decode c_L_areContainers 146 = .ok (.bipush 32, 2) := by decide +kernel
theorem d_L_areContainers_148 : decode c_L_areContainers 148 = .ok (.if_icmp .ge 36, 3) := by decide +kernel
theorem d_L_areContainers_151 : decode c_L_areContainers 151 = .ok (.iload_n 1, 1) := by decide +kernel
theorem d_L_areContainers_152 : decode c_L_areContainers 152 = .ok (.ifCond .eq 32, 3) := by decide +kernel
theorem d_L_areContainers_155 : decode c_L_areContainers 155 = .ok (.aload_n 0, 1) := by decide +kernel
theorem d_L_areContainers_156 : decode c_L_areContainers 156 = .ok (.iload_n 2, 1) := by decide +kernel
theorem d_L_areContainers_157 : decode c_L_areContainers 157 = .ok (.iload 4, 2) := by decide +kernel
theorem d_L_areContainers_159 : decode c_L_areContainers 159 = .ok (.invokevirtual 65, 3) := by decide +kernel
theorem d_L_areContainers_162 : decode c_L_areContainers 162 = .ok (.aload_n 0, 1) := by decide +kernel
theorem d_L_areContainers_163 : decode c_L_areContainers 163 = .ok (.iload_n 2, 1) := by decide +kernel
theorem d_L_areContainers_164 : decode c_L_areContainers 164 = .ok (.iload 4, 2) := by decide +kernel
theorem d_L_areContainers_166 : decode c_L_areContainers 166 = .ok (.invokevirtual 176, 3) := by decide +kernel
theorem d_L_areContainers_169 : decode c_L_areContainers 169 = .ok (.if_icmp .ne 7, 3) := by decide +kernel
theorem d_L_areContainers_172 : decode c_L_areContainers 172 = .ok (.iconst 1, 1) := by decide +kernel
theorem d_L_areContainers_173 : decode c_L_areContainers 173 = .ok (.goto 4, 3) := by decide +kernel
theorem d_L_areContainers_176 : decode c_L_areContainers 176 = .ok (.iconst 0, 1) := by decide +kernel
theorem d_L_areContainers_177 : decode c_L_areContainers 177 = .ok (.istore_n 1, 1) := by decide +kernel
theorem d_L_areContainers_178 : decode c_L_areContainers 178 = .ok (.iinc 4 1, 3) := by decide +kernel
theorem d_L_areContainers_181 : decode c_L_areContainers 181 = .ok (.goto (-37), 3) := by decide +kernel
theorem d_L_areContainers_184 : decode c_L_areContainers 184 = .ok (.iinc 2 1, 3) := by decide +kernel
theorem d_L_areContainers_187 : decode c_L_areContainers 187 = .ok (.goto (-183), 3) := by decide +kernel
theorem d_L_areContainers_190 : decode c_L_areContainers 190 = .ok (.iload_n 1, 1) := by decide +kernel
theorem d_L_areContainers_191 : decode c_L_areContainers 191 = .ok (.ireturn, 1) := by decide +kernel
theorem d_law_0 : decode code 0 = .ok (.new 13, 3) := by decide +kernel
theorem d_law_3 : decode code 3 = .ok (.dup, 1) := by decide +kernel
theorem d_law_4 : decode code 4 = .ok (.invokespecial 179, 3) := by decide +kernel
theorem d_law_7 : decode code 7 = .ok (.astore_n 1, 1) := by decide +kernel
theorem d_law_8 : decode code 8 = .ok (.bipush 64, 2) := by decide +kernel
theorem d_law_10 : decode code 10 = .ok (.newarray .int, 2) := by decide +kernel
theorem d_law_12 : decode code 12 = .ok (.astore_n 2, 1) := by decide +kernel
theorem d_law_13 : decode code 13 = .ok (.bipush 24, 2) := by decide +kernel
theorem d_law_15 : decode code 15 = .ok (.newarray .int, 2) := by decide +kernel
theorem d_law_17 : decode code 17 = .ok (.astore_n 3, 1) := by decide +kernel
theorem d_law_18 : decode code 18 = .ok (.aload_n 2, 1) := by decide +kernel
theorem d_law_19 : decode code 19 = .ok (.bipush 20, 2) := by decide +kernel
theorem d_law_21 : decode code 21 = .ok (.iconst (-1), 1) := by decide +kernel
theorem d_law_22 : decode code 22 = .ok (.iastore, 1) := by decide +kernel
theorem d_law_23 : decode code 23 = .ok (.aload_n 2, 1) := by decide +kernel
theorem d_law_24 : decode code 24 = .ok (.bipush 28, 2) := by decide +kernel
theorem d_law_26 : decode code 26 = .ok (.sipush 10000, 3) := by decide +kernel
theorem d_law_29 : decode code 29 = .ok (.iastore, 1) := by decide +kernel
theorem d_law_30 : decode code 30 = .ok (.aload_n 2, 1) := by decide +kernel
theorem d_law_31 : decode code 31 = .ok (.bipush 36, 2) := by decide +kernel
theorem d_law_33 : decode code 33 = .ok (.bipush 100, 2) := by decide +kernel
theorem d_law_35 : decode code 35 = .ok (.iastore, 1) := by decide +kernel
theorem d_law_36 : decode code 36 = .ok (.aload_n 3, 1) := by decide +kernel
theorem d_law_37 : decode code 37 = .ok (.bipush 21, 2) := by decide +kernel
theorem d_law_39 : decode code 39 = .ok (.iconst 1, 1) := by decide +kernel
theorem d_law_40 : decode code 40 = .ok (.iastore, 1) := by decide +kernel
theorem d_law_41 : decode code 41 = .ok (.aload_n 1, 1) := by decide +kernel
theorem d_law_42 : decode code 42 = .ok (.invokevirtual 46, 3) := by decide +kernel
theorem d_law_45 : decode code 45 = .ok (.ifCond .ne 25, 3) := by decide +kernel
theorem d_law_48 : decode code 48 = .ok (.aload_n 1, 1) := by decide +kernel
theorem d_law_49 : decode code 49 = .ok (.iconst 0, 1) := by decide +kernel
theorem d_law_50 : decode code 50 = .ok (.invokevirtual 33, 3) := by decide +kernel
theorem d_law_53 : decode code 53 = .ok (.ifCond .ne 17, 3) := by decide +kernel
theorem d_law_56 : decode code 56 = .ok (.aload_n 1, 1) := by decide +kernel
theorem d_law_57 : decode code 57 = .ok (.sipush 10000, 3) := by decide +kernel
theorem d_law_60 : decode code 60 = .ok (.invokevirtual 75, 3) := by decide +kernel
theorem d_law_63 : decode code 63 = .ok (.ifCond .ne 7, 3) := by decide +kernel
theorem d_law_66 : decode code 66 = .ok (.iconst 1, 1) := by decide +kernel
theorem d_law_67 : decode code 67 = .ok (.goto 4, 3) := by decide +kernel
theorem d_law_70 : decode code 70 = .ok (.iconst 0, 1) := by decide +kernel
theorem d_law_71 : decode code 71 = .ok (.istore 4, 2) := by decide +kernel
theorem d_law_73 : decode code 73 = .ok (.aload_n 0, 1) := by decide +kernel
theorem d_law_74 : decode code 74 = .ok (.arraylength, 1) := by decide +kernel
theorem d_law_75 : decode code 75 = .ok (.iconst 3, 1) := by decide +kernel
theorem d_law_76 : decode code 76 = .ok (.idiv, 1) := by decide +kernel
theorem d_law_77 : decode code 77 = .ok (.bipush 60, 2) := by decide +kernel
theorem d_law_79 : decode code 79 = .ok (.if_icmp .le 8, 3) := by decide +kernel
theorem d_law_82 : decode code 82 = .ok (.bipush 60, 2) := by decide +kernel
theorem d_law_84 : decode code 84 = .ok (.goto 7, 3) := by decide +kernel
theorem d_law_87 : decode code 87 = .ok (.aload_n 0, 1) := by decide +kernel
theorem d_law_88 : decode code 88 = .ok (.arraylength, 1) := by decide +kernel
theorem d_law_89 : decode code 89 = .ok (.iconst 3, 1) := by decide +kernel
theorem d_law_90 : decode code 90 = .ok (.idiv, 1) := by decide +kernel
theorem d_law_91 : decode code 91 = .ok (.istore 5, 2) := by decide +kernel
theorem d_law_93 : decode code 93 = .ok (.iconst 0, 1) := by decide +kernel
theorem d_law_94 : decode code 94 = .ok (.istore 6, 2) := by decide +kernel
theorem d_law_96 : decode code 96 = .ok (.iload 6, 2) := by decide +kernel
theorem d_law_98 : decode code 98 = .ok (.iload 5, 2) := by decide +kernel
theorem d_law_100 : decode code 100 = .ok (.if_icmp .ge 74, 3) := by decide +kernel
theorem d_law_103 : decode code 103 = .ok (.iload 4, 2) := by decide +kernel
theorem d_law_105 : decode code 105 = .ok (.ifCond .eq 69, 3) := by decide +kernel
theorem d_law_108 : decode code 108 = .ok (.aload_n 1, 1) := by decide +kernel
theorem d_law_109 : decode code 109 = .ok (.aload_n 2, 1) := by decide +kernel
theorem d_law_110 : decode code 110 = .ok (.aload_n 3, 1) := by decide +kernel
theorem d_law_111 : decode code 111 = .ok (.aload_n 0, 1) := by decide +kernel
theorem d_law_112 : decode code 112 = .ok (.iconst 3, 1) := by decide +kernel
theorem d_law_113 : decode code 113 = .ok (.iload 6, 2) := by decide +kernel
theorem d_law_115 : decode code 115 = .ok (.imul, 1) := by decide +kernel
theorem d_law_116 : decode code 116 = .ok (.invokestatic 180, 3) := by decide +kernel
theorem d_law_119 : decode code 119 = .ok (.aload_n 0, 1) := by decide +kernel
theorem d_law_120 : decode code 120 = .ok (.iconst 3, 1) := by decide +kernel
theorem d_law_121 : decode code 121 = .ok (.iload 6, 2) := by decide +kernel
theorem d_law_123 : decode code 123 = .ok (.imul, 1) := by decide +kernel
theorem d_law_124 : decode code 124 = .ok (.iconst 1, 1) := by decide +kernel
theorem d_law_125 : decode code 125 = .ok (.iadd, 1) := by decide +kernel
theorem d_law_126 : decode code 126 = .ok (.invokestatic 180, 3) := by decide +kernel
theorem d_law_129 : decode code 129 = .ok (.aload_n 0, 1) := by decide +kernel
theorem d_law_130 : decode code 130 = .ok (.iconst 3, 1) := by decide +kernel
theorem d_law_131 : decode code 131 = .ok (.iload 6, 2) := by decide +kernel
theorem d_law_133 : decode code 133 = .ok (.imul, 1) := by decide +kernel
theorem d_law_134 : decode code 134 = .ok (.iconst 2, 1) := by decide +kernel
theorem d_law_135 : decode code 135 = .ok (.iadd, 1) := by decide +kernel
theorem d_law_136 : decode code 136 = .ok (.invokestatic 180, 3) := by decide +kernel
theorem d_law_139 : decode code 139 = .ok (.invokestatic 184, 3) := by decide +kernel
theorem d_law_142 : decode code 142 = .ok (.ifCond .eq 23, 3) := by decide +kernel
theorem d_law_145 : decode code 145 = .ok (.aload_n 1, 1) := by decide +kernel
theorem d_law_146 : decode code 146 = .ok (.aload_n 2, 1) := by decide +kernel
theorem d_law_147 : decode code 147 = .ok (.aload_n 3, 1) := by decide +kernel
theorem d_law_148 : decode code 148 = .ok (.invokestatic 187, 3) := by decide +kernel
theorem d_law_151 : decode code 151 = .ok (.ifCond .eq 14, 3) := by decide +kernel
theorem d_law_154 : decode code 154 = .ok (.aload_n 1, 1) := by decide +kernel
theorem d_law_155 : decode code 155 = .ok (.invokestatic 191, 3) := by decide +kernel
theorem d_law_158 : decode code 158 = .ok (.ifCond .eq 7, 3) := by decide +kernel
theorem d_law_161 : decode code 161 = .ok (.iconst 1, 1) := by decide +kernel
theorem d_law_162 : decode code 162 = .ok (.goto 4, 3) := by decide +kernel
theorem d_law_165 : decode code 165 = .ok (.iconst 0, 1) := by decide +kernel
theorem d_law_166 : decode code 166 = .ok (.istore 4, 2) := by decide +kernel
theorem d_law_168 : decode code 168 = .ok (.iinc 6 1, 3) := by decide +kernel
theorem d_law_171 : decode code 171 = .ok (.goto (-75), 3) := by decide +kernel
theorem d_law_174 : decode code 174 = .ok (.iload 4, 2) := by decide +kernel
theorem d_law_176 : decode code 176 = .ok (.ireturn, 1) := by decide +kernel
