theorem d_m_init_0 : decode c_m_init 0 = .ok (.aload_n 0, 1) := by decide +kernel
theorem d_m_init_1 : decode c_m_init 1 = .ok (.invokespecial 1, 3) := by decide +kernel
theorem d_m_init_4 : decode c_m_init 4 = .ok (.aload_n 0, 1) := by decide +kernel
theorem d_m_init_5 : decode c_m_init 5 = .ok (.sipush 1120, 3) := by decide +kernel
theorem d_m_init_8 : decode c_m_init 8 = .ok (.newarray .int, 2) := by decide +kernel
theorem d_m_init_10 : decode c_m_init 10 = .ok (.putfield 7, 3) := by decide +kernel
theorem d_m_init_13 : decode c_m_init 13 = .ok (.aload_n 0, 1) := by decide +kernel
theorem d_m_init_14 : decode c_m_init 14 = .ok (.bipush 35, 2) := by decide +kernel
theorem d_m_init_16 : decode c_m_init 16 = .ok (.newarray .int, 2) := by decide +kernel
theorem d_m_init_18 : decode c_m_init 18 = .ok (.putfield 13, 3) := by decide +kernel
theorem d_m_init_21 : decode c_m_init 21 = .ok (.aload_n 0, 1) := by decide +kernel
theorem d_m_init_22 : decode c_m_init 22 = .ok (.bipush 10, 2) := by decide +kernel
theorem d_m_init_24 : decode c_m_init 24 = .ok (.newarray .int, 2) := by decide +kernel
theorem d_m_init_26 : decode c_m_init 26 = .ok (.putfield 16, 3) := by decide +kernel
theorem d_m_init_29 : decode c_m_init 29 = .ok (.aload_n 0, 1) := by decide +kernel
theorem d_m_init_30 : decode c_m_init 30 = .ok (.bipush 10, 2) := by decide +kernel
theorem d_m_init_32 : decode c_m_init 32 = .ok (.newarray .boolean, 2) := by decide +kernel
theorem d_m_init_34 : decode c_m_init 34 = .ok (.putfield 19, 3) := by decide +kernel
theorem d_m_init_37 : decode c_m_init 37 = .ok (.aload_n 0, 1) := by decide +kernel
theorem d_m_init_38 : decode c_m_init 38 = .ok (.iconst 1, 1) := by decide +kernel
theorem d_m_init_39 : decode c_m_init 39 = .ok (.putfield 23, 3) := by decide +kernel
theorem d_m_init_42 : decode c_m_init 42 = .ok (.aload_n 0, 1) := by decide +kernel
theorem d_m_init_43 : decode c_m_init 43 = .ok (.bipush 8, 2) := by decide +kernel
theorem d_m_init_45 : decode c_m_init 45 = .ok (.newarray .int, 2) := by decide +kernel
theorem d_m_init_47 : decode c_m_init 47 = .ok (.putfield 27, 3) := by decide +kernel
theorem d_m_init_50 : decode c_m_init 50 = .ok (.aload_n 0, 1) := by decide +kernel
theorem d_m_init_51 : decode c_m_init 51 = .ok (.bipush 8, 2) := by decide +kernel
theorem d_m_init_53 : decode c_m_init 53 = .ok (.newarray .int, 2) := by decide +kernel
theorem d_m_init_55 : decode c_m_init 55 = .ok (.putfield 30, 3) := by decide +kernel
theorem d_m_init_58 : decode c_m_init 58 = .ok (.aload_n 0, 1) := by decide +kernel
theorem d_m_init_59 : decode c_m_init 59 = .ok (.bipush 8, 2) := by decide +kernel
theorem d_m_init_61 : decode c_m_init 61 = .ok (.newarray .int, 2) := by decide +kernel
theorem d_m_init_63 : decode c_m_init 63 = .ok (.putfield 33, 3) := by decide +kernel
theorem d_m_init_66 : decode c_m_init 66 = .ok (.aload_n 0, 1) := by decide +kernel
theorem d_m_init_67 : decode c_m_init 67 = .ok (.bipush 8, 2) := by decide +kernel
theorem d_m_init_69 : decode c_m_init 69 = .ok (.newarray .int, 2) := by decide +kernel
theorem d_m_init_71 : decode c_m_init 71 = .ok (.putfield 36, 3) := by decide +kernel
theorem d_m_init_74 : decode c_m_init 74 = .ok (.aload_n 0, 1) := by decide +kernel
theorem d_m_init_75 : decode c_m_init 75 = .ok (.bipush 25, 2) := by decide +kernel
theorem d_m_init_77 : decode c_m_init 77 = .ok (.newarray .int, 2) := by decide +kernel
theorem d_m_init_79 : decode c_m_init 79 = .ok (.putfield 39, 3) := by decide +kernel
theorem d_m_init_82 : decode c_m_init 82 = .ok (.aload_n 0, 1) := by decide +kernel
theorem d_m_init_83 : decode c_m_init 83 = .ok (.bipush 25, 2) := by decide +kernel
theorem d_m_init_85 : decode c_m_init 85 = .ok (.newarray .int, 2) := by decide +kernel
theorem d_m_init_87 : decode c_m_init 87 = .ok (.putfield 42, 3) := by decide +kernel
theorem d_m_init_90 : decode c_m_init 90 = .ok (.aload_n 0, 1) := by decide +kernel
theorem d_m_init_91 : decode c_m_init 91 = .ok (.bipush 25, 2) := by decide +kernel
theorem d_m_init_93 : decode c_m_init 93 = .ok (.newarray .int, 2) := by decide +kernel
theorem d_m_init_95 : decode c_m_init 95 = .ok (.putfield 45, 3) := by decide +kernel
theorem d_m_init_98 : decode c_m_init 98 = .ok (.aload_n 0, 1) := by decide +kernel
theorem d_m_init_99 : decode c_m_init 99 = .ok (.bipush 25, 2) := by decide +kernel
theorem d_m_init_101 : decode c_m_init 101 = .ok (.newarray .int, 2) := by decide +kernel
theorem d_m_init_103 : decode c_m_init 103 = .ok (.putfield 48, 3) := by decide +kernel
theorem d_m_init_106 : decode c_m_init 106 = .ok (.aload_n 0, 1) := by decide +kernel
theorem d_m_init_107 : decode c_m_init 107 = .ok (.bipush 25, 2) := by decide +kernel
theorem d_m_init_109 : decode c_m_init 109 = .ok (.newarray .int, 2) := by decide +kernel
theorem d_m_init_111 : decode c_m_init 111 = .ok (.putfield 51, 3) := by decide +kernel
theorem d_m_init_114 : decode c_m_init 114 = .ok (.aload_n 0, 1) := by decide +kernel
theorem d_m_init_115 : decode c_m_init 115 = .ok (.bipush 25, 2) := by decide +kernel
theorem d_m_init_117 : decode c_m_init 117 = .ok (.newarray .int, 2) := by decide +kernel
theorem d_m_init_119 : decode c_m_init 119 = .ok (.putfield 54, 3) := by decide +kernel
theorem d_m_init_122 : decode c_m_init 122 = .ok (.aload_n 0, 1) := by decide +kernel
theorem d_m_init_123 : decode c_m_init 123 = .ok (.bipush 25, 2) := by decide +kernel
theorem d_m_init_125 : decode c_m_init 125 = .ok (.newarray .int, 2) := by decide +kernel
theorem d_m_init_127 : decode c_m_init 127 = .ok (.putfield 57, 3) := by decide +kernel
theorem d_m_init_130 : decode c_m_init 130 = .ok (.aload_n 0, 1) := by decide +kernel
theorem d_m_init_131 : decode c_m_init 131 = .ok (.bipush 20, 2) := by decide +kernel
theorem d_m_init_133 : decode c_m_init 133 = .ok (.newarray .int, 2) := by decide +kernel
theorem d_m_init_135 : decode c_m_init 135 = .ok (.putfield 60, 3) := by decide +kernel
theorem d_m_init_138 : decode c_m_init 138 = .ok (.aload_n 0, 1) := by decide +kernel
theorem d_m_init_139 : decode c_m_init 139 = .ok (.bipush 20, 2) := by decide +kernel
theorem d_m_init_141 : decode c_m_init 141 = .ok (.newarray .int, 2) := by decide +kernel
theorem d_m_init_143 : decode c_m_init 143 = .ok (.putfield 63, 3) := by decide +kernel
theorem d_m_init_146 : decode c_m_init 146 = .ok (.aload_n 0, 1) := by decide +kernel
theorem d_m_init_147 : decode c_m_init 147 = .ok (.bipush 20, 2) := by decide +kernel
theorem d_m_init_149 : decode c_m_init 149 = .ok (.newarray .int, 2) := by decide +kernel
theorem d_m_init_151 : decode c_m_init 151 = .ok (.putfield 66, 3) := by decide +kernel
theorem d_m_init_154 : decode c_m_init 154 = .ok (.aload_n 0, 1) := by decide +kernel
theorem d_m_init_155 : decode c_m_init 155 = .ok (.bipush 20, 2) := by decide +kernel
theorem d_m_init_157 : decode c_m_init 157 = .ok (.newarray .int, 2) := by decide +kernel
theorem d_m_init_159 : decode c_m_init 159 = .ok (.putfield 69, 3) := by decide +kernel
theorem d_m_init_162 : decode c_m_init 162 = .ok (.aload_n 0, 1) := by decide +kernel
theorem d_m_init_163 : decode c_m_init 163 = .ok (.bipush 32, 2) := by decide +kernel
theorem d_m_init_165 : decode c_m_init 165 = .ok (.newarray .int, 2) := by decide +kernel
theorem d_m_init_167 : decode c_m_init 167 = .ok (.putfield 72, 3) := by decide +kernel
theorem d_m_init_170 : decode c_m_init 170 = .ok (.aload_n 0, 1) := by decide +kernel
theorem d_m_init_171 : decode c_m_init 171 = .ok (.bipush 32, 2) := by decide +kernel
theorem d_m_init_173 : decode c_m_init 173 = .ok (.newarray .int, 2) := by decide +kernel
theorem d_m_init_175 : decode c_m_init 175 = .ok (.putfield 75, 3) := by decide +kernel
theorem d_m_init_178 : decode c_m_init 178 = .ok (.aload_n 0, 1) := by decide +kernel
theorem d_m_init_179 : decode c_m_init 179 = .ok (.bipush 8, 2) := by decide +kernel
theorem d_m_init_181 : decode c_m_init 181 = .ok (.newarray .int, 2) := by decide +kernel
theorem d_m_init_183 : decode c_m_init 183 = .ok (.putfield 78, 3) := by decide +kernel
theorem d_m_init_186 : decode c_m_init 186 = .ok (.aload_n 0, 1) := by decide +kernel
theorem d_m_init_187 : decode c_m_init 187 = .ok (.bipush 28, 2) := by decide +kernel
theorem d_m_init_189 : decode c_m_init 189 = .ok (.newarray .int, 2) := by decide +kernel
theorem d_m_init_191 : decode c_m_init 191 = .ok (.putfield 81, 3) := by decide +kernel
theorem d_m_init_194 : decode c_m_init 194 = .ok (.aload_n 0, 1) := by decide +kernel
theorem d_m_init_195 : decode c_m_init 195 = .ok (.getfield 27, 3) := by decide +kernel
theorem d_m_init_198 : decode c_m_init 198 = .ok (.iconst 0, 1) := by decide +kernel
theorem d_m_init_199 : decode c_m_init 199 = .ok (.iconst (-1), 1) := by decide +kernel
theorem d_m_init_200 : decode c_m_init 200 = .ok (.iastore, 1) := by decide +kernel
theorem d_m_init_201 : decode c_m_init 201 = .ok (.aload_n 0, 1) := by decide +kernel
theorem d_m_init_202 : decode c_m_init 202 = .ok (.getfield 30, 3) := by decide +kernel
theorem d_m_init_205 : decode c_m_init 205 = .ok (.iconst 0, 1) := by decide +kernel
theorem d_m_init_206 : decode c_m_init 206 = .ok (.sipush 10000, 3) := by decide +kernel
theorem d_m_init_209 : decode c_m_init 209 = .ok (.iastore, 1) := by decide +kernel
theorem d_m_init_210 : decode c_m_init 210 = .ok (.aload_n 0, 1) := by decide +kernel
theorem d_m_init_211 : decode c_m_init 211 = .ok (.getfield 33, 3) := by decide +kernel
theorem d_m_init_214 : decode c_m_init 214 = .ok (.iconst 0, 1) := by decide +kernel
theorem d_m_init_215 : decode c_m_init 215 = .ok (.bipush 100, 2) := by decide +kernel
theorem d_m_init_217 : decode c_m_init 217 = .ok (.iastore, 1) := by decide +kernel
theorem d_m_init_218 : decode c_m_init 218 = .ok (.iconst 0, 1) := by decide +kernel
theorem d_m_init_219 : decode c_m_init 219 = .ok (.istore_n 1, 1) := by decide +kernel
theorem d_m_init_220 : decode c_m_init 220 = .ok (.iload_n 1, 1) := by decide +kernel
theorem d_m_init_221 : decode c_m_init 221 = .ok (.bipush 32, 2) := by decide +kernel
theorem d_m_init_223 : decode c_m_init 223 = .ok (.if_icmp .ge 16, 3) := by decide +kernel
theorem d_m_init_226 : decode c_m_init 226 = .ok (.aload_n 0, 1) := by decide +kernel
theorem d_m_init_227 : decode c_m_init 227 = .ok (.getfield 72, 3) := by decide +kernel
theorem d_m_init_230 : decode c_m_init 230 = .ok (.iload_n 1, 1) := by decide +kernel
theorem d_m_init_231 : decode c_m_init 231 = .ok (.iconst (-1), 1) := by decide +kernel
theorem d_m_init_232 : decode c_m_init 232 = .ok (.iastore, 1) := by decide +kernel
theorem d_m_init_233 : decode c_m_init 233 = .ok (.iinc 1 1, 3) := by decide +kernel
theorem d_m_init_236 : decode c_m_init 236 = .ok (.goto (-16), 3) := by decide +kernel
theorem d_m_init_239 : decode c_m_init 239 = .ok (.return_, 1) := by decide +kernel
theorem d_m_thrown_0 : decode c_m_thrown 0 = .ok (.aload_n 0, 1) := by decide +kernel
theorem d_m_thrown_1 : decode c_m_thrown 1 = .ok (.getfield 84, 3) := by decide +kernel
theorem d_m_thrown_4 : decode c_m_thrown 4 = .ok (.ireturn, 1) := by decide +kernel
theorem d_m_newImage_0 : decode c_m_newImage 0 = .ok (.iload_n 1, 1) := by decide +kernel
theorem d_m_newImage_1 : decode c_m_newImage 1 = .ok (.iconst (-1), 1) := by decide +kernel
theorem d_m_newImage_2 : decode c_m_newImage 2 = .ok (.if_icmp .eq 11, 3) := by decide +kernel
theorem d_m_newImage_5 : decode c_m_newImage 5 = .ok (.aload_n 0, 1) := by decide +kernel
theorem d_m_newImage_6 : decode c_m_newImage 6 = .ok (.iload_n 1, 1) := by decide +kernel
theorem d_m_newImage_7 : decode c_m_newImage 7 = .ok (.invokevirtual 101, 3) := by decide +kernel
theorem d_m_newImage_10 : decode c_m_newImage 10 = .ok (.ifCond .eq 7, 3) := by decide +kernel
theorem d_m_newImage_13 : decode c_m_newImage 13 = .ok (.iconst 1, 1) := by decide +kernel
theorem d_m_newImage_14 : decode c_m_newImage 14 = .ok (.goto 4, 3) := by decide +kernel
theorem d_m_newImage_17 : decode c_m_newImage 17 = .ok (.iconst 0, 1) := by decide +kernel
theorem d_m_newImage_18 : decode c_m_newImage 18 = .ok (.istore_n 2, 1) := by decide +kernel
theorem d_m_newImage_19 : decode c_m_newImage 19 = .ok (.iload_n 2, 1) := by decide +kernel
theorem d_m_newImage_20 : decode c_m_newImage 20 = .ok (.ifCond .eq 40, 3) := by decide +kernel
theorem d_m_newImage_23 : decode c_m_newImage 23 = .ok (.iload_n 1, 1) := by decide +kernel
theorem d_m_newImage_24 : decode c_m_newImage 24 = .ok (.iconst (-1), 1) := by decide +kernel
theorem d_m_newImage_25 : decode c_m_newImage 25 = .ok (.if_icmp .eq 22, 3) := by decide +kernel
theorem d_m_newImage_28 : decode c_m_newImage 28 = .ok (.aload_n 0, 1) := by decide +kernel
theorem d_m_newImage_29 : decode c_m_newImage 29 = .ok (.getfield 19, 3) := by decide +kernel
theorem d_m_newImage_32 : decode c_m_newImage 32 = .ok (.iload_n 1, 1) := by decide +kernel
theorem d_m_newImage_33 : decode c_m_newImage 33 = .ok (.baload, 1) := by decide +kernel
theorem d_m_newImage_34 : decode c_m_newImage 34 = .ok (.ifCond .eq 26, 3) := by decide +kernel
theorem d_m_newImage_37 : decode c_m_newImage 37 = .ok (.aload_n 0, 1) := by decide +kernel
theorem d_m_newImage_38 : decode c_m_newImage 38 = .ok (.iload_n 1, 1) := by decide +kernel
theorem d_m_newImage_39 : decode c_m_newImage 39 = .ok (.invokevirtual 105, 3) := by decide +kernel
theorem d_m_newImage_42 : decode c_m_newImage 42 = .ok (.bipush 8, 2) := by decide +kernel
theorem d_m_newImage_44 : decode c_m_newImage 44 = .ok (.if_icmp .ge 16, 3) := by decide +kernel
theorem d_m_newImage_47 : decode c_m_newImage 47 = .ok (.aload_n 0, 1) := by decide +kernel
theorem d_m_newImage_48 : decode c_m_newImage 48 = .ok (.getfield 87, 3) := by decide +kernel
theorem d_m_newImage_51 : decode c_m_newImage 51 = .ok (.bipush 10, 2) := by decide +kernel
theorem d_m_newImage_53 : decode c_m_newImage 53 = .ok (.if_icmp .ge 7, 3) := by decide +kernel
theorem d_m_newImage_56 : decode c_m_newImage 56 = .ok (.iconst 1, 1) := by decide +kernel
theorem d_m_newImage_57 : decode c_m_newImage 57 = .ok (.goto 4, 3) := by decide +kernel
theorem d_m_newImage_60 : decode c_m_newImage 60 = .ok (.iconst 0, 1) := by decide +kernel
theorem d_m_newImage_61 : decode c_m_newImage 61 = .ok (.istore_n 3, 1) := by decide +kernel
theorem d_m_newImage_62 : decode c_m_newImage 62 = .ok (.aload_n 0, 1) := by decide +kernel
theorem d_m_newImage_63 : decode c_m_newImage 63 = .ok (.iload_n 2, 1) := by decide +kernel
theorem d_m_newImage_64 : decode c_m_newImage 64 = .ok (.ifCond .ne 7, 3) := by decide +kernel
theorem d_m_newImage_67 : decode c_m_newImage 67 = .ok (.iconst 1, 1) := by decide +kernel
theorem d_m_newImage_68 : decode c_m_newImage 68 = .ok (.goto 12, 3) := by decide +kernel
theorem d_m_newImage_71 : decode c_m_newImage 71 = .ok (.iload_n 3, 1) := by decide +kernel
theorem d_m_newImage_72 : decode c_m_newImage 72 = .ok (.ifCond .eq 7, 3) := by decide +kernel
theorem d_m_newImage_75 : decode c_m_newImage 75 = .ok (.iconst 0, 1) := by decide +kernel
theorem d_m_newImage_76 : decode c_m_newImage 76 = .ok (.goto 4, 3) := by decide +kernel
theorem d_m_newImage_79 : decode c_m_newImage 79 = .ok (.iconst 2, 1) := by decide +kernel
theorem d_m_newImage_80 : decode c_m_newImage 80 = .ok (.invokevirtual 109, 3) := by decide +kernel
theorem d_m_newImage_83 : decode c_m_newImage 83 = .ok (.ifCond .ne 5, 3) := by decide +kernel
theorem d_m_newImage_86 : decode c_m_newImage 86 = .ok (.iconst 0, 1) := by decide +kernel
theorem d_m_newImage_87 : decode c_m_newImage 87 = .ok (.ireturn, 1) := by decide +kernel
theorem d_m_newImage_88 : decode c_m_newImage 88 = .ok (.aload_n 0, 1) := by decide +kernel
theorem d_m_newImage_89 : decode c_m_newImage 89 = .ok (.getfield 16, 3) := by decide +kernel
theorem d_m_newImage_92 : decode c_m_newImage 92 = .ok (.aload_n 0, 1) := by decide +kernel
theorem d_m_newImage_93 : decode c_m_newImage 93 = .ok (.getfield 87, 3) := by decide +kernel
theorem d_m_newImage_96 : decode c_m_newImage 96 = .ok (.iload_n 1, 1) := by decide +kernel
theorem d_m_newImage_97 : decode c_m_newImage 97 = .ok (.iastore, 1) := by decide +kernel
theorem d_m_newImage_98 : decode c_m_newImage 98 = .ok (.aload_n 0, 1) := by decide +kernel
theorem d_m_newImage_99 : decode c_m_newImage 99 = .ok (.getfield 19, 3) := by decide +kernel
theorem d_m_newImage_102 : decode c_m_newImage 102 = .ok (.aload_n 0, 1) := by decide +kernel
theorem d_m_newImage_103 : decode c_m_newImage 103 = .ok (.getfield 87, 3) := by decide +kernel
theorem d_m_newImage_106 : decode c_m_newImage 106 = .ok (.iconst 0, 1) := by decide +kernel
theorem d_m_newImage_107 : decode c_m_newImage 107 = .ok (.bastore, 1) := by decide +kernel
theorem d_m_newImage_108 : decode c_m_newImage 108 = .ok (.aload_n 0, 1) := by decide +kernel
theorem d_m_newImage_109 : decode c_m_newImage 109 = .ok (.aload_n 0, 1) := by decide +kernel
theorem d_m_newImage_110 : decode c_m_newImage 110 = .ok (.getfield 87, 3) := by decide +kernel
theorem d_m_newImage_113 : decode c_m_newImage 113 = .ok (.invokevirtual 112, 3) := by decide +kernel
theorem d_m_newImage_116 : decode c_m_newImage 116 = .ok (.aload_n 0, 1) := by decide +kernel
theorem d_m_newImage_117 : decode c_m_newImage 117 = .ok (.dup, 1) := by decide +kernel
theorem d_m_newImage_118 : decode c_m_newImage 118 = .ok (.getfield 87, 3) := by decide +kernel
theorem d_m_newImage_121 : decode c_m_newImage 121 = .ok (.iconst 1, 1) := by decide +kernel
theorem d_m_newImage_122 : decode c_m_newImage 122 = .ok (.iadd, 1) := by decide +kernel
theorem d_m_newImage_123 : decode c_m_newImage 123 = .ok (.putfield 87, 3) := by decide +kernel
theorem d_m_newImage_126 : decode c_m_newImage 126 = .ok (.aload_n 0, 1) := by decide +kernel
theorem d_m_newImage_127 : decode c_m_newImage 127 = .ok (.getfield 87, 3) := by decide +kernel
theorem d_m_newImage_130 : decode c_m_newImage 130 = .ok (.iconst 1, 1) := by decide +kernel
theorem d_m_newImage_131 : decode c_m_newImage 131 = .ok (.isub, 1) := by decide +kernel
theorem d_m_newImage_132 : decode c_m_newImage 132 = .ok (.ireturn, 1) := by decide +kernel
theorem d_m_isImage_0 : decode c_m_isImage 0 = .ok (.iload_n 1, 1) := by decide +kernel
theorem d_m_isImage_1 : decode c_m_isImage 1 = .ok (.aload_n 0, 1) := by decide +kernel
theorem d_m_isImage_2 : decode c_m_isImage 2 = .ok (.getfield 87, 3) := by decide +kernel
theorem d_m_isImage_5 : decode c_m_isImage 5 = .ok (.invokestatic 90, 3) := by decide +kernel
theorem d_m_isImage_8 : decode c_m_isImage 8 = .ok (.ireturn, 1) := by decide +kernel
theorem d_m_isIn_0 : decode c_m_isIn 0 = .ok (.iload_n 0, 1) := by decide +kernel
theorem d_m_isIn_1 : decode c_m_isIn 1 = .ok (.ifCond .lt 12, 3) := by decide +kernel
theorem d_m_isIn_4 : decode c_m_isIn 4 = .ok (.iload_n 0, 1) := by decide +kernel
theorem d_m_isIn_5 : decode c_m_isIn 5 = .ok (.iload_n 1, 1) := by decide +kernel
theorem d_m_isIn_6 : decode c_m_isIn 6 = .ok (.if_icmp .ge 7, 3) := by decide +kernel
theorem d_m_isIn_9 : decode c_m_isIn 9 = .ok (.iconst 1, 1) := by decide +kernel
theorem d_m_isIn_10 : decode c_m_isIn 10 = .ok (.goto 4, 3) := by decide +kernel
theorem d_m_isIn_13 : decode c_m_isIn 13 = .ok (.iconst 0, 1) := by decide +kernel
theorem d_m_isIn_14 : decode c_m_isIn 14 = .ok (.ireturn, 1) := by decide +kernel
theorem d_m_layersOf_0 : decode c_m_layersOf 0 = .ok (.iconst 0, 1) := by decide +kernel
theorem d_m_layersOf_1 : decode c_m_layersOf 1 = .ok (.istore_n 2, 1) := by decide +kernel
theorem d_m_layersOf_2 : decode c_m_layersOf 2 = .ok (.iload_n 1, 1) := by decide +kernel
theorem d_m_layersOf_3 : decode c_m_layersOf 3 = .ok (.istore_n 3, 1) := by decide +kernel
theorem d_m_layersOf_4 : decode c_m_layersOf 4 = .ok (.iload_n 3, 1) := by decide +kernel
theorem d_m_layersOf_5 : decode c_m_layersOf 5 = .ok (.iconst (-1), 1) := by decide +kernel
theorem d_m_layersOf_6 : decode c_m_layersOf 6 = .ok (.if_icmp .eq 16, 3) := by decide +kernel
theorem d_m_layersOf_9 : decode c_m_layersOf 9 = .ok (.iinc 2 1, 3) := by decide +kernel
theorem d_m_layersOf_12 : decode c_m_layersOf 12 = .ok (.aload_n 0, 1) := by decide +kernel
theorem d_m_layersOf_13 : decode c_m_layersOf 13 = .ok (.getfield 16, 3) := by decide +kernel
theorem d_m_layersOf_16 : decode c_m_layersOf 16 = .ok (.iload_n 3, 1) := by decide +kernel
theorem d_m_layersOf_17 : decode c_m_layersOf 17 = .ok (.iaload, 1) := by decide +kernel
theorem d_m_layersOf_18 : decode c_m_layersOf 18 = .ok (.istore_n 3, 1) := by decide +kernel
theorem d_m_layersOf_19 : decode c_m_layersOf 19 = .ok (.goto (-15), 3) := by decide +kernel
theorem d_m_layersOf_22 : decode c_m_layersOf 22 = .ok (.iload_n 2, 1) := by decide +kernel
theorem d_m_layersOf_23 : decode c_m_layersOf 23 = .ok (.ireturn, 1) := by decide +kernel
theorem d_m_holds_0 : decode c_m_holds 0 = .ok (.aload_n 0, 1) := by decide +kernel
theorem d_m_holds_1 : decode c_m_holds 1 = .ok (.iload_n 1, 1) := by decide +kernel
theorem d_m_holds_2 : decode c_m_holds 2 = .ok (.putfield 84, 3) := by decide +kernel
theorem d_m_holds_5 : decode c_m_holds 5 = .ok (.iload_n 1, 1) := by decide +kernel
theorem d_m_holds_6 : decode c_m_holds 6 = .ok (.ifCond .ne 7, 3) := by decide +kernel
theorem d_m_holds_9 : decode c_m_holds 9 = .ok (.iconst 1, 1) := by decide +kernel
theorem d_m_holds_10 : decode c_m_holds 10 = .ok (.goto 4, 3) := by decide +kernel
theorem d_m_holds_13 : decode c_m_holds 13 = .ok (.iconst 0, 1) := by decide +kernel
theorem d_m_holds_14 : decode c_m_holds 14 = .ok (.ireturn, 1) := by decide +kernel
theorem d_m_empties_0 : decode c_m_empties 0 = .ok (.aload_n 0, 1) := by decide +kernel
theorem d_m_empties_1 : decode c_m_empties 1 = .ok (.getfield 13, 3) := by decide +kernel
theorem d_m_empties_4 : decode c_m_empties 4 = .ok (.iload_n 1, 1) := by decide +kernel
theorem d_m_empties_5 : decode c_m_empties 5 = .ok (.iconst 0, 1) := by decide +kernel
theorem d_m_empties_6 : decode c_m_empties 6 = .ok (.iastore, 1) := by decide +kernel
theorem d_m_empties_7 : decode c_m_empties 7 = .ok (.iconst 0, 1) := by decide +kernel
theorem d_m_empties_8 : decode c_m_empties 8 = .ok (.istore_n 2, 1) := by decide +kernel
theorem d_m_empties_9 : decode c_m_empties 9 = .ok (.iload_n 2, 1) := by decide +kernel
theorem d_m_empties_10 : decode c_m_empties 10 = .ok (.bipush 32, 2) := by decide +kernel
theorem d_m_empties_12 : decode c_m_empties 12 = .ok (.if_icmp .ge 21, 3) := by decide +kernel
theorem d_m_empties_15 : decode c_m_empties 15 = .ok (.aload_n 0, 1) := by decide +kernel
theorem d_m_empties_16 : decode c_m_empties 16 = .ok (.getfield 7, 3) := by decide +kernel
theorem d_m_empties_19 : decode c_m_empties 19 = .ok (.bipush 32, 2) := by decide +kernel
theorem d_m_empties_21 : decode c_m_empties 21 = .ok (.iload_n 1, 1) := by decide +kernel
theorem d_m_empties_22 : decode c_m_empties 22 = .ok (.imul, 1) := by decide +kernel
theorem d_m_empties_23 : decode c_m_empties 23 = .ok (.iload_n 2, 1) := by decide +kernel
theorem d_m_empties_24 : decode c_m_empties 24 = .ok (.iadd, 1) := by decide +kernel
theorem d_m_empties_25 : decode c_m_empties 25 = .ok (.iconst 0, 1) := by decide +kernel
theorem d_m_empties_26 : decode c_m_empties 26 = .ok (.iastore, 1) := by decide +kernel
theorem d_m_empties_27 : decode c_m_empties 27 = .ok (.iinc 2 1, 3) := by decide +kernel
theorem d_m_empties_30 : decode c_m_empties 30 = .ok (.goto (-21), 3) := by decide +kernel
theorem d_m_empties_33 : decode c_m_empties 33 = .ok (.return_, 1) := by decide +kernel
theorem d_m_write_0 : decode c_m_write 0 = .ok (.aload_n 0, 1) := by decide +kernel
theorem d_m_write_1 : decode c_m_write 1 = .ok (.iload_n 1, 1) := by decide +kernel
theorem d_m_write_2 : decode c_m_write 2 = .ok (.invokevirtual 101, 3) := by decide +kernel
theorem d_m_write_5 : decode c_m_write 5 = .ok (.ifCond .eq 16, 3) := by decide +kernel
theorem d_m_write_8 : decode c_m_write 8 = .ok (.iload_n 2, 1) := by decide +kernel
theorem d_m_write_9 : decode c_m_write 9 = .ok (.bipush 32, 2) := by decide +kernel
theorem d_m_write_11 : decode c_m_write 11 = .ok (.invokestatic 90, 3) := by decide +kernel
theorem d_m_write_14 : decode c_m_write 14 = .ok (.ifCond .eq 7, 3) := by decide +kernel
theorem d_m_write_17 : decode c_m_write 17 = .ok (.iconst 1, 1) := by decide +kernel
theorem d_m_write_18 : decode c_m_write 18 = .ok (.goto 4, 3) := by decide +kernel
theorem d_m_write_21 : decode c_m_write 21 = .ok (.iconst 0, 1) := by decide +kernel
theorem d_m_write_22 : decode c_m_write 22 = .ok (.istore 4, 2) := by decide +kernel
theorem d_m_write_24 : decode c_m_write 24 = .ok (.aload_n 0, 1) := by decide +kernel
theorem d_m_write_25 : decode c_m_write 25 = .ok (.iload 4, 2) := by decide +kernel
theorem d_m_write_27 : decode c_m_write 27 = .ok (.ifCond .ne 7, 3) := by decide +kernel
theorem d_m_write_30 : decode c_m_write 30 = .ok (.iconst 1, 1) := by decide +kernel
theorem d_m_write_31 : decode c_m_write 31 = .ok (.goto 28, 3) := by decide +kernel
theorem d_m_write_34 : decode c_m_write 34 = .ok (.iload_n 3, 1) := by decide +kernel
theorem d_m_write_35 : decode c_m_write 35 = .ok (.invokestatic 116, 3) := by decide +kernel
theorem d_m_write_38 : decode c_m_write 38 = .ok (.ifCond .ne 7, 3) := by decide +kernel
theorem d_m_write_41 : decode c_m_write 41 = .ok (.iconst 2, 1) := by decide +kernel
theorem d_m_write_42 : decode c_m_write 42 = .ok (.goto 17, 3) := by decide +kernel
theorem d_m_write_45 : decode c_m_write 45 = .ok (.aload_n 0, 1) := by decide +kernel
theorem d_m_write_46 : decode c_m_write 46 = .ok (.getfield 19, 3) := by decide +kernel
theorem d_m_write_49 : decode c_m_write 49 = .ok (.iload_n 1, 1) := by decide +kernel
theorem d_m_write_50 : decode c_m_write 50 = .ok (.baload, 1) := by decide +kernel
theorem d_m_write_51 : decode c_m_write 51 = .ok (.ifCond .eq 7, 3) := by decide +kernel
theorem d_m_write_54 : decode c_m_write 54 = .ok (.iconst 3, 1) := by decide +kernel
theorem d_m_write_55 : decode c_m_write 55 = .ok (.goto 4, 3) := by decide +kernel
theorem d_m_write_58 : decode c_m_write 58 = .ok (.iconst 0, 1) := by decide +kernel
theorem d_m_write_59 : decode c_m_write 59 = .ok (.invokevirtual 109, 3) := by decide +kernel
theorem d_m_write_62 : decode c_m_write 62 = .ok (.ifCond .ne 5, 3) := by decide +kernel
theorem d_m_write_65 : decode c_m_write 65 = .ok (.iconst 0, 1) := by decide +kernel
theorem d_m_write_66 : decode c_m_write 66 = .ok (.ireturn, 1) := by decide +kernel
theorem d_m_write_67 : decode c_m_write 67 = .ok (.aload_n 0, 1) := by decide +kernel
theorem d_m_write_68 : decode c_m_write 68 = .ok (.iload_n 1, 1) := by decide +kernel
theorem d_m_write_69 : decode c_m_write 69 = .ok (.iload_n 2, 1) := by decide +kernel
theorem d_m_write_70 : decode c_m_write 70 = .ok (.invokevirtual 119, 3) := by decide +kernel
theorem d_m_write_73 : decode c_m_write 73 = .ok (.istore 5, 2) := by decide +kernel
theorem d_m_write_75 : decode c_m_write 75 = .ok (.aload_n 0, 1) := by decide +kernel
theorem d_m_write_76 : decode c_m_write 76 = .ok (.getfield 7, 3) := by decide +kernel
theorem d_m_write_79 : decode c_m_write 79 = .ok (.bipush 32, 2) := by decide +kernel
theorem d_m_write_81 : decode c_m_write 81 = .ok (.iload_n 1, 1) := by decide +kernel
theorem d_m_write_82 : decode c_m_write 82 = .ok (.imul, 1) := by decide +kernel
theorem d_m_write_83 : decode c_m_write 83 = .ok (.iload_n 2, 1) := by decide +kernel
theorem d_m_write_84 : decode c_m_write 84 = .ok (.iadd, 1) := by decide +kernel
theorem d_m_write_85 : decode c_m_write 85 = .ok (.iload_n 3, 1) := by decide +kernel
theorem d_m_write_86 : decode c_m_write 86 = .ok (.iastore, 1) := by decide +kernel
theorem d_m_write_87 : decode c_m_write 87 = .ok (.iload 5, 2) := by decide +kernel
theorem d_m_write_89 : decode c_m_write 89 = .ok (.ireturn, 1) := by decide +kernel
theorem d_m_isContent_0 : decode c_m_isContent 0 = .ok (.iload_n 0, 1) := by decide +kernel
theorem d_m_isContent_1 : decode c_m_isContent 1 = .ok (.iconst 1, 1) := by decide +kernel
theorem d_m_isContent_2 : decode c_m_isContent 2 = .ok (.if_icmp .lt 14, 3) := by decide +kernel
theorem d_m_isContent_5 : decode c_m_isContent 5 = .ok (.iload_n 0, 1) := by decide +kernel
theorem d_m_isContent_6 : decode c_m_isContent 6 = .ok (.sipush 999, 3) := by decide +kernel
theorem d_m_isContent_9 : decode c_m_isContent 9 = .ok (.if_icmp .gt 7, 3) := by decide +kernel
theorem d_m_isContent_12 : decode c_m_isContent 12 = .ok (.iconst 1, 1) := by decide +kernel
theorem d_m_isContent_13 : decode c_m_isContent 13 = .ok (.goto 4, 3) := by decide +kernel
theorem d_m_isContent_16 : decode c_m_isContent 16 = .ok (.iconst 0, 1) := by decide +kernel
theorem d_m_isContent_17 : decode c_m_isContent 17 = .ok (.ireturn, 1) := by decide +kernel
theorem d_m_imageShows_0 : decode c_m_imageShows 0 = .ok (.aload_n 0, 1) := by decide +kernel
theorem d_m_imageShows_1 : decode c_m_imageShows 1 = .ok (.iload_n 1, 1) := by decide +kernel
theorem d_m_imageShows_2 : decode c_m_imageShows 2 = .ok (.aload_n 0, 1) := by decide +kernel
theorem d_m_imageShows_3 : decode c_m_imageShows 3 = .ok (.getfield 16, 3) := by decide +kernel
theorem d_m_imageShows_6 : decode c_m_imageShows 6 = .ok (.iload_n 1, 1) := by decide +kernel
theorem d_m_imageShows_7 : decode c_m_imageShows 7 = .ok (.iaload, 1) := by decide +kernel
theorem d_m_imageShows_8 : decode c_m_imageShows 8 = .ok (.iload_n 2, 1) := by decide +kernel
theorem d_m_imageShows_9 : decode c_m_imageShows 9 = .ok (.invokevirtual 97, 3) := by decide +kernel
theorem d_m_imageShows_12 : decode c_m_imageShows 12 = .ok (.ireturn, 1) := by decide +kernel
theorem d_m_shows_0 : decode c_m_shows 0 = .ok (.iload_n 1, 1) := by decide +kernel
theorem d_m_shows_1 : decode c_m_shows 1 = .ok (.istore 4, 2) := by decide +kernel
theorem d_m_shows_3 : decode c_m_shows 3 = .ok (.iload_n 2, 1) := by decide +kernel
theorem d_m_shows_4 : decode c_m_shows 4 = .ok (.istore 5, 2) := by decide +kernel
theorem d_m_shows_6 : decode c_m_shows 6 = .ok (.iload 4, 2) := by decide +kernel
theorem d_m_shows_8 : decode c_m_shows 8 = .ok (.iconst (-1), 1) := by decide +kernel
theorem d_m_shows_9 : decode c_m_shows 9 = .ok (.if_icmp .eq 79, 3) := by decide +kernel
theorem d_m_shows_12 : decode c_m_shows 12 = .ok (.aload_n 0, 1) := by decide +kernel
theorem d_m_shows_13 : decode c_m_shows 13 = .ok (.getfield 7, 3) := by decide +kernel
theorem d_m_shows_16 : decode c_m_shows 16 = .ok (.bipush 32, 2) := by decide +kernel
theorem d_m_shows_18 : decode c_m_shows 18 = .ok (.iload 4, 2) := by decide +kernel
theorem d_m_shows_20 : decode c_m_shows 20 = .ok (.imul, 1) := by decide +kernel
theorem d_m_shows_21 : decode c_m_shows 21 = .ok (.iload_n 3, 1) := by decide +kernel
theorem d_m_shows_22 : decode c_m_shows 22 = .ok (.iadd, 1) := by decide +kernel
theorem d_m_shows_23 : decode c_m_shows 23 = .ok (.iaload, 1) := by decide +kernel
theorem d_m_shows_24 : decode c_m_shows 24 = .ok (.istore 6, 2) := by decide +kernel
theorem d_m_shows_26 : decode c_m_shows 26 = .ok (.iload 6, 2) := by decide +kernel
theorem d_m_shows_28 : decode c_m_shows 28 = .ok (.ifCond .eq 15, 3) := by decide +kernel
theorem d_m_shows_31 : decode c_m_shows 31 = .ok (.iload 6, 2) := by decide +kernel
theorem d_m_shows_33 : decode c_m_shows 33 = .ok (.ifCond .le 8, 3) := by decide +kernel
theorem d_m_shows_36 : decode c_m_shows 36 = .ok (.iload 6, 2) := by decide +kernel
theorem d_m_shows_38 : decode c_m_shows 38 = .ok (.goto 4, 3) := by decide +kernel
theorem d_m_shows_41 : decode c_m_shows 41 = .ok (.iconst 0, 1) := by decide +kernel
theorem d_m_shows_42 : decode c_m_shows 42 = .ok (.ireturn, 1) := by decide +kernel
theorem d_m_shows_43 : decode c_m_shows 43 = .ok (.aload_n 0, 1) := by decide +kernel
theorem d_m_shows_44 : decode c_m_shows 44 = .ok (.getfield 13, 3) := by decide +kernel
theorem d_m_shows_47 : decode c_m_shows 47 = .ok (.iload 4, 2) := by decide +kernel
theorem d_m_shows_49 : decode c_m_shows 49 = .ok (.iaload, 1) := by decide +kernel
theorem d_m_shows_50 : decode c_m_shows 50 = .ok (.iload_n 3, 1) := by decide +kernel
theorem d_m_shows_51 : decode c_m_shows 51 = .ok (.iconst 4, 1) := by decide +kernel
theorem d_m_shows_52 : decode c_m_shows 52 = .ok (.idiv, 1) := by decide +kernel
theorem d_m_shows_53 : decode c_m_shows 53 = .ok (.ishr, 1) := by decide +kernel
theorem d_m_shows_54 : decode c_m_shows 54 = .ok (.iconst 1, 1) := by decide +kernel
theorem d_m_shows_55 : decode c_m_shows 55 = .ok (.iand, 1) := by decide +kernel
theorem d_m_shows_56 : decode c_m_shows 56 = .ok (.iconst 1, 1) := by decide +kernel
theorem d_m_shows_57 : decode c_m_shows 57 = .ok (.if_icmp .ne 5, 3) := by decide +kernel
theorem d_m_shows_60 : decode c_m_shows 60 = .ok (.iconst 0, 1) := by decide +kernel
theorem d_m_shows_61 : decode c_m_shows 61 = .ok (.ireturn, 1) := by decide +kernel
theorem d_m_shows_62 : decode c_m_shows 62 = .ok (.iload 5, 2) := by decide +kernel
theorem d_m_shows_64 : decode c_m_shows 64 = .ok (.istore 4, 2) := by decide +kernel
theorem d_m_shows_66 : decode c_m_shows 66 = .ok (.iload 5, 2) := by decide +kernel
theorem d_m_shows_68 : decode c_m_shows 68 = .ok (.iconst (-1), 1) := by decide +kernel
theorem d_m_shows_69 : decode c_m_shows 69 = .ok (.if_icmp .ne 7, 3) := by decide +kernel
theorem d_m_shows_72 : decode c_m_shows 72 = .ok (.iconst (-1), 1) := by decide +kernel
theorem d_m_shows_73 : decode c_m_shows 73 = .ok (.goto 10, 3) := by decide +kernel
theorem d_m_shows_76 : decode c_m_shows 76 = .ok (.aload_n 0, 1) := by decide +kernel
theorem d_m_shows_77 : decode c_m_shows 77 = .ok (.getfield 16, 3) := by decide +kernel
theorem d_m_shows_80 : decode c_m_shows 80 = .ok (.iload 5, 2) := by decide +kernel
theorem d_m_shows_82 : decode c_m_shows 82 = .ok (.iaload, 1) := by decide +kernel
theorem d_m_shows_83 : decode c_m_shows 83 = .ok (.istore 5, 2) := by decide +kernel
theorem d_m_shows_85 : decode c_m_shows 85 = .ok (.goto (-79), 3) := by decide +kernel
theorem d_m_shows_88 : decode c_m_shows 88 = .ok (.iconst 0, 1) := by decide +kernel
theorem d_m_shows_89 : decode c_m_shows 89 = .ok (.ireturn, 1) := by decide +kernel
theorem d_m_remove_0 : decode c_m_remove 0 = .ok (.aload_n 0, 1) := by decide +kernel
theorem d_m_remove_1 : decode c_m_remove 1 = .ok (.iload_n 1, 1) := by decide +kernel
theorem d_m_remove_2 : decode c_m_remove 2 = .ok (.invokevirtual 101, 3) := by decide +kernel
theorem d_m_remove_5 : decode c_m_remove 5 = .ok (.ifCond .eq 16, 3) := by decide +kernel
theorem d_m_remove_8 : decode c_m_remove 8 = .ok (.iload_n 2, 1) := by decide +kernel
theorem d_m_remove_9 : decode c_m_remove 9 = .ok (.bipush 32, 2) := by decide +kernel
theorem d_m_remove_11 : decode c_m_remove 11 = .ok (.invokestatic 90, 3) := by decide +kernel
theorem d_m_remove_14 : decode c_m_remove 14 = .ok (.ifCond .eq 7, 3) := by decide +kernel
theorem d_m_remove_17 : decode c_m_remove 17 = .ok (.iconst 1, 1) := by decide +kernel
theorem d_m_remove_18 : decode c_m_remove 18 = .ok (.goto 4, 3) := by decide +kernel
theorem d_m_remove_21 : decode c_m_remove 21 = .ok (.iconst 0, 1) := by decide +kernel
theorem d_m_remove_22 : decode c_m_remove 22 = .ok (.istore_n 3, 1) := by decide +kernel
theorem d_m_remove_23 : decode c_m_remove 23 = .ok (.aload_n 0, 1) := by decide +kernel
theorem d_m_remove_24 : decode c_m_remove 24 = .ok (.iload_n 3, 1) := by decide +kernel
theorem d_m_remove_25 : decode c_m_remove 25 = .ok (.ifCond .ne 7, 3) := by decide +kernel
theorem d_m_remove_28 : decode c_m_remove 28 = .ok (.iconst 1, 1) := by decide +kernel
theorem d_m_remove_29 : decode c_m_remove 29 = .ok (.goto 26, 3) := by decide +kernel
theorem d_m_remove_32 : decode c_m_remove 32 = .ok (.aload_n 0, 1) := by decide +kernel
theorem d_m_remove_33 : decode c_m_remove 33 = .ok (.getfield 19, 3) := by decide +kernel
theorem d_m_remove_36 : decode c_m_remove 36 = .ok (.iload_n 1, 1) := by decide +kernel
theorem d_m_remove_37 : decode c_m_remove 37 = .ok (.baload, 1) := by decide +kernel
theorem d_m_remove_38 : decode c_m_remove 38 = .ok (.ifCond .ne 12, 3) := by decide +kernel
theorem d_m_remove_41 : decode c_m_remove 41 = .ok (.aload_n 0, 1) := by decide +kernel
theorem d_m_remove_42 : decode c_m_remove 42 = .ok (.iload_n 1, 1) := by decide +kernel
theorem d_m_remove_43 : decode c_m_remove 43 = .ok (.iload_n 2, 1) := by decide +kernel
theorem d_m_remove_44 : decode c_m_remove 44 = .ok (.invokevirtual 119, 3) := by decide +kernel
theorem d_m_remove_47 : decode c_m_remove 47 = .ok (.ifCond .ne 7, 3) := by decide +kernel
theorem d_m_remove_50 : decode c_m_remove 50 = .ok (.iconst 2, 1) := by decide +kernel
theorem d_m_remove_51 : decode c_m_remove 51 = .ok (.goto 4, 3) := by decide +kernel
theorem d_m_remove_54 : decode c_m_remove 54 = .ok (.iconst 0, 1) := by decide +kernel
theorem d_m_remove_55 : decode c_m_remove 55 = .ok (.invokevirtual 109, 3) := by decide +kernel
theorem d_m_remove_58 : decode c_m_remove 58 = .ok (.ifCond .ne 5, 3) := by decide +kernel
theorem d_m_remove_61 : decode c_m_remove 61 = .ok (.iconst 0, 1) := by decide +kernel
theorem d_m_remove_62 : decode c_m_remove 62 = .ok (.ireturn, 1) := by decide +kernel
theorem d_m_remove_63 : decode c_m_remove 63 = .ok (.aload_n 0, 1) := by decide +kernel
theorem d_m_remove_64 : decode c_m_remove 64 = .ok (.iload_n 1, 1) := by decide +kernel
theorem d_m_remove_65 : decode c_m_remove 65 = .ok (.iload_n 2, 1) := by decide +kernel
theorem d_m_remove_66 : decode c_m_remove 66 = .ok (.invokevirtual 119, 3) := by decide +kernel
theorem d_m_remove_69 : decode c_m_remove 69 = .ok (.istore 4, 2) := by decide +kernel
theorem d_m_remove_71 : decode c_m_remove 71 = .ok (.aload_n 0, 1) := by decide +kernel
theorem d_m_remove_72 : decode c_m_remove 72 = .ok (.getfield 7, 3) := by decide +kernel
theorem d_m_remove_75 : decode c_m_remove 75 = .ok (.bipush 32, 2) := by decide +kernel
theorem d_m_remove_77 : decode c_m_remove 77 = .ok (.iload_n 1, 1) := by decide +kernel
theorem d_m_remove_78 : decode c_m_remove 78 = .ok (.imul, 1) := by decide +kernel
theorem d_m_remove_79 : decode c_m_remove 79 = .ok (.iload_n 2, 1) := by decide +kernel
theorem d_m_remove_80 : decode c_m_remove 80 = .ok (.iadd, 1) := by decide +kernel
theorem d_m_remove_81 : decode c_m_remove 81 = .ok (.iconst (-1), 1) := by decide +kernel
theorem d_m_remove_82 : decode c_m_remove 82 = .ok (.iastore, 1) := by decide +kernel
theorem d_m_remove_83 : decode c_m_remove 83 = .ok (.iload 4, 2) := by decide +kernel
theorem d_m_remove_85 : decode c_m_remove 85 = .ok (.ireturn, 1) := by decide +kernel
theorem d_m_clear_0 : decode c_m_clear 0 = .ok (.aload_n 0, 1) := by decide +kernel
theorem d_m_clear_1 : decode c_m_clear 1 = .ok (.iload_n 1, 1) := by decide +kernel
theorem d_m_clear_2 : decode c_m_clear 2 = .ok (.invokevirtual 101, 3) := by decide +kernel
theorem d_m_clear_5 : decode c_m_clear 5 = .ok (.ifCond .eq 16, 3) := by decide +kernel
theorem d_m_clear_8 : decode c_m_clear 8 = .ok (.iload_n 2, 1) := by decide +kernel
theorem d_m_clear_9 : decode c_m_clear 9 = .ok (.bipush 8, 2) := by decide +kernel
theorem d_m_clear_11 : decode c_m_clear 11 = .ok (.invokestatic 90, 3) := by decide +kernel
theorem d_m_clear_14 : decode c_m_clear 14 = .ok (.ifCond .eq 7, 3) := by decide +kernel
theorem d_m_clear_17 : decode c_m_clear 17 = .ok (.iconst 1, 1) := by decide +kernel
theorem d_m_clear_18 : decode c_m_clear 18 = .ok (.goto 4, 3) := by decide +kernel
theorem d_m_clear_21 : decode c_m_clear 21 = .ok (.iconst 0, 1) := by decide +kernel
theorem d_m_clear_22 : decode c_m_clear 22 = .ok (.istore_n 3, 1) := by decide +kernel
theorem d_m_clear_23 : decode c_m_clear 23 = .ok (.aload_n 0, 1) := by decide +kernel
theorem d_m_clear_24 : decode c_m_clear 24 = .ok (.iload_n 3, 1) := by decide +kernel
theorem d_m_clear_25 : decode c_m_clear 25 = .ok (.ifCond .ne 7, 3) := by decide +kernel
theorem d_m_clear_28 : decode c_m_clear 28 = .ok (.iconst 1, 1) := by decide +kernel
theorem d_m_clear_29 : decode c_m_clear 29 = .ok (.goto 17, 3) := by decide +kernel
theorem d_m_clear_32 : decode c_m_clear 32 = .ok (.aload_n 0, 1) := by decide +kernel
theorem d_m_clear_33 : decode c_m_clear 33 = .ok (.getfield 19, 3) := by decide +kernel
theorem d_m_clear_36 : decode c_m_clear 36 = .ok (.iload_n 1, 1) := by decide +kernel
theorem d_m_clear_37 : decode c_m_clear 37 = .ok (.baload, 1) := by decide +kernel
theorem d_m_clear_38 : decode c_m_clear 38 = .ok (.ifCond .eq 7, 3) := by decide +kernel
theorem d_m_clear_41 : decode c_m_clear 41 = .ok (.iconst 2, 1) := by decide +kernel
theorem d_m_clear_42 : decode c_m_clear 42 = .ok (.goto 4, 3) := by decide +kernel
theorem d_m_clear_45 : decode c_m_clear 45 = .ok (.iconst 0, 1) := by decide +kernel
theorem d_m_clear_46 : decode c_m_clear 46 = .ok (.invokevirtual 109, 3) := by decide +kernel
theorem d_m_clear_49 : decode c_m_clear 49 = .ok (.ifCond .ne 5, 3) := by decide +kernel
theorem d_m_clear_52 : decode c_m_clear 52 = .ok (.iconst 0, 1) := by decide +kernel
theorem d_m_clear_53 : decode c_m_clear 53 = .ok (.ireturn, 1) := by decide +kernel
theorem d_m_clear_54 : decode c_m_clear 54 = .ok (.iconst 0, 1) := by decide +kernel
theorem d_m_clear_55 : decode c_m_clear 55 = .ok (.istore 4, 2) := by decide +kernel
theorem d_m_clear_57 : decode c_m_clear 57 = .ok (.iconst 4, 1) := by decide +kernel
theorem d_m_clear_58 : decode c_m_clear 58 = .ok (.iload_n 2, 1) := by decide +kernel
theorem d_m_clear_59 : decode c_m_clear 59 = .ok (.imul, 1) := by decide +kernel
theorem d_m_clear_60 : decode c_m_clear 60 = .ok (.istore 5, 2) := by decide +kernel
theorem d_m_clear_62 : decode c_m_clear 62 = .ok (.iload 5, 2) := by decide +kernel
theorem d_m_clear_64 : decode c_m_clear 64 = .ok (.iconst 4, 1) := by decide +kernel
theorem d_m_clear_65 : decode c_m_clear 65 = .ok (.iload_n 2, 1) := by decide +kernel
theorem d_m_clear_66 : decode c_m_clear 66 = .ok (.imul, 1) := by decide +kernel
theorem d_m_clear_67 : decode c_m_clear 67 = .ok (.iconst 4, 1) := by decide +kernel
theorem d_m_clear_68 : decode c_m_clear 68 = .ok (.iadd, 1) := by decide +kernel
theorem d_m_clear_69 : decode c_m_clear 69 = .ok (.if_icmp .ge 29, 3) := by decide +kernel
theorem d_m_clear_72 : decode c_m_clear 72 = .ok (.iload 4, 2) := by decide +kernel
theorem d_m_clear_74 : decode c_m_clear 74 = .ok (.aload_n 0, 1) := by decide +kernel
theorem d_m_clear_75 : decode c_m_clear 75 = .ok (.iload_n 1, 1) := by decide +kernel
theorem d_m_clear_76 : decode c_m_clear 76 = .ok (.iload 5, 2) := by decide +kernel
theorem d_m_clear_78 : decode c_m_clear 78 = .ok (.invokevirtual 119, 3) := by decide +kernel
theorem d_m_clear_81 : decode c_m_clear 81 = .ok (.ifCond .le 7, 3) := by decide +kernel
theorem d_m_clear_84 : decode c_m_clear 84 = .ok (.iconst 1, 1) := by decide +kernel
theorem d_m_clear_85 : decode c_m_clear 85 = .ok (.goto 4, 3) := by decide +kernel
theorem d_m_clear_88 : decode c_m_clear 88 = .ok (.iconst 0, 1) := by decide +kernel
theorem d_m_clear_89 : decode c_m_clear 89 = .ok (.iadd, 1) := by decide +kernel
theorem d_m_clear_90 : decode c_m_clear 90 = .ok (.istore 4, 2) := by decide +kernel
theorem d_m_clear_92 : decode c_m_clear 92 = .ok (.iinc 5 1, 3) := by decide +kernel
theorem d_m_clear_95 : decode c_m_clear 95 = .ok (.goto (-33), 3) := by decide +kernel
theorem d_m_clear_98 : decode c_m_clear 98 = .ok (.iconst 4, 1) := by decide +kernel
theorem d_m_clear_99 : decode c_m_clear 99 = .ok (.iload_n 2, 1) := by decide +kernel
theorem d_m_clear_100 : decode c_m_clear 100 = .ok (.imul, 1) := by decide +kernel
theorem d_m_clear_101 : decode c_m_clear 101 = .ok (.istore 5, 2) := by decide +kernel
theorem d_m_clear_103 : decode c_m_clear 103 = .ok (.iload 5, 2) := by decide +kernel
theorem d_m_clear_105 : decode c_m_clear 105 = .ok (.iconst 4, 1) := by decide +kernel
theorem d_m_clear_106 : decode c_m_clear 106 = .ok (.iload_n 2, 1) := by decide +kernel
theorem d_m_clear_107 : decode c_m_clear 107 = .ok (.imul, 1) := by decide +kernel
theorem d_m_clear_108 : decode c_m_clear 108 = .ok (.iconst 4, 1) := by decide +kernel
theorem d_m_clear_109 : decode c_m_clear 109 = .ok (.iadd, 1) := by decide +kernel
theorem d_m_clear_110 : decode c_m_clear 110 = .ok (.if_icmp .ge 22, 3) := by decide +kernel
theorem d_m_clear_113 : decode c_m_clear 113 = .ok (.aload_n 0, 1) := by decide +kernel
theorem d_m_clear_114 : decode c_m_clear 114 = .ok (.getfield 7, 3) := by decide +kernel
theorem d_m_clear_117 : decode c_m_clear 117 = .ok (.bipush 32, 2) := by decide +kernel
theorem d_m_clear_119 : decode c_m_clear 119 = .ok (.iload_n 1, 1) := by decide +kernel
theorem d_m_clear_120 : decode c_m_clear 120 = .ok (.imul, 1) := by decide +kernel
theorem d_m_clear_121 : decode c_m_clear 121 = .ok (.iload 5, 2) := by decide +kernel
theorem d_m_clear_123 : decode c_m_clear 123 = .ok (.iadd, 1) := by decide +kernel
theorem d_m_clear_124 : decode c_m_clear 124 = .ok (.iconst 0, 1) := by decide +kernel
theorem d_m_clear_125 : decode c_m_clear 125 = .ok (.iastore, 1) := by decide +kernel
theorem d_m_clear_126 : decode c_m_clear 126 = .ok (.iinc 5 1, 3) := by decide +kernel
theorem d_m_clear_129 : decode c_m_clear 129 = .ok (.goto (-26), 3) := by decide +kernel
theorem d_m_clear_132 : decode c_m_clear 132 = .ok (.aload_n 0, 1) := by decide +kernel
theorem d_m_clear_133 : decode c_m_clear 133 = .ok (.getfield 13, 3) := by decide +kernel
theorem d_m_clear_136 : decode c_m_clear 136 = .ok (.iload_n 1, 1) := by decide +kernel
theorem d_m_clear_137 : decode c_m_clear 137 = .ok (.dup2, 1) := by decide +kernel
theorem d_m_clear_138 : decode c_m_clear 138 = .ok (.iaload, 1) := by decide +kernel
theorem d_m_clear_139 : decode c_m_clear 139 = .ok (.iconst 1, 1) := by decide +kernel
theorem d_m_clear_140 : decode c_m_clear 140 = .ok (.iload_n 2, 1) := by decide +kernel
theorem d_m_clear_141 : decode c_m_clear 141 = .ok (.ishl, 1) := by decide +kernel
theorem d_m_clear_142 : decode c_m_clear 142 = .ok (.ior, 1) := by decide +kernel
theorem d_m_clear_143 : decode c_m_clear 143 = .ok (.iastore, 1) := by decide +kernel
theorem d_m_clear_144 : decode c_m_clear 144 = .ok (.iload 4, 2) := by decide +kernel
theorem d_m_clear_146 : decode c_m_clear 146 = .ok (.ireturn, 1) := by decide +kernel
theorem d_m_seal_0 : decode c_m_seal 0 = .ok (.aload_n 0, 1) := by decide +kernel
theorem d_m_seal_1 : decode c_m_seal 1 = .ok (.iload_n 1, 1) := by decide +kernel
theorem d_m_seal_2 : decode c_m_seal 2 = .ok (.invokevirtual 101, 3) := by decide +kernel
theorem d_m_seal_5 : decode c_m_seal 5 = .ok (.istore_n 2, 1) := by decide +kernel
theorem d_m_seal_6 : decode c_m_seal 6 = .ok (.aload_n 0, 1) := by decide +kernel
theorem d_m_seal_7 : decode c_m_seal 7 = .ok (.iload_n 2, 1) := by decide +kernel
theorem d_m_seal_8 : decode c_m_seal 8 = .ok (.ifCond .ne 7, 3) := by decide +kernel
theorem d_m_seal_11 : decode c_m_seal 11 = .ok (.iconst 1, 1) := by decide +kernel
theorem d_m_seal_12 : decode c_m_seal 12 = .ok (.goto 17, 3) := by decide +kernel
theorem d_m_seal_15 : decode c_m_seal 15 = .ok (.aload_n 0, 1) := by decide +kernel
theorem d_m_seal_16 : decode c_m_seal 16 = .ok (.getfield 19, 3) := by decide +kernel
theorem d_m_seal_19 : decode c_m_seal 19 = .ok (.iload_n 1, 1) := by decide +kernel
theorem d_m_seal_20 : decode c_m_seal 20 = .ok (.baload, 1) := by decide +kernel
theorem d_m_seal_21 : decode c_m_seal 21 = .ok (.ifCond .eq 7, 3) := by decide +kernel
theorem d_m_seal_24 : decode c_m_seal 24 = .ok (.iconst 2, 1) := by decide +kernel
theorem d_m_seal_25 : decode c_m_seal 25 = .ok (.goto 4, 3) := by decide +kernel
theorem d_m_seal_28 : decode c_m_seal 28 = .ok (.iconst 0, 1) := by decide +kernel
theorem d_m_seal_29 : decode c_m_seal 29 = .ok (.invokevirtual 109, 3) := by decide +kernel
theorem d_m_seal_32 : decode c_m_seal 32 = .ok (.ifCond .ne 5, 3) := by decide +kernel
theorem d_m_seal_35 : decode c_m_seal 35 = .ok (.iconst 0, 1) := by decide +kernel
theorem d_m_seal_36 : decode c_m_seal 36 = .ok (.ireturn, 1) := by decide +kernel
theorem d_m_seal_37 : decode c_m_seal 37 = .ok (.aload_n 0, 1) := by decide +kernel
theorem d_m_seal_38 : decode c_m_seal 38 = .ok (.getfield 19, 3) := by decide +kernel
theorem d_m_seal_41 : decode c_m_seal 41 = .ok (.iload_n 1, 1) := by decide +kernel
theorem d_m_seal_42 : decode c_m_seal 42 = .ok (.iconst 1, 1) := by decide +kernel
theorem d_m_seal_43 : decode c_m_seal 43 = .ok (.bastore, 1) := by decide +kernel
theorem d_m_seal_44 : decode c_m_seal 44 = .ok (.aload_n 0, 1) := by decide +kernel
theorem d_m_seal_45 : decode c_m_seal 45 = .ok (.iload_n 1, 1) := by decide +kernel
theorem d_m_seal_46 : decode c_m_seal 46 = .ok (.invokevirtual 105, 3) := by decide +kernel
theorem d_m_seal_49 : decode c_m_seal 49 = .ok (.ireturn, 1) := by decide +kernel
theorem d_m_shown_0 : decode c_m_shown 0 = .ok (.aload_n 0, 1) := by decide +kernel
theorem d_m_shown_1 : decode c_m_shown 1 = .ok (.aload_n 0, 1) := by decide +kernel
theorem d_m_shown_2 : decode c_m_shown 2 = .ok (.iload_n 1, 1) := by decide +kernel
theorem d_m_shown_3 : decode c_m_shown 3 = .ok (.invokevirtual 101, 3) := by decide +kernel
theorem d_m_shown_6 : decode c_m_shown 6 = .ok (.ifCond .eq 16, 3) := by decide +kernel
theorem d_m_shown_9 : decode c_m_shown 9 = .ok (.iload_n 2, 1) := by decide +kernel
theorem d_m_shown_10 : decode c_m_shown 10 = .ok (.bipush 32, 2) := by decide +kernel
theorem d_m_shown_12 : decode c_m_shown 12 = .ok (.invokestatic 90, 3) := by decide +kernel
theorem d_m_shown_15 : decode c_m_shown 15 = .ok (.ifCond .eq 7, 3) := by decide +kernel
theorem d_m_shown_18 : decode c_m_shown 18 = .ok (.iconst 0, 1) := by decide +kernel
theorem d_m_shown_19 : decode c_m_shown 19 = .ok (.goto 4, 3) := by decide +kernel
theorem d_m_shown_22 : decode c_m_shown 22 = .ok (.iconst 1, 1) := by decide +kernel
theorem d_m_shown_23 : decode c_m_shown 23 = .ok (.invokevirtual 109, 3) := by decide +kernel
theorem d_m_shown_26 : decode c_m_shown 26 = .ok (.ifCond .eq 12, 3) := by decide +kernel
theorem d_m_shown_29 : decode c_m_shown 29 = .ok (.aload_n 0, 1) := by decide +kernel
theorem d_m_shown_30 : decode c_m_shown 30 = .ok (.iload_n 1, 1) := by decide +kernel
theorem d_m_shown_31 : decode c_m_shown 31 = .ok (.iload_n 2, 1) := by decide +kernel
theorem d_m_shown_32 : decode c_m_shown 32 = .ok (.invokevirtual 119, 3) := by decide +kernel
theorem d_m_shown_35 : decode c_m_shown 35 = .ok (.goto 4, 3) := by decide +kernel
theorem d_m_shown_38 : decode c_m_shown 38 = .ok (.iconst 0, 1) := by decide +kernel
theorem d_m_shown_39 : decode c_m_shown 39 = .ok (.ireturn, 1) := by decide +kernel
theorem d_m_entries_0 : decode c_m_entries 0 = .ok (.aload_n 0, 1) := by decide +kernel
theorem d_m_entries_1 : decode c_m_entries 1 = .ok (.iload_n 1, 1) := by decide +kernel
theorem d_m_entries_2 : decode c_m_entries 2 = .ok (.invokevirtual 101, 3) := by decide +kernel
theorem d_m_entries_5 : decode c_m_entries 5 = .ok (.istore_n 3, 1) := by decide +kernel
theorem d_m_entries_6 : decode c_m_entries 6 = .ok (.aload_n 0, 1) := by decide +kernel
theorem d_m_entries_7 : decode c_m_entries 7 = .ok (.iload_n 3, 1) := by decide +kernel
theorem d_m_entries_8 : decode c_m_entries 8 = .ok (.ifCond .eq 19, 3) := by decide +kernel
theorem d_m_entries_11 : decode c_m_entries 11 = .ok (.iload_n 2, 1) := by decide +kernel
theorem d_m_entries_12 : decode c_m_entries 12 = .ok (.aload_n 0, 1) := by decide +kernel
theorem d_m_entries_13 : decode c_m_entries 13 = .ok (.iload_n 1, 1) := by decide +kernel
theorem d_m_entries_14 : decode c_m_entries 14 = .ok (.invokevirtual 105, 3) := by decide +kernel
theorem d_m_entries_17 : decode c_m_entries 17 = .ok (.invokestatic 90, 3) := by decide +kernel
theorem d_m_entries_20 : decode c_m_entries 20 = .ok (.ifCond .eq 7, 3) := by decide +kernel
theorem d_m_entries_23 : decode c_m_entries 23 = .ok (.iconst 0, 1) := by decide +kernel
theorem d_m_entries_24 : decode c_m_entries 24 = .ok (.goto 4, 3) := by decide +kernel
theorem d_m_entries_27 : decode c_m_entries 27 = .ok (.iconst 1, 1) := by decide +kernel
theorem d_m_entries_28 : decode c_m_entries 28 = .ok (.invokevirtual 109, 3) := by decide +kernel
theorem d_m_entries_31 : decode c_m_entries 31 = .ok (.ifCond .ne 5, 3) := by decide +kernel
theorem d_m_entries_34 : decode c_m_entries 34 = .ok (.iconst 0, 1) := by decide +kernel
theorem d_m_entries_35 : decode c_m_entries 35 = .ok (.ireturn, 1) := by decide +kernel
theorem d_m_entries_36 : decode c_m_entries 36 = .ok (.iload_n 1, 1) := by decide +kernel
theorem d_m_entries_37 : decode c_m_entries 37 = .ok (.istore 4, 2) := by decide +kernel
theorem d_m_entries_39 : decode c_m_entries 39 = .ok (.aload_n 0, 1) := by decide +kernel
theorem d_m_entries_40 : decode c_m_entries 40 = .ok (.iload_n 1, 1) := by decide +kernel
theorem d_m_entries_41 : decode c_m_entries 41 = .ok (.invokevirtual 105, 3) := by decide +kernel
theorem d_m_entries_44 : decode c_m_entries 44 = .ok (.iconst 1, 1) := by decide +kernel
theorem d_m_entries_45 : decode c_m_entries 45 = .ok (.isub, 1) := by decide +kernel
theorem d_m_entries_46 : decode c_m_entries 46 = .ok (.istore 5, 2) := by decide +kernel
theorem d_m_entries_48 : decode c_m_entries 48 = .ok (.iload 5, 2) := by decide +kernel
theorem d_m_entries_50 : decode c_m_entries 50 = .ok (.iload_n 2, 1) := by decide +kernel
theorem d_m_entries_51 : decode c_m_entries 51 = .ok (.if_icmp .le 18, 3) := by decide +kernel
theorem d_m_entries_54 : decode c_m_entries 54 = .ok (.aload_n 0, 1) := by decide +kernel
theorem d_m_entries_55 : decode c_m_entries 55 = .ok (.getfield 16, 3) := by decide +kernel
theorem d_m_entries_58 : decode c_m_entries 58 = .ok (.iload 4, 2) := by decide +kernel
theorem d_m_entries_60 : decode c_m_entries 60 = .ok (.iaload, 1) := by decide +kernel
theorem d_m_entries_61 : decode c_m_entries 61 = .ok (.istore 4, 2) := by decide +kernel
theorem d_m_entries_63 : decode c_m_entries 63 = .ok (.iinc 5 (-1), 3) := by decide +kernel
theorem d_m_entries_66 : decode c_m_entries 66 = .ok (.goto (-18), 3) := by decide +kernel
theorem d_m_entries_69 : decode c_m_entries 69 = .ok (.iconst 0, 1) := by decide +kernel
theorem d_m_entries_70 : decode c_m_entries 70 = .ok (.istore 5, 2) := by decide +kernel
theorem d_m_entries_72 : decode c_m_entries 72 = .ok (.iconst 0, 1) := by decide +kernel
theorem d_m_entries_73 : decode c_m_entries 73 = .ok (.istore 6, 2) := by decide +kernel
theorem d_m_entries_75 : decode c_m_entries 75 = .ok (.iload 6, 2) := by decide +kernel
theorem d_m_entries_77 : decode c_m_entries 77 = .ok (.bipush 32, 2) := by decide +kernel
theorem d_m_entries_79 : decode c_m_entries 79 = .ok (.if_icmp .ge 35, 3) := by decide +kernel
theorem d_m_entries_82 : decode c_m_entries 82 = .ok (.iload 5, 2) := by decide +kernel
theorem d_m_entries_84 : decode c_m_entries 84 = .ok (.aload_n 0, 1) := by decide +kernel
theorem d_m_entries_85 : decode c_m_entries 85 = .ok (.getfield 7, 3) := by decide +kernel
theorem d_m_entries_88 : decode c_m_entries 88 = .ok (.bipush 32, 2) := by decide +kernel
theorem d_m_entries_90 : decode c_m_entries 90 = .ok (.iload 4, 2) := by decide +kernel
theorem d_m_entries_92 : decode c_m_entries 92 = .ok (.imul, 1) := by decide +kernel
theorem d_m_entries_93 : decode c_m_entries 93 = .ok (.iload 6, 2) := by decide +kernel
theorem d_m_entries_95 : decode c_m_entries 95 = .ok (.iadd, 1) := by decide +kernel
theorem d_m_entries_96 : decode c_m_entries 96 = .ok (.iaload, 1) := by decide +kernel
theorem d_m_entries_97 : decode c_m_entries 97 = .ok (.ifCond .eq 7, 3) := by decide +kernel
theorem d_m_entries_100 : decode c_m_entries 100 = .ok (.iconst 1, 1) := by decide +kernel
theorem d_m_entries_101 : decode c_m_entries 101 = .ok (.goto 4, 3) := by decide +kernel
theorem d_m_entries_104 : decode c_m_entries 104 = .ok (.iconst 0, 1) := by decide +kernel
theorem d_m_entries_105 : decode c_m_entries 105 = .ok (.iadd, 1) := by decide +kernel
theorem d_m_entries_106 : decode c_m_entries 106 = .ok (.istore 5, 2) := by decide +kernel
theorem d_m_entries_108 : decode c_m_entries 108 = .ok (.iinc 6 1, 3) := by decide +kernel
theorem d_m_entries_111 : decode c_m_entries 111 = .ok (.goto (-36), 3) := by decide +kernel
theorem d_m_entries_114 : decode c_m_entries 114 = .ok (.iconst 0, 1) := by decide +kernel
theorem d_m_entries_115 : decode c_m_entries 115 = .ok (.istore 6, 2) := by decide +kernel
theorem d_m_entries_117 : decode c_m_entries 117 = .ok (.iload 6, 2) := by decide +kernel
theorem d_m_entries_119 : decode c_m_entries 119 = .ok (.bipush 8, 2) := by decide +kernel
theorem d_m_entries_121 : decode c_m_entries 121 = .ok (.if_icmp .ge 26, 3) := by decide +kernel
theorem d_m_entries_124 : decode c_m_entries 124 = .ok (.iload 5, 2) := by decide +kernel
theorem d_m_entries_126 : decode c_m_entries 126 = .ok (.aload_n 0, 1) := by decide +kernel
theorem d_m_entries_127 : decode c_m_entries 127 = .ok (.getfield 13, 3) := by decide +kernel
theorem d_m_entries_130 : decode c_m_entries 130 = .ok (.iload 4, 2) := by decide +kernel
theorem d_m_entries_132 : decode c_m_entries 132 = .ok (.iaload, 1) := by decide +kernel
theorem d_m_entries_133 : decode c_m_entries 133 = .ok (.iload 6, 2) := by decide +kernel
theorem d_m_entries_135 : decode c_m_entries 135 = .ok (.ishr, 1) := by decide +kernel
theorem d_m_entries_136 : decode c_m_entries 136 = .ok (.iconst 1, 1) := by decide +kernel
theorem d_m_entries_137 : decode c_m_entries 137 = .ok (.iand, 1) := by decide +kernel
theorem d_m_entries_138 : decode c_m_entries 138 = .ok (.iadd, 1) := by decide +kernel
theorem d_m_entries_139 : decode c_m_entries 139 = .ok (.istore 5, 2) := by decide +kernel
theorem d_m_entries_141 : decode c_m_entries 141 = .ok (.iinc 6 1, 3) := by decide +kernel
theorem d_m_entries_144 : decode c_m_entries 144 = .ok (.goto (-27), 3) := by decide +kernel
theorem d_m_entries_147 : decode c_m_entries 147 = .ok (.iload 5, 2) := by decide +kernel
theorem d_m_entries_149 : decode c_m_entries 149 = .ok (.ireturn, 1) := by decide +kernel
theorem d_m_commit_0 : decode c_m_commit 0 = .ok (.aload_n 0, 1) := by decide +kernel
theorem d_m_commit_1 : decode c_m_commit 1 = .ok (.iload_n 1, 1) := by decide +kernel
theorem d_m_commit_2 : decode c_m_commit 2 = .ok (.invokevirtual 123, 3) := by decide +kernel
theorem d_m_commit_5 : decode c_m_commit 5 = .ok (.istore_n 2, 1) := by decide +kernel
theorem d_m_commit_6 : decode c_m_commit 6 = .ok (.aload_n 0, 1) := by decide +kernel
theorem d_m_commit_7 : decode c_m_commit 7 = .ok (.iload_n 2, 1) := by decide +kernel
theorem d_m_commit_8 : decode c_m_commit 8 = .ok (.ifCond .ne 7, 3) := by decide +kernel
theorem d_m_commit_11 : decode c_m_commit 11 = .ok (.iconst 1, 1) := by decide +kernel
theorem d_m_commit_12 : decode c_m_commit 12 = .ok (.goto 32, 3) := by decide +kernel
theorem d_m_commit_15 : decode c_m_commit 15 = .ok (.aload_n 0, 1) := by decide +kernel
theorem d_m_commit_16 : decode c_m_commit 16 = .ok (.aload_n 0, 1) := by decide +kernel
theorem d_m_commit_17 : decode c_m_commit 17 = .ok (.getfield 39, 3) := by decide +kernel
theorem d_m_commit_20 : decode c_m_commit 20 = .ok (.iload_n 1, 1) := by decide +kernel
theorem d_m_commit_21 : decode c_m_commit 21 = .ok (.iaload, 1) := by decide +kernel
theorem d_m_commit_22 : decode c_m_commit 22 = .ok (.invokevirtual 105, 3) := by decide +kernel
theorem d_m_commit_25 : decode c_m_commit 25 = .ok (.bipush 8, 2) := by decide +kernel
theorem d_m_commit_27 : decode c_m_commit 27 = .ok (.if_icmp .eq 12, 3) := by decide +kernel
theorem d_m_commit_30 : decode c_m_commit 30 = .ok (.aload_n 0, 1) := by decide +kernel
theorem d_m_commit_31 : decode c_m_commit 31 = .ok (.getfield 87, 3) := by decide +kernel
theorem d_m_commit_34 : decode c_m_commit 34 = .ok (.bipush 10, 2) := by decide +kernel
theorem d_m_commit_36 : decode c_m_commit 36 = .ok (.if_icmp .ne 7, 3) := by decide +kernel
theorem d_m_commit_39 : decode c_m_commit 39 = .ok (.iconst 2, 1) := by decide +kernel
theorem d_m_commit_40 : decode c_m_commit 40 = .ok (.goto 4, 3) := by decide +kernel
theorem d_m_commit_43 : decode c_m_commit 43 = .ok (.iconst 0, 1) := by decide +kernel
theorem d_m_commit_44 : decode c_m_commit 44 = .ok (.invokevirtual 109, 3) := by decide +kernel
theorem d_m_commit_47 : decode c_m_commit 47 = .ok (.ifCond .ne 5, 3) := by decide +kernel
theorem d_m_commit_50 : decode c_m_commit 50 = .ok (.iconst 0, 1) := by decide +kernel
theorem d_m_commit_51 : decode c_m_commit 51 = .ok (.ireturn, 1) := by decide +kernel
theorem d_m_commit_52 : decode c_m_commit 52 = .ok (.aload_n 0, 1) := by decide +kernel
theorem d_m_commit_53 : decode c_m_commit 53 = .ok (.getfield 16, 3) := by decide +kernel
theorem d_m_commit_56 : decode c_m_commit 56 = .ok (.aload_n 0, 1) := by decide +kernel
theorem d_m_commit_57 : decode c_m_commit 57 = .ok (.getfield 87, 3) := by decide +kernel
theorem d_m_commit_60 : decode c_m_commit 60 = .ok (.aload_n 0, 1) := by decide +kernel
theorem d_m_commit_61 : decode c_m_commit 61 = .ok (.getfield 39, 3) := by decide +kernel
theorem d_m_commit_64 : decode c_m_commit 64 = .ok (.iload_n 1, 1) := by decide +kernel
theorem d_m_commit_65 : decode c_m_commit 65 = .ok (.iaload, 1) := by decide +kernel
theorem d_m_commit_66 : decode c_m_commit 66 = .ok (.iastore, 1) := by decide +kernel
theorem d_m_commit_67 : decode c_m_commit 67 = .ok (.aload_n 0, 1) := by decide +kernel
theorem d_m_commit_68 : decode c_m_commit 68 = .ok (.getfield 19, 3) := by decide +kernel
theorem d_m_commit_71 : decode c_m_commit 71 = .ok (.aload_n 0, 1) := by decide +kernel
theorem d_m_commit_72 : decode c_m_commit 72 = .ok (.getfield 87, 3) := by decide +kernel
theorem d_m_commit_75 : decode c_m_commit 75 = .ok (.iconst 1, 1) := by decide +kernel
theorem d_m_commit_76 : decode c_m_commit 76 = .ok (.bastore, 1) := by decide +kernel
theorem d_m_commit_77 : decode c_m_commit 77 = .ok (.aload_n 0, 1) := by decide +kernel
theorem d_m_commit_78 : decode c_m_commit 78 = .ok (.aload_n 0, 1) := by decide +kernel
theorem d_m_commit_79 : decode c_m_commit 79 = .ok (.getfield 87, 3) := by decide +kernel
theorem d_m_commit_82 : decode c_m_commit 82 = .ok (.bipush 10, 2) := by decide +kernel
theorem d_m_commit_84 : decode c_m_commit 84 = .ok (.iload_n 1, 1) := by decide +kernel
theorem d_m_commit_85 : decode c_m_commit 85 = .ok (.iadd, 1) := by decide +kernel
theorem d_m_commit_86 : decode c_m_commit 86 = .ok (.invokevirtual 126, 3) := by decide +kernel
theorem d_m_commit_89 : decode c_m_commit 89 = .ok (.aload_n 0, 1) := by decide +kernel
theorem d_m_commit_90 : decode c_m_commit 90 = .ok (.dup, 1) := by decide +kernel
theorem d_m_commit_91 : decode c_m_commit 91 = .ok (.getfield 87, 3) := by decide +kernel
theorem d_m_commit_94 : decode c_m_commit 94 = .ok (.iconst 1, 1) := by decide +kernel
theorem d_m_commit_95 : decode c_m_commit 95 = .ok (.iadd, 1) := by decide +kernel
theorem d_m_commit_96 : decode c_m_commit 96 = .ok (.putfield 87, 3) := by decide +kernel
theorem d_m_commit_99 : decode c_m_commit 99 = .ok (.aload_n 0, 1) := by decide +kernel
theorem d_m_commit_100 : decode c_m_commit 100 = .ok (.getfield 87, 3) := by decide +kernel
theorem d_m_commit_103 : decode c_m_commit 103 = .ok (.iconst 1, 1) := by decide +kernel
theorem d_m_commit_104 : decode c_m_commit 104 = .ok (.isub, 1) := by decide +kernel
theorem d_m_commit_105 : decode c_m_commit 105 = .ok (.ireturn, 1) := by decide +kernel
theorem d_m_isContainer_0 : decode c_m_isContainer 0 = .ok (.iload_n 1, 1) := by decide +kernel
theorem d_m_isContainer_1 : decode c_m_isContainer 1 = .ok (.aload_n 0, 1) := by decide +kernel
theorem d_m_isContainer_2 : decode c_m_isContainer 2 = .ok (.getfield 94, 3) := by decide +kernel
theorem d_m_isContainer_5 : decode c_m_isContainer 5 = .ok (.invokestatic 90, 3) := by decide +kernel
theorem d_m_isContainer_8 : decode c_m_isContainer 8 = .ok (.ireturn, 1) := by decide +kernel
theorem d_m_copies_0 : decode c_m_copies 0 = .ok (.aload_n 0, 1) := by decide +kernel
theorem d_m_copies_1 : decode c_m_copies 1 = .ok (.getfield 13, 3) := by decide +kernel
theorem d_m_copies_4 : decode c_m_copies 4 = .ok (.iload_n 1, 1) := by decide +kernel
theorem d_m_copies_5 : decode c_m_copies 5 = .ok (.aload_n 0, 1) := by decide +kernel
theorem d_m_copies_6 : decode c_m_copies 6 = .ok (.getfield 13, 3) := by decide +kernel
theorem d_m_copies_9 : decode c_m_copies 9 = .ok (.iload_n 2, 1) := by decide +kernel
theorem d_m_copies_10 : decode c_m_copies 10 = .ok (.iaload, 1) := by decide +kernel
theorem d_m_copies_11 : decode c_m_copies 11 = .ok (.iastore, 1) := by decide +kernel
theorem d_m_copies_12 : decode c_m_copies 12 = .ok (.iconst 0, 1) := by decide +kernel
theorem d_m_copies_13 : decode c_m_copies 13 = .ok (.istore_n 3, 1) := by decide +kernel
theorem d_m_copies_14 : decode c_m_copies 14 = .ok (.iload_n 3, 1) := by decide +kernel
theorem d_m_copies_15 : decode c_m_copies 15 = .ok (.bipush 32, 2) := by decide +kernel
theorem d_m_copies_17 : decode c_m_copies 17 = .ok (.if_icmp .ge 31, 3) := by decide +kernel
theorem d_m_copies_20 : decode c_m_copies 20 = .ok (.aload_n 0, 1) := by decide +kernel
theorem d_m_copies_21 : decode c_m_copies 21 = .ok (.getfield 7, 3) := by decide +kernel
theorem d_m_copies_24 : decode c_m_copies 24 = .ok (.bipush 32, 2) := by decide +kernel
theorem d_m_copies_26 : decode c_m_copies 26 = .ok (.iload_n 1, 1) := by decide +kernel
theorem d_m_copies_27 : decode c_m_copies 27 = .ok (.imul, 1) := by decide +kernel
theorem d_m_copies_28 : decode c_m_copies 28 = .ok (.iload_n 3, 1) := by decide +kernel
theorem d_m_copies_29 : decode c_m_copies 29 = .ok (.iadd, 1) := by decide +kernel
theorem d_m_copies_30 : decode c_m_copies 30 = .ok (.aload_n 0, 1) := by decide +kernel
theorem d_m_copies_31 : decode c_m_copies 31 = .ok (.getfield 7, 3) := by decide +kernel
theorem d_m_copies_34 : decode c_m_copies 34 = .ok (.bipush 32, 2) := by decide +kernel
theorem d_m_copies_36 : decode c_m_copies 36 = .ok (.iload_n 2, 1) := by decide +kernel
theorem d_m_copies_37 : decode c_m_copies 37 = .ok (.imul, 1) := by decide +kernel
theorem d_m_copies_38 : decode c_m_copies 38 = .ok (.iload_n 3, 1) := by decide +kernel
theorem d_m_copies_39 : decode c_m_copies 39 = .ok (.iadd, 1) := by decide +kernel
theorem d_m_copies_40 : decode c_m_copies 40 = .ok (.iaload, 1) := by decide +kernel
theorem d_m_copies_41 : decode c_m_copies 41 = .ok (.iastore, 1) := by decide +kernel
theorem d_m_copies_42 : decode c_m_copies 42 = .ok (.iinc 3 1, 3) := by decide +kernel
theorem d_m_copies_45 : decode c_m_copies 45 = .ok (.goto (-31), 3) := by decide +kernel
theorem d_m_copies_48 : decode c_m_copies 48 = .ok (.return_, 1) := by decide +kernel
theorem d_m_newGroup_0 : decode c_m_newGroup 0 = .ok (.iload_n 2, 1) := by decide +kernel
theorem d_m_newGroup_1 : decode c_m_newGroup 1 = .ok (.iconst 1, 1) := by decide +kernel
theorem d_m_newGroup_2 : decode c_m_newGroup 2 = .ok (.if_icmp .lt 38, 3) := by decide +kernel
theorem d_m_newGroup_5 : decode c_m_newGroup 5 = .ok (.iload_n 2, 1) := by decide +kernel
theorem d_m_newGroup_6 : decode c_m_newGroup 6 = .ok (.sipush 10000, 3) := by decide +kernel
theorem d_m_newGroup_9 : decode c_m_newGroup 9 = .ok (.if_icmp .gt 31, 3) := by decide +kernel
theorem d_m_newGroup_12 : decode c_m_newGroup 12 = .ok (.iload_n 3, 1) := by decide +kernel
theorem d_m_newGroup_13 : decode c_m_newGroup 13 = .ok (.iconst 1, 1) := by decide +kernel
theorem d_m_newGroup_14 : decode c_m_newGroup 14 = .ok (.if_icmp .lt 26, 3) := by decide +kernel
theorem d_m_newGroup_17 : decode c_m_newGroup 17 = .ok (.iload_n 3, 1) := by decide +kernel
theorem d_m_newGroup_18 : decode c_m_newGroup 18 = .ok (.bipush 100, 2) := by decide +kernel
theorem d_m_newGroup_20 : decode c_m_newGroup 20 = .ok (.if_icmp .gt 20, 3) := by decide +kernel
theorem d_m_newGroup_23 : decode c_m_newGroup 23 = .ok (.iload 4, 2) := by decide +kernel
theorem d_m_newGroup_25 : decode c_m_newGroup 25 = .ok (.iconst 1, 1) := by decide +kernel
theorem d_m_newGroup_26 : decode c_m_newGroup 26 = .ok (.if_icmp .lt 14, 3) := by decide +kernel
theorem d_m_newGroup_29 : decode c_m_newGroup 29 = .ok (.iload 4, 2) := by decide +kernel
theorem d_m_newGroup_31 : decode c_m_newGroup 31 = .ok (.bipush 100, 2) := by decide +kernel
theorem d_m_newGroup_33 : decode c_m_newGroup 33 = .ok (.if_icmp .gt 7, 3) := by decide +kernel
theorem d_m_newGroup_36 : decode c_m_newGroup 36 = .ok (.iconst 1, 1) := by decide +kernel
theorem d_m_newGroup_37 : decode c_m_newGroup 37 = .ok (.goto 4, 3) := by decide +kernel
theorem d_m_newGroup_40 : decode c_m_newGroup 40 = .ok (.iconst 0, 1) := by decide +kernel
theorem d_m_newGroup_41 : decode c_m_newGroup 41 = .ok (.istore 5, 2) := by decide +kernel
theorem d_m_newGroup_43 : decode c_m_newGroup 43 = .ok (.aload_n 0, 1) := by decide +kernel
theorem d_m_newGroup_44 : decode c_m_newGroup 44 = .ok (.aload_n 0, 1) := by decide +kernel
theorem d_m_newGroup_45 : decode c_m_newGroup 45 = .ok (.iload_n 1, 1) := by decide +kernel
theorem d_m_newGroup_46 : decode c_m_newGroup 46 = .ok (.invokevirtual 133, 3) := by decide +kernel
theorem d_m_newGroup_49 : decode c_m_newGroup 49 = .ok (.ifCond .ne 7, 3) := by decide +kernel
theorem d_m_newGroup_52 : decode c_m_newGroup 52 = .ok (.iconst 1, 1) := by decide +kernel
theorem d_m_newGroup_53 : decode c_m_newGroup 53 = .ok (.goto 26, 3) := by decide +kernel
theorem d_m_newGroup_56 : decode c_m_newGroup 56 = .ok (.iload 5, 2) := by decide +kernel
theorem d_m_newGroup_58 : decode c_m_newGroup 58 = .ok (.ifCond .ne 7, 3) := by decide +kernel
theorem d_m_newGroup_61 : decode c_m_newGroup 61 = .ok (.iconst 2, 1) := by decide +kernel
theorem d_m_newGroup_62 : decode c_m_newGroup 62 = .ok (.goto 17, 3) := by decide +kernel
theorem d_m_newGroup_65 : decode c_m_newGroup 65 = .ok (.aload_n 0, 1) := by decide +kernel
theorem d_m_newGroup_66 : decode c_m_newGroup 66 = .ok (.getfield 23, 3) := by decide +kernel
theorem d_m_newGroup_69 : decode c_m_newGroup 69 = .ok (.bipush 8, 2) := by decide +kernel
theorem d_m_newGroup_71 : decode c_m_newGroup 71 = .ok (.if_icmp .ne 7, 3) := by decide +kernel
theorem d_m_newGroup_74 : decode c_m_newGroup 74 = .ok (.iconst 3, 1) := by decide +kernel
theorem d_m_newGroup_75 : decode c_m_newGroup 75 = .ok (.goto 4, 3) := by decide +kernel
theorem d_m_newGroup_78 : decode c_m_newGroup 78 = .ok (.iconst 0, 1) := by decide +kernel
theorem d_m_newGroup_79 : decode c_m_newGroup 79 = .ok (.invokevirtual 109, 3) := by decide +kernel
theorem d_m_newGroup_82 : decode c_m_newGroup 82 = .ok (.ifCond .ne 5, 3) := by decide +kernel
theorem d_m_newGroup_85 : decode c_m_newGroup 85 = .ok (.iconst 0, 1) := by decide +kernel
theorem d_m_newGroup_86 : decode c_m_newGroup 86 = .ok (.ireturn, 1) := by decide +kernel
theorem d_m_newGroup_87 : decode c_m_newGroup 87 = .ok (.aload_n 0, 1) := by decide +kernel
theorem d_m_newGroup_88 : decode c_m_newGroup 88 = .ok (.getfield 27, 3) := by decide +kernel
theorem d_m_newGroup_91 : decode c_m_newGroup 91 = .ok (.aload_n 0, 1) := by decide +kernel
theorem d_m_newGroup_92 : decode c_m_newGroup 92 = .ok (.getfield 23, 3) := by decide +kernel
theorem d_m_newGroup_95 : decode c_m_newGroup 95 = .ok (.iload_n 1, 1) := by decide +kernel
theorem d_m_newGroup_96 : decode c_m_newGroup 96 = .ok (.iastore, 1) := by decide +kernel
theorem d_m_newGroup_97 : decode c_m_newGroup 97 = .ok (.aload_n 0, 1) := by decide +kernel
theorem d_m_newGroup_98 : decode c_m_newGroup 98 = .ok (.getfield 30, 3) := by decide +kernel
theorem d_m_newGroup_101 : decode c_m_newGroup 101 = .ok (.aload_n 0, 1) := by decide +kernel
theorem d_m_newGroup_102 : decode c_m_newGroup 102 = .ok (.getfield 23, 3) := by decide +kernel
theorem d_m_newGroup_105 : decode c_m_newGroup 105 = .ok (.iload_n 2, 1) := by decide +kernel
theorem d_m_newGroup_106 : decode c_m_newGroup 106 = .ok (.iastore, 1) := by decide +kernel
theorem d_m_newGroup_107 : decode c_m_newGroup 107 = .ok (.aload_n 0, 1) := by decide +kernel
theorem d_m_newGroup_108 : decode c_m_newGroup 108 = .ok (.getfield 33, 3) := by decide +kernel
theorem d_m_newGroup_111 : decode c_m_newGroup 111 = .ok (.aload_n 0, 1) := by decide +kernel
theorem d_m_newGroup_112 : decode c_m_newGroup 112 = .ok (.getfield 23, 3) := by decide +kernel
theorem d_m_newGroup_115 : decode c_m_newGroup 115 = .ok (.iload_n 3, 1) := by decide +kernel
theorem d_m_newGroup_116 : decode c_m_newGroup 116 = .ok (.iastore, 1) := by decide +kernel
theorem d_m_newGroup_117 : decode c_m_newGroup 117 = .ok (.aload_n 0, 1) := by decide +kernel
theorem d_m_newGroup_118 : decode c_m_newGroup 118 = .ok (.getfield 36, 3) := by decide +kernel
theorem d_m_newGroup_121 : decode c_m_newGroup 121 = .ok (.aload_n 0, 1) := by decide +kernel
theorem d_m_newGroup_122 : decode c_m_newGroup 122 = .ok (.getfield 23, 3) := by decide +kernel
theorem d_m_newGroup_125 : decode c_m_newGroup 125 = .ok (.iload 4, 2) := by decide +kernel
theorem d_m_newGroup_127 : decode c_m_newGroup 127 = .ok (.iastore, 1) := by decide +kernel
theorem d_m_newGroup_128 : decode c_m_newGroup 128 = .ok (.aload_n 0, 1) := by decide +kernel
theorem d_m_newGroup_129 : decode c_m_newGroup 129 = .ok (.dup, 1) := by decide +kernel
theorem d_m_newGroup_130 : decode c_m_newGroup 130 = .ok (.getfield 23, 3) := by decide +kernel
theorem d_m_newGroup_133 : decode c_m_newGroup 133 = .ok (.iconst 1, 1) := by decide +kernel
theorem d_m_newGroup_134 : decode c_m_newGroup 134 = .ok (.iadd, 1) := by decide +kernel
theorem d_m_newGroup_135 : decode c_m_newGroup 135 = .ok (.putfield 23, 3) := by decide +kernel
theorem d_m_newGroup_138 : decode c_m_newGroup 138 = .ok (.aload_n 0, 1) := by decide +kernel
theorem d_m_newGroup_139 : decode c_m_newGroup 139 = .ok (.getfield 23, 3) := by decide +kernel
theorem d_m_newGroup_142 : decode c_m_newGroup 142 = .ok (.iconst 1, 1) := by decide +kernel
theorem d_m_newGroup_143 : decode c_m_newGroup 143 = .ok (.isub, 1) := by decide +kernel
theorem d_m_newGroup_144 : decode c_m_newGroup 144 = .ok (.ireturn, 1) := by decide +kernel
theorem d_m_isGroup_0 : decode c_m_isGroup 0 = .ok (.iload_n 1, 1) := by decide +kernel
theorem d_m_isGroup_1 : decode c_m_isGroup 1 = .ok (.aload_n 0, 1) := by decide +kernel
theorem d_m_isGroup_2 : decode c_m_isGroup 2 = .ok (.getfield 23, 3) := by decide +kernel
theorem d_m_isGroup_5 : decode c_m_isGroup 5 = .ok (.invokestatic 90, 3) := by decide +kernel
theorem d_m_isGroup_8 : decode c_m_isGroup 8 = .ok (.ireturn, 1) := by decide +kernel
theorem d_m_groupMemory_0 : decode c_m_groupMemory 0 = .ok (.aload_n 0, 1) := by decide +kernel
theorem d_m_groupMemory_1 : decode c_m_groupMemory 1 = .ok (.aload_n 0, 1) := by decide +kernel
theorem d_m_groupMemory_2 : decode c_m_groupMemory 2 = .ok (.iload_n 1, 1) := by decide +kernel
theorem d_m_groupMemory_3 : decode c_m_groupMemory 3 = .ok (.invokevirtual 133, 3) := by decide +kernel
theorem d_m_groupMemory_6 : decode c_m_groupMemory 6 = .ok (.ifCond .eq 7, 3) := by decide +kernel
theorem d_m_groupMemory_9 : decode c_m_groupMemory 9 = .ok (.iconst 0, 1) := by decide +kernel
theorem d_m_groupMemory_10 : decode c_m_groupMemory 10 = .ok (.goto 4, 3) := by decide +kernel
theorem d_m_groupMemory_13 : decode c_m_groupMemory 13 = .ok (.iconst 1, 1) := by decide +kernel
theorem d_m_groupMemory_14 : decode c_m_groupMemory 14 = .ok (.invokevirtual 109, 3) := by decide +kernel
theorem d_m_groupMemory_17 : decode c_m_groupMemory 17 = .ok (.ifCond .eq 11, 3) := by decide +kernel
theorem d_m_groupMemory_20 : decode c_m_groupMemory 20 = .ok (.aload_n 0, 1) := by decide +kernel
theorem d_m_groupMemory_21 : decode c_m_groupMemory 21 = .ok (.iload_n 1, 1) := by decide +kernel
theorem d_m_groupMemory_22 : decode c_m_groupMemory 22 = .ok (.invokevirtual 136, 3) := by decide +kernel
theorem d_m_groupMemory_25 : decode c_m_groupMemory 25 = .ok (.goto 4, 3) := by decide +kernel
theorem d_m_groupMemory_28 : decode c_m_groupMemory 28 = .ok (.iconst 0, 1) := by decide +kernel
theorem d_m_groupMemory_29 : decode c_m_groupMemory 29 = .ok (.ireturn, 1) := by decide +kernel
theorem d_m_memoryIn_0 : decode c_m_memoryIn 0 = .ok (.iconst 0, 1) := by decide +kernel
theorem d_m_memoryIn_1 : decode c_m_memoryIn 1 = .ok (.istore_n 2, 1) := by decide +kernel
theorem d_m_memoryIn_2 : decode c_m_memoryIn 2 = .ok (.iconst 0, 1) := by decide +kernel
theorem d_m_memoryIn_3 : decode c_m_memoryIn 3 = .ok (.istore_n 3, 1) := by decide +kernel
theorem d_m_memoryIn_4 : decode c_m_memoryIn 4 = .ok (.iload_n 3, 1) := by decide +kernel
theorem d_m_memoryIn_5 : decode c_m_memoryIn 5 = .ok (.aload_n 0, 1) := by decide +kernel
theorem d_m_memoryIn_6 : decode c_m_memoryIn 6 = .ok (.getfield 94, 3) := by decide +kernel
theorem d_m_memoryIn_9 : decode c_m_memoryIn 9 = .ok (.if_icmp .ge 36, 3) := by decide +kernel
theorem d_m_memoryIn_12 : decode c_m_memoryIn 12 = .ok (.iload_n 2, 1) := by decide +kernel
theorem d_m_memoryIn_13 : decode c_m_memoryIn 13 = .ok (.aload_n 0, 1) := by decide +kernel
theorem d_m_memoryIn_14 : decode c_m_memoryIn 14 = .ok (.aload_n 0, 1) := by decide +kernel
theorem d_m_memoryIn_15 : decode c_m_memoryIn 15 = .ok (.getfield 63, 3) := by decide +kernel
theorem d_m_memoryIn_18 : decode c_m_memoryIn 18 = .ok (.iload_n 3, 1) := by decide +kernel
theorem d_m_memoryIn_19 : decode c_m_memoryIn 19 = .ok (.iaload, 1) := by decide +kernel
theorem d_m_memoryIn_20 : decode c_m_memoryIn 20 = .ok (.iload_n 1, 1) := by decide +kernel
theorem d_m_memoryIn_21 : decode c_m_memoryIn 21 = .ok (.invokevirtual 130, 3) := by decide +kernel
theorem d_m_memoryIn_24 : decode c_m_memoryIn 24 = .ok (.ifCond .eq 12, 3) := by decide +kernel
theorem d_m_memoryIn_27 : decode c_m_memoryIn 27 = .ok (.aload_n 0, 1) := by decide +kernel
theorem d_m_memoryIn_28 : decode c_m_memoryIn 28 = .ok (.getfield 45, 3) := by decide +kernel
theorem d_m_memoryIn_31 : decode c_m_memoryIn 31 = .ok (.iload_n 3, 1) := by decide +kernel
theorem d_m_memoryIn_32 : decode c_m_memoryIn 32 = .ok (.iaload, 1) := by decide +kernel
theorem d_m_memoryIn_33 : decode c_m_memoryIn 33 = .ok (.goto 4, 3) := by decide +kernel
theorem d_m_memoryIn_36 : decode c_m_memoryIn 36 = .ok (.iconst 0, 1) := by decide +kernel
theorem d_m_memoryIn_37 : decode c_m_memoryIn 37 = .ok (.iadd, 1) := by decide +kernel
theorem d_m_memoryIn_38 : decode c_m_memoryIn 38 = .ok (.istore_n 2, 1) := by decide +kernel
theorem d_m_memoryIn_39 : decode c_m_memoryIn 39 = .ok (.iinc 3 1, 3) := by decide +kernel
theorem d_m_memoryIn_42 : decode c_m_memoryIn 42 = .ok (.goto (-38), 3) := by decide +kernel
theorem d_m_memoryIn_45 : decode c_m_memoryIn 45 = .ok (.iload_n 2, 1) := by decide +kernel
theorem d_m_memoryIn_46 : decode c_m_memoryIn 46 = .ok (.ireturn, 1) := by decide +kernel
theorem d_m_isBelow_0 : decode c_m_isBelow 0 = .ok (.iload_n 1, 1) := by decide +kernel
theorem d_m_isBelow_1 : decode c_m_isBelow 1 = .ok (.istore_n 3, 1) := by decide +kernel
theorem d_m_isBelow_2 : decode c_m_isBelow 2 = .ok (.iload_n 3, 1) := by decide +kernel
theorem d_m_isBelow_3 : decode c_m_isBelow 3 = .ok (.iconst (-1), 1) := by decide +kernel
theorem d_m_isBelow_4 : decode c_m_isBelow 4 = .ok (.if_icmp .eq 18, 3) := by decide +kernel
theorem d_m_isBelow_7 : decode c_m_isBelow 7 = .ok (.iload_n 3, 1) := by decide +kernel
theorem d_m_isBelow_8 : decode c_m_isBelow 8 = .ok (.iload_n 2, 1) := by decide +kernel
theorem d_m_isBelow_9 : decode c_m_isBelow 9 = .ok (.if_icmp .eq 13, 3) := by decide +kernel
theorem d_m_isBelow_12 : decode c_m_isBelow 12 = .ok (.aload_n 0, 1) := by decide +kernel
theorem d_m_isBelow_13 : decode c_m_isBelow 13 = .ok (.getfield 27, 3) := by decide +kernel
theorem d_m_isBelow_16 : decode c_m_isBelow 16 = .ok (.iload_n 3, 1) := by decide +kernel
theorem d_m_isBelow_17 : decode c_m_isBelow 17 = .ok (.iaload, 1) := by decide +kernel
theorem d_m_isBelow_18 : decode c_m_isBelow 18 = .ok (.istore_n 3, 1) := by decide +kernel
theorem d_m_isBelow_19 : decode c_m_isBelow 19 = .ok (.goto (-17), 3) := by decide +kernel
theorem d_m_isBelow_22 : decode c_m_isBelow 22 = .ok (.iload_n 3, 1) := by decide +kernel
theorem d_m_isBelow_23 : decode c_m_isBelow 23 = .ok (.iload_n 2, 1) := by decide +kernel
theorem d_m_isBelow_24 : decode c_m_isBelow 24 = .ok (.if_icmp .ne 7, 3) := by decide +kernel
theorem d_m_isBelow_27 : decode c_m_isBelow 27 = .ok (.iconst 1, 1) := by decide +kernel
theorem d_m_isBelow_28 : decode c_m_isBelow 28 = .ok (.goto 4, 3) := by decide +kernel
theorem d_m_isBelow_31 : decode c_m_isBelow 31 = .ok (.iconst 0, 1) := by decide +kernel
theorem d_m_isBelow_32 : decode c_m_isBelow 32 = .ok (.ireturn, 1) := by decide +kernel
theorem d_m_groupProcesses_0 : decode c_m_groupProcesses 0 = .ok (.aload_n 0, 1) := by decide +kernel
theorem d_m_groupProcesses_1 : decode c_m_groupProcesses 1 = .ok (.aload_n 0, 1) := by decide +kernel
theorem d_m_groupProcesses_2 : decode c_m_groupProcesses 2 = .ok (.iload_n 1, 1) := by decide +kernel
theorem d_m_groupProcesses_3 : decode c_m_groupProcesses 3 = .ok (.invokevirtual 133, 3) := by decide +kernel
theorem d_m_groupProcesses_6 : decode c_m_groupProcesses 6 = .ok (.ifCond .eq 7, 3) := by decide +kernel
theorem d_m_groupProcesses_9 : decode c_m_groupProcesses 9 = .ok (.iconst 0, 1) := by decide +kernel
theorem d_m_groupProcesses_10 : decode c_m_groupProcesses 10 = .ok (.goto 4, 3) := by decide +kernel
theorem d_m_groupProcesses_13 : decode c_m_groupProcesses 13 = .ok (.iconst 1, 1) := by decide +kernel
theorem d_m_groupProcesses_14 : decode c_m_groupProcesses 14 = .ok (.invokevirtual 109, 3) := by decide +kernel
theorem d_m_groupProcesses_17 : decode c_m_groupProcesses 17 = .ok (.ifCond .eq 11, 3) := by decide +kernel
theorem d_m_groupProcesses_20 : decode c_m_groupProcesses 20 = .ok (.aload_n 0, 1) := by decide +kernel
theorem d_m_groupProcesses_21 : decode c_m_groupProcesses 21 = .ok (.iload_n 1, 1) := by decide +kernel
theorem d_m_groupProcesses_22 : decode c_m_groupProcesses 22 = .ok (.invokevirtual 139, 3) := by decide +kernel
theorem d_m_groupProcesses_25 : decode c_m_groupProcesses 25 = .ok (.goto 4, 3) := by decide +kernel
theorem d_m_groupProcesses_28 : decode c_m_groupProcesses 28 = .ok (.iconst 0, 1) := by decide +kernel
theorem d_m_groupProcesses_29 : decode c_m_groupProcesses 29 = .ok (.ireturn, 1) := by decide +kernel
theorem d_m_processesIn_0 : decode c_m_processesIn 0 = .ok (.iconst 0, 1) := by decide +kernel
theorem d_m_processesIn_1 : decode c_m_processesIn 1 = .ok (.istore_n 2, 1) := by decide +kernel
theorem d_m_processesIn_2 : decode c_m_processesIn 2 = .ok (.iconst 0, 1) := by decide +kernel
theorem d_m_processesIn_3 : decode c_m_processesIn 3 = .ok (.istore_n 3, 1) := by decide +kernel
theorem d_m_processesIn_4 : decode c_m_processesIn 4 = .ok (.iload_n 3, 1) := by decide +kernel
theorem d_m_processesIn_5 : decode c_m_processesIn 5 = .ok (.aload_n 0, 1) := by decide +kernel
theorem d_m_processesIn_6 : decode c_m_processesIn 6 = .ok (.getfield 94, 3) := by decide +kernel
theorem d_m_processesIn_9 : decode c_m_processesIn 9 = .ok (.if_icmp .ge 36, 3) := by decide +kernel
theorem d_m_processesIn_12 : decode c_m_processesIn 12 = .ok (.iload_n 2, 1) := by decide +kernel
theorem d_m_processesIn_13 : decode c_m_processesIn 13 = .ok (.aload_n 0, 1) := by decide +kernel
theorem d_m_processesIn_14 : decode c_m_processesIn 14 = .ok (.aload_n 0, 1) := by decide +kernel
theorem d_m_processesIn_15 : decode c_m_processesIn 15 = .ok (.getfield 63, 3) := by decide +kernel
theorem d_m_processesIn_18 : decode c_m_processesIn 18 = .ok (.iload_n 3, 1) := by decide +kernel
theorem d_m_processesIn_19 : decode c_m_processesIn 19 = .ok (.iaload, 1) := by decide +kernel
theorem d_m_processesIn_20 : decode c_m_processesIn 20 = .ok (.iload_n 1, 1) := by decide +kernel
theorem d_m_processesIn_21 : decode c_m_processesIn 21 = .ok (.invokevirtual 130, 3) := by decide +kernel
theorem d_m_processesIn_24 : decode c_m_processesIn 24 = .ok (.ifCond .eq 12, 3) := by decide +kernel
theorem d_m_processesIn_27 : decode c_m_processesIn 27 = .ok (.aload_n 0, 1) := by decide +kernel
theorem d_m_processesIn_28 : decode c_m_processesIn 28 = .ok (.getfield 48, 3) := by decide +kernel
theorem d_m_processesIn_31 : decode c_m_processesIn 31 = .ok (.iload_n 3, 1) := by decide +kernel
theorem d_m_processesIn_32 : decode c_m_processesIn 32 = .ok (.iaload, 1) := by decide +kernel
theorem d_m_processesIn_33 : decode c_m_processesIn 33 = .ok (.goto 4, 3) := by decide +kernel
theorem d_m_processesIn_36 : decode c_m_processesIn 36 = .ok (.iconst 0, 1) := by decide +kernel
theorem d_m_processesIn_37 : decode c_m_processesIn 37 = .ok (.iadd, 1) := by decide +kernel
theorem d_m_processesIn_38 : decode c_m_processesIn 38 = .ok (.istore_n 2, 1) := by decide +kernel
theorem d_m_processesIn_39 : decode c_m_processesIn 39 = .ok (.iinc 3 1, 3) := by decide +kernel
theorem d_m_processesIn_42 : decode c_m_processesIn 42 = .ok (.goto (-38), 3) := by decide +kernel
theorem d_m_processesIn_45 : decode c_m_processesIn 45 = .ok (.iload_n 2, 1) := by decide +kernel
theorem d_m_processesIn_46 : decode c_m_processesIn 46 = .ok (.ireturn, 1) := by decide +kernel
theorem d_m_run_0 : decode c_m_run 0 = .ok (.aload_n 0, 1) := by decide +kernel
theorem d_m_run_1 : decode c_m_run 1 = .ok (.iload_n 1, 1) := by decide +kernel
theorem d_m_run_2 : decode c_m_run 2 = .ok (.invokevirtual 101, 3) := by decide +kernel
theorem d_m_run_5 : decode c_m_run 5 = .ok (.ifCond .eq 15, 3) := by decide +kernel
theorem d_m_run_8 : decode c_m_run 8 = .ok (.aload_n 0, 1) := by decide +kernel
theorem d_m_run_9 : decode c_m_run 9 = .ok (.iload_n 2, 1) := by decide +kernel
theorem d_m_run_10 : decode c_m_run 10 = .ok (.invokevirtual 133, 3) := by decide +kernel
theorem d_m_run_13 : decode c_m_run 13 = .ok (.ifCond .eq 7, 3) := by decide +kernel
theorem d_m_run_16 : decode c_m_run 16 = .ok (.iconst 1, 1) := by decide +kernel
theorem d_m_run_17 : decode c_m_run 17 = .ok (.goto 4, 3) := by decide +kernel
theorem d_m_run_20 : decode c_m_run 20 = .ok (.iconst 0, 1) := by decide +kernel
theorem d_m_run_21 : decode c_m_run 21 = .ok (.istore 5, 2) := by decide +kernel
theorem d_m_run_23 : decode c_m_run 23 = .ok (.iload_n 3, 1) := by decide +kernel
theorem d_m_run_24 : decode c_m_run 24 = .ok (.bipush 16, 2) := by decide +kernel
theorem d_m_run_26 : decode c_m_run 26 = .ok (.invokestatic 90, 3) := by decide +kernel
theorem d_m_run_29 : decode c_m_run 29 = .ok (.ifCond .eq 20, 3) := by decide +kernel
theorem d_m_run_32 : decode c_m_run 32 = .ok (.iload 4, 2) := by decide +kernel
theorem d_m_run_34 : decode c_m_run 34 = .ok (.iconst 1, 1) := by decide +kernel
theorem d_m_run_35 : decode c_m_run 35 = .ok (.if_icmp .lt 14, 3) := by decide +kernel
theorem d_m_run_38 : decode c_m_run 38 = .ok (.iload 4, 2) := by decide +kernel
theorem d_m_run_40 : decode c_m_run 40 = .ok (.bipush 100, 2) := by decide +kernel
theorem d_m_run_42 : decode c_m_run 42 = .ok (.if_icmp .gt 7, 3) := by decide +kernel
theorem d_m_run_45 : decode c_m_run 45 = .ok (.iconst 1, 1) := by decide +kernel
theorem d_m_run_46 : decode c_m_run 46 = .ok (.goto 4, 3) := by decide +kernel
theorem d_m_run_49 : decode c_m_run 49 = .ok (.iconst 0, 1) := by decide +kernel
theorem d_m_run_50 : decode c_m_run 50 = .ok (.istore 6, 2) := by decide +kernel
theorem d_m_run_52 : decode c_m_run 52 = .ok (.aload_n 0, 1) := by decide +kernel
theorem d_m_run_53 : decode c_m_run 53 = .ok (.iload 5, 2) := by decide +kernel
theorem d_m_run_55 : decode c_m_run 55 = .ok (.ifCond .ne 7, 3) := by decide +kernel
theorem d_m_run_58 : decode c_m_run 58 = .ok (.iconst 1, 1) := by decide +kernel
theorem d_m_run_59 : decode c_m_run 59 = .ok (.goto 46, 3) := by decide +kernel
theorem d_m_run_62 : decode c_m_run 62 = .ok (.iload 6, 2) := by decide +kernel
theorem d_m_run_64 : decode c_m_run 64 = .ok (.ifCond .ne 7, 3) := by decide +kernel
theorem d_m_run_67 : decode c_m_run 67 = .ok (.iconst 2, 1) := by decide +kernel
theorem d_m_run_68 : decode c_m_run 68 = .ok (.goto 37, 3) := by decide +kernel
theorem d_m_run_71 : decode c_m_run 71 = .ok (.aload_n 0, 1) := by decide +kernel
theorem d_m_run_72 : decode c_m_run 72 = .ok (.getfield 19, 3) := by decide +kernel
theorem d_m_run_75 : decode c_m_run 75 = .ok (.iload_n 1, 1) := by decide +kernel
theorem d_m_run_76 : decode c_m_run 76 = .ok (.baload, 1) := by decide +kernel
theorem d_m_run_77 : decode c_m_run 77 = .ok (.ifCond .eq 23, 3) := by decide +kernel
theorem d_m_run_80 : decode c_m_run 80 = .ok (.aload_n 0, 1) := by decide +kernel
theorem d_m_run_81 : decode c_m_run 81 = .ok (.getfield 94, 3) := by decide +kernel
theorem d_m_run_84 : decode c_m_run 84 = .ok (.bipush 20, 2) := by decide +kernel
theorem d_m_run_86 : decode c_m_run 86 = .ok (.if_icmp .eq 14, 3) := by decide +kernel
theorem d_m_run_89 : decode c_m_run 89 = .ok (.aload_n 0, 1) := by decide +kernel
theorem d_m_run_90 : decode c_m_run 90 = .ok (.iload_n 2, 1) := by decide +kernel
theorem d_m_run_91 : decode c_m_run 91 = .ok (.iconst 0, 1) := by decide +kernel
theorem d_m_run_92 : decode c_m_run 92 = .ok (.iconst 1, 1) := by decide +kernel
theorem d_m_run_93 : decode c_m_run 93 = .ok (.invokevirtual 142, 3) := by decide +kernel
theorem d_m_run_96 : decode c_m_run 96 = .ok (.iconst (-1), 1) := by decide +kernel
theorem d_m_run_97 : decode c_m_run 97 = .ok (.if_icmp .eq 7, 3) := by decide +kernel
theorem d_m_run_100 : decode c_m_run 100 = .ok (.iconst 3, 1) := by decide +kernel
theorem d_m_run_101 : decode c_m_run 101 = .ok (.goto 4, 3) := by decide +kernel
theorem d_m_run_104 : decode c_m_run 104 = .ok (.iconst 0, 1) := by decide +kernel
theorem d_m_run_105 : decode c_m_run 105 = .ok (.invokevirtual 109, 3) := by decide +kernel
theorem d_m_run_108 : decode c_m_run 108 = .ok (.ifCond .ne 5, 3) := by decide +kernel
theorem d_m_run_111 : decode c_m_run 111 = .ok (.iconst 0, 1) := by decide +kernel
theorem d_m_run_112 : decode c_m_run 112 = .ok (.ireturn, 1) := by decide +kernel
theorem d_m_run_113 : decode c_m_run 113 = .ok (.aload_n 0, 1) := by decide +kernel
theorem d_m_run_114 : decode c_m_run 114 = .ok (.iload_n 1, 1) := by decide +kernel
theorem d_m_run_115 : decode c_m_run 115 = .ok (.iload_n 2, 1) := by decide +kernel
theorem d_m_run_116 : decode c_m_run 116 = .ok (.iload_n 3, 1) := by decide +kernel
theorem d_m_run_117 : decode c_m_run 117 = .ok (.iload 4, 2) := by decide +kernel
theorem d_m_run_119 : decode c_m_run 119 = .ok (.invokevirtual 145, 3) := by decide +kernel
theorem d_m_run_122 : decode c_m_run 122 = .ok (.aload_n 0, 1) := by decide +kernel
theorem d_m_run_123 : decode c_m_run 123 = .ok (.getfield 94, 3) := by decide +kernel
theorem d_m_run_126 : decode c_m_run 126 = .ok (.iconst 1, 1) := by decide +kernel
theorem d_m_run_127 : decode c_m_run 127 = .ok (.isub, 1) := by decide +kernel
theorem d_m_run_128 : decode c_m_run 128 = .ok (.ireturn, 1) := by decide +kernel
theorem d_m_tooMuch_0 : decode c_m_tooMuch 0 = .ok (.iload_n 1, 1) := by decide +kernel
theorem d_m_tooMuch_1 : decode c_m_tooMuch 1 = .ok (.istore 4, 2) := by decide +kernel
theorem d_m_tooMuch_3 : decode c_m_tooMuch 3 = .ok (.iload 4, 2) := by decide +kernel
theorem d_m_tooMuch_5 : decode c_m_tooMuch 5 = .ok (.iconst (-1), 1) := by decide +kernel
theorem d_m_tooMuch_6 : decode c_m_tooMuch 6 = .ok (.if_icmp .eq 54, 3) := by decide +kernel
theorem d_m_tooMuch_9 : decode c_m_tooMuch 9 = .ok (.aload_n 0, 1) := by decide +kernel
theorem d_m_tooMuch_10 : decode c_m_tooMuch 10 = .ok (.iload 4, 2) := by decide +kernel
theorem d_m_tooMuch_12 : decode c_m_tooMuch 12 = .ok (.invokevirtual 136, 3) := by decide +kernel
theorem d_m_tooMuch_15 : decode c_m_tooMuch 15 = .ok (.iload_n 2, 1) := by decide +kernel
theorem d_m_tooMuch_16 : decode c_m_tooMuch 16 = .ok (.iadd, 1) := by decide +kernel
theorem d_m_tooMuch_17 : decode c_m_tooMuch 17 = .ok (.aload_n 0, 1) := by decide +kernel
theorem d_m_tooMuch_18 : decode c_m_tooMuch 18 = .ok (.getfield 30, 3) := by decide +kernel
theorem d_m_tooMuch_21 : decode c_m_tooMuch 21 = .ok (.iload 4, 2) := by decide +kernel
theorem d_m_tooMuch_23 : decode c_m_tooMuch 23 = .ok (.iaload, 1) := by decide +kernel
theorem d_m_tooMuch_24 : decode c_m_tooMuch 24 = .ok (.if_icmp .gt 21, 3) := by decide +kernel
theorem d_m_tooMuch_27 : decode c_m_tooMuch 27 = .ok (.aload_n 0, 1) := by decide +kernel
theorem d_m_tooMuch_28 : decode c_m_tooMuch 28 = .ok (.iload 4, 2) := by decide +kernel
theorem d_m_tooMuch_30 : decode c_m_tooMuch 30 = .ok (.invokevirtual 139, 3) := by decide +kernel
theorem d_m_tooMuch_33 : decode c_m_tooMuch 33 = .ok (.iload_n 3, 1) := by decide +kernel
theorem d_m_tooMuch_34 : decode c_m_tooMuch 34 = .ok (.iadd, 1) := by decide +kernel
theorem d_m_tooMuch_35 : decode c_m_tooMuch 35 = .ok (.aload_n 0, 1) := by decide +kernel
theorem d_m_tooMuch_36 : decode c_m_tooMuch 36 = .ok (.getfield 33, 3) := by decide +kernel
theorem d_m_tooMuch_39 : decode c_m_tooMuch 39 = .ok (.iload 4, 2) := by decide +kernel
theorem d_m_tooMuch_41 : decode c_m_tooMuch 41 = .ok (.iaload, 1) := by decide +kernel
theorem d_m_tooMuch_42 : decode c_m_tooMuch 42 = .ok (.if_icmp .le 6, 3) := by decide +kernel
theorem d_m_tooMuch_45 : decode c_m_tooMuch 45 = .ok (.iload 4, 2) := by decide +kernel
theorem d_m_tooMuch_47 : decode c_m_tooMuch 47 = .ok (.ireturn, 1) := by decide +kernel
theorem d_m_tooMuch_48 : decode c_m_tooMuch 48 = .ok (.aload_n 0, 1) := by decide +kernel
theorem d_m_tooMuch_49 : decode c_m_tooMuch 49 = .ok (.getfield 27, 3) := by decide +kernel
theorem d_m_tooMuch_52 : decode c_m_tooMuch 52 = .ok (.iload 4, 2) := by decide +kernel
theorem d_m_tooMuch_54 : decode c_m_tooMuch 54 = .ok (.iaload, 1) := by decide +kernel
theorem d_m_tooMuch_55 : decode c_m_tooMuch 55 = .ok (.istore 4, 2) := by decide +kernel
theorem d_m_tooMuch_57 : decode c_m_tooMuch 57 = .ok (.goto (-54), 3) := by decide +kernel
theorem d_m_tooMuch_60 : decode c_m_tooMuch 60 = .ok (.iconst (-1), 1) := by decide +kernel
theorem d_m_tooMuch_61 : decode c_m_tooMuch 61 = .ok (.ireturn, 1) := by decide +kernel
theorem d_m_begins_0 : decode c_m_begins 0 = .ok (.aload_n 0, 1) := by decide +kernel
theorem d_m_begins_1 : decode c_m_begins 1 = .ok (.getfield 39, 3) := by decide +kernel
theorem d_m_begins_4 : decode c_m_begins 4 = .ok (.aload_n 0, 1) := by decide +kernel
theorem d_m_begins_5 : decode c_m_begins 5 = .ok (.getfield 94, 3) := by decide +kernel
theorem d_m_begins_8 : decode c_m_begins 8 = .ok (.iload_n 1, 1) := by decide +kernel
theorem d_m_begins_9 : decode c_m_begins 9 = .ok (.iastore, 1) := by decide +kernel
theorem d_m_begins_10 : decode c_m_begins 10 = .ok (.aload_n 0, 1) := by decide +kernel
theorem d_m_begins_11 : decode c_m_begins 11 = .ok (.getfield 42, 3) := by decide +kernel
theorem d_m_begins_14 : decode c_m_begins 14 = .ok (.aload_n 0, 1) := by decide +kernel
theorem d_m_begins_15 : decode c_m_begins 15 = .ok (.getfield 94, 3) := by decide +kernel
theorem d_m_begins_18 : decode c_m_begins 18 = .ok (.iload 4, 2) := by decide +kernel
theorem d_m_begins_20 : decode c_m_begins 20 = .ok (.iastore, 1) := by decide +kernel
theorem d_m_begins_21 : decode c_m_begins 21 = .ok (.aload_n 0, 1) := by decide +kernel
theorem d_m_begins_22 : decode c_m_begins 22 = .ok (.getfield 45, 3) := by decide +kernel
theorem d_m_begins_25 : decode c_m_begins 25 = .ok (.aload_n 0, 1) := by decide +kernel
theorem d_m_begins_26 : decode c_m_begins 26 = .ok (.getfield 94, 3) := by decide +kernel
theorem d_m_begins_29 : decode c_m_begins 29 = .ok (.iconst 0, 1) := by decide +kernel
theorem d_m_begins_30 : decode c_m_begins 30 = .ok (.iastore, 1) := by decide +kernel
theorem d_m_begins_31 : decode c_m_begins 31 = .ok (.aload_n 0, 1) := by decide +kernel
theorem d_m_begins_32 : decode c_m_begins 32 = .ok (.getfield 48, 3) := by decide +kernel
theorem d_m_begins_35 : decode c_m_begins 35 = .ok (.aload_n 0, 1) := by decide +kernel
theorem d_m_begins_36 : decode c_m_begins 36 = .ok (.getfield 94, 3) := by decide +kernel
theorem d_m_begins_39 : decode c_m_begins 39 = .ok (.iconst 1, 1) := by decide +kernel
theorem d_m_begins_40 : decode c_m_begins 40 = .ok (.iastore, 1) := by decide +kernel
theorem d_m_begins_41 : decode c_m_begins 41 = .ok (.aload_n 0, 1) := by decide +kernel
theorem d_m_begins_42 : decode c_m_begins 42 = .ok (.getfield 51, 3) := by decide +kernel
theorem d_m_begins_45 : decode c_m_begins 45 = .ok (.aload_n 0, 1) := by decide +kernel
theorem d_m_begins_46 : decode c_m_begins 46 = .ok (.getfield 94, 3) := by decide +kernel
theorem d_m_begins_49 : decode c_m_begins 49 = .ok (.iload_n 3, 1) := by decide +kernel
theorem d_m_begins_50 : decode c_m_begins 50 = .ok (.iastore, 1) := by decide +kernel
theorem d_m_begins_51 : decode c_m_begins 51 = .ok (.aload_n 0, 1) := by decide +kernel
theorem d_m_begins_52 : decode c_m_begins 52 = .ok (.getfield 54, 3) := by decide +kernel
theorem d_m_begins_55 : decode c_m_begins 55 = .ok (.aload_n 0, 1) := by decide +kernel
theorem d_m_begins_56 : decode c_m_begins 56 = .ok (.getfield 94, 3) := by decide +kernel
theorem d_m_begins_59 : decode c_m_begins 59 = .ok (.iload_n 3, 1) := by decide +kernel
theorem d_m_begins_60 : decode c_m_begins 60 = .ok (.iastore, 1) := by decide +kernel
theorem d_m_begins_61 : decode c_m_begins 61 = .ok (.aload_n 0, 1) := by decide +kernel
theorem d_m_begins_62 : decode c_m_begins 62 = .ok (.getfield 57, 3) := by decide +kernel
theorem d_m_begins_65 : decode c_m_begins 65 = .ok (.aload_n 0, 1) := by decide +kernel
theorem d_m_begins_66 : decode c_m_begins 66 = .ok (.getfield 94, 3) := by decide +kernel
theorem d_m_begins_69 : decode c_m_begins 69 = .ok (.iconst 0, 1) := by decide +kernel
theorem d_m_begins_70 : decode c_m_begins 70 = .ok (.iastore, 1) := by decide +kernel
theorem d_m_begins_71 : decode c_m_begins 71 = .ok (.aload_n 0, 1) := by decide +kernel
theorem d_m_begins_72 : decode c_m_begins 72 = .ok (.getfield 60, 3) := by decide +kernel
theorem d_m_begins_75 : decode c_m_begins 75 = .ok (.aload_n 0, 1) := by decide +kernel
theorem d_m_begins_76 : decode c_m_begins 76 = .ok (.getfield 94, 3) := by decide +kernel
theorem d_m_begins_79 : decode c_m_begins 79 = .ok (.iconst 0, 1) := by decide +kernel
theorem d_m_begins_80 : decode c_m_begins 80 = .ok (.iastore, 1) := by decide +kernel
theorem d_m_begins_81 : decode c_m_begins 81 = .ok (.aload_n 0, 1) := by decide +kernel
theorem d_m_begins_82 : decode c_m_begins 82 = .ok (.getfield 63, 3) := by decide +kernel
theorem d_m_begins_85 : decode c_m_begins 85 = .ok (.aload_n 0, 1) := by decide +kernel
theorem d_m_begins_86 : decode c_m_begins 86 = .ok (.getfield 94, 3) := by decide +kernel
theorem d_m_begins_89 : decode c_m_begins 89 = .ok (.iload_n 2, 1) := by decide +kernel
theorem d_m_begins_90 : decode c_m_begins 90 = .ok (.iastore, 1) := by decide +kernel
theorem d_m_begins_91 : decode c_m_begins 91 = .ok (.aload_n 0, 1) := by decide +kernel
theorem d_m_begins_92 : decode c_m_begins 92 = .ok (.getfield 66, 3) := by decide +kernel
theorem d_m_begins_95 : decode c_m_begins 95 = .ok (.aload_n 0, 1) := by decide +kernel
theorem d_m_begins_96 : decode c_m_begins 96 = .ok (.getfield 94, 3) := by decide +kernel
theorem d_m_begins_99 : decode c_m_begins 99 = .ok (.iconst (-1), 1) := by decide +kernel
theorem d_m_begins_100 : decode c_m_begins 100 = .ok (.iastore, 1) := by decide +kernel
theorem d_m_begins_101 : decode c_m_begins 101 = .ok (.aload_n 0, 1) := by decide +kernel
theorem d_m_begins_102 : decode c_m_begins 102 = .ok (.getfield 69, 3) := by decide +kernel
theorem d_m_begins_105 : decode c_m_begins 105 = .ok (.aload_n 0, 1) := by decide +kernel
theorem d_m_begins_106 : decode c_m_begins 106 = .ok (.getfield 94, 3) := by decide +kernel
theorem d_m_begins_109 : decode c_m_begins 109 = .ok (.iconst 0, 1) := by decide +kernel
theorem d_m_begins_110 : decode c_m_begins 110 = .ok (.iastore, 1) := by decide +kernel
theorem d_m_begins_111 : decode c_m_begins 111 = .ok (.aload_n 0, 1) := by decide +kernel
theorem d_m_begins_112 : decode c_m_begins 112 = .ok (.bipush 10, 2) := by decide +kernel
theorem d_m_begins_114 : decode c_m_begins 114 = .ok (.aload_n 0, 1) := by decide +kernel
theorem d_m_begins_115 : decode c_m_begins 115 = .ok (.getfield 94, 3) := by decide +kernel
theorem d_m_begins_118 : decode c_m_begins 118 = .ok (.iadd, 1) := by decide +kernel
theorem d_m_begins_119 : decode c_m_begins 119 = .ok (.invokevirtual 112, 3) := by decide +kernel
theorem d_m_begins_122 : decode c_m_begins 122 = .ok (.aload_n 0, 1) := by decide +kernel
theorem d_m_begins_123 : decode c_m_begins 123 = .ok (.dup, 1) := by decide +kernel
theorem d_m_begins_124 : decode c_m_begins 124 = .ok (.getfield 94, 3) := by decide +kernel
theorem d_m_begins_127 : decode c_m_begins 127 = .ok (.iconst 1, 1) := by decide +kernel
theorem d_m_begins_128 : decode c_m_begins 128 = .ok (.iadd, 1) := by decide +kernel
theorem d_m_begins_129 : decode c_m_begins 129 = .ok (.putfield 94, 3) := by decide +kernel
theorem d_m_begins_132 : decode c_m_begins 132 = .ok (.return_, 1) := by decide +kernel
theorem d_m_pause_0 : decode c_m_pause 0 = .ok (.aload_n 0, 1) := by decide +kernel
theorem d_m_pause_1 : decode c_m_pause 1 = .ok (.iload_n 1, 1) := by decide +kernel
theorem d_m_pause_2 : decode c_m_pause 2 = .ok (.iconst 0, 1) := by decide +kernel
theorem d_m_pause_3 : decode c_m_pause 3 = .ok (.invokevirtual 149, 3) := by decide +kernel
theorem d_m_pause_6 : decode c_m_pause 6 = .ok (.ifCond .eq 10, 3) := by decide +kernel
theorem d_m_pause_9 : decode c_m_pause 9 = .ok (.aload_n 0, 1) := by decide +kernel
theorem d_m_pause_10 : decode c_m_pause 10 = .ok (.getfield 60, 3) := by decide +kernel
theorem d_m_pause_13 : decode c_m_pause 13 = .ok (.iload_n 1, 1) := by decide +kernel
theorem d_m_pause_14 : decode c_m_pause 14 = .ok (.iconst 1, 1) := by decide +kernel
theorem d_m_pause_15 : decode c_m_pause 15 = .ok (.iastore, 1) := by decide +kernel
theorem d_m_pause_16 : decode c_m_pause 16 = .ok (.return_, 1) := by decide +kernel
theorem d_m_isThere_0 : decode c_m_isThere 0 = .ok (.aload_n 0, 1) := by decide +kernel
theorem d_m_isThere_1 : decode c_m_isThere 1 = .ok (.iload_n 1, 1) := by decide +kernel
theorem d_m_isThere_2 : decode c_m_isThere 2 = .ok (.invokevirtual 123, 3) := by decide +kernel
theorem d_m_isThere_5 : decode c_m_isThere 5 = .ok (.istore_n 3, 1) := by decide +kernel
theorem d_m_isThere_6 : decode c_m_isThere 6 = .ok (.aload_n 0, 1) := by decide +kernel
theorem d_m_isThere_7 : decode c_m_isThere 7 = .ok (.iload_n 3, 1) := by decide +kernel
theorem d_m_isThere_8 : decode c_m_isThere 8 = .ok (.ifCond .ne 7, 3) := by decide +kernel
theorem d_m_isThere_11 : decode c_m_isThere 11 = .ok (.iconst 1, 1) := by decide +kernel
theorem d_m_isThere_12 : decode c_m_isThere 12 = .ok (.goto 18, 3) := by decide +kernel
theorem d_m_isThere_15 : decode c_m_isThere 15 = .ok (.aload_n 0, 1) := by decide +kernel
theorem d_m_isThere_16 : decode c_m_isThere 16 = .ok (.getfield 60, 3) := by decide +kernel
theorem d_m_isThere_19 : decode c_m_isThere 19 = .ok (.iload_n 1, 1) := by decide +kernel
theorem d_m_isThere_20 : decode c_m_isThere 20 = .ok (.iaload, 1) := by decide +kernel
theorem d_m_isThere_21 : decode c_m_isThere 21 = .ok (.iload_n 2, 1) := by decide +kernel
theorem d_m_isThere_22 : decode c_m_isThere 22 = .ok (.if_icmp .ne 7, 3) := by decide +kernel
theorem d_m_isThere_25 : decode c_m_isThere 25 = .ok (.iconst 0, 1) := by decide +kernel
theorem d_m_isThere_26 : decode c_m_isThere 26 = .ok (.goto 4, 3) := by decide +kernel
theorem d_m_isThere_29 : decode c_m_isThere 29 = .ok (.iconst 2, 1) := by decide +kernel
theorem d_m_isThere_30 : decode c_m_isThere 30 = .ok (.invokevirtual 109, 3) := by decide +kernel
theorem d_m_isThere_33 : decode c_m_isThere 33 = .ok (.ireturn, 1) := by decide +kernel
theorem d_m_resume_0 : decode c_m_resume 0 = .ok (.aload_n 0, 1) := by decide +kernel
theorem d_m_resume_1 : decode c_m_resume 1 = .ok (.iload_n 1, 1) := by decide +kernel
theorem d_m_resume_2 : decode c_m_resume 2 = .ok (.iconst 1, 1) := by decide +kernel
theorem d_m_resume_3 : decode c_m_resume 3 = .ok (.invokevirtual 149, 3) := by decide +kernel
theorem d_m_resume_6 : decode c_m_resume 6 = .ok (.ifCond .eq 10, 3) := by decide +kernel
theorem d_m_resume_9 : decode c_m_resume 9 = .ok (.aload_n 0, 1) := by decide +kernel
theorem d_m_resume_10 : decode c_m_resume 10 = .ok (.getfield 60, 3) := by decide +kernel
theorem d_m_resume_13 : decode c_m_resume 13 = .ok (.iload_n 1, 1) := by decide +kernel
theorem d_m_resume_14 : decode c_m_resume 14 = .ok (.iconst 0, 1) := by decide +kernel
theorem d_m_resume_15 : decode c_m_resume 15 = .ok (.iastore, 1) := by decide +kernel
theorem d_m_resume_16 : decode c_m_resume 16 = .ok (.return_, 1) := by decide +kernel
theorem d_m_stop_0 : decode c_m_stop 0 = .ok (.aload_n 0, 1) := by decide +kernel
theorem d_m_stop_1 : decode c_m_stop 1 = .ok (.iload_n 1, 1) := by decide +kernel
theorem d_m_stop_2 : decode c_m_stop 2 = .ok (.invokevirtual 123, 3) := by decide +kernel
theorem d_m_stop_5 : decode c_m_stop 5 = .ok (.istore_n 2, 1) := by decide +kernel
theorem d_m_stop_6 : decode c_m_stop 6 = .ok (.aload_n 0, 1) := by decide +kernel
theorem d_m_stop_7 : decode c_m_stop 7 = .ok (.iload_n 2, 1) := by decide +kernel
theorem d_m_stop_8 : decode c_m_stop 8 = .ok (.ifCond .ne 7, 3) := by decide +kernel
theorem d_m_stop_11 : decode c_m_stop 11 = .ok (.iconst 1, 1) := by decide +kernel
theorem d_m_stop_12 : decode c_m_stop 12 = .ok (.goto 18, 3) := by decide +kernel
theorem d_m_stop_15 : decode c_m_stop 15 = .ok (.aload_n 0, 1) := by decide +kernel
theorem d_m_stop_16 : decode c_m_stop 16 = .ok (.getfield 60, 3) := by decide +kernel
theorem d_m_stop_19 : decode c_m_stop 19 = .ok (.iload_n 1, 1) := by decide +kernel
theorem d_m_stop_20 : decode c_m_stop 20 = .ok (.iaload, 1) := by decide +kernel
theorem d_m_stop_21 : decode c_m_stop 21 = .ok (.iconst 2, 1) := by decide +kernel
theorem d_m_stop_22 : decode c_m_stop 22 = .ok (.if_icmp .ne 7, 3) := by decide +kernel
theorem d_m_stop_25 : decode c_m_stop 25 = .ok (.iconst 2, 1) := by decide +kernel
theorem d_m_stop_26 : decode c_m_stop 26 = .ok (.goto 4, 3) := by decide +kernel
theorem d_m_stop_29 : decode c_m_stop 29 = .ok (.iconst 0, 1) := by decide +kernel
theorem d_m_stop_30 : decode c_m_stop 30 = .ok (.invokevirtual 109, 3) := by decide +kernel
theorem d_m_stop_33 : decode c_m_stop 33 = .ok (.ifCond .eq 11, 3) := by decide +kernel
theorem d_m_stop_36 : decode c_m_stop 36 = .ok (.aload_n 0, 1) := by decide +kernel
theorem d_m_stop_37 : decode c_m_stop 37 = .ok (.iload_n 1, 1) := by decide +kernel
theorem d_m_stop_38 : decode c_m_stop 38 = .ok (.invokevirtual 152, 3) := by decide +kernel
theorem d_m_stop_41 : decode c_m_stop 41 = .ok (.goto 4, 3) := by decide +kernel
theorem d_m_stop_44 : decode c_m_stop 44 = .ok (.iconst 0, 1) := by decide +kernel
theorem d_m_stop_45 : decode c_m_stop 45 = .ok (.ireturn, 1) := by decide +kernel
theorem d_m_stops_0 : decode c_m_stops 0 = .ok (.aload_n 0, 1) := by decide +kernel
theorem d_m_stops_1 : decode c_m_stops 1 = .ok (.getfield 45, 3) := by decide +kernel
theorem d_m_stops_4 : decode c_m_stops 4 = .ok (.iload_n 1, 1) := by decide +kernel
theorem d_m_stops_5 : decode c_m_stops 5 = .ok (.iaload, 1) := by decide +kernel
theorem d_m_stops_6 : decode c_m_stops 6 = .ok (.istore_n 2, 1) := by decide +kernel
theorem d_m_stops_7 : decode c_m_stops 7 = .ok (.aload_n 0, 1) := by decide +kernel
theorem d_m_stops_8 : decode c_m_stops 8 = .ok (.getfield 60, 3) := by decide +kernel
theorem d_m_stops_11 : decode c_m_stops 11 = .ok (.iload_n 1, 1) := by decide +kernel
theorem d_m_stops_12 : decode c_m_stops 12 = .ok (.iconst 2, 1) := by decide +kernel
theorem d_m_stops_13 : decode c_m_stops 13 = .ok (.iastore, 1) := by decide +kernel
theorem d_m_stops_14 : decode c_m_stops 14 = .ok (.aload_n 0, 1) := by decide +kernel
theorem d_m_stops_15 : decode c_m_stops 15 = .ok (.getfield 45, 3) := by decide +kernel
theorem d_m_stops_18 : decode c_m_stops 18 = .ok (.iload_n 1, 1) := by decide +kernel
theorem d_m_stops_19 : decode c_m_stops 19 = .ok (.iconst 0, 1) := by decide +kernel
theorem d_m_stops_20 : decode c_m_stops 20 = .ok (.iastore, 1) := by decide +kernel
theorem d_m_stops_21 : decode c_m_stops 21 = .ok (.aload_n 0, 1) := by decide +kernel
theorem d_m_stops_22 : decode c_m_stops 22 = .ok (.getfield 48, 3) := by decide +kernel
theorem d_m_stops_25 : decode c_m_stops 25 = .ok (.iload_n 1, 1) := by decide +kernel
theorem d_m_stops_26 : decode c_m_stops 26 = .ok (.iconst 0, 1) := by decide +kernel
theorem d_m_stops_27 : decode c_m_stops 27 = .ok (.iastore, 1) := by decide +kernel
theorem d_m_stops_28 : decode c_m_stops 28 = .ok (.aload_n 0, 1) := by decide +kernel
theorem d_m_stops_29 : decode c_m_stops 29 = .ok (.getfield 57, 3) := by decide +kernel
theorem d_m_stops_32 : decode c_m_stops 32 = .ok (.iload_n 1, 1) := by decide +kernel
theorem d_m_stops_33 : decode c_m_stops 33 = .ok (.iconst 0, 1) := by decide +kernel
theorem d_m_stops_34 : decode c_m_stops 34 = .ok (.iastore, 1) := by decide +kernel
theorem d_m_stops_35 : decode c_m_stops 35 = .ok (.aload_n 0, 1) := by decide +kernel
theorem d_m_stops_36 : decode c_m_stops 36 = .ok (.getfield 66, 3) := by decide +kernel
theorem d_m_stops_39 : decode c_m_stops 39 = .ok (.iload_n 1, 1) := by decide +kernel
theorem d_m_stops_40 : decode c_m_stops 40 = .ok (.iconst (-1), 1) := by decide +kernel
theorem d_m_stops_41 : decode c_m_stops 41 = .ok (.iastore, 1) := by decide +kernel
theorem d_m_stops_42 : decode c_m_stops 42 = .ok (.iconst 0, 1) := by decide +kernel
theorem d_m_stops_43 : decode c_m_stops 43 = .ok (.istore_n 3, 1) := by decide +kernel
theorem d_m_stops_44 : decode c_m_stops 44 = .ok (.iload_n 3, 1) := by decide +kernel
theorem d_m_stops_45 : decode c_m_stops 45 = .ok (.bipush 32, 2) := by decide +kernel
theorem d_m_stops_47 : decode c_m_stops 47 = .ok (.if_icmp .ge 35, 3) := by decide +kernel
theorem d_m_stops_50 : decode c_m_stops 50 = .ok (.aload_n 0, 1) := by decide +kernel
theorem d_m_stops_51 : decode c_m_stops 51 = .ok (.getfield 72, 3) := by decide +kernel
theorem d_m_stops_54 : decode c_m_stops 54 = .ok (.iload_n 3, 1) := by decide +kernel
theorem d_m_stops_55 : decode c_m_stops 55 = .ok (.aload_n 0, 1) := by decide +kernel
theorem d_m_stops_56 : decode c_m_stops 56 = .ok (.getfield 72, 3) := by decide +kernel
theorem d_m_stops_59 : decode c_m_stops 59 = .ok (.iload_n 3, 1) := by decide +kernel
theorem d_m_stops_60 : decode c_m_stops 60 = .ok (.iaload, 1) := by decide +kernel
theorem d_m_stops_61 : decode c_m_stops 61 = .ok (.iload_n 1, 1) := by decide +kernel
theorem d_m_stops_62 : decode c_m_stops 62 = .ok (.if_icmp .ne 7, 3) := by decide +kernel
theorem d_m_stops_65 : decode c_m_stops 65 = .ok (.iconst (-1), 1) := by decide +kernel
theorem d_m_stops_66 : decode c_m_stops 66 = .ok (.goto 9, 3) := by decide +kernel
theorem d_m_stops_69 : decode c_m_stops 69 = .ok (.aload_n 0, 1) := by decide +kernel
theorem d_m_stops_70 : decode c_m_stops 70 = .ok (.getfield 72, 3) := by decide +kernel
theorem d_m_stops_73 : decode c_m_stops 73 = .ok (.iload_n 3, 1) := by decide +kernel
theorem d_m_stops_74 : decode c_m_stops 74 = .ok (.iaload, 1) := by decide +kernel
theorem d_m_stops_75 : decode c_m_stops 75 = .ok (.iastore, 1) := by decide +kernel
theorem d_m_stops_76 : decode c_m_stops 76 = .ok (.iinc 3 1, 3) := by decide +kernel
theorem d_m_stops_79 : decode c_m_stops 79 = .ok (.goto (-35), 3) := by decide +kernel
theorem d_m_stops_82 : decode c_m_stops 82 = .ok (.iload_n 2, 1) := by decide +kernel
theorem d_m_stops_83 : decode c_m_stops 83 = .ok (.ireturn, 1) := by decide +kernel
theorem d_m_allocate_0 : decode c_m_allocate 0 = .ok (.aload_n 0, 1) := by decide +kernel
theorem d_m_allocate_1 : decode c_m_allocate 1 = .ok (.iload_n 1, 1) := by decide +kernel
theorem d_m_allocate_2 : decode c_m_allocate 2 = .ok (.invokevirtual 123, 3) := by decide +kernel
theorem d_m_allocate_5 : decode c_m_allocate 5 = .ok (.istore_n 3, 1) := by decide +kernel
theorem d_m_allocate_6 : decode c_m_allocate 6 = .ok (.aload_n 0, 1) := by decide +kernel
theorem d_m_allocate_7 : decode c_m_allocate 7 = .ok (.iload_n 3, 1) := by decide +kernel
theorem d_m_allocate_8 : decode c_m_allocate 8 = .ok (.ifCond .ne 7, 3) := by decide +kernel
theorem d_m_allocate_11 : decode c_m_allocate 11 = .ok (.iconst 1, 1) := by decide +kernel
theorem d_m_allocate_12 : decode c_m_allocate 12 = .ok (.goto 28, 3) := by decide +kernel
theorem d_m_allocate_15 : decode c_m_allocate 15 = .ok (.iload_n 2, 1) := by decide +kernel
theorem d_m_allocate_16 : decode c_m_allocate 16 = .ok (.invokestatic 155, 3) := by decide +kernel
theorem d_m_allocate_19 : decode c_m_allocate 19 = .ok (.ifCond .ne 7, 3) := by decide +kernel
theorem d_m_allocate_22 : decode c_m_allocate 22 = .ok (.iconst 2, 1) := by decide +kernel
theorem d_m_allocate_23 : decode c_m_allocate 23 = .ok (.goto 17, 3) := by decide +kernel
theorem d_m_allocate_26 : decode c_m_allocate 26 = .ok (.aload_n 0, 1) := by decide +kernel
theorem d_m_allocate_27 : decode c_m_allocate 27 = .ok (.getfield 60, 3) := by decide +kernel
theorem d_m_allocate_30 : decode c_m_allocate 30 = .ok (.iload_n 1, 1) := by decide +kernel
theorem d_m_allocate_31 : decode c_m_allocate 31 = .ok (.iaload, 1) := by decide +kernel
theorem d_m_allocate_32 : decode c_m_allocate 32 = .ok (.ifCond .eq 7, 3) := by decide +kernel
theorem d_m_allocate_35 : decode c_m_allocate 35 = .ok (.iconst 3, 1) := by decide +kernel
theorem d_m_allocate_36 : decode c_m_allocate 36 = .ok (.goto 4, 3) := by decide +kernel
theorem d_m_allocate_39 : decode c_m_allocate 39 = .ok (.iconst 0, 1) := by decide +kernel
theorem d_m_allocate_40 : decode c_m_allocate 40 = .ok (.invokevirtual 109, 3) := by decide +kernel
theorem d_m_allocate_43 : decode c_m_allocate 43 = .ok (.ifCond .ne 5, 3) := by decide +kernel
theorem d_m_allocate_46 : decode c_m_allocate 46 = .ok (.iconst 0, 1) := by decide +kernel
theorem d_m_allocate_47 : decode c_m_allocate 47 = .ok (.ireturn, 1) := by decide +kernel
theorem d_m_allocate_48 : decode c_m_allocate 48 = .ok (.aload_n 0, 1) := by decide +kernel
theorem d_m_allocate_49 : decode c_m_allocate 49 = .ok (.aload_n 0, 1) := by decide +kernel
theorem d_m_allocate_50 : decode c_m_allocate 50 = .ok (.getfield 63, 3) := by decide +kernel
theorem d_m_allocate_53 : decode c_m_allocate 53 = .ok (.iload_n 1, 1) := by decide +kernel
theorem d_m_allocate_54 : decode c_m_allocate 54 = .ok (.iaload, 1) := by decide +kernel
theorem d_m_allocate_55 : decode c_m_allocate 55 = .ok (.iload_n 2, 1) := by decide +kernel
theorem d_m_allocate_56 : decode c_m_allocate 56 = .ok (.iconst 0, 1) := by decide +kernel
theorem d_m_allocate_57 : decode c_m_allocate 57 = .ok (.invokevirtual 142, 3) := by decide +kernel
theorem d_m_allocate_60 : decode c_m_allocate 60 = .ok (.istore 4, 2) := by decide +kernel
theorem d_m_allocate_62 : decode c_m_allocate 62 = .ok (.iload 4, 2) := by decide +kernel
theorem d_m_allocate_64 : decode c_m_allocate 64 = .ok (.iconst (-1), 1) := by decide +kernel
theorem d_m_allocate_65 : decode c_m_allocate 65 = .ok (.if_icmp .eq 41, 3) := by decide +kernel
theorem d_m_allocate_68 : decode c_m_allocate 68 = .ok (.aload_n 0, 1) := by decide +kernel
theorem d_m_allocate_69 : decode c_m_allocate 69 = .ok (.getfield 60, 3) := by decide +kernel
theorem d_m_allocate_72 : decode c_m_allocate 72 = .ok (.iload_n 1, 1) := by decide +kernel
theorem d_m_allocate_73 : decode c_m_allocate 73 = .ok (.iaload, 1) := by decide +kernel
theorem d_m_allocate_74 : decode c_m_allocate 74 = .ok (.ifCond .ne 32, 3) := by decide +kernel
theorem d_m_allocate_77 : decode c_m_allocate 77 = .ok (.aload_n 0, 1) := by decide +kernel
theorem d_m_allocate_78 : decode c_m_allocate 78 = .ok (.aload_n 0, 1) := by decide +kernel
theorem d_m_allocate_79 : decode c_m_allocate 79 = .ok (.iload 4, 2) := by decide +kernel
theorem d_m_allocate_81 : decode c_m_allocate 81 = .ok (.invokevirtual 158, 3) := by decide +kernel
theorem d_m_allocate_84 : decode c_m_allocate 84 = .ok (.invokevirtual 152, 3) := by decide +kernel
theorem d_m_allocate_87 : decode c_m_allocate 87 = .ok (.istore 5, 2) := by decide +kernel
theorem d_m_allocate_89 : decode c_m_allocate 89 = .ok (.aload_n 0, 1) := by decide +kernel
theorem d_m_allocate_90 : decode c_m_allocate 90 = .ok (.aload_n 0, 1) := by decide +kernel
theorem d_m_allocate_91 : decode c_m_allocate 91 = .ok (.getfield 63, 3) := by decide +kernel
theorem d_m_allocate_94 : decode c_m_allocate 94 = .ok (.iload_n 1, 1) := by decide +kernel
theorem d_m_allocate_95 : decode c_m_allocate 95 = .ok (.iaload, 1) := by decide +kernel
theorem d_m_allocate_96 : decode c_m_allocate 96 = .ok (.iload_n 2, 1) := by decide +kernel
theorem d_m_allocate_97 : decode c_m_allocate 97 = .ok (.iconst 0, 1) := by decide +kernel
theorem d_m_allocate_98 : decode c_m_allocate 98 = .ok (.invokevirtual 142, 3) := by decide +kernel
theorem d_m_allocate_101 : decode c_m_allocate 101 = .ok (.istore 4, 2) := by decide +kernel
theorem d_m_allocate_103 : decode c_m_allocate 103 = .ok (.goto (-41), 3) := by decide +kernel
theorem d_m_allocate_106 : decode c_m_allocate 106 = .ok (.aload_n 0, 1) := by decide +kernel
theorem d_m_allocate_107 : decode c_m_allocate 107 = .ok (.getfield 60, 3) := by decide +kernel
theorem d_m_allocate_110 : decode c_m_allocate 110 = .ok (.iload_n 1, 1) := by decide +kernel
theorem d_m_allocate_111 : decode c_m_allocate 111 = .ok (.iaload, 1) := by decide +kernel
theorem d_m_allocate_112 : decode c_m_allocate 112 = .ok (.iconst 2, 1) := by decide +kernel
theorem d_m_allocate_113 : decode c_m_allocate 113 = .ok (.if_icmp .ne 5, 3) := by decide +kernel
theorem d_m_allocate_116 : decode c_m_allocate 116 = .ok (.iconst (-1), 1) := by decide +kernel
theorem d_m_allocate_117 : decode c_m_allocate 117 = .ok (.ireturn, 1) := by decide +kernel
theorem d_m_allocate_118 : decode c_m_allocate 118 = .ok (.aload_n 0, 1) := by decide +kernel
theorem d_m_allocate_119 : decode c_m_allocate 119 = .ok (.getfield 45, 3) := by decide +kernel
theorem d_m_allocate_122 : decode c_m_allocate 122 = .ok (.iload_n 1, 1) := by decide +kernel
theorem d_m_allocate_123 : decode c_m_allocate 123 = .ok (.dup2, 1) := by decide +kernel
theorem d_m_allocate_124 : decode c_m_allocate 124 = .ok (.iaload, 1) := by decide +kernel
theorem d_m_allocate_125 : decode c_m_allocate 125 = .ok (.iload_n 2, 1) := by decide +kernel
theorem d_m_allocate_126 : decode c_m_allocate 126 = .ok (.iadd, 1) := by decide +kernel
theorem d_m_allocate_127 : decode c_m_allocate 127 = .ok (.iastore, 1) := by decide +kernel
theorem d_m_allocate_128 : decode c_m_allocate 128 = .ok (.aload_n 0, 1) := by decide +kernel
theorem d_m_allocate_129 : decode c_m_allocate 129 = .ok (.getfield 45, 3) := by decide +kernel
theorem d_m_allocate_132 : decode c_m_allocate 132 = .ok (.iload_n 1, 1) := by decide +kernel
theorem d_m_allocate_133 : decode c_m_allocate 133 = .ok (.iaload, 1) := by decide +kernel
theorem d_m_allocate_134 : decode c_m_allocate 134 = .ok (.ireturn, 1) := by decide +kernel
theorem d_m_areUnits_0 : decode c_m_areUnits 0 = .ok (.iload_n 0, 1) := by decide +kernel
theorem d_m_areUnits_1 : decode c_m_areUnits 1 = .ok (.iconst 1, 1) := by decide +kernel
theorem d_m_areUnits_2 : decode c_m_areUnits 2 = .ok (.if_icmp .lt 14, 3) := by decide +kernel
theorem d_m_areUnits_5 : decode c_m_areUnits 5 = .ok (.iload_n 0, 1) := by decide +kernel
theorem d_m_areUnits_6 : decode c_m_areUnits 6 = .ok (.sipush 5000, 3) := by decide +kernel
theorem d_m_areUnits_9 : decode c_m_areUnits 9 = .ok (.if_icmp .gt 7, 3) := by decide +kernel
theorem d_m_areUnits_12 : decode c_m_areUnits 12 = .ok (.iconst 1, 1) := by decide +kernel
theorem d_m_areUnits_13 : decode c_m_areUnits 13 = .ok (.goto 4, 3) := by decide +kernel
theorem d_m_areUnits_16 : decode c_m_areUnits 16 = .ok (.iconst 0, 1) := by decide +kernel
theorem d_m_areUnits_17 : decode c_m_areUnits 17 = .ok (.ireturn, 1) := by decide +kernel
theorem d_m_greatest_0 : decode c_m_greatest 0 = .ok (.iconst (-1), 1) := by decide +kernel
theorem d_m_greatest_1 : decode c_m_greatest 1 = .ok (.istore_n 2, 1) := by decide +kernel
theorem d_m_greatest_2 : decode c_m_greatest 2 = .ok (.iconst 0, 1) := by decide +kernel
theorem d_m_greatest_3 : decode c_m_greatest 3 = .ok (.istore_n 3, 1) := by decide +kernel
theorem d_m_greatest_4 : decode c_m_greatest 4 = .ok (.iload_n 3, 1) := by decide +kernel
theorem d_m_greatest_5 : decode c_m_greatest 5 = .ok (.aload_n 0, 1) := by decide +kernel
theorem d_m_greatest_6 : decode c_m_greatest 6 = .ok (.getfield 94, 3) := by decide +kernel
theorem d_m_greatest_9 : decode c_m_greatest 9 = .ok (.if_icmp .ge 71, 3) := by decide +kernel
theorem d_m_greatest_12 : decode c_m_greatest 12 = .ok (.aload_n 0, 1) := by decide +kernel
theorem d_m_greatest_13 : decode c_m_greatest 13 = .ok (.getfield 60, 3) := by decide +kernel
theorem d_m_greatest_16 : decode c_m_greatest 16 = .ok (.iload_n 3, 1) := by decide +kernel
theorem d_m_greatest_17 : decode c_m_greatest 17 = .ok (.iaload, 1) := by decide +kernel
theorem d_m_greatest_18 : decode c_m_greatest 18 = .ok (.iconst 2, 1) := by decide +kernel
theorem d_m_greatest_19 : decode c_m_greatest 19 = .ok (.if_icmp .eq 21, 3) := by decide +kernel
theorem d_m_greatest_22 : decode c_m_greatest 22 = .ok (.aload_n 0, 1) := by decide +kernel
theorem d_m_greatest_23 : decode c_m_greatest 23 = .ok (.aload_n 0, 1) := by decide +kernel
theorem d_m_greatest_24 : decode c_m_greatest 24 = .ok (.getfield 63, 3) := by decide +kernel
theorem d_m_greatest_27 : decode c_m_greatest 27 = .ok (.iload_n 3, 1) := by decide +kernel
theorem d_m_greatest_28 : decode c_m_greatest 28 = .ok (.iaload, 1) := by decide +kernel
theorem d_m_greatest_29 : decode c_m_greatest 29 = .ok (.iload_n 1, 1) := by decide +kernel
theorem d_m_greatest_30 : decode c_m_greatest 30 = .ok (.invokevirtual 130, 3) := by decide +kernel
theorem d_m_greatest_33 : decode c_m_greatest 33 = .ok (.ifCond .eq 7, 3) := by decide +kernel
theorem d_m_greatest_36 : decode c_m_greatest 36 = .ok (.iconst 1, 1) := by decide +kernel
theorem d_m_greatest_37 : decode c_m_greatest 37 = .ok (.goto 4, 3) := by decide +kernel
theorem d_m_greatest_40 : decode c_m_greatest 40 = .ok (.iconst 0, 1) := by decide +kernel
theorem d_m_greatest_41 : decode c_m_greatest 41 = .ok (.istore 4, 2) := by decide +kernel
theorem d_m_greatest_43 : decode c_m_greatest 43 = .ok (.iload 4, 2) := by decide +kernel
theorem d_m_greatest_45 : decode c_m_greatest 45 = .ok (.ifCond .eq 27, 3) := by decide +kernel
theorem d_m_greatest_48 : decode c_m_greatest 48 = .ok (.iload_n 2, 1) := by decide +kernel
theorem d_m_greatest_49 : decode c_m_greatest 49 = .ok (.iconst (-1), 1) := by decide +kernel
theorem d_m_greatest_50 : decode c_m_greatest 50 = .ok (.if_icmp .eq 18, 3) := by decide +kernel
theorem d_m_greatest_53 : decode c_m_greatest 53 = .ok (.aload_n 0, 1) := by decide +kernel
theorem d_m_greatest_54 : decode c_m_greatest 54 = .ok (.getfield 45, 3) := by decide +kernel
theorem d_m_greatest_57 : decode c_m_greatest 57 = .ok (.iload_n 3, 1) := by decide +kernel
theorem d_m_greatest_58 : decode c_m_greatest 58 = .ok (.iaload, 1) := by decide +kernel
theorem d_m_greatest_59 : decode c_m_greatest 59 = .ok (.aload_n 0, 1) := by decide +kernel
theorem d_m_greatest_60 : decode c_m_greatest 60 = .ok (.getfield 45, 3) := by decide +kernel
theorem d_m_greatest_63 : decode c_m_greatest 63 = .ok (.iload_n 2, 1) := by decide +kernel
theorem d_m_greatest_64 : decode c_m_greatest 64 = .ok (.iaload, 1) := by decide +kernel
theorem d_m_greatest_65 : decode c_m_greatest 65 = .ok (.if_icmp .lt 7, 3) := by decide +kernel
theorem d_m_greatest_68 : decode c_m_greatest 68 = .ok (.iload_n 3, 1) := by decide +kernel
theorem d_m_greatest_69 : decode c_m_greatest 69 = .ok (.goto 4, 3) := by decide +kernel
theorem d_m_greatest_72 : decode c_m_greatest 72 = .ok (.iload_n 2, 1) := by decide +kernel
theorem d_m_greatest_73 : decode c_m_greatest 73 = .ok (.istore_n 2, 1) := by decide +kernel
theorem d_m_greatest_74 : decode c_m_greatest 74 = .ok (.iinc 3 1, 3) := by decide +kernel
theorem d_m_greatest_77 : decode c_m_greatest 77 = .ok (.goto (-73), 3) := by decide +kernel
theorem d_m_greatest_80 : decode c_m_greatest 80 = .ok (.iload_n 2, 1) := by decide +kernel
theorem d_m_greatest_81 : decode c_m_greatest 81 = .ok (.ireturn, 1) := by decide +kernel
theorem d_m_free_0 : decode c_m_free 0 = .ok (.aload_n 0, 1) := by decide +kernel
theorem d_m_free_1 : decode c_m_free 1 = .ok (.iload_n 1, 1) := by decide +kernel
theorem d_m_free_2 : decode c_m_free 2 = .ok (.invokevirtual 123, 3) := by decide +kernel
theorem d_m_free_5 : decode c_m_free 5 = .ok (.istore_n 3, 1) := by decide +kernel
theorem d_m_free_6 : decode c_m_free 6 = .ok (.aload_n 0, 1) := by decide +kernel
theorem d_m_free_7 : decode c_m_free 7 = .ok (.iload_n 3, 1) := by decide +kernel
theorem d_m_free_8 : decode c_m_free 8 = .ok (.ifCond .ne 7, 3) := by decide +kernel
theorem d_m_free_11 : decode c_m_free 11 = .ok (.iconst 1, 1) := by decide +kernel
theorem d_m_free_12 : decode c_m_free 12 = .ok (.goto 38, 3) := by decide +kernel
theorem d_m_free_15 : decode c_m_free 15 = .ok (.iload_n 2, 1) := by decide +kernel
theorem d_m_free_16 : decode c_m_free 16 = .ok (.invokestatic 155, 3) := by decide +kernel
theorem d_m_free_19 : decode c_m_free 19 = .ok (.ifCond .ne 7, 3) := by decide +kernel
theorem d_m_free_22 : decode c_m_free 22 = .ok (.iconst 2, 1) := by decide +kernel
theorem d_m_free_23 : decode c_m_free 23 = .ok (.goto 27, 3) := by decide +kernel
theorem d_m_free_26 : decode c_m_free 26 = .ok (.aload_n 0, 1) := by decide +kernel
theorem d_m_free_27 : decode c_m_free 27 = .ok (.getfield 60, 3) := by decide +kernel
theorem d_m_free_30 : decode c_m_free 30 = .ok (.iload_n 1, 1) := by decide +kernel
theorem d_m_free_31 : decode c_m_free 31 = .ok (.iaload, 1) := by decide +kernel
theorem d_m_free_32 : decode c_m_free 32 = .ok (.ifCond .ne 13, 3) := by decide +kernel
theorem d_m_free_35 : decode c_m_free 35 = .ok (.aload_n 0, 1) := by decide +kernel
theorem d_m_free_36 : decode c_m_free 36 = .ok (.getfield 45, 3) := by decide +kernel
theorem d_m_free_39 : decode c_m_free 39 = .ok (.iload_n 1, 1) := by decide +kernel
theorem d_m_free_40 : decode c_m_free 40 = .ok (.iaload, 1) := by decide +kernel
theorem d_m_free_41 : decode c_m_free 41 = .ok (.iload_n 2, 1) := by decide +kernel
theorem d_m_free_42 : decode c_m_free 42 = .ok (.if_icmp .ge 7, 3) := by decide +kernel
theorem d_m_free_45 : decode c_m_free 45 = .ok (.iconst 3, 1) := by decide +kernel
theorem d_m_free_46 : decode c_m_free 46 = .ok (.goto 4, 3) := by decide +kernel
theorem d_m_free_49 : decode c_m_free 49 = .ok (.iconst 0, 1) := by decide +kernel
theorem d_m_free_50 : decode c_m_free 50 = .ok (.invokevirtual 109, 3) := by decide +kernel
theorem d_m_free_53 : decode c_m_free 53 = .ok (.ifCond .ne 5, 3) := by decide +kernel
theorem d_m_free_56 : decode c_m_free 56 = .ok (.iconst 0, 1) := by decide +kernel
theorem d_m_free_57 : decode c_m_free 57 = .ok (.ireturn, 1) := by decide +kernel
theorem d_m_free_58 : decode c_m_free 58 = .ok (.aload_n 0, 1) := by decide +kernel
theorem d_m_free_59 : decode c_m_free 59 = .ok (.getfield 45, 3) := by decide +kernel
theorem d_m_free_62 : decode c_m_free 62 = .ok (.iload_n 1, 1) := by decide +kernel
theorem d_m_free_63 : decode c_m_free 63 = .ok (.dup2, 1) := by decide +kernel
theorem d_m_free_64 : decode c_m_free 64 = .ok (.iaload, 1) := by decide +kernel
theorem d_m_free_65 : decode c_m_free 65 = .ok (.iload_n 2, 1) := by decide +kernel
theorem d_m_free_66 : decode c_m_free 66 = .ok (.isub, 1) := by decide +kernel
theorem d_m_free_67 : decode c_m_free 67 = .ok (.iastore, 1) := by decide +kernel
theorem d_m_free_68 : decode c_m_free 68 = .ok (.aload_n 0, 1) := by decide +kernel
theorem d_m_free_69 : decode c_m_free 69 = .ok (.getfield 45, 3) := by decide +kernel
theorem d_m_free_72 : decode c_m_free 72 = .ok (.iload_n 1, 1) := by decide +kernel
theorem d_m_free_73 : decode c_m_free 73 = .ok (.iaload, 1) := by decide +kernel
theorem d_m_free_74 : decode c_m_free 74 = .ok (.ireturn, 1) := by decide +kernel
theorem d_m_fork_0 : decode c_m_fork 0 = .ok (.aload_n 0, 1) := by decide +kernel
theorem d_m_fork_1 : decode c_m_fork 1 = .ok (.iload_n 1, 1) := by decide +kernel
theorem d_m_fork_2 : decode c_m_fork 2 = .ok (.invokevirtual 123, 3) := by decide +kernel
theorem d_m_fork_5 : decode c_m_fork 5 = .ok (.istore_n 2, 1) := by decide +kernel
theorem d_m_fork_6 : decode c_m_fork 6 = .ok (.aload_n 0, 1) := by decide +kernel
theorem d_m_fork_7 : decode c_m_fork 7 = .ok (.iload_n 2, 1) := by decide +kernel
theorem d_m_fork_8 : decode c_m_fork 8 = .ok (.ifCond .ne 7, 3) := by decide +kernel
theorem d_m_fork_11 : decode c_m_fork 11 = .ok (.iconst 1, 1) := by decide +kernel
theorem d_m_fork_12 : decode c_m_fork 12 = .ok (.goto 33, 3) := by decide +kernel
theorem d_m_fork_15 : decode c_m_fork 15 = .ok (.aload_n 0, 1) := by decide +kernel
theorem d_m_fork_16 : decode c_m_fork 16 = .ok (.getfield 60, 3) := by decide +kernel
theorem d_m_fork_19 : decode c_m_fork 19 = .ok (.iload_n 1, 1) := by decide +kernel
theorem d_m_fork_20 : decode c_m_fork 20 = .ok (.iaload, 1) := by decide +kernel
theorem d_m_fork_21 : decode c_m_fork 21 = .ok (.ifCond .ne 19, 3) := by decide +kernel
theorem d_m_fork_24 : decode c_m_fork 24 = .ok (.aload_n 0, 1) := by decide +kernel
theorem d_m_fork_25 : decode c_m_fork 25 = .ok (.aload_n 0, 1) := by decide +kernel
theorem d_m_fork_26 : decode c_m_fork 26 = .ok (.getfield 63, 3) := by decide +kernel
theorem d_m_fork_29 : decode c_m_fork 29 = .ok (.iload_n 1, 1) := by decide +kernel
theorem d_m_fork_30 : decode c_m_fork 30 = .ok (.iaload, 1) := by decide +kernel
theorem d_m_fork_31 : decode c_m_fork 31 = .ok (.iconst 0, 1) := by decide +kernel
theorem d_m_fork_32 : decode c_m_fork 32 = .ok (.iconst 1, 1) := by decide +kernel
theorem d_m_fork_33 : decode c_m_fork 33 = .ok (.invokevirtual 142, 3) := by decide +kernel
theorem d_m_fork_36 : decode c_m_fork 36 = .ok (.iconst (-1), 1) := by decide +kernel
theorem d_m_fork_37 : decode c_m_fork 37 = .ok (.if_icmp .eq 7, 3) := by decide +kernel
theorem d_m_fork_40 : decode c_m_fork 40 = .ok (.iconst 2, 1) := by decide +kernel
theorem d_m_fork_41 : decode c_m_fork 41 = .ok (.goto 4, 3) := by decide +kernel
theorem d_m_fork_44 : decode c_m_fork 44 = .ok (.iconst 0, 1) := by decide +kernel
theorem d_m_fork_45 : decode c_m_fork 45 = .ok (.invokevirtual 109, 3) := by decide +kernel
theorem d_m_fork_48 : decode c_m_fork 48 = .ok (.ifCond .ne 5, 3) := by decide +kernel
theorem d_m_fork_51 : decode c_m_fork 51 = .ok (.iconst 0, 1) := by decide +kernel
theorem d_m_fork_52 : decode c_m_fork 52 = .ok (.ireturn, 1) := by decide +kernel
theorem d_m_fork_53 : decode c_m_fork 53 = .ok (.aload_n 0, 1) := by decide +kernel
theorem d_m_fork_54 : decode c_m_fork 54 = .ok (.getfield 48, 3) := by decide +kernel
theorem d_m_fork_57 : decode c_m_fork 57 = .ok (.iload_n 1, 1) := by decide +kernel
theorem d_m_fork_58 : decode c_m_fork 58 = .ok (.dup2, 1) := by decide +kernel
theorem d_m_fork_59 : decode c_m_fork 59 = .ok (.iaload, 1) := by decide +kernel
theorem d_m_fork_60 : decode c_m_fork 60 = .ok (.iconst 1, 1) := by decide +kernel
theorem d_m_fork_61 : decode c_m_fork 61 = .ok (.iadd, 1) := by decide +kernel
theorem d_m_fork_62 : decode c_m_fork 62 = .ok (.iastore, 1) := by decide +kernel
theorem d_m_fork_63 : decode c_m_fork 63 = .ok (.aload_n 0, 1) := by decide +kernel
theorem d_m_fork_64 : decode c_m_fork 64 = .ok (.getfield 48, 3) := by decide +kernel
theorem d_m_fork_67 : decode c_m_fork 67 = .ok (.iload_n 1, 1) := by decide +kernel
theorem d_m_fork_68 : decode c_m_fork 68 = .ok (.iaload, 1) := by decide +kernel
theorem d_m_fork_69 : decode c_m_fork 69 = .ok (.ireturn, 1) := by decide +kernel
theorem d_m_exit_0 : decode c_m_exit 0 = .ok (.aload_n 0, 1) := by decide +kernel
theorem d_m_exit_1 : decode c_m_exit 1 = .ok (.iload_n 1, 1) := by decide +kernel
theorem d_m_exit_2 : decode c_m_exit 2 = .ok (.iconst 0, 1) := by decide +kernel
theorem d_m_exit_3 : decode c_m_exit 3 = .ok (.invokevirtual 149, 3) := by decide +kernel
theorem d_m_exit_6 : decode c_m_exit 6 = .ok (.ifCond .ne 5, 3) := by decide +kernel
theorem d_m_exit_9 : decode c_m_exit 9 = .ok (.iconst 0, 1) := by decide +kernel
theorem d_m_exit_10 : decode c_m_exit 10 = .ok (.ireturn, 1) := by decide +kernel
theorem d_m_exit_11 : decode c_m_exit 11 = .ok (.aload_n 0, 1) := by decide +kernel
theorem d_m_exit_12 : decode c_m_exit 12 = .ok (.getfield 48, 3) := by decide +kernel
theorem d_m_exit_15 : decode c_m_exit 15 = .ok (.iload_n 1, 1) := by decide +kernel
theorem d_m_exit_16 : decode c_m_exit 16 = .ok (.dup2, 1) := by decide +kernel
theorem d_m_exit_17 : decode c_m_exit 17 = .ok (.iaload, 1) := by decide +kernel
theorem d_m_exit_18 : decode c_m_exit 18 = .ok (.iconst 1, 1) := by decide +kernel
theorem d_m_exit_19 : decode c_m_exit 19 = .ok (.isub, 1) := by decide +kernel
theorem d_m_exit_20 : decode c_m_exit 20 = .ok (.iastore, 1) := by decide +kernel
theorem d_m_exit_21 : decode c_m_exit 21 = .ok (.aload_n 0, 1) := by decide +kernel
theorem d_m_exit_22 : decode c_m_exit 22 = .ok (.getfield 48, 3) := by decide +kernel
theorem d_m_exit_25 : decode c_m_exit 25 = .ok (.iload_n 1, 1) := by decide +kernel
theorem d_m_exit_26 : decode c_m_exit 26 = .ok (.iaload, 1) := by decide +kernel
theorem d_m_exit_27 : decode c_m_exit 27 = .ok (.ifCond .ne 9, 3) := by decide +kernel
theorem d_m_exit_30 : decode c_m_exit 30 = .ok (.aload_n 0, 1) := by decide +kernel
theorem d_m_exit_31 : decode c_m_exit 31 = .ok (.iload_n 1, 1) := by decide +kernel
theorem d_m_exit_32 : decode c_m_exit 32 = .ok (.invokevirtual 152, 3) := by decide +kernel
theorem d_m_exit_35 : decode c_m_exit 35 = .ok (.istore_n 2, 1) := by decide +kernel
theorem d_m_exit_36 : decode c_m_exit 36 = .ok (.aload_n 0, 1) := by decide +kernel
theorem d_m_exit_37 : decode c_m_exit 37 = .ok (.getfield 48, 3) := by decide +kernel
theorem d_m_exit_40 : decode c_m_exit 40 = .ok (.iload_n 1, 1) := by decide +kernel
theorem d_m_exit_41 : decode c_m_exit 41 = .ok (.iaload, 1) := by decide +kernel
theorem d_m_exit_42 : decode c_m_exit 42 = .ok (.ireturn, 1) := by decide +kernel
theorem d_m_schedule_0 : decode c_m_schedule 0 = .ok (.aload_n 0, 1) := by decide +kernel
theorem d_m_schedule_1 : decode c_m_schedule 1 = .ok (.iload_n 1, 1) := by decide +kernel
theorem d_m_schedule_2 : decode c_m_schedule 2 = .ok (.iconst 1, 1) := by decide +kernel
theorem d_m_schedule_3 : decode c_m_schedule 3 = .ok (.if_icmp .lt 14, 3) := by decide +kernel
theorem d_m_schedule_6 : decode c_m_schedule 6 = .ok (.iload_n 1, 1) := by decide +kernel
theorem d_m_schedule_7 : decode c_m_schedule 7 = .ok (.sipush 10000, 3) := by decide +kernel
theorem d_m_schedule_10 : decode c_m_schedule 10 = .ok (.if_icmp .gt 7, 3) := by decide +kernel
theorem d_m_schedule_13 : decode c_m_schedule 13 = .ok (.iconst 0, 1) := by decide +kernel
theorem d_m_schedule_14 : decode c_m_schedule 14 = .ok (.goto 4, 3) := by decide +kernel
theorem d_m_schedule_17 : decode c_m_schedule 17 = .ok (.iconst 1, 1) := by decide +kernel
theorem d_m_schedule_18 : decode c_m_schedule 18 = .ok (.invokevirtual 109, 3) := by decide +kernel
theorem d_m_schedule_21 : decode c_m_schedule 21 = .ok (.ifCond .ne 5, 3) := by decide +kernel
theorem d_m_schedule_24 : decode c_m_schedule 24 = .ok (.iconst 0, 1) := by decide +kernel
theorem d_m_schedule_25 : decode c_m_schedule 25 = .ok (.ireturn, 1) := by decide +kernel
theorem d_m_schedule_26 : decode c_m_schedule 26 = .ok (.iconst 0, 1) := by decide +kernel
theorem d_m_schedule_27 : decode c_m_schedule 27 = .ok (.istore_n 2, 1) := by decide +kernel
theorem d_m_schedule_28 : decode c_m_schedule 28 = .ok (.iload_n 2, 1) := by decide +kernel
theorem d_m_schedule_29 : decode c_m_schedule 29 = .ok (.bipush 8, 2) := by decide +kernel
theorem d_m_schedule_31 : decode c_m_schedule 31 = .ok (.if_icmp .ge 24, 3) := by decide +kernel
theorem d_m_schedule_34 : decode c_m_schedule 34 = .ok (.aload_n 0, 1) := by decide +kernel
theorem d_m_schedule_35 : decode c_m_schedule 35 = .ok (.getfield 78, 3) := by decide +kernel
theorem d_m_schedule_38 : decode c_m_schedule 38 = .ok (.iload_n 2, 1) := by decide +kernel
theorem d_m_schedule_39 : decode c_m_schedule 39 = .ok (.iload_n 2, 1) := by decide +kernel
theorem d_m_schedule_40 : decode c_m_schedule 40 = .ok (.ifCond .ne 7, 3) := by decide +kernel
theorem d_m_schedule_43 : decode c_m_schedule 43 = .ok (.iload_n 1, 1) := by decide +kernel
theorem d_m_schedule_44 : decode c_m_schedule 44 = .ok (.goto 4, 3) := by decide +kernel
theorem d_m_schedule_47 : decode c_m_schedule 47 = .ok (.iconst 0, 1) := by decide +kernel
theorem d_m_schedule_48 : decode c_m_schedule 48 = .ok (.iastore, 1) := by decide +kernel
theorem d_m_schedule_49 : decode c_m_schedule 49 = .ok (.iinc 2 1, 3) := by decide +kernel
theorem d_m_schedule_52 : decode c_m_schedule 52 = .ok (.goto (-24), 3) := by decide +kernel
theorem d_m_schedule_55 : decode c_m_schedule 55 = .ok (.iconst 0, 1) := by decide +kernel
theorem d_m_schedule_56 : decode c_m_schedule 56 = .ok (.istore_n 2, 1) := by decide +kernel
theorem d_m_schedule_57 : decode c_m_schedule 57 = .ok (.iconst 0, 1) := by decide +kernel
theorem d_m_schedule_58 : decode c_m_schedule 58 = .ok (.istore_n 3, 1) := by decide +kernel
theorem d_m_schedule_59 : decode c_m_schedule 59 = .ok (.iload_n 3, 1) := by decide +kernel
theorem d_m_schedule_60 : decode c_m_schedule 60 = .ok (.aload_n 0, 1) := by decide +kernel
theorem d_m_schedule_61 : decode c_m_schedule 61 = .ok (.getfield 23, 3) := by decide +kernel
theorem d_m_schedule_64 : decode c_m_schedule 64 = .ok (.if_icmp .ge 17, 3) := by decide +kernel
theorem d_m_schedule_67 : decode c_m_schedule 67 = .ok (.iload_n 2, 1) := by decide +kernel
theorem d_m_schedule_68 : decode c_m_schedule 68 = .ok (.aload_n 0, 1) := by decide +kernel
theorem d_m_schedule_69 : decode c_m_schedule 69 = .ok (.iload_n 3, 1) := by decide +kernel
theorem d_m_schedule_70 : decode c_m_schedule 70 = .ok (.invokevirtual 170, 3) := by decide +kernel
theorem d_m_schedule_73 : decode c_m_schedule 73 = .ok (.iadd, 1) := by decide +kernel
theorem d_m_schedule_74 : decode c_m_schedule 74 = .ok (.istore_n 2, 1) := by decide +kernel
theorem d_m_schedule_75 : decode c_m_schedule 75 = .ok (.iinc 3 1, 3) := by decide +kernel
theorem d_m_schedule_78 : decode c_m_schedule 78 = .ok (.goto (-19), 3) := by decide +kernel
theorem d_m_schedule_81 : decode c_m_schedule 81 = .ok (.iload_n 2, 1) := by decide +kernel
theorem d_m_schedule_82 : decode c_m_schedule 82 = .ok (.ireturn, 1) := by decide +kernel
theorem d_m_sharesOut_0 : decode c_m_sharesOut 0 = .ok (.iconst 0, 1) := by decide +kernel
theorem d_m_sharesOut_1 : decode c_m_sharesOut 1 = .ok (.istore_n 2, 1) := by decide +kernel
theorem d_m_sharesOut_2 : decode c_m_sharesOut 2 = .ok (.iconst 0, 1) := by decide +kernel
theorem d_m_sharesOut_3 : decode c_m_sharesOut 3 = .ok (.istore_n 3, 1) := by decide +kernel
theorem d_m_sharesOut_4 : decode c_m_sharesOut 4 = .ok (.iload_n 3, 1) := by decide +kernel
theorem d_m_sharesOut_5 : decode c_m_sharesOut 5 = .ok (.bipush 28, 2) := by decide +kernel
theorem d_m_sharesOut_7 : decode c_m_sharesOut 7 = .ok (.if_icmp .ge 30, 3) := by decide +kernel
theorem d_m_sharesOut_10 : decode c_m_sharesOut 10 = .ok (.iload_n 2, 1) := by decide +kernel
theorem d_m_sharesOut_11 : decode c_m_sharesOut 11 = .ok (.aload_n 0, 1) := by decide +kernel
theorem d_m_sharesOut_12 : decode c_m_sharesOut 12 = .ok (.iload_n 3, 1) := by decide +kernel
theorem d_m_sharesOut_13 : decode c_m_sharesOut 13 = .ok (.iload_n 1, 1) := by decide +kernel
theorem d_m_sharesOut_14 : decode c_m_sharesOut 14 = .ok (.invokevirtual 161, 3) := by decide +kernel
theorem d_m_sharesOut_17 : decode c_m_sharesOut 17 = .ok (.ifCond .eq 11, 3) := by decide +kernel
theorem d_m_sharesOut_20 : decode c_m_sharesOut 20 = .ok (.aload_n 0, 1) := by decide +kernel
theorem d_m_sharesOut_21 : decode c_m_sharesOut 21 = .ok (.iload_n 3, 1) := by decide +kernel
theorem d_m_sharesOut_22 : decode c_m_sharesOut 22 = .ok (.invokevirtual 164, 3) := by decide +kernel
theorem d_m_sharesOut_25 : decode c_m_sharesOut 25 = .ok (.goto 4, 3) := by decide +kernel
theorem d_m_sharesOut_28 : decode c_m_sharesOut 28 = .ok (.iconst 0, 1) := by decide +kernel
theorem d_m_sharesOut_29 : decode c_m_sharesOut 29 = .ok (.iadd, 1) := by decide +kernel
theorem d_m_sharesOut_30 : decode c_m_sharesOut 30 = .ok (.istore_n 2, 1) := by decide +kernel
theorem d_m_sharesOut_31 : decode c_m_sharesOut 31 = .ok (.iinc 3 1, 3) := by decide +kernel
theorem d_m_sharesOut_34 : decode c_m_sharesOut 34 = .ok (.goto (-30), 3) := by decide +kernel
theorem d_m_sharesOut_37 : decode c_m_sharesOut 37 = .ok (.iload_n 2, 1) := by decide +kernel
theorem d_m_sharesOut_38 : decode c_m_sharesOut 38 = .ok (.ifCond .ne 7, 3) := by decide +kernel
theorem d_m_sharesOut_41 : decode c_m_sharesOut 41 = .ok (.iconst 0, 1) := by decide +kernel
theorem d_m_sharesOut_42 : decode c_m_sharesOut 42 = .ok (.goto 9, 3) := by decide +kernel
theorem d_m_sharesOut_45 : decode c_m_sharesOut 45 = .ok (.aload_n 0, 1) := by decide +kernel
theorem d_m_sharesOut_46 : decode c_m_sharesOut 46 = .ok (.getfield 78, 3) := by decide +kernel
theorem d_m_sharesOut_49 : decode c_m_sharesOut 49 = .ok (.iload_n 1, 1) := by decide +kernel
theorem d_m_sharesOut_50 : decode c_m_sharesOut 50 = .ok (.iaload, 1) := by decide +kernel
theorem d_m_sharesOut_51 : decode c_m_sharesOut 51 = .ok (.istore_n 3, 1) := by decide +kernel
theorem d_m_sharesOut_52 : decode c_m_sharesOut 52 = .ok (.iconst 0, 1) := by decide +kernel
theorem d_m_sharesOut_53 : decode c_m_sharesOut 53 = .ok (.istore 4, 2) := by decide +kernel
theorem d_m_sharesOut_55 : decode c_m_sharesOut 55 = .ok (.iconst 0, 1) := by decide +kernel
theorem d_m_sharesOut_56 : decode c_m_sharesOut 56 = .ok (.istore 5, 2) := by decide +kernel
theorem d_m_sharesOut_58 : decode c_m_sharesOut 58 = .ok (.iload 5, 2) := by decide +kernel
theorem d_m_sharesOut_60 : decode c_m_sharesOut 60 = .ok (.bipush 28, 2) := by decide +kernel
theorem d_m_sharesOut_62 : decode c_m_sharesOut 62 = .ok (.if_icmp .ge 97, 3) := by decide +kernel
theorem d_m_sharesOut_65 : decode c_m_sharesOut 65 = .ok (.aload_n 0, 1) := by decide +kernel
theorem d_m_sharesOut_66 : decode c_m_sharesOut 66 = .ok (.getfield 81, 3) := by decide +kernel
theorem d_m_sharesOut_69 : decode c_m_sharesOut 69 = .ok (.iload 5, 2) := by decide +kernel
theorem d_m_sharesOut_71 : decode c_m_sharesOut 71 = .ok (.iconst (-1), 1) := by decide +kernel
theorem d_m_sharesOut_72 : decode c_m_sharesOut 72 = .ok (.iastore, 1) := by decide +kernel
theorem d_m_sharesOut_73 : decode c_m_sharesOut 73 = .ok (.aload_n 0, 1) := by decide +kernel
theorem d_m_sharesOut_74 : decode c_m_sharesOut 74 = .ok (.iload 5, 2) := by decide +kernel
theorem d_m_sharesOut_76 : decode c_m_sharesOut 76 = .ok (.iload_n 1, 1) := by decide +kernel
theorem d_m_sharesOut_77 : decode c_m_sharesOut 77 = .ok (.invokevirtual 161, 3) := by decide +kernel
theorem d_m_sharesOut_80 : decode c_m_sharesOut 80 = .ok (.ifCond .eq 73, 3) := by decide +kernel
theorem d_m_sharesOut_83 : decode c_m_sharesOut 83 = .ok (.aload_n 0, 1) := by decide +kernel
theorem d_m_sharesOut_84 : decode c_m_sharesOut 84 = .ok (.getfield 78, 3) := by decide +kernel
theorem d_m_sharesOut_87 : decode c_m_sharesOut 87 = .ok (.iload_n 1, 1) := by decide +kernel
theorem d_m_sharesOut_88 : decode c_m_sharesOut 88 = .ok (.iaload, 1) := by decide +kernel
theorem d_m_sharesOut_89 : decode c_m_sharesOut 89 = .ok (.aload_n 0, 1) := by decide +kernel
theorem d_m_sharesOut_90 : decode c_m_sharesOut 90 = .ok (.iload 5, 2) := by decide +kernel
theorem d_m_sharesOut_92 : decode c_m_sharesOut 92 = .ok (.invokevirtual 164, 3) := by decide +kernel
theorem d_m_sharesOut_95 : decode c_m_sharesOut 95 = .ok (.imul, 1) := by decide +kernel
theorem d_m_sharesOut_96 : decode c_m_sharesOut 96 = .ok (.iload_n 2, 1) := by decide +kernel
theorem d_m_sharesOut_97 : decode c_m_sharesOut 97 = .ok (.idiv, 1) := by decide +kernel
theorem d_m_sharesOut_98 : decode c_m_sharesOut 98 = .ok (.istore 6, 2) := by decide +kernel
theorem d_m_sharesOut_100 : decode c_m_sharesOut 100 = .ok (.aload_n 0, 1) := by decide +kernel
theorem d_m_sharesOut_101 : decode c_m_sharesOut 101 = .ok (.getfield 81, 3) := by decide +kernel
theorem d_m_sharesOut_104 : decode c_m_sharesOut 104 = .ok (.iload 5, 2) := by decide +kernel
theorem d_m_sharesOut_106 : decode c_m_sharesOut 106 = .ok (.aload_n 0, 1) := by decide +kernel
theorem d_m_sharesOut_107 : decode c_m_sharesOut 107 = .ok (.getfield 78, 3) := by decide +kernel
theorem d_m_sharesOut_110 : decode c_m_sharesOut 110 = .ok (.iload_n 1, 1) := by decide +kernel
theorem d_m_sharesOut_111 : decode c_m_sharesOut 111 = .ok (.iaload, 1) := by decide +kernel
theorem d_m_sharesOut_112 : decode c_m_sharesOut 112 = .ok (.aload_n 0, 1) := by decide +kernel
theorem d_m_sharesOut_113 : decode c_m_sharesOut 113 = .ok (.iload 5, 2) := by decide +kernel
theorem d_m_sharesOut_115 : decode c_m_sharesOut 115 = .ok (.invokevirtual 164, 3) := by decide +kernel
theorem d_m_sharesOut_118 : decode c_m_sharesOut 118 = .ok (.imul, 1) := by decide +kernel
theorem d_m_sharesOut_119 : decode c_m_sharesOut 119 = .ok (.iload_n 2, 1) := by decide +kernel
theorem d_m_sharesOut_120 : decode c_m_sharesOut 120 = .ok (.irem, 1) := by decide +kernel
theorem d_m_sharesOut_121 : decode c_m_sharesOut 121 = .ok (.iastore, 1) := by decide +kernel
theorem d_m_sharesOut_122 : decode c_m_sharesOut 122 = .ok (.aload_n 0, 1) := by decide +kernel
theorem d_m_sharesOut_123 : decode c_m_sharesOut 123 = .ok (.iload 5, 2) := by decide +kernel
theorem d_m_sharesOut_125 : decode c_m_sharesOut 125 = .ok (.iload 6, 2) := by decide +kernel
theorem d_m_sharesOut_127 : decode c_m_sharesOut 127 = .ok (.invokevirtual 167, 3) := by decide +kernel
theorem d_m_sharesOut_130 : decode c_m_sharesOut 130 = .ok (.iload 4, 2) := by decide +kernel
theorem d_m_sharesOut_132 : decode c_m_sharesOut 132 = .ok (.iload 5, 2) := by decide +kernel
theorem d_m_sharesOut_134 : decode c_m_sharesOut 134 = .ok (.bipush 8, 2) := by decide +kernel
theorem d_m_sharesOut_136 : decode c_m_sharesOut 136 = .ok (.if_icmp .ge 7, 3) := by decide +kernel
theorem d_m_sharesOut_139 : decode c_m_sharesOut 139 = .ok (.iconst 0, 1) := by decide +kernel
theorem d_m_sharesOut_140 : decode c_m_sharesOut 140 = .ok (.goto 5, 3) := by decide +kernel
theorem d_m_sharesOut_143 : decode c_m_sharesOut 143 = .ok (.iload 6, 2) := by decide +kernel
theorem d_m_sharesOut_145 : decode c_m_sharesOut 145 = .ok (.iadd, 1) := by decide +kernel
theorem d_m_sharesOut_146 : decode c_m_sharesOut 146 = .ok (.istore 4, 2) := by decide +kernel
theorem d_m_sharesOut_148 : decode c_m_sharesOut 148 = .ok (.iload_n 3, 1) := by decide +kernel
theorem d_m_sharesOut_149 : decode c_m_sharesOut 149 = .ok (.iload 6, 2) := by decide +kernel
theorem d_m_sharesOut_151 : decode c_m_sharesOut 151 = .ok (.isub, 1) := by decide +kernel
theorem d_m_sharesOut_152 : decode c_m_sharesOut 152 = .ok (.istore_n 3, 1) := by decide +kernel
theorem d_m_sharesOut_153 : decode c_m_sharesOut 153 = .ok (.iinc 5 1, 3) := by decide +kernel
theorem d_m_sharesOut_156 : decode c_m_sharesOut 156 = .ok (.goto (-98), 3) := by decide +kernel
theorem d_m_sharesOut_159 : decode c_m_sharesOut 159 = .ok (.iload_n 3, 1) := by decide +kernel
theorem d_m_sharesOut_160 : decode c_m_sharesOut 160 = .ok (.ifCond .le 86, 3) := by decide +kernel
theorem d_m_sharesOut_163 : decode c_m_sharesOut 163 = .ok (.iconst 0, 1) := by decide +kernel
theorem d_m_sharesOut_164 : decode c_m_sharesOut 164 = .ok (.istore 5, 2) := by decide +kernel
theorem d_m_sharesOut_166 : decode c_m_sharesOut 166 = .ok (.iconst 1, 1) := by decide +kernel
theorem d_m_sharesOut_167 : decode c_m_sharesOut 167 = .ok (.istore 6, 2) := by decide +kernel
theorem d_m_sharesOut_169 : decode c_m_sharesOut 169 = .ok (.iload 6, 2) := by decide +kernel
theorem d_m_sharesOut_171 : decode c_m_sharesOut 171 = .ok (.bipush 28, 2) := by decide +kernel
theorem d_m_sharesOut_173 : decode c_m_sharesOut 173 = .ok (.if_icmp .ge 35, 3) := by decide +kernel
theorem d_m_sharesOut_176 : decode c_m_sharesOut 176 = .ok (.aload_n 0, 1) := by decide +kernel
theorem d_m_sharesOut_177 : decode c_m_sharesOut 177 = .ok (.getfield 81, 3) := by decide +kernel
theorem d_m_sharesOut_180 : decode c_m_sharesOut 180 = .ok (.iload 6, 2) := by decide +kernel
theorem d_m_sharesOut_182 : decode c_m_sharesOut 182 = .ok (.iaload, 1) := by decide +kernel
theorem d_m_sharesOut_183 : decode c_m_sharesOut 183 = .ok (.aload_n 0, 1) := by decide +kernel
theorem d_m_sharesOut_184 : decode c_m_sharesOut 184 = .ok (.getfield 81, 3) := by decide +kernel
theorem d_m_sharesOut_187 : decode c_m_sharesOut 187 = .ok (.iload 5, 2) := by decide +kernel
theorem d_m_sharesOut_189 : decode c_m_sharesOut 189 = .ok (.iaload, 1) := by decide +kernel
theorem d_m_sharesOut_190 : decode c_m_sharesOut 190 = .ok (.if_icmp .le 8, 3) := by decide +kernel
theorem d_m_sharesOut_193 : decode c_m_sharesOut 193 = .ok (.iload 6, 2) := by decide +kernel
theorem d_m_sharesOut_195 : decode c_m_sharesOut 195 = .ok (.goto 5, 3) := by decide +kernel
theorem d_m_sharesOut_198 : decode c_m_sharesOut 198 = .ok (.iload 5, 2) := by decide +kernel
theorem d_m_sharesOut_200 : decode c_m_sharesOut 200 = .ok (.istore 5, 2) := by decide +kernel
theorem d_m_sharesOut_202 : decode c_m_sharesOut 202 = .ok (.iinc 6 1, 3) := by decide +kernel
theorem d_m_sharesOut_205 : decode c_m_sharesOut 205 = .ok (.goto (-36), 3) := by decide +kernel
theorem d_m_sharesOut_208 : decode c_m_sharesOut 208 = .ok (.aload_n 0, 1) := by decide +kernel
theorem d_m_sharesOut_209 : decode c_m_sharesOut 209 = .ok (.getfield 81, 3) := by decide +kernel
theorem d_m_sharesOut_212 : decode c_m_sharesOut 212 = .ok (.iload 5, 2) := by decide +kernel
theorem d_m_sharesOut_214 : decode c_m_sharesOut 214 = .ok (.iconst (-1), 1) := by decide +kernel
theorem d_m_sharesOut_215 : decode c_m_sharesOut 215 = .ok (.iastore, 1) := by decide +kernel
theorem d_m_sharesOut_216 : decode c_m_sharesOut 216 = .ok (.aload_n 0, 1) := by decide +kernel
theorem d_m_sharesOut_217 : decode c_m_sharesOut 217 = .ok (.iload 5, 2) := by decide +kernel
theorem d_m_sharesOut_219 : decode c_m_sharesOut 219 = .ok (.iconst 1, 1) := by decide +kernel
theorem d_m_sharesOut_220 : decode c_m_sharesOut 220 = .ok (.invokevirtual 167, 3) := by decide +kernel
theorem d_m_sharesOut_223 : decode c_m_sharesOut 223 = .ok (.iload 4, 2) := by decide +kernel
theorem d_m_sharesOut_225 : decode c_m_sharesOut 225 = .ok (.iload 5, 2) := by decide +kernel
theorem d_m_sharesOut_227 : decode c_m_sharesOut 227 = .ok (.bipush 8, 2) := by decide +kernel
theorem d_m_sharesOut_229 : decode c_m_sharesOut 229 = .ok (.if_icmp .ge 7, 3) := by decide +kernel
theorem d_m_sharesOut_232 : decode c_m_sharesOut 232 = .ok (.iconst 0, 1) := by decide +kernel
theorem d_m_sharesOut_233 : decode c_m_sharesOut 233 = .ok (.goto 4, 3) := by decide +kernel
theorem d_m_sharesOut_236 : decode c_m_sharesOut 236 = .ok (.iconst 1, 1) := by decide +kernel
theorem d_m_sharesOut_237 : decode c_m_sharesOut 237 = .ok (.iadd, 1) := by decide +kernel
theorem d_m_sharesOut_238 : decode c_m_sharesOut 238 = .ok (.istore 4, 2) := by decide +kernel
theorem d_m_sharesOut_240 : decode c_m_sharesOut 240 = .ok (.iinc 3 (-1), 3) := by decide +kernel
theorem d_m_sharesOut_243 : decode c_m_sharesOut 243 = .ok (.goto (-84), 3) := by decide +kernel
theorem d_m_sharesOut_246 : decode c_m_sharesOut 246 = .ok (.iload 4, 2) := by decide +kernel
theorem d_m_sharesOut_248 : decode c_m_sharesOut 248 = .ok (.ireturn, 1) := by decide +kernel
theorem d_m_isPart_0 : decode c_m_isPart 0 = .ok (.iload_n 1, 1) := by decide +kernel
theorem d_m_isPart_1 : decode c_m_isPart 1 = .ok (.bipush 8, 2) := by decide +kernel
theorem d_m_isPart_3 : decode c_m_isPart 3 = .ok (.if_icmp .lt 45, 3) := by decide +kernel
theorem d_m_isPart_6 : decode c_m_isPart 6 = .ok (.iload_n 1, 1) := by decide +kernel
theorem d_m_isPart_7 : decode c_m_isPart 7 = .ok (.bipush 8, 2) := by decide +kernel
theorem d_m_isPart_9 : decode c_m_isPart 9 = .ok (.isub, 1) := by decide +kernel
theorem d_m_isPart_10 : decode c_m_isPart 10 = .ok (.aload_n 0, 1) := by decide +kernel
theorem d_m_isPart_11 : decode c_m_isPart 11 = .ok (.getfield 94, 3) := by decide +kernel
theorem d_m_isPart_14 : decode c_m_isPart 14 = .ok (.if_icmp .ge 32, 3) := by decide +kernel
theorem d_m_isPart_17 : decode c_m_isPart 17 = .ok (.aload_n 0, 1) := by decide +kernel
theorem d_m_isPart_18 : decode c_m_isPart 18 = .ok (.getfield 60, 3) := by decide +kernel
theorem d_m_isPart_21 : decode c_m_isPart 21 = .ok (.iload_n 1, 1) := by decide +kernel
theorem d_m_isPart_22 : decode c_m_isPart 22 = .ok (.bipush 8, 2) := by decide +kernel
theorem d_m_isPart_24 : decode c_m_isPart 24 = .ok (.isub, 1) := by decide +kernel
theorem d_m_isPart_25 : decode c_m_isPart 25 = .ok (.iaload, 1) := by decide +kernel
theorem d_m_isPart_26 : decode c_m_isPart 26 = .ok (.ifCond .ne 20, 3) := by decide +kernel
theorem d_m_isPart_29 : decode c_m_isPart 29 = .ok (.aload_n 0, 1) := by decide +kernel
theorem d_m_isPart_30 : decode c_m_isPart 30 = .ok (.getfield 63, 3) := by decide +kernel
theorem d_m_isPart_33 : decode c_m_isPart 33 = .ok (.iload_n 1, 1) := by decide +kernel
theorem d_m_isPart_34 : decode c_m_isPart 34 = .ok (.bipush 8, 2) := by decide +kernel
theorem d_m_isPart_36 : decode c_m_isPart 36 = .ok (.isub, 1) := by decide +kernel
theorem d_m_isPart_37 : decode c_m_isPart 37 = .ok (.iaload, 1) := by decide +kernel
theorem d_m_isPart_38 : decode c_m_isPart 38 = .ok (.iload_n 2, 1) := by decide +kernel
theorem d_m_isPart_39 : decode c_m_isPart 39 = .ok (.if_icmp .ne 7, 3) := by decide +kernel
theorem d_m_isPart_42 : decode c_m_isPart 42 = .ok (.iconst 1, 1) := by decide +kernel
theorem d_m_isPart_43 : decode c_m_isPart 43 = .ok (.goto 4, 3) := by decide +kernel
theorem d_m_isPart_46 : decode c_m_isPart 46 = .ok (.iconst 0, 1) := by decide +kernel
theorem d_m_isPart_47 : decode c_m_isPart 47 = .ok (.ireturn, 1) := by decide +kernel
theorem d_m_isPart_48 : decode c_m_isPart 48 = .ok (.iconst 0, 1) := by decide +kernel
theorem d_m_isPart_49 : decode c_m_isPart 49 = .ok (.istore_n 3, 1) := by decide +kernel
theorem d_m_isPart_50 : decode c_m_isPart 50 = .ok (.iconst 0, 1) := by decide +kernel
theorem d_m_isPart_51 : decode c_m_isPart 51 = .ok (.istore 4, 2) := by decide +kernel
theorem d_m_isPart_53 : decode c_m_isPart 53 = .ok (.iload 4, 2) := by decide +kernel
theorem d_m_isPart_55 : decode c_m_isPart 55 = .ok (.aload_n 0, 1) := by decide +kernel
theorem d_m_isPart_56 : decode c_m_isPart 56 = .ok (.getfield 94, 3) := by decide +kernel
theorem d_m_isPart_59 : decode c_m_isPart 59 = .ok (.if_icmp .ge 44, 3) := by decide +kernel
theorem d_m_isPart_62 : decode c_m_isPart 62 = .ok (.iload_n 3, 1) := by decide +kernel
theorem d_m_isPart_63 : decode c_m_isPart 63 = .ok (.ifCond .ne 28, 3) := by decide +kernel
theorem d_m_isPart_66 : decode c_m_isPart 66 = .ok (.aload_n 0, 1) := by decide +kernel
theorem d_m_isPart_67 : decode c_m_isPart 67 = .ok (.getfield 60, 3) := by decide +kernel
theorem d_m_isPart_70 : decode c_m_isPart 70 = .ok (.iload 4, 2) := by decide +kernel
theorem d_m_isPart_72 : decode c_m_isPart 72 = .ok (.iaload, 1) := by decide +kernel
theorem d_m_isPart_73 : decode c_m_isPart 73 = .ok (.ifCond .ne 22, 3) := by decide +kernel
theorem d_m_isPart_76 : decode c_m_isPart 76 = .ok (.aload_n 0, 1) := by decide +kernel
theorem d_m_isPart_77 : decode c_m_isPart 77 = .ok (.aload_n 0, 1) := by decide +kernel
theorem d_m_isPart_78 : decode c_m_isPart 78 = .ok (.getfield 63, 3) := by decide +kernel
theorem d_m_isPart_81 : decode c_m_isPart 81 = .ok (.iload 4, 2) := by decide +kernel
theorem d_m_isPart_83 : decode c_m_isPart 83 = .ok (.iaload, 1) := by decide +kernel
theorem d_m_isPart_84 : decode c_m_isPart 84 = .ok (.iload_n 1, 1) := by decide +kernel
theorem d_m_isPart_85 : decode c_m_isPart 85 = .ok (.invokevirtual 130, 3) := by decide +kernel
theorem d_m_isPart_88 : decode c_m_isPart 88 = .ok (.ifCond .eq 7, 3) := by decide +kernel
theorem d_m_isPart_91 : decode c_m_isPart 91 = .ok (.iconst 1, 1) := by decide +kernel
theorem d_m_isPart_92 : decode c_m_isPart 92 = .ok (.goto 4, 3) := by decide +kernel
theorem d_m_isPart_95 : decode c_m_isPart 95 = .ok (.iconst 0, 1) := by decide +kernel
theorem d_m_isPart_96 : decode c_m_isPart 96 = .ok (.istore_n 3, 1) := by decide +kernel
theorem d_m_isPart_97 : decode c_m_isPart 97 = .ok (.iinc 4 1, 3) := by decide +kernel
theorem d_m_isPart_100 : decode c_m_isPart 100 = .ok (.goto (-47), 3) := by decide +kernel
theorem d_m_isPart_103 : decode c_m_isPart 103 = .ok (.iload_n 1, 1) := by decide +kernel
theorem d_m_isPart_104 : decode c_m_isPart 104 = .ok (.aload_n 0, 1) := by decide +kernel
theorem d_m_isPart_105 : decode c_m_isPart 105 = .ok (.getfield 23, 3) := by decide +kernel
theorem d_m_isPart_108 : decode c_m_isPart 108 = .ok (.if_icmp .ge 21, 3) := by decide +kernel
theorem d_m_isPart_111 : decode c_m_isPart 111 = .ok (.aload_n 0, 1) := by decide +kernel
theorem d_m_isPart_112 : decode c_m_isPart 112 = .ok (.getfield 27, 3) := by decide +kernel
theorem d_m_isPart_115 : decode c_m_isPart 115 = .ok (.iload_n 1, 1) := by decide +kernel
theorem d_m_isPart_116 : decode c_m_isPart 116 = .ok (.iaload, 1) := by decide +kernel
theorem d_m_isPart_117 : decode c_m_isPart 117 = .ok (.iload_n 2, 1) := by decide +kernel
theorem d_m_isPart_118 : decode c_m_isPart 118 = .ok (.if_icmp .ne 11, 3) := by decide +kernel
theorem d_m_isPart_121 : decode c_m_isPart 121 = .ok (.iload_n 3, 1) := by decide +kernel
theorem d_m_isPart_122 : decode c_m_isPart 122 = .ok (.ifCond .eq 7, 3) := by decide +kernel
theorem d_m_isPart_125 : decode c_m_isPart 125 = .ok (.iconst 1, 1) := by decide +kernel
theorem d_m_isPart_126 : decode c_m_isPart 126 = .ok (.goto 4, 3) := by decide +kernel
theorem d_m_isPart_129 : decode c_m_isPart 129 = .ok (.iconst 0, 1) := by decide +kernel
theorem d_m_isPart_130 : decode c_m_isPart 130 = .ok (.ireturn, 1) := by decide +kernel
theorem d_m_sharesOfPart_0 : decode c_m_sharesOfPart 0 = .ok (.iload_n 1, 1) := by decide +kernel
theorem d_m_sharesOfPart_1 : decode c_m_sharesOfPart 1 = .ok (.bipush 8, 2) := by decide +kernel
theorem d_m_sharesOfPart_3 : decode c_m_sharesOfPart 3 = .ok (.if_icmp .ge 12, 3) := by decide +kernel
theorem d_m_sharesOfPart_6 : decode c_m_sharesOfPart 6 = .ok (.aload_n 0, 1) := by decide +kernel
theorem d_m_sharesOfPart_7 : decode c_m_sharesOfPart 7 = .ok (.getfield 36, 3) := by decide +kernel
theorem d_m_sharesOfPart_10 : decode c_m_sharesOfPart 10 = .ok (.iload_n 1, 1) := by decide +kernel
theorem d_m_sharesOfPart_11 : decode c_m_sharesOfPart 11 = .ok (.iaload, 1) := by decide +kernel
theorem d_m_sharesOfPart_12 : decode c_m_sharesOfPart 12 = .ok (.goto 12, 3) := by decide +kernel
theorem d_m_sharesOfPart_15 : decode c_m_sharesOfPart 15 = .ok (.aload_n 0, 1) := by decide +kernel
theorem d_m_sharesOfPart_16 : decode c_m_sharesOfPart 16 = .ok (.getfield 42, 3) := by decide +kernel
theorem d_m_sharesOfPart_19 : decode c_m_sharesOfPart 19 = .ok (.iload_n 1, 1) := by decide +kernel
theorem d_m_sharesOfPart_20 : decode c_m_sharesOfPart 20 = .ok (.bipush 8, 2) := by decide +kernel
theorem d_m_sharesOfPart_22 : decode c_m_sharesOfPart 22 = .ok (.isub, 1) := by decide +kernel
theorem d_m_sharesOfPart_23 : decode c_m_sharesOfPart 23 = .ok (.iaload, 1) := by decide +kernel
theorem d_m_sharesOfPart_24 : decode c_m_sharesOfPart 24 = .ok (.ireturn, 1) := by decide +kernel
theorem d_m_gives_0 : decode c_m_gives 0 = .ok (.iload_n 1, 1) := by decide +kernel
theorem d_m_gives_1 : decode c_m_gives 1 = .ok (.bipush 8, 2) := by decide +kernel
theorem d_m_gives_3 : decode c_m_gives 3 = .ok (.if_icmp .ge 16, 3) := by decide +kernel
theorem d_m_gives_6 : decode c_m_gives 6 = .ok (.aload_n 0, 1) := by decide +kernel
theorem d_m_gives_7 : decode c_m_gives 7 = .ok (.getfield 78, 3) := by decide +kernel
theorem d_m_gives_10 : decode c_m_gives 10 = .ok (.iload_n 1, 1) := by decide +kernel
theorem d_m_gives_11 : decode c_m_gives 11 = .ok (.dup2, 1) := by decide +kernel
theorem d_m_gives_12 : decode c_m_gives 12 = .ok (.iaload, 1) := by decide +kernel
theorem d_m_gives_13 : decode c_m_gives 13 = .ok (.iload_n 2, 1) := by decide +kernel
theorem d_m_gives_14 : decode c_m_gives 14 = .ok (.iadd, 1) := by decide +kernel
theorem d_m_gives_15 : decode c_m_gives 15 = .ok (.iastore, 1) := by decide +kernel
theorem d_m_gives_16 : decode c_m_gives 16 = .ok (.goto 16, 3) := by decide +kernel
theorem d_m_gives_19 : decode c_m_gives 19 = .ok (.aload_n 0, 1) := by decide +kernel
theorem d_m_gives_20 : decode c_m_gives 20 = .ok (.getfield 69, 3) := by decide +kernel
theorem d_m_gives_23 : decode c_m_gives 23 = .ok (.iload_n 1, 1) := by decide +kernel
theorem d_m_gives_24 : decode c_m_gives 24 = .ok (.bipush 8, 2) := by decide +kernel
theorem d_m_gives_26 : decode c_m_gives 26 = .ok (.isub, 1) := by decide +kernel
theorem d_m_gives_27 : decode c_m_gives 27 = .ok (.dup2, 1) := by decide +kernel
theorem d_m_gives_28 : decode c_m_gives 28 = .ok (.iaload, 1) := by decide +kernel
theorem d_m_gives_29 : decode c_m_gives 29 = .ok (.iload_n 2, 1) := by decide +kernel
theorem d_m_gives_30 : decode c_m_gives 30 = .ok (.iadd, 1) := by decide +kernel
theorem d_m_gives_31 : decode c_m_gives 31 = .ok (.iastore, 1) := by decide +kernel
theorem d_m_gives_32 : decode c_m_gives 32 = .ok (.return_, 1) := by decide +kernel
theorem d_m_writeFile_0 : decode c_m_writeFile 0 = .ok (.aload_n 0, 1) := by decide +kernel
theorem d_m_writeFile_1 : decode c_m_writeFile 1 = .ok (.iload_n 1, 1) := by decide +kernel
theorem d_m_writeFile_2 : decode c_m_writeFile 2 = .ok (.invokevirtual 123, 3) := by decide +kernel
theorem d_m_writeFile_5 : decode c_m_writeFile 5 = .ok (.ifCond .eq 16, 3) := by decide +kernel
theorem d_m_writeFile_8 : decode c_m_writeFile 8 = .ok (.iload_n 2, 1) := by decide +kernel
theorem d_m_writeFile_9 : decode c_m_writeFile 9 = .ok (.bipush 32, 2) := by decide +kernel
theorem d_m_writeFile_11 : decode c_m_writeFile 11 = .ok (.invokestatic 90, 3) := by decide +kernel
theorem d_m_writeFile_14 : decode c_m_writeFile 14 = .ok (.ifCond .eq 7, 3) := by decide +kernel
theorem d_m_writeFile_17 : decode c_m_writeFile 17 = .ok (.iconst 1, 1) := by decide +kernel
theorem d_m_writeFile_18 : decode c_m_writeFile 18 = .ok (.goto 4, 3) := by decide +kernel
theorem d_m_writeFile_21 : decode c_m_writeFile 21 = .ok (.iconst 0, 1) := by decide +kernel
theorem d_m_writeFile_22 : decode c_m_writeFile 22 = .ok (.istore 4, 2) := by decide +kernel
theorem d_m_writeFile_24 : decode c_m_writeFile 24 = .ok (.aload_n 0, 1) := by decide +kernel
theorem d_m_writeFile_25 : decode c_m_writeFile 25 = .ok (.iload 4, 2) := by decide +kernel
theorem d_m_writeFile_27 : decode c_m_writeFile 27 = .ok (.ifCond .ne 7, 3) := by decide +kernel
theorem d_m_writeFile_30 : decode c_m_writeFile 30 = .ok (.iconst 1, 1) := by decide +kernel
theorem d_m_writeFile_31 : decode c_m_writeFile 31 = .ok (.goto 28, 3) := by decide +kernel
theorem d_m_writeFile_34 : decode c_m_writeFile 34 = .ok (.iload_n 3, 1) := by decide +kernel
theorem d_m_writeFile_35 : decode c_m_writeFile 35 = .ok (.invokestatic 116, 3) := by decide +kernel
theorem d_m_writeFile_38 : decode c_m_writeFile 38 = .ok (.ifCond .ne 7, 3) := by decide +kernel
theorem d_m_writeFile_41 : decode c_m_writeFile 41 = .ok (.iconst 2, 1) := by decide +kernel
theorem d_m_writeFile_42 : decode c_m_writeFile 42 = .ok (.goto 17, 3) := by decide +kernel
theorem d_m_writeFile_45 : decode c_m_writeFile 45 = .ok (.aload_n 0, 1) := by decide +kernel
theorem d_m_writeFile_46 : decode c_m_writeFile 46 = .ok (.iload_n 1, 1) := by decide +kernel
theorem d_m_writeFile_47 : decode c_m_writeFile 47 = .ok (.iload_n 2, 1) := by decide +kernel
theorem d_m_writeFile_48 : decode c_m_writeFile 48 = .ok (.invokevirtual 176, 3) := by decide +kernel
theorem d_m_writeFile_51 : decode c_m_writeFile 51 = .ok (.ifCond .eq 7, 3) := by decide +kernel
theorem d_m_writeFile_54 : decode c_m_writeFile 54 = .ok (.iconst 0, 1) := by decide +kernel
theorem d_m_writeFile_55 : decode c_m_writeFile 55 = .ok (.goto 4, 3) := by decide +kernel
theorem d_m_writeFile_58 : decode c_m_writeFile 58 = .ok (.iconst 3, 1) := by decide +kernel
theorem d_m_writeFile_59 : decode c_m_writeFile 59 = .ok (.invokevirtual 109, 3) := by decide +kernel
theorem d_m_writeFile_62 : decode c_m_writeFile 62 = .ok (.ifCond .ne 5, 3) := by decide +kernel
theorem d_m_writeFile_65 : decode c_m_writeFile 65 = .ok (.iconst 0, 1) := by decide +kernel
theorem d_m_writeFile_66 : decode c_m_writeFile 66 = .ok (.ireturn, 1) := by decide +kernel
theorem d_m_writeFile_67 : decode c_m_writeFile 67 = .ok (.aload_n 0, 1) := by decide +kernel
theorem d_m_writeFile_68 : decode c_m_writeFile 68 = .ok (.iload_n 1, 1) := by decide +kernel
theorem d_m_writeFile_69 : decode c_m_writeFile 69 = .ok (.iload_n 2, 1) := by decide +kernel
theorem d_m_writeFile_70 : decode c_m_writeFile 70 = .ok (.invokevirtual 179, 3) := by decide +kernel
theorem d_m_writeFile_73 : decode c_m_writeFile 73 = .ok (.istore 5, 2) := by decide +kernel
theorem d_m_writeFile_75 : decode c_m_writeFile 75 = .ok (.aload_n 0, 1) := by decide +kernel
theorem d_m_writeFile_76 : decode c_m_writeFile 76 = .ok (.getfield 7, 3) := by decide +kernel
theorem d_m_writeFile_79 : decode c_m_writeFile 79 = .ok (.bipush 32, 2) := by decide +kernel
theorem d_m_writeFile_81 : decode c_m_writeFile 81 = .ok (.bipush 10, 2) := by decide +kernel
theorem d_m_writeFile_83 : decode c_m_writeFile 83 = .ok (.iload_n 1, 1) := by decide +kernel
theorem d_m_writeFile_84 : decode c_m_writeFile 84 = .ok (.iadd, 1) := by decide +kernel
theorem d_m_writeFile_85 : decode c_m_writeFile 85 = .ok (.imul, 1) := by decide +kernel
theorem d_m_writeFile_86 : decode c_m_writeFile 86 = .ok (.iload_n 2, 1) := by decide +kernel
theorem d_m_writeFile_87 : decode c_m_writeFile 87 = .ok (.iadd, 1) := by decide +kernel
theorem d_m_writeFile_88 : decode c_m_writeFile 88 = .ok (.iload_n 3, 1) := by decide +kernel
theorem d_m_writeFile_89 : decode c_m_writeFile 89 = .ok (.iastore, 1) := by decide +kernel
theorem d_m_writeFile_90 : decode c_m_writeFile 90 = .ok (.iload 5, 2) := by decide +kernel
theorem d_m_writeFile_92 : decode c_m_writeFile 92 = .ok (.ireturn, 1) := by decide +kernel
theorem d_m_mayChange_0 : decode c_m_mayChange 0 = .ok (.aload_n 0, 1) := by decide +kernel
theorem d_m_mayChange_1 : decode c_m_mayChange 1 = .ok (.getfield 60, 3) := by decide +kernel
theorem d_m_mayChange_4 : decode c_m_mayChange 4 = .ok (.iload_n 1, 1) := by decide +kernel
theorem d_m_mayChange_5 : decode c_m_mayChange 5 = .ok (.iaload, 1) := by decide +kernel
theorem d_m_mayChange_6 : decode c_m_mayChange 6 = .ok (.ifCond .ne 21, 3) := by decide +kernel
theorem d_m_mayChange_9 : decode c_m_mayChange 9 = .ok (.iload_n 2, 1) := by decide +kernel
theorem d_m_mayChange_10 : decode c_m_mayChange 10 = .ok (.iconst 4, 1) := by decide +kernel
theorem d_m_mayChange_11 : decode c_m_mayChange 11 = .ok (.if_icmp .ge 12, 3) := by decide +kernel
theorem d_m_mayChange_14 : decode c_m_mayChange 14 = .ok (.aload_n 0, 1) := by decide +kernel
theorem d_m_mayChange_15 : decode c_m_mayChange 15 = .ok (.iload_n 1, 1) := by decide +kernel
theorem d_m_mayChange_16 : decode c_m_mayChange 16 = .ok (.iconst 1, 1) := by decide +kernel
theorem d_m_mayChange_17 : decode c_m_mayChange 17 = .ok (.invokevirtual 173, 3) := by decide +kernel
theorem d_m_mayChange_20 : decode c_m_mayChange 20 = .ok (.ifCond .eq 7, 3) := by decide +kernel
theorem d_m_mayChange_23 : decode c_m_mayChange 23 = .ok (.iconst 1, 1) := by decide +kernel
theorem d_m_mayChange_24 : decode c_m_mayChange 24 = .ok (.goto 4, 3) := by decide +kernel
theorem d_m_mayChange_27 : decode c_m_mayChange 27 = .ok (.iconst 0, 1) := by decide +kernel
theorem d_m_mayChange_28 : decode c_m_mayChange 28 = .ok (.ireturn, 1) := by decide +kernel
theorem d_m_isEffective_0 : decode c_m_isEffective 0 = .ok (.aload_n 0, 1) := by decide +kernel
theorem d_m_isEffective_1 : decode c_m_isEffective 1 = .ok (.getfield 54, 3) := by decide +kernel
theorem d_m_isEffective_4 : decode c_m_isEffective 4 = .ok (.iload_n 1, 1) := by decide +kernel
theorem d_m_isEffective_5 : decode c_m_isEffective 5 = .ok (.iaload, 1) := by decide +kernel
theorem d_m_isEffective_6 : decode c_m_isEffective 6 = .ok (.iload_n 2, 1) := by decide +kernel
theorem d_m_isEffective_7 : decode c_m_isEffective 7 = .ok (.ishr, 1) := by decide +kernel
theorem d_m_isEffective_8 : decode c_m_isEffective 8 = .ok (.iconst 1, 1) := by decide +kernel
theorem d_m_isEffective_9 : decode c_m_isEffective 9 = .ok (.iand, 1) := by decide +kernel
theorem d_m_isEffective_10 : decode c_m_isEffective 10 = .ok (.iconst 1, 1) := by decide +kernel
theorem d_m_isEffective_11 : decode c_m_isEffective 11 = .ok (.if_icmp .ne 7, 3) := by decide +kernel
theorem d_m_isEffective_14 : decode c_m_isEffective 14 = .ok (.iconst 1, 1) := by decide +kernel
theorem d_m_isEffective_15 : decode c_m_isEffective 15 = .ok (.goto 4, 3) := by decide +kernel
theorem d_m_isEffective_18 : decode c_m_isEffective 18 = .ok (.iconst 0, 1) := by decide +kernel
theorem d_m_isEffective_19 : decode c_m_isEffective 19 = .ok (.ireturn, 1) := by decide +kernel
theorem d_m_containerSees_0 : decode c_m_containerSees 0 = .ok (.aload_n 0, 1) := by decide +kernel
theorem d_m_containerSees_1 : decode c_m_containerSees 1 = .ok (.bipush 10, 2) := by decide +kernel
theorem d_m_containerSees_3 : decode c_m_containerSees 3 = .ok (.iload_n 1, 1) := by decide +kernel
theorem d_m_containerSees_4 : decode c_m_containerSees 4 = .ok (.iadd, 1) := by decide +kernel
theorem d_m_containerSees_5 : decode c_m_containerSees 5 = .ok (.aload_n 0, 1) := by decide +kernel
theorem d_m_containerSees_6 : decode c_m_containerSees 6 = .ok (.getfield 39, 3) := by decide +kernel
theorem d_m_containerSees_9 : decode c_m_containerSees 9 = .ok (.iload_n 1, 1) := by decide +kernel
theorem d_m_containerSees_10 : decode c_m_containerSees 10 = .ok (.iaload, 1) := by decide +kernel
theorem d_m_containerSees_11 : decode c_m_containerSees 11 = .ok (.iload_n 2, 1) := by decide +kernel
theorem d_m_containerSees_12 : decode c_m_containerSees 12 = .ok (.invokevirtual 97, 3) := by decide +kernel
theorem d_m_containerSees_15 : decode c_m_containerSees 15 = .ok (.ireturn, 1) := by decide +kernel
theorem d_m_removeFile_0 : decode c_m_removeFile 0 = .ok (.aload_n 0, 1) := by decide +kernel
theorem d_m_removeFile_1 : decode c_m_removeFile 1 = .ok (.iload_n 1, 1) := by decide +kernel
theorem d_m_removeFile_2 : decode c_m_removeFile 2 = .ok (.invokevirtual 123, 3) := by decide +kernel
theorem d_m_removeFile_5 : decode c_m_removeFile 5 = .ok (.ifCond .eq 16, 3) := by decide +kernel
theorem d_m_removeFile_8 : decode c_m_removeFile 8 = .ok (.iload_n 2, 1) := by decide +kernel
theorem d_m_removeFile_9 : decode c_m_removeFile 9 = .ok (.bipush 32, 2) := by decide +kernel
theorem d_m_removeFile_11 : decode c_m_removeFile 11 = .ok (.invokestatic 90, 3) := by decide +kernel
theorem d_m_removeFile_14 : decode c_m_removeFile 14 = .ok (.ifCond .eq 7, 3) := by decide +kernel
theorem d_m_removeFile_17 : decode c_m_removeFile 17 = .ok (.iconst 1, 1) := by decide +kernel
theorem d_m_removeFile_18 : decode c_m_removeFile 18 = .ok (.goto 4, 3) := by decide +kernel
theorem d_m_removeFile_21 : decode c_m_removeFile 21 = .ok (.iconst 0, 1) := by decide +kernel
theorem d_m_removeFile_22 : decode c_m_removeFile 22 = .ok (.istore_n 3, 1) := by decide +kernel
theorem d_m_removeFile_23 : decode c_m_removeFile 23 = .ok (.aload_n 0, 1) := by decide +kernel
theorem d_m_removeFile_24 : decode c_m_removeFile 24 = .ok (.iload_n 3, 1) := by decide +kernel
theorem d_m_removeFile_25 : decode c_m_removeFile 25 = .ok (.ifCond .ne 7, 3) := by decide +kernel
theorem d_m_removeFile_28 : decode c_m_removeFile 28 = .ok (.iconst 1, 1) := by decide +kernel
theorem d_m_removeFile_29 : decode c_m_removeFile 29 = .ok (.goto 26, 3) := by decide +kernel
theorem d_m_removeFile_32 : decode c_m_removeFile 32 = .ok (.aload_n 0, 1) := by decide +kernel
theorem d_m_removeFile_33 : decode c_m_removeFile 33 = .ok (.iload_n 1, 1) := by decide +kernel
theorem d_m_removeFile_34 : decode c_m_removeFile 34 = .ok (.iload_n 2, 1) := by decide +kernel
theorem d_m_removeFile_35 : decode c_m_removeFile 35 = .ok (.invokevirtual 176, 3) := by decide +kernel
theorem d_m_removeFile_38 : decode c_m_removeFile 38 = .ok (.ifCond .eq 16, 3) := by decide +kernel
theorem d_m_removeFile_41 : decode c_m_removeFile 41 = .ok (.aload_n 0, 1) := by decide +kernel
theorem d_m_removeFile_42 : decode c_m_removeFile 42 = .ok (.iload_n 1, 1) := by decide +kernel
theorem d_m_removeFile_43 : decode c_m_removeFile 43 = .ok (.iload_n 2, 1) := by decide +kernel
theorem d_m_removeFile_44 : decode c_m_removeFile 44 = .ok (.invokevirtual 179, 3) := by decide +kernel
theorem d_m_removeFile_47 : decode c_m_removeFile 47 = .ok (.ifCond .le 7, 3) := by decide +kernel
theorem d_m_removeFile_50 : decode c_m_removeFile 50 = .ok (.iconst 0, 1) := by decide +kernel
theorem d_m_removeFile_51 : decode c_m_removeFile 51 = .ok (.goto 4, 3) := by decide +kernel
theorem d_m_removeFile_54 : decode c_m_removeFile 54 = .ok (.iconst 2, 1) := by decide +kernel
theorem d_m_removeFile_55 : decode c_m_removeFile 55 = .ok (.invokevirtual 109, 3) := by decide +kernel
theorem d_m_removeFile_58 : decode c_m_removeFile 58 = .ok (.ifCond .ne 5, 3) := by decide +kernel
theorem d_m_removeFile_61 : decode c_m_removeFile 61 = .ok (.iconst 0, 1) := by decide +kernel
theorem d_m_removeFile_62 : decode c_m_removeFile 62 = .ok (.ireturn, 1) := by decide +kernel
theorem d_m_removeFile_63 : decode c_m_removeFile 63 = .ok (.aload_n 0, 1) := by decide +kernel
theorem d_m_removeFile_64 : decode c_m_removeFile 64 = .ok (.iload_n 1, 1) := by decide +kernel
theorem d_m_removeFile_65 : decode c_m_removeFile 65 = .ok (.iload_n 2, 1) := by decide +kernel
theorem d_m_removeFile_66 : decode c_m_removeFile 66 = .ok (.invokevirtual 179, 3) := by decide +kernel
theorem d_m_removeFile_69 : decode c_m_removeFile 69 = .ok (.istore 4, 2) := by decide +kernel
theorem d_m_removeFile_71 : decode c_m_removeFile 71 = .ok (.aload_n 0, 1) := by decide +kernel
theorem d_m_removeFile_72 : decode c_m_removeFile 72 = .ok (.getfield 7, 3) := by decide +kernel
theorem d_m_removeFile_75 : decode c_m_removeFile 75 = .ok (.bipush 32, 2) := by decide +kernel
theorem d_m_removeFile_77 : decode c_m_removeFile 77 = .ok (.bipush 10, 2) := by decide +kernel
theorem d_m_removeFile_79 : decode c_m_removeFile 79 = .ok (.iload_n 1, 1) := by decide +kernel
theorem d_m_removeFile_80 : decode c_m_removeFile 80 = .ok (.iadd, 1) := by decide +kernel
theorem d_m_removeFile_81 : decode c_m_removeFile 81 = .ok (.imul, 1) := by decide +kernel
theorem d_m_removeFile_82 : decode c_m_removeFile 82 = .ok (.iload_n 2, 1) := by decide +kernel
theorem d_m_removeFile_83 : decode c_m_removeFile 83 = .ok (.iadd, 1) := by decide +kernel
theorem d_m_removeFile_84 : decode c_m_removeFile 84 = .ok (.iconst (-1), 1) := by decide +kernel
theorem d_m_removeFile_85 : decode c_m_removeFile 85 = .ok (.iastore, 1) := by decide +kernel
theorem d_m_removeFile_86 : decode c_m_removeFile 86 = .ok (.iload 4, 2) := by decide +kernel
theorem d_m_removeFile_88 : decode c_m_removeFile 88 = .ok (.ireturn, 1) := by decide +kernel
theorem d_m_fileOf_0 : decode c_m_fileOf 0 = .ok (.aload_n 0, 1) := by decide +kernel
theorem d_m_fileOf_1 : decode c_m_fileOf 1 = .ok (.aload_n 0, 1) := by decide +kernel
theorem d_m_fileOf_2 : decode c_m_fileOf 2 = .ok (.iload_n 1, 1) := by decide +kernel
theorem d_m_fileOf_3 : decode c_m_fileOf 3 = .ok (.invokevirtual 123, 3) := by decide +kernel
theorem d_m_fileOf_6 : decode c_m_fileOf 6 = .ok (.ifCond .eq 16, 3) := by decide +kernel
theorem d_m_fileOf_9 : decode c_m_fileOf 9 = .ok (.iload_n 2, 1) := by decide +kernel
theorem d_m_fileOf_10 : decode c_m_fileOf 10 = .ok (.bipush 32, 2) := by decide +kernel
theorem d_m_fileOf_12 : decode c_m_fileOf 12 = .ok (.invokestatic 90, 3) := by decide +kernel
theorem d_m_fileOf_15 : decode c_m_fileOf 15 = .ok (.ifCond .eq 7, 3) := by decide +kernel
theorem d_m_fileOf_18 : decode c_m_fileOf 18 = .ok (.iconst 0, 1) := by decide +kernel
theorem d_m_fileOf_19 : decode c_m_fileOf 19 = .ok (.goto 4, 3) := by decide +kernel
theorem d_m_fileOf_22 : decode c_m_fileOf 22 = .ok (.iconst 1, 1) := by decide +kernel
theorem d_m_fileOf_23 : decode c_m_fileOf 23 = .ok (.invokevirtual 109, 3) := by decide +kernel
theorem d_m_fileOf_26 : decode c_m_fileOf 26 = .ok (.ifCond .eq 12, 3) := by decide +kernel
theorem d_m_fileOf_29 : decode c_m_fileOf 29 = .ok (.aload_n 0, 1) := by decide +kernel
theorem d_m_fileOf_30 : decode c_m_fileOf 30 = .ok (.iload_n 1, 1) := by decide +kernel
theorem d_m_fileOf_31 : decode c_m_fileOf 31 = .ok (.iload_n 2, 1) := by decide +kernel
theorem d_m_fileOf_32 : decode c_m_fileOf 32 = .ok (.invokevirtual 179, 3) := by decide +kernel
theorem d_m_fileOf_35 : decode c_m_fileOf 35 = .ok (.goto 4, 3) := by decide +kernel
theorem d_m_fileOf_38 : decode c_m_fileOf 38 = .ok (.iconst 0, 1) := by decide +kernel
theorem d_m_fileOf_39 : decode c_m_fileOf 39 = .ok (.ireturn, 1) := by decide +kernel
theorem d_m_plainFileOf_0 : decode c_m_plainFileOf 0 = .ok (.aload_n 0, 1) := by decide +kernel
theorem d_m_plainFileOf_1 : decode c_m_plainFileOf 1 = .ok (.aload_n 0, 1) := by decide +kernel
theorem d_m_plainFileOf_2 : decode c_m_plainFileOf 2 = .ok (.iload_n 1, 1) := by decide +kernel
theorem d_m_plainFileOf_3 : decode c_m_plainFileOf 3 = .ok (.invokevirtual 123, 3) := by decide +kernel
theorem d_m_plainFileOf_6 : decode c_m_plainFileOf 6 = .ok (.ifCond .eq 16, 3) := by decide +kernel
theorem d_m_plainFileOf_9 : decode c_m_plainFileOf 9 = .ok (.iload_n 2, 1) := by decide +kernel
theorem d_m_plainFileOf_10 : decode c_m_plainFileOf 10 = .ok (.bipush 32, 2) := by decide +kernel
theorem d_m_plainFileOf_12 : decode c_m_plainFileOf 12 = .ok (.invokestatic 90, 3) := by decide +kernel
theorem d_m_plainFileOf_15 : decode c_m_plainFileOf 15 = .ok (.ifCond .eq 7, 3) := by decide +kernel
theorem d_m_plainFileOf_18 : decode c_m_plainFileOf 18 = .ok (.iconst 0, 1) := by decide +kernel
theorem d_m_plainFileOf_19 : decode c_m_plainFileOf 19 = .ok (.goto 4, 3) := by decide +kernel
theorem d_m_plainFileOf_22 : decode c_m_plainFileOf 22 = .ok (.iconst 1, 1) := by decide +kernel
theorem d_m_plainFileOf_23 : decode c_m_plainFileOf 23 = .ok (.invokevirtual 109, 3) := by decide +kernel
theorem d_m_plainFileOf_26 : decode c_m_plainFileOf 26 = .ok (.ifCond .ne 5, 3) := by decide +kernel
theorem d_m_plainFileOf_29 : decode c_m_plainFileOf 29 = .ok (.iconst 0, 1) := by decide +kernel
theorem d_m_plainFileOf_30 : decode c_m_plainFileOf 30 = .ok (.ireturn, 1) := by decide +kernel
theorem d_m_plainFileOf_31 : decode c_m_plainFileOf 31 = .ok (.iconst 0, 1) := by decide +kernel
theorem d_m_plainFileOf_32 : decode c_m_plainFileOf 32 = .ok (.istore_n 3, 1) := by decide +kernel
theorem d_m_plainFileOf_33 : decode c_m_plainFileOf 33 = .ok (.iconst 0, 1) := by decide +kernel
theorem d_m_plainFileOf_34 : decode c_m_plainFileOf 34 = .ok (.istore 4, 2) := by decide +kernel
theorem d_m_plainFileOf_36 : decode c_m_plainFileOf 36 = .ok (.iload 4, 2) := by decide +kernel
theorem d_m_plainFileOf_38 : decode c_m_plainFileOf 38 = .ok (.aload_n 0, 1) := by decide +kernel
theorem d_m_plainFileOf_39 : decode c_m_plainFileOf 39 = .ok (.aload_n 0, 1) := by decide +kernel
theorem d_m_plainFileOf_40 : decode c_m_plainFileOf 40 = .ok (.getfield 39, 3) := by decide +kernel
theorem d_m_plainFileOf_43 : decode c_m_plainFileOf 43 = .ok (.iload_n 1, 1) := by decide +kernel
theorem d_m_plainFileOf_44 : decode c_m_plainFileOf 44 = .ok (.iaload, 1) := by decide +kernel
theorem d_m_plainFileOf_45 : decode c_m_plainFileOf 45 = .ok (.invokevirtual 105, 3) := by decide +kernel
theorem d_m_plainFileOf_48 : decode c_m_plainFileOf 48 = .ok (.if_icmp .gt 76, 3) := by decide +kernel
theorem d_m_plainFileOf_51 : decode c_m_plainFileOf 51 = .ok (.aload_n 0, 1) := by decide +kernel
theorem d_m_plainFileOf_52 : decode c_m_plainFileOf 52 = .ok (.iload_n 1, 1) := by decide +kernel
theorem d_m_plainFileOf_53 : decode c_m_plainFileOf 53 = .ok (.iload 4, 2) := by decide +kernel
theorem d_m_plainFileOf_55 : decode c_m_plainFileOf 55 = .ok (.invokevirtual 182, 3) := by decide +kernel
theorem d_m_plainFileOf_58 : decode c_m_plainFileOf 58 = .ok (.istore 5, 2) := by decide +kernel
theorem d_m_plainFileOf_60 : decode c_m_plainFileOf 60 = .ok (.aload_n 0, 1) := by decide +kernel
theorem d_m_plainFileOf_61 : decode c_m_plainFileOf 61 = .ok (.getfield 13, 3) := by decide +kernel
theorem d_m_plainFileOf_64 : decode c_m_plainFileOf 64 = .ok (.iload 5, 2) := by decide +kernel
theorem d_m_plainFileOf_66 : decode c_m_plainFileOf 66 = .ok (.iaload, 1) := by decide +kernel
theorem d_m_plainFileOf_67 : decode c_m_plainFileOf 67 = .ok (.iload_n 2, 1) := by decide +kernel
theorem d_m_plainFileOf_68 : decode c_m_plainFileOf 68 = .ok (.iconst 4, 1) := by decide +kernel
theorem d_m_plainFileOf_69 : decode c_m_plainFileOf 69 = .ok (.idiv, 1) := by decide +kernel
theorem d_m_plainFileOf_70 : decode c_m_plainFileOf 70 = .ok (.ishr, 1) := by decide +kernel
theorem d_m_plainFileOf_71 : decode c_m_plainFileOf 71 = .ok (.iconst 1, 1) := by decide +kernel
theorem d_m_plainFileOf_72 : decode c_m_plainFileOf 72 = .ok (.iand, 1) := by decide +kernel
theorem d_m_plainFileOf_73 : decode c_m_plainFileOf 73 = .ok (.iconst 1, 1) := by decide +kernel
theorem d_m_plainFileOf_74 : decode c_m_plainFileOf 74 = .ok (.if_icmp .ne 7, 3) := by decide +kernel
theorem d_m_plainFileOf_77 : decode c_m_plainFileOf 77 = .ok (.iconst 0, 1) := by decide +kernel
theorem d_m_plainFileOf_78 : decode c_m_plainFileOf 78 = .ok (.goto 4, 3) := by decide +kernel
theorem d_m_plainFileOf_81 : decode c_m_plainFileOf 81 = .ok (.iload_n 3, 1) := by decide +kernel
theorem d_m_plainFileOf_82 : decode c_m_plainFileOf 82 = .ok (.istore_n 3, 1) := by decide +kernel
theorem d_m_plainFileOf_83 : decode c_m_plainFileOf 83 = .ok (.aload_n 0, 1) := by decide +kernel
theorem d_m_plainFileOf_84 : decode c_m_plainFileOf 84 = .ok (.getfield 7, 3) := by decide +kernel
theorem d_m_plainFileOf_87 : decode c_m_plainFileOf 87 = .ok (.bipush 32, 2) := by decide +kernel
theorem d_m_plainFileOf_89 : decode c_m_plainFileOf 89 = .ok (.iload 5, 2) := by decide +kernel
theorem d_m_plainFileOf_91 : decode c_m_plainFileOf 91 = .ok (.imul, 1) := by decide +kernel
theorem d_m_plainFileOf_92 : decode c_m_plainFileOf 92 = .ok (.iload_n 2, 1) := by decide +kernel
theorem d_m_plainFileOf_93 : decode c_m_plainFileOf 93 = .ok (.iadd, 1) := by decide +kernel
theorem d_m_plainFileOf_94 : decode c_m_plainFileOf 94 = .ok (.iaload, 1) := by decide +kernel
theorem d_m_plainFileOf_95 : decode c_m_plainFileOf 95 = .ok (.istore 6, 2) := by decide +kernel
theorem d_m_plainFileOf_97 : decode c_m_plainFileOf 97 = .ok (.iload 6, 2) := by decide +kernel
theorem d_m_plainFileOf_99 : decode c_m_plainFileOf 99 = .ok (.ifCond .ge 7, 3) := by decide +kernel
theorem d_m_plainFileOf_102 : decode c_m_plainFileOf 102 = .ok (.iconst 0, 1) := by decide +kernel
theorem d_m_plainFileOf_103 : decode c_m_plainFileOf 103 = .ok (.goto 14, 3) := by decide +kernel
theorem d_m_plainFileOf_106 : decode c_m_plainFileOf 106 = .ok (.iload 6, 2) := by decide +kernel
theorem d_m_plainFileOf_108 : decode c_m_plainFileOf 108 = .ok (.ifCond .le 8, 3) := by decide +kernel
theorem d_m_plainFileOf_111 : decode c_m_plainFileOf 111 = .ok (.iload 6, 2) := by decide +kernel
theorem d_m_plainFileOf_113 : decode c_m_plainFileOf 113 = .ok (.goto 4, 3) := by decide +kernel
theorem d_m_plainFileOf_116 : decode c_m_plainFileOf 116 = .ok (.iload_n 3, 1) := by decide +kernel
theorem d_m_plainFileOf_117 : decode c_m_plainFileOf 117 = .ok (.istore_n 3, 1) := by decide +kernel
theorem d_m_plainFileOf_118 : decode c_m_plainFileOf 118 = .ok (.iinc 4 1, 3) := by decide +kernel
theorem d_m_plainFileOf_121 : decode c_m_plainFileOf 121 = .ok (.goto (-85), 3) := by decide +kernel
theorem d_m_plainFileOf_124 : decode c_m_plainFileOf 124 = .ok (.iload_n 3, 1) := by decide +kernel
theorem d_m_plainFileOf_125 : decode c_m_plainFileOf 125 = .ok (.ireturn, 1) := by decide +kernel
theorem d_m_layerAt_0 : decode c_m_layerAt 0 = .ok (.aload_n 0, 1) := by decide +kernel
theorem d_m_layerAt_1 : decode c_m_layerAt 1 = .ok (.aload_n 0, 1) := by decide +kernel
theorem d_m_layerAt_2 : decode c_m_layerAt 2 = .ok (.getfield 39, 3) := by decide +kernel
theorem d_m_layerAt_5 : decode c_m_layerAt 5 = .ok (.iload_n 1, 1) := by decide +kernel
theorem d_m_layerAt_6 : decode c_m_layerAt 6 = .ok (.iaload, 1) := by decide +kernel
theorem d_m_layerAt_7 : decode c_m_layerAt 7 = .ok (.invokevirtual 105, 3) := by decide +kernel
theorem d_m_layerAt_10 : decode c_m_layerAt 10 = .ok (.istore_n 3, 1) := by decide +kernel
theorem d_m_layerAt_11 : decode c_m_layerAt 11 = .ok (.aload_n 0, 1) := by decide +kernel
theorem d_m_layerAt_12 : decode c_m_layerAt 12 = .ok (.getfield 39, 3) := by decide +kernel
theorem d_m_layerAt_15 : decode c_m_layerAt 15 = .ok (.iload_n 1, 1) := by decide +kernel
theorem d_m_layerAt_16 : decode c_m_layerAt 16 = .ok (.iaload, 1) := by decide +kernel
theorem d_m_layerAt_17 : decode c_m_layerAt 17 = .ok (.istore 4, 2) := by decide +kernel
theorem d_m_layerAt_19 : decode c_m_layerAt 19 = .ok (.iload_n 3, 1) := by decide +kernel
theorem d_m_layerAt_20 : decode c_m_layerAt 20 = .ok (.iconst 1, 1) := by decide +kernel
theorem d_m_layerAt_21 : decode c_m_layerAt 21 = .ok (.isub, 1) := by decide +kernel
theorem d_m_layerAt_22 : decode c_m_layerAt 22 = .ok (.istore 5, 2) := by decide +kernel
theorem d_m_layerAt_24 : decode c_m_layerAt 24 = .ok (.iload 5, 2) := by decide +kernel
theorem d_m_layerAt_26 : decode c_m_layerAt 26 = .ok (.iload_n 2, 1) := by decide +kernel
theorem d_m_layerAt_27 : decode c_m_layerAt 27 = .ok (.if_icmp .le 23, 3) := by decide +kernel
theorem d_m_layerAt_30 : decode c_m_layerAt 30 = .ok (.iload_n 2, 1) := by decide +kernel
theorem d_m_layerAt_31 : decode c_m_layerAt 31 = .ok (.iload_n 3, 1) := by decide +kernel
theorem d_m_layerAt_32 : decode c_m_layerAt 32 = .ok (.if_icmp .ge 18, 3) := by decide +kernel
theorem d_m_layerAt_35 : decode c_m_layerAt 35 = .ok (.aload_n 0, 1) := by decide +kernel
theorem d_m_layerAt_36 : decode c_m_layerAt 36 = .ok (.getfield 16, 3) := by decide +kernel
theorem d_m_layerAt_39 : decode c_m_layerAt 39 = .ok (.iload 4, 2) := by decide +kernel
theorem d_m_layerAt_41 : decode c_m_layerAt 41 = .ok (.iaload, 1) := by decide +kernel
theorem d_m_layerAt_42 : decode c_m_layerAt 42 = .ok (.istore 4, 2) := by decide +kernel
theorem d_m_layerAt_44 : decode c_m_layerAt 44 = .ok (.iinc 5 (-1), 3) := by decide +kernel
theorem d_m_layerAt_47 : decode c_m_layerAt 47 = .ok (.goto (-23), 3) := by decide +kernel
theorem d_m_layerAt_50 : decode c_m_layerAt 50 = .ok (.iload_n 2, 1) := by decide +kernel
theorem d_m_layerAt_51 : decode c_m_layerAt 51 = .ok (.iload_n 3, 1) := by decide +kernel
theorem d_m_layerAt_52 : decode c_m_layerAt 52 = .ok (.if_icmp .ne 10, 3) := by decide +kernel
theorem d_m_layerAt_55 : decode c_m_layerAt 55 = .ok (.bipush 10, 2) := by decide +kernel
theorem d_m_layerAt_57 : decode c_m_layerAt 57 = .ok (.iload_n 1, 1) := by decide +kernel
theorem d_m_layerAt_58 : decode c_m_layerAt 58 = .ok (.iadd, 1) := by decide +kernel
theorem d_m_layerAt_59 : decode c_m_layerAt 59 = .ok (.goto 5, 3) := by decide +kernel
theorem d_m_layerAt_62 : decode c_m_layerAt 62 = .ok (.iload 4, 2) := by decide +kernel
theorem d_m_layerAt_64 : decode c_m_layerAt 64 = .ok (.ireturn, 1) := by decide +kernel
theorem d_m_raise_0 : decode c_m_raise 0 = .ok (.aload_n 0, 1) := by decide +kernel
theorem d_m_raise_1 : decode c_m_raise 1 = .ok (.iload_n 1, 1) := by decide +kernel
theorem d_m_raise_2 : decode c_m_raise 2 = .ok (.iload_n 2, 1) := by decide +kernel
theorem d_m_raise_3 : decode c_m_raise 3 = .ok (.iconst 1, 1) := by decide +kernel
theorem d_m_raise_4 : decode c_m_raise 4 = .ok (.invokevirtual 185, 3) := by decide +kernel
theorem d_m_raise_7 : decode c_m_raise 7 = .ok (.ifCond .ne 5, 3) := by decide +kernel
theorem d_m_raise_10 : decode c_m_raise 10 = .ok (.iconst 0, 1) := by decide +kernel
theorem d_m_raise_11 : decode c_m_raise 11 = .ok (.ireturn, 1) := by decide +kernel
theorem d_m_raise_12 : decode c_m_raise 12 = .ok (.aload_n 0, 1) := by decide +kernel
theorem d_m_raise_13 : decode c_m_raise 13 = .ok (.getfield 54, 3) := by decide +kernel
theorem d_m_raise_16 : decode c_m_raise 16 = .ok (.iload_n 1, 1) := by decide +kernel
theorem d_m_raise_17 : decode c_m_raise 17 = .ok (.dup2, 1) := by decide +kernel
theorem d_m_raise_18 : decode c_m_raise 18 = .ok (.iaload, 1) := by decide +kernel
theorem d_m_raise_19 : decode c_m_raise 19 = .ok (.iconst 1, 1) := by decide +kernel
theorem d_m_raise_20 : decode c_m_raise 20 = .ok (.iload_n 2, 1) := by decide +kernel
theorem d_m_raise_21 : decode c_m_raise 21 = .ok (.ishl, 1) := by decide +kernel
theorem d_m_raise_22 : decode c_m_raise 22 = .ok (.ior, 1) := by decide +kernel
theorem d_m_raise_23 : decode c_m_raise 23 = .ok (.iastore, 1) := by decide +kernel
theorem d_m_raise_24 : decode c_m_raise 24 = .ok (.aload_n 0, 1) := by decide +kernel
theorem d_m_raise_25 : decode c_m_raise 25 = .ok (.getfield 54, 3) := by decide +kernel
theorem d_m_raise_28 : decode c_m_raise 28 = .ok (.iload_n 1, 1) := by decide +kernel
theorem d_m_raise_29 : decode c_m_raise 29 = .ok (.iaload, 1) := by decide +kernel
theorem d_m_raise_30 : decode c_m_raise 30 = .ok (.ireturn, 1) := by decide +kernel
theorem d_m_isCapability_0 : decode c_m_isCapability 0 = .ok (.aload_n 0, 1) := by decide +kernel
theorem d_m_isCapability_1 : decode c_m_isCapability 1 = .ok (.iload_n 1, 1) := by decide +kernel
theorem d_m_isCapability_2 : decode c_m_isCapability 2 = .ok (.invokevirtual 123, 3) := by decide +kernel
theorem d_m_isCapability_5 : decode c_m_isCapability 5 = .ok (.ifCond .eq 15, 3) := by decide +kernel
theorem d_m_isCapability_8 : decode c_m_isCapability 8 = .ok (.iload_n 2, 1) := by decide +kernel
theorem d_m_isCapability_9 : decode c_m_isCapability 9 = .ok (.iconst 4, 1) := by decide +kernel
theorem d_m_isCapability_10 : decode c_m_isCapability 10 = .ok (.invokestatic 90, 3) := by decide +kernel
theorem d_m_isCapability_13 : decode c_m_isCapability 13 = .ok (.ifCond .eq 7, 3) := by decide +kernel
theorem d_m_isCapability_16 : decode c_m_isCapability 16 = .ok (.iconst 1, 1) := by decide +kernel
theorem d_m_isCapability_17 : decode c_m_isCapability 17 = .ok (.goto 4, 3) := by decide +kernel
theorem d_m_isCapability_20 : decode c_m_isCapability 20 = .ok (.iconst 0, 1) := by decide +kernel
theorem d_m_isCapability_21 : decode c_m_isCapability 21 = .ok (.istore 4, 2) := by decide +kernel
theorem d_m_isCapability_23 : decode c_m_isCapability 23 = .ok (.aload_n 0, 1) := by decide +kernel
theorem d_m_isCapability_24 : decode c_m_isCapability 24 = .ok (.iload 4, 2) := by decide +kernel
theorem d_m_isCapability_26 : decode c_m_isCapability 26 = .ok (.ifCond .ne 7, 3) := by decide +kernel
theorem d_m_isCapability_29 : decode c_m_isCapability 29 = .ok (.iconst 1, 1) := by decide +kernel
theorem d_m_isCapability_30 : decode c_m_isCapability 30 = .ok (.goto 34, 3) := by decide +kernel
theorem d_m_isCapability_33 : decode c_m_isCapability 33 = .ok (.aload_n 0, 1) := by decide +kernel
theorem d_m_isCapability_34 : decode c_m_isCapability 34 = .ok (.getfield 60, 3) := by decide +kernel
theorem d_m_isCapability_37 : decode c_m_isCapability 37 = .ok (.iload_n 1, 1) := by decide +kernel
theorem d_m_isCapability_38 : decode c_m_isCapability 38 = .ok (.iaload, 1) := by decide +kernel
theorem d_m_isCapability_39 : decode c_m_isCapability 39 = .ok (.ifCond .ne 20, 3) := by decide +kernel
theorem d_m_isCapability_42 : decode c_m_isCapability 42 = .ok (.iload_n 3, 1) := by decide +kernel
theorem d_m_isCapability_43 : decode c_m_isCapability 43 = .ok (.ifCond .eq 20, 3) := by decide +kernel
theorem d_m_isCapability_46 : decode c_m_isCapability 46 = .ok (.aload_n 0, 1) := by decide +kernel
theorem d_m_isCapability_47 : decode c_m_isCapability 47 = .ok (.getfield 51, 3) := by decide +kernel
theorem d_m_isCapability_50 : decode c_m_isCapability 50 = .ok (.iload_n 1, 1) := by decide +kernel
theorem d_m_isCapability_51 : decode c_m_isCapability 51 = .ok (.iaload, 1) := by decide +kernel
theorem d_m_isCapability_52 : decode c_m_isCapability 52 = .ok (.iload_n 2, 1) := by decide +kernel
theorem d_m_isCapability_53 : decode c_m_isCapability 53 = .ok (.ishr, 1) := by decide +kernel
theorem d_m_isCapability_54 : decode c_m_isCapability 54 = .ok (.iconst 1, 1) := by decide +kernel
theorem d_m_isCapability_55 : decode c_m_isCapability 55 = .ok (.iand, 1) := by decide +kernel
theorem d_m_isCapability_56 : decode c_m_isCapability 56 = .ok (.ifCond .ne 7, 3) := by decide +kernel
theorem d_m_isCapability_59 : decode c_m_isCapability 59 = .ok (.iconst 2, 1) := by decide +kernel
theorem d_m_isCapability_60 : decode c_m_isCapability 60 = .ok (.goto 4, 3) := by decide +kernel
theorem d_m_isCapability_63 : decode c_m_isCapability 63 = .ok (.iconst 0, 1) := by decide +kernel
theorem d_m_isCapability_64 : decode c_m_isCapability 64 = .ok (.invokevirtual 109, 3) := by decide +kernel
theorem d_m_isCapability_67 : decode c_m_isCapability 67 = .ok (.ireturn, 1) := by decide +kernel
theorem d_m_lower_0 : decode c_m_lower 0 = .ok (.aload_n 0, 1) := by decide +kernel
theorem d_m_lower_1 : decode c_m_lower 1 = .ok (.iload_n 1, 1) := by decide +kernel
theorem d_m_lower_2 : decode c_m_lower 2 = .ok (.iload_n 2, 1) := by decide +kernel
theorem d_m_lower_3 : decode c_m_lower 3 = .ok (.iconst 0, 1) := by decide +kernel
theorem d_m_lower_4 : decode c_m_lower 4 = .ok (.invokevirtual 185, 3) := by decide +kernel
theorem d_m_lower_7 : decode c_m_lower 7 = .ok (.ifCond .ne 5, 3) := by decide +kernel
theorem d_m_lower_10 : decode c_m_lower 10 = .ok (.iconst 0, 1) := by decide +kernel
theorem d_m_lower_11 : decode c_m_lower 11 = .ok (.ireturn, 1) := by decide +kernel
theorem d_m_lower_12 : decode c_m_lower 12 = .ok (.aload_n 0, 1) := by decide +kernel
theorem d_m_lower_13 : decode c_m_lower 13 = .ok (.getfield 54, 3) := by decide +kernel
theorem d_m_lower_16 : decode c_m_lower 16 = .ok (.iload_n 1, 1) := by decide +kernel
theorem d_m_lower_17 : decode c_m_lower 17 = .ok (.dup2, 1) := by decide +kernel
theorem d_m_lower_18 : decode c_m_lower 18 = .ok (.iaload, 1) := by decide +kernel
theorem d_m_lower_19 : decode c_m_lower 19 = .ok (.iconst 1, 1) := by decide +kernel
theorem d_m_lower_20 : decode c_m_lower 20 = .ok (.iload_n 2, 1) := by decide +kernel
theorem d_m_lower_21 : decode c_m_lower 21 = .ok (.ishl, 1) := by decide +kernel
theorem d_m_lower_22 : decode c_m_lower 22 = .ok (.iconst (-1), 1) := by decide +kernel
theorem d_m_lower_23 : decode c_m_lower 23 = .ok (.ixor, 1) := by decide +kernel
theorem d_m_lower_24 : decode c_m_lower 24 = .ok (.iand, 1) := by decide +kernel
theorem d_m_lower_25 : decode c_m_lower 25 = .ok (.iastore, 1) := by decide +kernel
theorem d_m_lower_26 : decode c_m_lower 26 = .ok (.aload_n 0, 1) := by decide +kernel
theorem d_m_lower_27 : decode c_m_lower 27 = .ok (.getfield 54, 3) := by decide +kernel
theorem d_m_lower_30 : decode c_m_lower 30 = .ok (.iload_n 1, 1) := by decide +kernel
theorem d_m_lower_31 : decode c_m_lower 31 = .ok (.iaload, 1) := by decide +kernel
theorem d_m_lower_32 : decode c_m_lower 32 = .ok (.ireturn, 1) := by decide +kernel
theorem d_m_drop_0 : decode c_m_drop 0 = .ok (.aload_n 0, 1) := by decide +kernel
theorem d_m_drop_1 : decode c_m_drop 1 = .ok (.iload_n 1, 1) := by decide +kernel
theorem d_m_drop_2 : decode c_m_drop 2 = .ok (.iload_n 2, 1) := by decide +kernel
theorem d_m_drop_3 : decode c_m_drop 3 = .ok (.iconst 0, 1) := by decide +kernel
theorem d_m_drop_4 : decode c_m_drop 4 = .ok (.invokevirtual 185, 3) := by decide +kernel
theorem d_m_drop_7 : decode c_m_drop 7 = .ok (.ifCond .ne 5, 3) := by decide +kernel
theorem d_m_drop_10 : decode c_m_drop 10 = .ok (.iconst 0, 1) := by decide +kernel
theorem d_m_drop_11 : decode c_m_drop 11 = .ok (.ireturn, 1) := by decide +kernel
theorem d_m_drop_12 : decode c_m_drop 12 = .ok (.aload_n 0, 1) := by decide +kernel
theorem d_m_drop_13 : decode c_m_drop 13 = .ok (.getfield 54, 3) := by decide +kernel
theorem d_m_drop_16 : decode c_m_drop 16 = .ok (.iload_n 1, 1) := by decide +kernel
theorem d_m_drop_17 : decode c_m_drop 17 = .ok (.dup2, 1) := by decide +kernel
theorem d_m_drop_18 : decode c_m_drop 18 = .ok (.iaload, 1) := by decide +kernel
theorem d_m_drop_19 : decode c_m_drop 19 = .ok (.iconst 1, 1) := by decide +kernel
theorem d_m_drop_20 : decode c_m_drop 20 = .ok (.iload_n 2, 1) := by decide +kernel
theorem d_m_drop_21 : decode c_m_drop 21 = .ok (.ishl, 1) := by decide +kernel
theorem d_m_drop_22 : decode c_m_drop 22 = .ok (.iconst (-1), 1) := by decide +kernel
theorem d_m_drop_23 : decode c_m_drop 23 = .ok (.ixor, 1) := by decide +kernel
theorem d_m_drop_24 : decode c_m_drop 24 = .ok (.iand, 1) := by decide +kernel
theorem d_m_drop_25 : decode c_m_drop 25 = .ok (.iastore, 1) := by decide +kernel
theorem d_m_drop_26 : decode c_m_drop 26 = .ok (.aload_n 0, 1) := by decide +kernel
theorem d_m_drop_27 : decode c_m_drop 27 = .ok (.getfield 51, 3) := by decide +kernel
theorem d_m_drop_30 : decode c_m_drop 30 = .ok (.iload_n 1, 1) := by decide +kernel
theorem d_m_drop_31 : decode c_m_drop 31 = .ok (.dup2, 1) := by decide +kernel
theorem d_m_drop_32 : decode c_m_drop 32 = .ok (.iaload, 1) := by decide +kernel
theorem d_m_drop_33 : decode c_m_drop 33 = .ok (.iconst 1, 1) := by decide +kernel
theorem d_m_drop_34 : decode c_m_drop 34 = .ok (.iload_n 2, 1) := by decide +kernel
theorem d_m_drop_35 : decode c_m_drop 35 = .ok (.ishl, 1) := by decide +kernel
theorem d_m_drop_36 : decode c_m_drop 36 = .ok (.iconst (-1), 1) := by decide +kernel
theorem d_m_drop_37 : decode c_m_drop 37 = .ok (.ixor, 1) := by decide +kernel
theorem d_m_drop_38 : decode c_m_drop 38 = .ok (.iand, 1) := by decide +kernel
theorem d_m_drop_39 : decode c_m_drop 39 = .ok (.iastore, 1) := by decide +kernel
theorem d_m_drop_40 : decode c_m_drop 40 = .ok (.aload_n 0, 1) := by decide +kernel
theorem d_m_drop_41 : decode c_m_drop 41 = .ok (.getfield 51, 3) := by decide +kernel
theorem d_m_drop_44 : decode c_m_drop 44 = .ok (.iload_n 1, 1) := by decide +kernel
theorem d_m_drop_45 : decode c_m_drop 45 = .ok (.iaload, 1) := by decide +kernel
theorem d_m_drop_46 : decode c_m_drop 46 = .ok (.ireturn, 1) := by decide +kernel
theorem d_m_kill_0 : decode c_m_kill 0 = .ok (.aload_n 0, 1) := by decide +kernel
theorem d_m_kill_1 : decode c_m_kill 1 = .ok (.iload_n 1, 1) := by decide +kernel
theorem d_m_kill_2 : decode c_m_kill 2 = .ok (.invokevirtual 123, 3) := by decide +kernel
theorem d_m_kill_5 : decode c_m_kill 5 = .ok (.ifCond .eq 15, 3) := by decide +kernel
theorem d_m_kill_8 : decode c_m_kill 8 = .ok (.aload_n 0, 1) := by decide +kernel
theorem d_m_kill_9 : decode c_m_kill 9 = .ok (.iload_n 2, 1) := by decide +kernel
theorem d_m_kill_10 : decode c_m_kill 10 = .ok (.invokevirtual 123, 3) := by decide +kernel
theorem d_m_kill_13 : decode c_m_kill 13 = .ok (.ifCond .eq 7, 3) := by decide +kernel
theorem d_m_kill_16 : decode c_m_kill 16 = .ok (.iconst 1, 1) := by decide +kernel
theorem d_m_kill_17 : decode c_m_kill 17 = .ok (.goto 4, 3) := by decide +kernel
theorem d_m_kill_20 : decode c_m_kill 20 = .ok (.iconst 0, 1) := by decide +kernel
theorem d_m_kill_21 : decode c_m_kill 21 = .ok (.istore_n 3, 1) := by decide +kernel
theorem d_m_kill_22 : decode c_m_kill 22 = .ok (.iload_n 3, 1) := by decide +kernel
theorem d_m_kill_23 : decode c_m_kill 23 = .ok (.ifCond .eq 59, 3) := by decide +kernel
theorem d_m_kill_26 : decode c_m_kill 26 = .ok (.aload_n 0, 1) := by decide +kernel
theorem d_m_kill_27 : decode c_m_kill 27 = .ok (.getfield 60, 3) := by decide +kernel
theorem d_m_kill_30 : decode c_m_kill 30 = .ok (.iload_n 1, 1) := by decide +kernel
theorem d_m_kill_31 : decode c_m_kill 31 = .ok (.iaload, 1) := by decide +kernel
theorem d_m_kill_32 : decode c_m_kill 32 = .ok (.ifCond .ne 50, 3) := by decide +kernel
theorem d_m_kill_35 : decode c_m_kill 35 = .ok (.aload_n 0, 1) := by decide +kernel
theorem d_m_kill_36 : decode c_m_kill 36 = .ok (.iload_n 1, 1) := by decide +kernel
theorem d_m_kill_37 : decode c_m_kill 37 = .ok (.iconst 3, 1) := by decide +kernel
theorem d_m_kill_38 : decode c_m_kill 38 = .ok (.invokevirtual 173, 3) := by decide +kernel
theorem d_m_kill_41 : decode c_m_kill 41 = .ok (.ifCond .eq 41, 3) := by decide +kernel
theorem d_m_kill_44 : decode c_m_kill 44 = .ok (.iload_n 2, 1) := by decide +kernel
theorem d_m_kill_45 : decode c_m_kill 45 = .ok (.iload_n 1, 1) := by decide +kernel
theorem d_m_kill_46 : decode c_m_kill 46 = .ok (.if_icmp .eq 36, 3) := by decide +kernel
theorem d_m_kill_49 : decode c_m_kill 49 = .ok (.aload_n 0, 1) := by decide +kernel
theorem d_m_kill_50 : decode c_m_kill 50 = .ok (.getfield 60, 3) := by decide +kernel
theorem d_m_kill_53 : decode c_m_kill 53 = .ok (.iload_n 2, 1) := by decide +kernel
theorem d_m_kill_54 : decode c_m_kill 54 = .ok (.iaload, 1) := by decide +kernel
theorem d_m_kill_55 : decode c_m_kill 55 = .ok (.iconst 2, 1) := by decide +kernel
theorem d_m_kill_56 : decode c_m_kill 56 = .ok (.if_icmp .eq 26, 3) := by decide +kernel
theorem d_m_kill_59 : decode c_m_kill 59 = .ok (.aload_n 0, 1) := by decide +kernel
theorem d_m_kill_60 : decode c_m_kill 60 = .ok (.aload_n 0, 1) := by decide +kernel
theorem d_m_kill_61 : decode c_m_kill 61 = .ok (.getfield 63, 3) := by decide +kernel
theorem d_m_kill_64 : decode c_m_kill 64 = .ok (.iload_n 2, 1) := by decide +kernel
theorem d_m_kill_65 : decode c_m_kill 65 = .ok (.iaload, 1) := by decide +kernel
theorem d_m_kill_66 : decode c_m_kill 66 = .ok (.aload_n 0, 1) := by decide +kernel
theorem d_m_kill_67 : decode c_m_kill 67 = .ok (.getfield 63, 3) := by decide +kernel
theorem d_m_kill_70 : decode c_m_kill 70 = .ok (.iload_n 1, 1) := by decide +kernel
theorem d_m_kill_71 : decode c_m_kill 71 = .ok (.iaload, 1) := by decide +kernel
theorem d_m_kill_72 : decode c_m_kill 72 = .ok (.invokevirtual 130, 3) := by decide +kernel
theorem d_m_kill_75 : decode c_m_kill 75 = .ok (.ifCond .eq 7, 3) := by decide +kernel
theorem d_m_kill_78 : decode c_m_kill 78 = .ok (.iconst 1, 1) := by decide +kernel
theorem d_m_kill_79 : decode c_m_kill 79 = .ok (.goto 4, 3) := by decide +kernel
theorem d_m_kill_82 : decode c_m_kill 82 = .ok (.iconst 0, 1) := by decide +kernel
theorem d_m_kill_83 : decode c_m_kill 83 = .ok (.istore 4, 2) := by decide +kernel
theorem d_m_kill_85 : decode c_m_kill 85 = .ok (.aload_n 0, 1) := by decide +kernel
theorem d_m_kill_86 : decode c_m_kill 86 = .ok (.iload_n 3, 1) := by decide +kernel
theorem d_m_kill_87 : decode c_m_kill 87 = .ok (.ifCond .ne 7, 3) := by decide +kernel
theorem d_m_kill_90 : decode c_m_kill 90 = .ok (.iconst 1, 1) := by decide +kernel
theorem d_m_kill_91 : decode c_m_kill 91 = .ok (.goto 13, 3) := by decide +kernel
theorem d_m_kill_94 : decode c_m_kill 94 = .ok (.iload 4, 2) := by decide +kernel
theorem d_m_kill_96 : decode c_m_kill 96 = .ok (.ifCond .eq 7, 3) := by decide +kernel
theorem d_m_kill_99 : decode c_m_kill 99 = .ok (.iconst 0, 1) := by decide +kernel
theorem d_m_kill_100 : decode c_m_kill 100 = .ok (.goto 4, 3) := by decide +kernel
theorem d_m_kill_103 : decode c_m_kill 103 = .ok (.iconst 2, 1) := by decide +kernel
theorem d_m_kill_104 : decode c_m_kill 104 = .ok (.invokevirtual 109, 3) := by decide +kernel
theorem d_m_kill_107 : decode c_m_kill 107 = .ok (.ifCond .eq 11, 3) := by decide +kernel
theorem d_m_kill_110 : decode c_m_kill 110 = .ok (.aload_n 0, 1) := by decide +kernel
theorem d_m_kill_111 : decode c_m_kill 111 = .ok (.iload_n 2, 1) := by decide +kernel
theorem d_m_kill_112 : decode c_m_kill 112 = .ok (.invokevirtual 152, 3) := by decide +kernel
theorem d_m_kill_115 : decode c_m_kill 115 = .ok (.goto 4, 3) := by decide +kernel
theorem d_m_kill_118 : decode c_m_kill 118 = .ok (.iconst 0, 1) := by decide +kernel
theorem d_m_kill_119 : decode c_m_kill 119 = .ok (.ireturn, 1) := by decide +kernel
theorem d_m_attach_0 : decode c_m_attach 0 = .ok (.aload_n 0, 1) := by decide +kernel
theorem d_m_attach_1 : decode c_m_attach 1 = .ok (.iload_n 1, 1) := by decide +kernel
theorem d_m_attach_2 : decode c_m_attach 2 = .ok (.invokevirtual 123, 3) := by decide +kernel
theorem d_m_attach_5 : decode c_m_attach 5 = .ok (.ifCond .eq 15, 3) := by decide +kernel
theorem d_m_attach_8 : decode c_m_attach 8 = .ok (.iload_n 2, 1) := by decide +kernel
theorem d_m_attach_9 : decode c_m_attach 9 = .ok (.iconst 4, 1) := by decide +kernel
theorem d_m_attach_10 : decode c_m_attach 10 = .ok (.invokestatic 90, 3) := by decide +kernel
theorem d_m_attach_13 : decode c_m_attach 13 = .ok (.ifCond .eq 7, 3) := by decide +kernel
theorem d_m_attach_16 : decode c_m_attach 16 = .ok (.iconst 1, 1) := by decide +kernel
theorem d_m_attach_17 : decode c_m_attach 17 = .ok (.goto 4, 3) := by decide +kernel
theorem d_m_attach_20 : decode c_m_attach 20 = .ok (.iconst 0, 1) := by decide +kernel
theorem d_m_attach_21 : decode c_m_attach 21 = .ok (.istore_n 3, 1) := by decide +kernel
theorem d_m_attach_22 : decode c_m_attach 22 = .ok (.iload_n 3, 1) := by decide +kernel
theorem d_m_attach_23 : decode c_m_attach 23 = .ok (.ifCond .eq 45, 3) := by decide +kernel
theorem d_m_attach_26 : decode c_m_attach 26 = .ok (.aload_n 0, 1) := by decide +kernel
theorem d_m_attach_27 : decode c_m_attach 27 = .ok (.getfield 60, 3) := by decide +kernel
theorem d_m_attach_30 : decode c_m_attach 30 = .ok (.iload_n 1, 1) := by decide +kernel
theorem d_m_attach_31 : decode c_m_attach 31 = .ok (.iaload, 1) := by decide +kernel
theorem d_m_attach_32 : decode c_m_attach 32 = .ok (.ifCond .ne 36, 3) := by decide +kernel
theorem d_m_attach_35 : decode c_m_attach 35 = .ok (.aload_n 0, 1) := by decide +kernel
theorem d_m_attach_36 : decode c_m_attach 36 = .ok (.iload_n 1, 1) := by decide +kernel
theorem d_m_attach_37 : decode c_m_attach 37 = .ok (.iconst 2, 1) := by decide +kernel
theorem d_m_attach_38 : decode c_m_attach 38 = .ok (.invokevirtual 173, 3) := by decide +kernel
theorem d_m_attach_41 : decode c_m_attach 41 = .ok (.ifCond .eq 27, 3) := by decide +kernel
theorem d_m_attach_44 : decode c_m_attach 44 = .ok (.aload_n 0, 1) := by decide +kernel
theorem d_m_attach_45 : decode c_m_attach 45 = .ok (.getfield 66, 3) := by decide +kernel
theorem d_m_attach_48 : decode c_m_attach 48 = .ok (.iload_n 1, 1) := by decide +kernel
theorem d_m_attach_49 : decode c_m_attach 49 = .ok (.iaload, 1) := by decide +kernel
theorem d_m_attach_50 : decode c_m_attach 50 = .ok (.iconst (-1), 1) := by decide +kernel
theorem d_m_attach_51 : decode c_m_attach 51 = .ok (.if_icmp .ne 17, 3) := by decide +kernel
theorem d_m_attach_54 : decode c_m_attach 54 = .ok (.aload_n 0, 1) := by decide +kernel
theorem d_m_attach_55 : decode c_m_attach 55 = .ok (.iload_n 2, 1) := by decide +kernel
theorem d_m_attach_56 : decode c_m_attach 56 = .ok (.invokevirtual 192, 3) := by decide +kernel
theorem d_m_attach_59 : decode c_m_attach 59 = .ok (.bipush 6, 2) := by decide +kernel
theorem d_m_attach_61 : decode c_m_attach 61 = .ok (.if_icmp .gt 7, 3) := by decide +kernel
theorem d_m_attach_64 : decode c_m_attach 64 = .ok (.iconst 1, 1) := by decide +kernel
theorem d_m_attach_65 : decode c_m_attach 65 = .ok (.goto 4, 3) := by decide +kernel
theorem d_m_attach_68 : decode c_m_attach 68 = .ok (.iconst 0, 1) := by decide +kernel
theorem d_m_attach_69 : decode c_m_attach 69 = .ok (.istore 4, 2) := by decide +kernel
theorem d_m_attach_71 : decode c_m_attach 71 = .ok (.aload_n 0, 1) := by decide +kernel
theorem d_m_attach_72 : decode c_m_attach 72 = .ok (.iload_n 3, 1) := by decide +kernel
theorem d_m_attach_73 : decode c_m_attach 73 = .ok (.ifCond .ne 7, 3) := by decide +kernel
theorem d_m_attach_76 : decode c_m_attach 76 = .ok (.iconst 1, 1) := by decide +kernel
theorem d_m_attach_77 : decode c_m_attach 77 = .ok (.goto 13, 3) := by decide +kernel
theorem d_m_attach_80 : decode c_m_attach 80 = .ok (.iload 4, 2) := by decide +kernel
theorem d_m_attach_82 : decode c_m_attach 82 = .ok (.ifCond .eq 7, 3) := by decide +kernel
theorem d_m_attach_85 : decode c_m_attach 85 = .ok (.iconst 0, 1) := by decide +kernel
theorem d_m_attach_86 : decode c_m_attach 86 = .ok (.goto 4, 3) := by decide +kernel
theorem d_m_attach_89 : decode c_m_attach 89 = .ok (.iconst 2, 1) := by decide +kernel
theorem d_m_attach_90 : decode c_m_attach 90 = .ok (.invokevirtual 109, 3) := by decide +kernel
theorem d_m_attach_93 : decode c_m_attach 93 = .ok (.ifCond .ne 5, 3) := by decide +kernel
theorem d_m_attach_96 : decode c_m_attach 96 = .ok (.iconst 0, 1) := by decide +kernel
theorem d_m_attach_97 : decode c_m_attach 97 = .ok (.ireturn, 1) := by decide +kernel
theorem d_m_attach_98 : decode c_m_attach 98 = .ok (.aload_n 0, 1) := by decide +kernel
theorem d_m_attach_99 : decode c_m_attach 99 = .ok (.iload_n 2, 1) := by decide +kernel
theorem d_m_attach_100 : decode c_m_attach 100 = .ok (.invokevirtual 192, 3) := by decide +kernel
theorem d_m_attach_103 : decode c_m_attach 103 = .ok (.istore 5, 2) := by decide +kernel
theorem d_m_attach_105 : decode c_m_attach 105 = .ok (.aload_n 0, 1) := by decide +kernel
theorem d_m_attach_106 : decode c_m_attach 106 = .ok (.getfield 66, 3) := by decide +kernel
theorem d_m_attach_109 : decode c_m_attach 109 = .ok (.iload_n 1, 1) := by decide +kernel
theorem d_m_attach_110 : decode c_m_attach 110 = .ok (.bipush 10, 2) := by decide +kernel
theorem d_m_attach_112 : decode c_m_attach 112 = .ok (.iload_n 2, 1) := by decide +kernel
theorem d_m_attach_113 : decode c_m_attach 113 = .ok (.imul, 1) := by decide +kernel
theorem d_m_attach_114 : decode c_m_attach 114 = .ok (.iload 5, 2) := by decide +kernel
theorem d_m_attach_116 : decode c_m_attach 116 = .ok (.iadd, 1) := by decide +kernel
theorem d_m_attach_117 : decode c_m_attach 117 = .ok (.iastore, 1) := by decide +kernel
theorem d_m_attach_118 : decode c_m_attach 118 = .ok (.iload 5, 2) := by decide +kernel
theorem d_m_attach_120 : decode c_m_attach 120 = .ok (.ireturn, 1) := by decide +kernel
theorem d_m_freeAddress_0 : decode c_m_freeAddress 0 = .ok (.iconst 1, 1) := by decide +kernel
theorem d_m_freeAddress_1 : decode c_m_freeAddress 1 = .ok (.istore_n 2, 1) := by decide +kernel
theorem d_m_freeAddress_2 : decode c_m_freeAddress 2 = .ok (.iload_n 2, 1) := by decide +kernel
theorem d_m_freeAddress_3 : decode c_m_freeAddress 3 = .ok (.bipush 6, 2) := by decide +kernel
theorem d_m_freeAddress_5 : decode c_m_freeAddress 5 = .ok (.if_icmp .gt 19, 3) := by decide +kernel
theorem d_m_freeAddress_8 : decode c_m_freeAddress 8 = .ok (.aload_n 0, 1) := by decide +kernel
theorem d_m_freeAddress_9 : decode c_m_freeAddress 9 = .ok (.iload_n 1, 1) := by decide +kernel
theorem d_m_freeAddress_10 : decode c_m_freeAddress 10 = .ok (.iload_n 2, 1) := by decide +kernel
theorem d_m_freeAddress_11 : decode c_m_freeAddress 11 = .ok (.invokevirtual 189, 3) := by decide +kernel
theorem d_m_freeAddress_14 : decode c_m_freeAddress 14 = .ok (.iconst (-1), 1) := by decide +kernel
theorem d_m_freeAddress_15 : decode c_m_freeAddress 15 = .ok (.if_icmp .eq 9, 3) := by decide +kernel
theorem d_m_freeAddress_18 : decode c_m_freeAddress 18 = .ok (.iinc 2 1, 3) := by decide +kernel
theorem d_m_freeAddress_21 : decode c_m_freeAddress 21 = .ok (.goto (-19), 3) := by decide +kernel
theorem d_m_freeAddress_24 : decode c_m_freeAddress 24 = .ok (.iload_n 2, 1) := by decide +kernel
theorem d_m_freeAddress_25 : decode c_m_freeAddress 25 = .ok (.ireturn, 1) := by decide +kernel
theorem d_m_atAddress_0 : decode c_m_atAddress 0 = .ok (.iconst (-1), 1) := by decide +kernel
theorem d_m_atAddress_1 : decode c_m_atAddress 1 = .ok (.istore_n 3, 1) := by decide +kernel
theorem d_m_atAddress_2 : decode c_m_atAddress 2 = .ok (.iconst 0, 1) := by decide +kernel
theorem d_m_atAddress_3 : decode c_m_atAddress 3 = .ok (.istore 4, 2) := by decide +kernel
theorem d_m_atAddress_5 : decode c_m_atAddress 5 = .ok (.iload 4, 2) := by decide +kernel
theorem d_m_atAddress_7 : decode c_m_atAddress 7 = .ok (.aload_n 0, 1) := by decide +kernel
theorem d_m_atAddress_8 : decode c_m_atAddress 8 = .ok (.getfield 94, 3) := by decide +kernel
theorem d_m_atAddress_11 : decode c_m_atAddress 11 = .ok (.if_icmp .ge 32, 3) := by decide +kernel
theorem d_m_atAddress_14 : decode c_m_atAddress 14 = .ok (.aload_n 0, 1) := by decide +kernel
theorem d_m_atAddress_15 : decode c_m_atAddress 15 = .ok (.getfield 66, 3) := by decide +kernel
theorem d_m_atAddress_18 : decode c_m_atAddress 18 = .ok (.iload 4, 2) := by decide +kernel
theorem d_m_atAddress_20 : decode c_m_atAddress 20 = .ok (.iaload, 1) := by decide +kernel
theorem d_m_atAddress_21 : decode c_m_atAddress 21 = .ok (.bipush 10, 2) := by decide +kernel
theorem d_m_atAddress_23 : decode c_m_atAddress 23 = .ok (.iload_n 1, 1) := by decide +kernel
theorem d_m_atAddress_24 : decode c_m_atAddress 24 = .ok (.imul, 1) := by decide +kernel
theorem d_m_atAddress_25 : decode c_m_atAddress 25 = .ok (.iload_n 2, 1) := by decide +kernel
theorem d_m_atAddress_26 : decode c_m_atAddress 26 = .ok (.iadd, 1) := by decide +kernel
theorem d_m_atAddress_27 : decode c_m_atAddress 27 = .ok (.if_icmp .ne 8, 3) := by decide +kernel
theorem d_m_atAddress_30 : decode c_m_atAddress 30 = .ok (.iload 4, 2) := by decide +kernel
theorem d_m_atAddress_32 : decode c_m_atAddress 32 = .ok (.goto 4, 3) := by decide +kernel
theorem d_m_atAddress_35 : decode c_m_atAddress 35 = .ok (.iload_n 3, 1) := by decide +kernel
theorem d_m_atAddress_36 : decode c_m_atAddress 36 = .ok (.istore_n 3, 1) := by decide +kernel
theorem d_m_atAddress_37 : decode c_m_atAddress 37 = .ok (.iinc 4 1, 3) := by decide +kernel
theorem d_m_atAddress_40 : decode c_m_atAddress 40 = .ok (.goto (-35), 3) := by decide +kernel
theorem d_m_atAddress_43 : decode c_m_atAddress 43 = .ok (.iload_n 3, 1) := by decide +kernel
theorem d_m_atAddress_44 : decode c_m_atAddress 44 = .ok (.ireturn, 1) := by decide +kernel
theorem d_m_detach_0 : decode c_m_detach 0 = .ok (.aload_n 0, 1) := by decide +kernel
theorem d_m_detach_1 : decode c_m_detach 1 = .ok (.iload_n 1, 1) := by decide +kernel
theorem d_m_detach_2 : decode c_m_detach 2 = .ok (.invokevirtual 123, 3) := by decide +kernel
theorem d_m_detach_5 : decode c_m_detach 5 = .ok (.istore_n 2, 1) := by decide +kernel
theorem d_m_detach_6 : decode c_m_detach 6 = .ok (.aload_n 0, 1) := by decide +kernel
theorem d_m_detach_7 : decode c_m_detach 7 = .ok (.iload_n 2, 1) := by decide +kernel
theorem d_m_detach_8 : decode c_m_detach 8 = .ok (.ifCond .ne 7, 3) := by decide +kernel
theorem d_m_detach_11 : decode c_m_detach 11 = .ok (.iconst 1, 1) := by decide +kernel
theorem d_m_detach_12 : decode c_m_detach 12 = .ok (.goto 27, 3) := by decide +kernel
theorem d_m_detach_15 : decode c_m_detach 15 = .ok (.aload_n 0, 1) := by decide +kernel
theorem d_m_detach_16 : decode c_m_detach 16 = .ok (.getfield 60, 3) := by decide +kernel
theorem d_m_detach_19 : decode c_m_detach 19 = .ok (.iload_n 1, 1) := by decide +kernel
theorem d_m_detach_20 : decode c_m_detach 20 = .ok (.iaload, 1) := by decide +kernel
theorem d_m_detach_21 : decode c_m_detach 21 = .ok (.ifCond .ne 13, 3) := by decide +kernel
theorem d_m_detach_24 : decode c_m_detach 24 = .ok (.aload_n 0, 1) := by decide +kernel
theorem d_m_detach_25 : decode c_m_detach 25 = .ok (.getfield 66, 3) := by decide +kernel
theorem d_m_detach_28 : decode c_m_detach 28 = .ok (.iload_n 1, 1) := by decide +kernel
theorem d_m_detach_29 : decode c_m_detach 29 = .ok (.iaload, 1) := by decide +kernel
theorem d_m_detach_30 : decode c_m_detach 30 = .ok (.iconst (-1), 1) := by decide +kernel
theorem d_m_detach_31 : decode c_m_detach 31 = .ok (.if_icmp .ne 7, 3) := by decide +kernel
theorem d_m_detach_34 : decode c_m_detach 34 = .ok (.iconst 2, 1) := by decide +kernel
theorem d_m_detach_35 : decode c_m_detach 35 = .ok (.goto 4, 3) := by decide +kernel
theorem d_m_detach_38 : decode c_m_detach 38 = .ok (.iconst 0, 1) := by decide +kernel
theorem d_m_detach_39 : decode c_m_detach 39 = .ok (.invokevirtual 109, 3) := by decide +kernel
theorem d_m_detach_42 : decode c_m_detach 42 = .ok (.ifCond .ne 5, 3) := by decide +kernel
theorem d_m_detach_45 : decode c_m_detach 45 = .ok (.iconst 0, 1) := by decide +kernel
theorem d_m_detach_46 : decode c_m_detach 46 = .ok (.ireturn, 1) := by decide +kernel
theorem d_m_detach_47 : decode c_m_detach 47 = .ok (.aload_n 0, 1) := by decide +kernel
theorem d_m_detach_48 : decode c_m_detach 48 = .ok (.getfield 66, 3) := by decide +kernel
theorem d_m_detach_51 : decode c_m_detach 51 = .ok (.iload_n 1, 1) := by decide +kernel
theorem d_m_detach_52 : decode c_m_detach 52 = .ok (.iaload, 1) := by decide +kernel
theorem d_m_detach_53 : decode c_m_detach 53 = .ok (.bipush 10, 2) := by decide +kernel
theorem d_m_detach_55 : decode c_m_detach 55 = .ok (.idiv, 1) := by decide +kernel
theorem d_m_detach_56 : decode c_m_detach 56 = .ok (.istore_n 3, 1) := by decide +kernel
theorem d_m_detach_57 : decode c_m_detach 57 = .ok (.aload_n 0, 1) := by decide +kernel
theorem d_m_detach_58 : decode c_m_detach 58 = .ok (.getfield 66, 3) := by decide +kernel
theorem d_m_detach_61 : decode c_m_detach 61 = .ok (.iload_n 1, 1) := by decide +kernel
theorem d_m_detach_62 : decode c_m_detach 62 = .ok (.iconst (-1), 1) := by decide +kernel
theorem d_m_detach_63 : decode c_m_detach 63 = .ok (.iastore, 1) := by decide +kernel
theorem d_m_detach_64 : decode c_m_detach 64 = .ok (.iload_n 3, 1) := by decide +kernel
theorem d_m_detach_65 : decode c_m_detach 65 = .ok (.ireturn, 1) := by decide +kernel
theorem d_m_listen_0 : decode c_m_listen 0 = .ok (.aload_n 0, 1) := by decide +kernel
theorem d_m_listen_1 : decode c_m_listen 1 = .ok (.iload_n 1, 1) := by decide +kernel
theorem d_m_listen_2 : decode c_m_listen 2 = .ok (.invokevirtual 123, 3) := by decide +kernel
theorem d_m_listen_5 : decode c_m_listen 5 = .ok (.ifCond .eq 16, 3) := by decide +kernel
theorem d_m_listen_8 : decode c_m_listen 8 = .ok (.iload_n 2, 1) := by decide +kernel
theorem d_m_listen_9 : decode c_m_listen 9 = .ok (.bipush 16, 2) := by decide +kernel
theorem d_m_listen_11 : decode c_m_listen 11 = .ok (.invokestatic 90, 3) := by decide +kernel
theorem d_m_listen_14 : decode c_m_listen 14 = .ok (.ifCond .eq 7, 3) := by decide +kernel
theorem d_m_listen_17 : decode c_m_listen 17 = .ok (.iconst 1, 1) := by decide +kernel
theorem d_m_listen_18 : decode c_m_listen 18 = .ok (.goto 4, 3) := by decide +kernel
theorem d_m_listen_21 : decode c_m_listen 21 = .ok (.iconst 0, 1) := by decide +kernel
theorem d_m_listen_22 : decode c_m_listen 22 = .ok (.istore_n 3, 1) := by decide +kernel
theorem d_m_listen_23 : decode c_m_listen 23 = .ok (.iload_n 3, 1) := by decide +kernel
theorem d_m_listen_24 : decode c_m_listen 24 = .ok (.ifCond .eq 39, 3) := by decide +kernel
theorem d_m_listen_27 : decode c_m_listen 27 = .ok (.aload_n 0, 1) := by decide +kernel
theorem d_m_listen_28 : decode c_m_listen 28 = .ok (.getfield 60, 3) := by decide +kernel
theorem d_m_listen_31 : decode c_m_listen 31 = .ok (.iload_n 1, 1) := by decide +kernel
theorem d_m_listen_32 : decode c_m_listen 32 = .ok (.iaload, 1) := by decide +kernel
theorem d_m_listen_33 : decode c_m_listen 33 = .ok (.ifCond .ne 30, 3) := by decide +kernel
theorem d_m_listen_36 : decode c_m_listen 36 = .ok (.aload_n 0, 1) := by decide +kernel
theorem d_m_listen_37 : decode c_m_listen 37 = .ok (.iload_n 1, 1) := by decide +kernel
theorem d_m_listen_38 : decode c_m_listen 38 = .ok (.iload_n 2, 1) := by decide +kernel
theorem d_m_listen_39 : decode c_m_listen 39 = .ok (.invokevirtual 195, 3) := by decide +kernel
theorem d_m_listen_42 : decode c_m_listen 42 = .ok (.ifCond .ne 21, 3) := by decide +kernel
theorem d_m_listen_45 : decode c_m_listen 45 = .ok (.iload_n 2, 1) := by decide +kernel
theorem d_m_listen_46 : decode c_m_listen 46 = .ok (.iconst 4, 1) := by decide +kernel
theorem d_m_listen_47 : decode c_m_listen 47 = .ok (.if_icmp .ge 12, 3) := by decide +kernel
theorem d_m_listen_50 : decode c_m_listen 50 = .ok (.aload_n 0, 1) := by decide +kernel
theorem d_m_listen_51 : decode c_m_listen 51 = .ok (.iload_n 1, 1) := by decide +kernel
theorem d_m_listen_52 : decode c_m_listen 52 = .ok (.iconst 0, 1) := by decide +kernel
theorem d_m_listen_53 : decode c_m_listen 53 = .ok (.invokevirtual 173, 3) := by decide +kernel
theorem d_m_listen_56 : decode c_m_listen 56 = .ok (.ifCond .eq 7, 3) := by decide +kernel
theorem d_m_listen_59 : decode c_m_listen 59 = .ok (.iconst 1, 1) := by decide +kernel
theorem d_m_listen_60 : decode c_m_listen 60 = .ok (.goto 4, 3) := by decide +kernel
theorem d_m_listen_63 : decode c_m_listen 63 = .ok (.iconst 0, 1) := by decide +kernel
theorem d_m_listen_64 : decode c_m_listen 64 = .ok (.istore 4, 2) := by decide +kernel
theorem d_m_listen_66 : decode c_m_listen 66 = .ok (.aload_n 0, 1) := by decide +kernel
theorem d_m_listen_67 : decode c_m_listen 67 = .ok (.iload_n 3, 1) := by decide +kernel
theorem d_m_listen_68 : decode c_m_listen 68 = .ok (.ifCond .ne 7, 3) := by decide +kernel
theorem d_m_listen_71 : decode c_m_listen 71 = .ok (.iconst 1, 1) := by decide +kernel
theorem d_m_listen_72 : decode c_m_listen 72 = .ok (.goto 13, 3) := by decide +kernel
theorem d_m_listen_75 : decode c_m_listen 75 = .ok (.iload 4, 2) := by decide +kernel
theorem d_m_listen_77 : decode c_m_listen 77 = .ok (.ifCond .eq 7, 3) := by decide +kernel
theorem d_m_listen_80 : decode c_m_listen 80 = .ok (.iconst 0, 1) := by decide +kernel
theorem d_m_listen_81 : decode c_m_listen 81 = .ok (.goto 4, 3) := by decide +kernel
theorem d_m_listen_84 : decode c_m_listen 84 = .ok (.iconst 2, 1) := by decide +kernel
theorem d_m_listen_85 : decode c_m_listen 85 = .ok (.invokevirtual 109, 3) := by decide +kernel
theorem d_m_listen_88 : decode c_m_listen 88 = .ok (.ifCond .ne 5, 3) := by decide +kernel
theorem d_m_listen_91 : decode c_m_listen 91 = .ok (.iconst 0, 1) := by decide +kernel
theorem d_m_listen_92 : decode c_m_listen 92 = .ok (.ireturn, 1) := by decide +kernel
theorem d_m_listen_93 : decode c_m_listen 93 = .ok (.aload_n 0, 1) := by decide +kernel
theorem d_m_listen_94 : decode c_m_listen 94 = .ok (.getfield 57, 3) := by decide +kernel
theorem d_m_listen_97 : decode c_m_listen 97 = .ok (.iload_n 1, 1) := by decide +kernel
theorem d_m_listen_98 : decode c_m_listen 98 = .ok (.dup2, 1) := by decide +kernel
theorem d_m_listen_99 : decode c_m_listen 99 = .ok (.iaload, 1) := by decide +kernel
theorem d_m_listen_100 : decode c_m_listen 100 = .ok (.iconst 1, 1) := by decide +kernel
theorem d_m_listen_101 : decode c_m_listen 101 = .ok (.iload_n 2, 1) := by decide +kernel
theorem d_m_listen_102 : decode c_m_listen 102 = .ok (.ishl, 1) := by decide +kernel
theorem d_m_listen_103 : decode c_m_listen 103 = .ok (.ior, 1) := by decide +kernel
theorem d_m_listen_104 : decode c_m_listen 104 = .ok (.iastore, 1) := by decide +kernel
theorem d_m_listen_105 : decode c_m_listen 105 = .ok (.iconst 0, 1) := by decide +kernel
theorem d_m_listen_106 : decode c_m_listen 106 = .ok (.istore 5, 2) := by decide +kernel
theorem d_m_listen_108 : decode c_m_listen 108 = .ok (.iconst 0, 1) := by decide +kernel
theorem d_m_listen_109 : decode c_m_listen 109 = .ok (.istore 6, 2) := by decide +kernel
theorem d_m_listen_111 : decode c_m_listen 111 = .ok (.iload 6, 2) := by decide +kernel
theorem d_m_listen_113 : decode c_m_listen 113 = .ok (.bipush 16, 2) := by decide +kernel
theorem d_m_listen_115 : decode c_m_listen 115 = .ok (.if_icmp .ge 25, 3) := by decide +kernel
theorem d_m_listen_118 : decode c_m_listen 118 = .ok (.iload 5, 2) := by decide +kernel
theorem d_m_listen_120 : decode c_m_listen 120 = .ok (.aload_n 0, 1) := by decide +kernel
theorem d_m_listen_121 : decode c_m_listen 121 = .ok (.getfield 57, 3) := by decide +kernel
theorem d_m_listen_124 : decode c_m_listen 124 = .ok (.iload_n 1, 1) := by decide +kernel
theorem d_m_listen_125 : decode c_m_listen 125 = .ok (.iaload, 1) := by decide +kernel
theorem d_m_listen_126 : decode c_m_listen 126 = .ok (.iload 6, 2) := by decide +kernel
theorem d_m_listen_128 : decode c_m_listen 128 = .ok (.ishr, 1) := by decide +kernel
theorem d_m_listen_129 : decode c_m_listen 129 = .ok (.iconst 1, 1) := by decide +kernel
theorem d_m_listen_130 : decode c_m_listen 130 = .ok (.iand, 1) := by decide +kernel
theorem d_m_listen_131 : decode c_m_listen 131 = .ok (.iadd, 1) := by decide +kernel
theorem d_m_listen_132 : decode c_m_listen 132 = .ok (.istore 5, 2) := by decide +kernel
theorem d_m_listen_134 : decode c_m_listen 134 = .ok (.iinc 6 1, 3) := by decide +kernel
theorem d_m_listen_137 : decode c_m_listen 137 = .ok (.goto (-26), 3) := by decide +kernel
theorem d_m_listen_140 : decode c_m_listen 140 = .ok (.iload 5, 2) := by decide +kernel
theorem d_m_listen_142 : decode c_m_listen 142 = .ok (.ireturn, 1) := by decide +kernel
theorem d_m_isListening_0 : decode c_m_isListening 0 = .ok (.aload_n 0, 1) := by decide +kernel
theorem d_m_isListening_1 : decode c_m_isListening 1 = .ok (.getfield 57, 3) := by decide +kernel
theorem d_m_isListening_4 : decode c_m_isListening 4 = .ok (.iload_n 1, 1) := by decide +kernel
theorem d_m_isListening_5 : decode c_m_isListening 5 = .ok (.iaload, 1) := by decide +kernel
theorem d_m_isListening_6 : decode c_m_isListening 6 = .ok (.iload_n 2, 1) := by decide +kernel
theorem d_m_isListening_7 : decode c_m_isListening 7 = .ok (.ishr, 1) := by decide +kernel
theorem d_m_isListening_8 : decode c_m_isListening 8 = .ok (.iconst 1, 1) := by decide +kernel
theorem d_m_isListening_9 : decode c_m_isListening 9 = .ok (.iand, 1) := by decide +kernel
theorem d_m_isListening_10 : decode c_m_isListening 10 = .ok (.iconst 1, 1) := by decide +kernel
theorem d_m_isListening_11 : decode c_m_isListening 11 = .ok (.if_icmp .ne 7, 3) := by decide +kernel
theorem d_m_isListening_14 : decode c_m_isListening 14 = .ok (.iconst 1, 1) := by decide +kernel
theorem d_m_isListening_15 : decode c_m_isListening 15 = .ok (.goto 4, 3) := by decide +kernel
theorem d_m_isListening_18 : decode c_m_isListening 18 = .ok (.iconst 0, 1) := by decide +kernel
theorem d_m_isListening_19 : decode c_m_isListening 19 = .ok (.ireturn, 1) := by decide +kernel
theorem d_m_publish_0 : decode c_m_publish 0 = .ok (.aload_n 0, 1) := by decide +kernel
theorem d_m_publish_1 : decode c_m_publish 1 = .ok (.iload_n 1, 1) := by decide +kernel
theorem d_m_publish_2 : decode c_m_publish 2 = .ok (.invokevirtual 123, 3) := by decide +kernel
theorem d_m_publish_5 : decode c_m_publish 5 = .ok (.ifCond .eq 25, 3) := by decide +kernel
theorem d_m_publish_8 : decode c_m_publish 8 = .ok (.iload_n 2, 1) := by decide +kernel
theorem d_m_publish_9 : decode c_m_publish 9 = .ok (.bipush 16, 2) := by decide +kernel
theorem d_m_publish_11 : decode c_m_publish 11 = .ok (.invokestatic 90, 3) := by decide +kernel
theorem d_m_publish_14 : decode c_m_publish 14 = .ok (.ifCond .eq 16, 3) := by decide +kernel
theorem d_m_publish_17 : decode c_m_publish 17 = .ok (.iload_n 3, 1) := by decide +kernel
theorem d_m_publish_18 : decode c_m_publish 18 = .ok (.bipush 32, 2) := by decide +kernel
theorem d_m_publish_20 : decode c_m_publish 20 = .ok (.invokestatic 90, 3) := by decide +kernel
theorem d_m_publish_23 : decode c_m_publish 23 = .ok (.ifCond .eq 7, 3) := by decide +kernel
theorem d_m_publish_26 : decode c_m_publish 26 = .ok (.iconst 1, 1) := by decide +kernel
theorem d_m_publish_27 : decode c_m_publish 27 = .ok (.goto 4, 3) := by decide +kernel
theorem d_m_publish_30 : decode c_m_publish 30 = .ok (.iconst 0, 1) := by decide +kernel
theorem d_m_publish_31 : decode c_m_publish 31 = .ok (.istore 4, 2) := by decide +kernel
theorem d_m_publish_33 : decode c_m_publish 33 = .ok (.aload_n 0, 1) := by decide +kernel
theorem d_m_publish_34 : decode c_m_publish 34 = .ok (.iload 4, 2) := by decide +kernel
theorem d_m_publish_36 : decode c_m_publish 36 = .ok (.ifCond .ne 7, 3) := by decide +kernel
theorem d_m_publish_39 : decode c_m_publish 39 = .ok (.iconst 1, 1) := by decide +kernel
theorem d_m_publish_40 : decode c_m_publish 40 = .ok (.goto 27, 3) := by decide +kernel
theorem d_m_publish_43 : decode c_m_publish 43 = .ok (.aload_n 0, 1) := by decide +kernel
theorem d_m_publish_44 : decode c_m_publish 44 = .ok (.iload_n 1, 1) := by decide +kernel
theorem d_m_publish_45 : decode c_m_publish 45 = .ok (.iload_n 2, 1) := by decide +kernel
theorem d_m_publish_46 : decode c_m_publish 46 = .ok (.invokevirtual 195, 3) := by decide +kernel
theorem d_m_publish_49 : decode c_m_publish 49 = .ok (.ifCond .eq 17, 3) := by decide +kernel
theorem d_m_publish_52 : decode c_m_publish 52 = .ok (.aload_n 0, 1) := by decide +kernel
theorem d_m_publish_53 : decode c_m_publish 53 = .ok (.getfield 72, 3) := by decide +kernel
theorem d_m_publish_56 : decode c_m_publish 56 = .ok (.iload_n 3, 1) := by decide +kernel
theorem d_m_publish_57 : decode c_m_publish 57 = .ok (.iaload, 1) := by decide +kernel
theorem d_m_publish_58 : decode c_m_publish 58 = .ok (.iconst (-1), 1) := by decide +kernel
theorem d_m_publish_59 : decode c_m_publish 59 = .ok (.if_icmp .ne 7, 3) := by decide +kernel
theorem d_m_publish_62 : decode c_m_publish 62 = .ok (.iconst 0, 1) := by decide +kernel
theorem d_m_publish_63 : decode c_m_publish 63 = .ok (.goto 4, 3) := by decide +kernel
theorem d_m_publish_66 : decode c_m_publish 66 = .ok (.iconst 2, 1) := by decide +kernel
theorem d_m_publish_67 : decode c_m_publish 67 = .ok (.invokevirtual 109, 3) := by decide +kernel
theorem d_m_publish_70 : decode c_m_publish 70 = .ok (.ifCond .ne 5, 3) := by decide +kernel
theorem d_m_publish_73 : decode c_m_publish 73 = .ok (.iconst 0, 1) := by decide +kernel
theorem d_m_publish_74 : decode c_m_publish 74 = .ok (.ireturn, 1) := by decide +kernel
theorem d_m_publish_75 : decode c_m_publish 75 = .ok (.aload_n 0, 1) := by decide +kernel
theorem d_m_publish_76 : decode c_m_publish 76 = .ok (.getfield 72, 3) := by decide +kernel
theorem d_m_publish_79 : decode c_m_publish 79 = .ok (.iload_n 3, 1) := by decide +kernel
theorem d_m_publish_80 : decode c_m_publish 80 = .ok (.iload_n 1, 1) := by decide +kernel
theorem d_m_publish_81 : decode c_m_publish 81 = .ok (.iastore, 1) := by decide +kernel
theorem d_m_publish_82 : decode c_m_publish 82 = .ok (.aload_n 0, 1) := by decide +kernel
theorem d_m_publish_83 : decode c_m_publish 83 = .ok (.getfield 75, 3) := by decide +kernel
theorem d_m_publish_86 : decode c_m_publish 86 = .ok (.iload_n 3, 1) := by decide +kernel
theorem d_m_publish_87 : decode c_m_publish 87 = .ok (.iload_n 2, 1) := by decide +kernel
theorem d_m_publish_88 : decode c_m_publish 88 = .ok (.iastore, 1) := by decide +kernel
theorem d_m_publish_89 : decode c_m_publish 89 = .ok (.iconst 0, 1) := by decide +kernel
theorem d_m_publish_90 : decode c_m_publish 90 = .ok (.istore 5, 2) := by decide +kernel
theorem d_m_publish_92 : decode c_m_publish 92 = .ok (.iconst 0, 1) := by decide +kernel
theorem d_m_publish_93 : decode c_m_publish 93 = .ok (.istore 6, 2) := by decide +kernel
theorem d_m_publish_95 : decode c_m_publish 95 = .ok (.iload 6, 2) := by decide +kernel
theorem d_m_publish_97 : decode c_m_publish 97 = .ok (.bipush 32, 2) := by decide +kernel
theorem d_m_publish_99 : decode c_m_publish 99 = .ok (.if_icmp .ge 30, 3) := by decide +kernel
theorem d_m_publish_102 : decode c_m_publish 102 = .ok (.iload 5, 2) := by decide +kernel
theorem d_m_publish_104 : decode c_m_publish 104 = .ok (.aload_n 0, 1) := by decide +kernel
theorem d_m_publish_105 : decode c_m_publish 105 = .ok (.getfield 72, 3) := by decide +kernel
theorem d_m_publish_108 : decode c_m_publish 108 = .ok (.iload 6, 2) := by decide +kernel
theorem d_m_publish_110 : decode c_m_publish 110 = .ok (.iaload, 1) := by decide +kernel
theorem d_m_publish_111 : decode c_m_publish 111 = .ok (.iconst (-1), 1) := by decide +kernel
theorem d_m_publish_112 : decode c_m_publish 112 = .ok (.if_icmp .ne 7, 3) := by decide +kernel
theorem d_m_publish_115 : decode c_m_publish 115 = .ok (.iconst 0, 1) := by decide +kernel
theorem d_m_publish_116 : decode c_m_publish 116 = .ok (.goto 4, 3) := by decide +kernel
theorem d_m_publish_119 : decode c_m_publish 119 = .ok (.iconst 1, 1) := by decide +kernel
theorem d_m_publish_120 : decode c_m_publish 120 = .ok (.iadd, 1) := by decide +kernel
theorem d_m_publish_121 : decode c_m_publish 121 = .ok (.istore 5, 2) := by decide +kernel
theorem d_m_publish_123 : decode c_m_publish 123 = .ok (.iinc 6 1, 3) := by decide +kernel
theorem d_m_publish_126 : decode c_m_publish 126 = .ok (.goto (-31), 3) := by decide +kernel
theorem d_m_publish_129 : decode c_m_publish 129 = .ok (.iload 5, 2) := by decide +kernel
theorem d_m_publish_131 : decode c_m_publish 131 = .ok (.ireturn, 1) := by decide +kernel
theorem d_m_connect_0 : decode c_m_connect 0 = .ok (.aload_n 0, 1) := by decide +kernel
theorem d_m_connect_1 : decode c_m_connect 1 = .ok (.iload_n 1, 1) := by decide +kernel
theorem d_m_connect_2 : decode c_m_connect 2 = .ok (.invokevirtual 123, 3) := by decide +kernel
theorem d_m_connect_5 : decode c_m_connect 5 = .ok (.ifCond .eq 16, 3) := by decide +kernel
theorem d_m_connect_8 : decode c_m_connect 8 = .ok (.iload_n 3, 1) := by decide +kernel
theorem d_m_connect_9 : decode c_m_connect 9 = .ok (.bipush 16, 2) := by decide +kernel
theorem d_m_connect_11 : decode c_m_connect 11 = .ok (.invokestatic 90, 3) := by decide +kernel
theorem d_m_connect_14 : decode c_m_connect 14 = .ok (.ifCond .eq 7, 3) := by decide +kernel
theorem d_m_connect_17 : decode c_m_connect 17 = .ok (.iconst 1, 1) := by decide +kernel
theorem d_m_connect_18 : decode c_m_connect 18 = .ok (.goto 4, 3) := by decide +kernel
theorem d_m_connect_21 : decode c_m_connect 21 = .ok (.iconst 0, 1) := by decide +kernel
theorem d_m_connect_22 : decode c_m_connect 22 = .ok (.istore 4, 2) := by decide +kernel
theorem d_m_connect_24 : decode c_m_connect 24 = .ok (.aload_n 0, 1) := by decide +kernel
theorem d_m_connect_25 : decode c_m_connect 25 = .ok (.iload 4, 2) := by decide +kernel
theorem d_m_connect_27 : decode c_m_connect 27 = .ok (.ifCond .ne 7, 3) := by decide +kernel
theorem d_m_connect_30 : decode c_m_connect 30 = .ok (.iconst 1, 1) := by decide +kernel
theorem d_m_connect_31 : decode c_m_connect 31 = .ok (.goto 42, 3) := by decide +kernel
theorem d_m_connect_34 : decode c_m_connect 34 = .ok (.iload_n 2, 1) := by decide +kernel
theorem d_m_connect_35 : decode c_m_connect 35 = .ok (.iconst 1, 1) := by decide +kernel
theorem d_m_connect_36 : decode c_m_connect 36 = .ok (.if_icmp .lt 9, 3) := by decide +kernel
theorem d_m_connect_39 : decode c_m_connect 39 = .ok (.iload_n 2, 1) := by decide +kernel
theorem d_m_connect_40 : decode c_m_connect 40 = .ok (.bipush 6, 2) := by decide +kernel
theorem d_m_connect_42 : decode c_m_connect 42 = .ok (.if_icmp .le 7, 3) := by decide +kernel
theorem d_m_connect_45 : decode c_m_connect 45 = .ok (.iconst 2, 1) := by decide +kernel
theorem d_m_connect_46 : decode c_m_connect 46 = .ok (.goto 27, 3) := by decide +kernel
theorem d_m_connect_49 : decode c_m_connect 49 = .ok (.aload_n 0, 1) := by decide +kernel
theorem d_m_connect_50 : decode c_m_connect 50 = .ok (.getfield 60, 3) := by decide +kernel
theorem d_m_connect_53 : decode c_m_connect 53 = .ok (.iload_n 1, 1) := by decide +kernel
theorem d_m_connect_54 : decode c_m_connect 54 = .ok (.iaload, 1) := by decide +kernel
theorem d_m_connect_55 : decode c_m_connect 55 = .ok (.ifCond .ne 13, 3) := by decide +kernel
theorem d_m_connect_58 : decode c_m_connect 58 = .ok (.aload_n 0, 1) := by decide +kernel
theorem d_m_connect_59 : decode c_m_connect 59 = .ok (.getfield 66, 3) := by decide +kernel
theorem d_m_connect_62 : decode c_m_connect 62 = .ok (.iload_n 1, 1) := by decide +kernel
theorem d_m_connect_63 : decode c_m_connect 63 = .ok (.iaload, 1) := by decide +kernel
theorem d_m_connect_64 : decode c_m_connect 64 = .ok (.iconst (-1), 1) := by decide +kernel
theorem d_m_connect_65 : decode c_m_connect 65 = .ok (.if_icmp .ne 7, 3) := by decide +kernel
theorem d_m_connect_68 : decode c_m_connect 68 = .ok (.iconst 3, 1) := by decide +kernel
theorem d_m_connect_69 : decode c_m_connect 69 = .ok (.goto 4, 3) := by decide +kernel
theorem d_m_connect_72 : decode c_m_connect 72 = .ok (.iconst 0, 1) := by decide +kernel
theorem d_m_connect_73 : decode c_m_connect 73 = .ok (.invokevirtual 109, 3) := by decide +kernel
theorem d_m_connect_76 : decode c_m_connect 76 = .ok (.ifCond .ne 5, 3) := by decide +kernel
theorem d_m_connect_79 : decode c_m_connect 79 = .ok (.iconst 0, 1) := by decide +kernel
theorem d_m_connect_80 : decode c_m_connect 80 = .ok (.ireturn, 1) := by decide +kernel
theorem d_m_connect_81 : decode c_m_connect 81 = .ok (.aload_n 0, 1) := by decide +kernel
theorem d_m_connect_82 : decode c_m_connect 82 = .ok (.aload_n 0, 1) := by decide +kernel
theorem d_m_connect_83 : decode c_m_connect 83 = .ok (.getfield 66, 3) := by decide +kernel
theorem d_m_connect_86 : decode c_m_connect 86 = .ok (.iload_n 1, 1) := by decide +kernel
theorem d_m_connect_87 : decode c_m_connect 87 = .ok (.iaload, 1) := by decide +kernel
theorem d_m_connect_88 : decode c_m_connect 88 = .ok (.bipush 10, 2) := by decide +kernel
theorem d_m_connect_90 : decode c_m_connect 90 = .ok (.idiv, 1) := by decide +kernel
theorem d_m_connect_91 : decode c_m_connect 91 = .ok (.iload_n 2, 1) := by decide +kernel
theorem d_m_connect_92 : decode c_m_connect 92 = .ok (.invokevirtual 189, 3) := by decide +kernel
theorem d_m_connect_95 : decode c_m_connect 95 = .ok (.istore 5, 2) := by decide +kernel
theorem d_m_connect_97 : decode c_m_connect 97 = .ok (.iload 5, 2) := by decide +kernel
theorem d_m_connect_99 : decode c_m_connect 99 = .ok (.iconst (-1), 1) := by decide +kernel
theorem d_m_connect_100 : decode c_m_connect 100 = .ok (.if_icmp .eq 28, 3) := by decide +kernel
theorem d_m_connect_103 : decode c_m_connect 103 = .ok (.aload_n 0, 1) := by decide +kernel
theorem d_m_connect_104 : decode c_m_connect 104 = .ok (.getfield 60, 3) := by decide +kernel
theorem d_m_connect_107 : decode c_m_connect 107 = .ok (.iload 5, 2) := by decide +kernel
theorem d_m_connect_109 : decode c_m_connect 109 = .ok (.iaload, 1) := by decide +kernel
theorem d_m_connect_110 : decode c_m_connect 110 = .ok (.ifCond .ne 18, 3) := by decide +kernel
theorem d_m_connect_113 : decode c_m_connect 113 = .ok (.aload_n 0, 1) := by decide +kernel
theorem d_m_connect_114 : decode c_m_connect 114 = .ok (.iload 5, 2) := by decide +kernel
theorem d_m_connect_116 : decode c_m_connect 116 = .ok (.iload_n 3, 1) := by decide +kernel
theorem d_m_connect_117 : decode c_m_connect 117 = .ok (.invokevirtual 195, 3) := by decide +kernel
theorem d_m_connect_120 : decode c_m_connect 120 = .ok (.ifCond .eq 8, 3) := by decide +kernel
theorem d_m_connect_123 : decode c_m_connect 123 = .ok (.iload 5, 2) := by decide +kernel
theorem d_m_connect_125 : decode c_m_connect 125 = .ok (.goto 4, 3) := by decide +kernel
theorem d_m_connect_128 : decode c_m_connect 128 = .ok (.iconst (-1), 1) := by decide +kernel
theorem d_m_connect_129 : decode c_m_connect 129 = .ok (.ireturn, 1) := by decide +kernel
theorem d_m_connectHost_0 : decode c_m_connectHost 0 = .ok (.aload_n 0, 1) := by decide +kernel
theorem d_m_connectHost_1 : decode c_m_connectHost 1 = .ok (.iload_n 1, 1) := by decide +kernel
theorem d_m_connectHost_2 : decode c_m_connectHost 2 = .ok (.bipush 32, 2) := by decide +kernel
theorem d_m_connectHost_4 : decode c_m_connectHost 4 = .ok (.invokestatic 90, 3) := by decide +kernel
theorem d_m_connectHost_7 : decode c_m_connectHost 7 = .ok (.ifCond .eq 7, 3) := by decide +kernel
theorem d_m_connectHost_10 : decode c_m_connectHost 10 = .ok (.iconst 0, 1) := by decide +kernel
theorem d_m_connectHost_11 : decode c_m_connectHost 11 = .ok (.goto 4, 3) := by decide +kernel
theorem d_m_connectHost_14 : decode c_m_connectHost 14 = .ok (.iconst 1, 1) := by decide +kernel
theorem d_m_connectHost_15 : decode c_m_connectHost 15 = .ok (.invokevirtual 109, 3) := by decide +kernel
theorem d_m_connectHost_18 : decode c_m_connectHost 18 = .ok (.ifCond .ne 5, 3) := by decide +kernel
theorem d_m_connectHost_21 : decode c_m_connectHost 21 = .ok (.iconst 0, 1) := by decide +kernel
theorem d_m_connectHost_22 : decode c_m_connectHost 22 = .ok (.ireturn, 1) := by decide +kernel
theorem d_m_connectHost_23 : decode c_m_connectHost 23 = .ok (.aload_n 0, 1) := by decide +kernel
theorem d_m_connectHost_24 : decode c_m_connectHost 24 = .ok (.getfield 72, 3) := by decide +kernel
theorem d_m_connectHost_27 : decode c_m_connectHost 27 = .ok (.iload_n 1, 1) := by decide +kernel
theorem d_m_connectHost_28 : decode c_m_connectHost 28 = .ok (.iaload, 1) := by decide +kernel
theorem d_m_connectHost_29 : decode c_m_connectHost 29 = .ok (.istore_n 2, 1) := by decide +kernel
theorem d_m_connectHost_30 : decode c_m_connectHost 30 = .ok (.iload_n 2, 1) := by decide +kernel
theorem d_m_connectHost_31 : decode c_m_connectHost 31 = .ok (.iconst (-1), 1) := by decide +kernel
theorem d_m_connectHost_32 : decode c_m_connectHost 32 = .ok (.if_icmp .eq 16, 3) := by decide +kernel
theorem d_m_connectHost_35 : decode c_m_connectHost 35 = .ok (.aload_n 0, 1) := by decide +kernel
theorem d_m_connectHost_36 : decode c_m_connectHost 36 = .ok (.getfield 60, 3) := by decide +kernel
theorem d_m_connectHost_39 : decode c_m_connectHost 39 = .ok (.iload_n 2, 1) := by decide +kernel
theorem d_m_connectHost_40 : decode c_m_connectHost 40 = .ok (.iaload, 1) := by decide +kernel
theorem d_m_connectHost_41 : decode c_m_connectHost 41 = .ok (.ifCond .ne 7, 3) := by decide +kernel
theorem d_m_connectHost_44 : decode c_m_connectHost 44 = .ok (.iload_n 2, 1) := by decide +kernel
theorem d_m_connectHost_45 : decode c_m_connectHost 45 = .ok (.goto 4, 3) := by decide +kernel
theorem d_m_connectHost_48 : decode c_m_connectHost 48 = .ok (.iconst (-1), 1) := by decide +kernel
theorem d_m_connectHost_49 : decode c_m_connectHost 49 = .ok (.ireturn, 1) := by decide +kernel
theorem d_m_save_0 : decode c_m_save 0 = .ok (.aload_n 0, 1) := by decide +kernel
theorem d_m_save_1 : decode c_m_save 1 = .ok (.iload_n 1, 1) := by decide +kernel
theorem d_m_save_2 : decode c_m_save 2 = .ok (.invokevirtual 123, 3) := by decide +kernel
theorem d_m_save_5 : decode c_m_save 5 = .ok (.istore_n 2, 1) := by decide +kernel
theorem d_m_save_6 : decode c_m_save 6 = .ok (.aload_n 0, 1) := by decide +kernel
theorem d_m_save_7 : decode c_m_save 7 = .ok (.iload_n 2, 1) := by decide +kernel
theorem d_m_save_8 : decode c_m_save 8 = .ok (.ifCond .ne 7, 3) := by decide +kernel
theorem d_m_save_11 : decode c_m_save 11 = .ok (.iconst 1, 1) := by decide +kernel
theorem d_m_save_12 : decode c_m_save 12 = .ok (.goto 26, 3) := by decide +kernel
theorem d_m_save_15 : decode c_m_save 15 = .ok (.aload_n 0, 1) := by decide +kernel
theorem d_m_save_16 : decode c_m_save 16 = .ok (.getfield 60, 3) := by decide +kernel
theorem d_m_save_19 : decode c_m_save 19 = .ok (.iload_n 1, 1) := by decide +kernel
theorem d_m_save_20 : decode c_m_save 20 = .ok (.iaload, 1) := by decide +kernel
theorem d_m_save_21 : decode c_m_save 21 = .ok (.iconst 1, 1) := by decide +kernel
theorem d_m_save_22 : decode c_m_save 22 = .ok (.if_icmp .ne 11, 3) := by decide +kernel
theorem d_m_save_25 : decode c_m_save 25 = .ok (.aload_n 0, 1) := by decide +kernel
theorem d_m_save_26 : decode c_m_save 26 = .ok (.getfield 198, 3) := by decide +kernel
theorem d_m_save_29 : decode c_m_save 29 = .ok (.iconst 5, 1) := by decide +kernel
theorem d_m_save_30 : decode c_m_save 30 = .ok (.if_icmp .ne 7, 3) := by decide +kernel
theorem d_m_save_33 : decode c_m_save 33 = .ok (.iconst 2, 1) := by decide +kernel
theorem d_m_save_34 : decode c_m_save 34 = .ok (.goto 4, 3) := by decide +kernel
theorem d_m_save_37 : decode c_m_save 37 = .ok (.iconst 0, 1) := by decide +kernel
theorem d_m_save_38 : decode c_m_save 38 = .ok (.invokevirtual 109, 3) := by decide +kernel
theorem d_m_save_41 : decode c_m_save 41 = .ok (.ifCond .ne 5, 3) := by decide +kernel
theorem d_m_save_44 : decode c_m_save 44 = .ok (.iconst 0, 1) := by decide +kernel
theorem d_m_save_45 : decode c_m_save 45 = .ok (.ireturn, 1) := by decide +kernel
theorem d_m_save_46 : decode c_m_save 46 = .ok (.aload_n 0, 1) := by decide +kernel
theorem d_m_save_47 : decode c_m_save 47 = .ok (.bipush 20, 2) := by decide +kernel
theorem d_m_save_49 : decode c_m_save 49 = .ok (.aload_n 0, 1) := by decide +kernel
theorem d_m_save_50 : decode c_m_save 50 = .ok (.getfield 198, 3) := by decide +kernel
theorem d_m_save_53 : decode c_m_save 53 = .ok (.iadd, 1) := by decide +kernel
theorem d_m_save_54 : decode c_m_save 54 = .ok (.iload_n 1, 1) := by decide +kernel
theorem d_m_save_55 : decode c_m_save 55 = .ok (.invokevirtual 201, 3) := by decide +kernel
theorem d_m_save_58 : decode c_m_save 58 = .ok (.aload_n 0, 1) := by decide +kernel
theorem d_m_save_59 : decode c_m_save 59 = .ok (.dup, 1) := by decide +kernel
theorem d_m_save_60 : decode c_m_save 60 = .ok (.getfield 198, 3) := by decide +kernel
theorem d_m_save_63 : decode c_m_save 63 = .ok (.iconst 1, 1) := by decide +kernel
theorem d_m_save_64 : decode c_m_save 64 = .ok (.iadd, 1) := by decide +kernel
theorem d_m_save_65 : decode c_m_save 65 = .ok (.putfield 198, 3) := by decide +kernel
theorem d_m_save_68 : decode c_m_save 68 = .ok (.aload_n 0, 1) := by decide +kernel
theorem d_m_save_69 : decode c_m_save 69 = .ok (.getfield 198, 3) := by decide +kernel
theorem d_m_save_72 : decode c_m_save 72 = .ok (.iconst 1, 1) := by decide +kernel
theorem d_m_save_73 : decode c_m_save 73 = .ok (.isub, 1) := by decide +kernel
theorem d_m_save_74 : decode c_m_save 74 = .ok (.ireturn, 1) := by decide +kernel
theorem d_m_keeps_0 : decode c_m_keeps 0 = .ok (.aload_n 0, 1) := by decide +kernel
theorem d_m_keeps_1 : decode c_m_keeps 1 = .ok (.getfield 39, 3) := by decide +kernel
theorem d_m_keeps_4 : decode c_m_keeps 4 = .ok (.iload_n 1, 1) := by decide +kernel
theorem d_m_keeps_5 : decode c_m_keeps 5 = .ok (.aload_n 0, 1) := by decide +kernel
theorem d_m_keeps_6 : decode c_m_keeps 6 = .ok (.getfield 39, 3) := by decide +kernel
theorem d_m_keeps_9 : decode c_m_keeps 9 = .ok (.iload_n 2, 1) := by decide +kernel
theorem d_m_keeps_10 : decode c_m_keeps 10 = .ok (.iaload, 1) := by decide +kernel
theorem d_m_keeps_11 : decode c_m_keeps 11 = .ok (.iastore, 1) := by decide +kernel
theorem d_m_keeps_12 : decode c_m_keeps 12 = .ok (.aload_n 0, 1) := by decide +kernel
theorem d_m_keeps_13 : decode c_m_keeps 13 = .ok (.getfield 42, 3) := by decide +kernel
theorem d_m_keeps_16 : decode c_m_keeps 16 = .ok (.iload_n 1, 1) := by decide +kernel
theorem d_m_keeps_17 : decode c_m_keeps 17 = .ok (.aload_n 0, 1) := by decide +kernel
theorem d_m_keeps_18 : decode c_m_keeps 18 = .ok (.getfield 42, 3) := by decide +kernel
theorem d_m_keeps_21 : decode c_m_keeps 21 = .ok (.iload_n 2, 1) := by decide +kernel
theorem d_m_keeps_22 : decode c_m_keeps 22 = .ok (.iaload, 1) := by decide +kernel
theorem d_m_keeps_23 : decode c_m_keeps 23 = .ok (.iastore, 1) := by decide +kernel
theorem d_m_keeps_24 : decode c_m_keeps 24 = .ok (.aload_n 0, 1) := by decide +kernel
theorem d_m_keeps_25 : decode c_m_keeps 25 = .ok (.getfield 45, 3) := by decide +kernel
theorem d_m_keeps_28 : decode c_m_keeps 28 = .ok (.iload_n 1, 1) := by decide +kernel
theorem d_m_keeps_29 : decode c_m_keeps 29 = .ok (.aload_n 0, 1) := by decide +kernel
theorem d_m_keeps_30 : decode c_m_keeps 30 = .ok (.getfield 45, 3) := by decide +kernel
theorem d_m_keeps_33 : decode c_m_keeps 33 = .ok (.iload_n 2, 1) := by decide +kernel
theorem d_m_keeps_34 : decode c_m_keeps 34 = .ok (.iaload, 1) := by decide +kernel
theorem d_m_keeps_35 : decode c_m_keeps 35 = .ok (.iastore, 1) := by decide +kernel
theorem d_m_keeps_36 : decode c_m_keeps 36 = .ok (.aload_n 0, 1) := by decide +kernel
theorem d_m_keeps_37 : decode c_m_keeps 37 = .ok (.getfield 48, 3) := by decide +kernel
theorem d_m_keeps_40 : decode c_m_keeps 40 = .ok (.iload_n 1, 1) := by decide +kernel
theorem d_m_keeps_41 : decode c_m_keeps 41 = .ok (.aload_n 0, 1) := by decide +kernel
theorem d_m_keeps_42 : decode c_m_keeps 42 = .ok (.getfield 48, 3) := by decide +kernel
theorem d_m_keeps_45 : decode c_m_keeps 45 = .ok (.iload_n 2, 1) := by decide +kernel
theorem d_m_keeps_46 : decode c_m_keeps 46 = .ok (.iaload, 1) := by decide +kernel
theorem d_m_keeps_47 : decode c_m_keeps 47 = .ok (.iastore, 1) := by decide +kernel
theorem d_m_keeps_48 : decode c_m_keeps 48 = .ok (.aload_n 0, 1) := by decide +kernel
theorem d_m_keeps_49 : decode c_m_keeps 49 = .ok (.getfield 51, 3) := by decide +kernel
theorem d_m_keeps_52 : decode c_m_keeps 52 = .ok (.iload_n 1, 1) := by decide +kernel
theorem d_m_keeps_53 : decode c_m_keeps 53 = .ok (.aload_n 0, 1) := by decide +kernel
theorem d_m_keeps_54 : decode c_m_keeps 54 = .ok (.getfield 51, 3) := by decide +kernel
theorem d_m_keeps_57 : decode c_m_keeps 57 = .ok (.iload_n 2, 1) := by decide +kernel
theorem d_m_keeps_58 : decode c_m_keeps 58 = .ok (.iaload, 1) := by decide +kernel
theorem d_m_keeps_59 : decode c_m_keeps 59 = .ok (.iastore, 1) := by decide +kernel
theorem d_m_keeps_60 : decode c_m_keeps 60 = .ok (.aload_n 0, 1) := by decide +kernel
theorem d_m_keeps_61 : decode c_m_keeps 61 = .ok (.getfield 54, 3) := by decide +kernel
theorem d_m_keeps_64 : decode c_m_keeps 64 = .ok (.iload_n 1, 1) := by decide +kernel
theorem d_m_keeps_65 : decode c_m_keeps 65 = .ok (.aload_n 0, 1) := by decide +kernel
theorem d_m_keeps_66 : decode c_m_keeps 66 = .ok (.getfield 54, 3) := by decide +kernel
theorem d_m_keeps_69 : decode c_m_keeps 69 = .ok (.iload_n 2, 1) := by decide +kernel
theorem d_m_keeps_70 : decode c_m_keeps 70 = .ok (.iaload, 1) := by decide +kernel
theorem d_m_keeps_71 : decode c_m_keeps 71 = .ok (.iastore, 1) := by decide +kernel
theorem d_m_keeps_72 : decode c_m_keeps 72 = .ok (.aload_n 0, 1) := by decide +kernel
theorem d_m_keeps_73 : decode c_m_keeps 73 = .ok (.getfield 57, 3) := by decide +kernel
theorem d_m_keeps_76 : decode c_m_keeps 76 = .ok (.iload_n 1, 1) := by decide +kernel
theorem d_m_keeps_77 : decode c_m_keeps 77 = .ok (.aload_n 0, 1) := by decide +kernel
theorem d_m_keeps_78 : decode c_m_keeps 78 = .ok (.getfield 57, 3) := by decide +kernel
theorem d_m_keeps_81 : decode c_m_keeps 81 = .ok (.iload_n 2, 1) := by decide +kernel
theorem d_m_keeps_82 : decode c_m_keeps 82 = .ok (.iaload, 1) := by decide +kernel
theorem d_m_keeps_83 : decode c_m_keeps 83 = .ok (.iastore, 1) := by decide +kernel
theorem d_m_keeps_84 : decode c_m_keeps 84 = .ok (.aload_n 0, 1) := by decide +kernel
theorem d_m_keeps_85 : decode c_m_keeps 85 = .ok (.bipush 10, 2) := by decide +kernel
theorem d_m_keeps_87 : decode c_m_keeps 87 = .ok (.iload_n 1, 1) := by decide +kernel
theorem d_m_keeps_88 : decode c_m_keeps 88 = .ok (.iadd, 1) := by decide +kernel
theorem d_m_keeps_89 : decode c_m_keeps 89 = .ok (.bipush 10, 2) := by decide +kernel
theorem d_m_keeps_91 : decode c_m_keeps 91 = .ok (.iload_n 2, 1) := by decide +kernel
theorem d_m_keeps_92 : decode c_m_keeps 92 = .ok (.iadd, 1) := by decide +kernel
theorem d_m_keeps_93 : decode c_m_keeps 93 = .ok (.invokevirtual 126, 3) := by decide +kernel
theorem d_m_keeps_96 : decode c_m_keeps 96 = .ok (.return_, 1) := by decide +kernel
theorem d_m_restore_0 : decode c_m_restore 0 = .ok (.iload_n 1, 1) := by decide +kernel
theorem d_m_restore_1 : decode c_m_restore 1 = .ok (.aload_n 0, 1) := by decide +kernel
theorem d_m_restore_2 : decode c_m_restore 2 = .ok (.getfield 198, 3) := by decide +kernel
theorem d_m_restore_5 : decode c_m_restore 5 = .ok (.invokestatic 90, 3) := by decide +kernel
theorem d_m_restore_8 : decode c_m_restore 8 = .ok (.ifCond .eq 15, 3) := by decide +kernel
theorem d_m_restore_11 : decode c_m_restore 11 = .ok (.aload_n 0, 1) := by decide +kernel
theorem d_m_restore_12 : decode c_m_restore 12 = .ok (.iload_n 2, 1) := by decide +kernel
theorem d_m_restore_13 : decode c_m_restore 13 = .ok (.invokevirtual 133, 3) := by decide +kernel
theorem d_m_restore_16 : decode c_m_restore 16 = .ok (.ifCond .eq 7, 3) := by decide +kernel
theorem d_m_restore_19 : decode c_m_restore 19 = .ok (.iconst 1, 1) := by decide +kernel
theorem d_m_restore_20 : decode c_m_restore 20 = .ok (.goto 4, 3) := by decide +kernel
theorem d_m_restore_23 : decode c_m_restore 23 = .ok (.iconst 0, 1) := by decide +kernel
theorem d_m_restore_24 : decode c_m_restore 24 = .ok (.istore_n 3, 1) := by decide +kernel
theorem d_m_restore_25 : decode c_m_restore 25 = .ok (.bipush 20, 2) := by decide +kernel
theorem d_m_restore_27 : decode c_m_restore 27 = .ok (.iload_n 1, 1) := by decide +kernel
theorem d_m_restore_28 : decode c_m_restore 28 = .ok (.iadd, 1) := by decide +kernel
theorem d_m_restore_29 : decode c_m_restore 29 = .ok (.istore 4, 2) := by decide +kernel
theorem d_m_restore_31 : decode c_m_restore 31 = .ok (.aload_n 0, 1) := by decide +kernel
theorem d_m_restore_32 : decode c_m_restore 32 = .ok (.iload_n 3, 1) := by decide +kernel
theorem d_m_restore_33 : decode c_m_restore 33 = .ok (.ifCond .ne 7, 3) := by decide +kernel
theorem d_m_restore_36 : decode c_m_restore 36 = .ok (.iconst 1, 1) := by decide +kernel
theorem d_m_restore_37 : decode c_m_restore 37 = .ok (.goto 40, 3) := by decide +kernel
theorem d_m_restore_40 : decode c_m_restore 40 = .ok (.aload_n 0, 1) := by decide +kernel
theorem d_m_restore_41 : decode c_m_restore 41 = .ok (.getfield 94, 3) := by decide +kernel
theorem d_m_restore_44 : decode c_m_restore 44 = .ok (.bipush 20, 2) := by decide +kernel
theorem d_m_restore_46 : decode c_m_restore 46 = .ok (.if_icmp .eq 26, 3) := by decide +kernel
theorem d_m_restore_49 : decode c_m_restore 49 = .ok (.aload_n 0, 1) := by decide +kernel
theorem d_m_restore_50 : decode c_m_restore 50 = .ok (.iload_n 2, 1) := by decide +kernel
theorem d_m_restore_51 : decode c_m_restore 51 = .ok (.aload_n 0, 1) := by decide +kernel
theorem d_m_restore_52 : decode c_m_restore 52 = .ok (.getfield 45, 3) := by decide +kernel
theorem d_m_restore_55 : decode c_m_restore 55 = .ok (.iload 4, 2) := by decide +kernel
theorem d_m_restore_57 : decode c_m_restore 57 = .ok (.iaload, 1) := by decide +kernel
theorem d_m_restore_58 : decode c_m_restore 58 = .ok (.aload_n 0, 1) := by decide +kernel
theorem d_m_restore_59 : decode c_m_restore 59 = .ok (.getfield 48, 3) := by decide +kernel
theorem d_m_restore_62 : decode c_m_restore 62 = .ok (.iload 4, 2) := by decide +kernel
theorem d_m_restore_64 : decode c_m_restore 64 = .ok (.iaload, 1) := by decide +kernel
theorem d_m_restore_65 : decode c_m_restore 65 = .ok (.invokevirtual 142, 3) := by decide +kernel
theorem d_m_restore_68 : decode c_m_restore 68 = .ok (.iconst (-1), 1) := by decide +kernel
theorem d_m_restore_69 : decode c_m_restore 69 = .ok (.if_icmp .eq 7, 3) := by decide +kernel
theorem d_m_restore_72 : decode c_m_restore 72 = .ok (.iconst 2, 1) := by decide +kernel
theorem d_m_restore_73 : decode c_m_restore 73 = .ok (.goto 4, 3) := by decide +kernel
theorem d_m_restore_76 : decode c_m_restore 76 = .ok (.iconst 0, 1) := by decide +kernel
theorem d_m_restore_77 : decode c_m_restore 77 = .ok (.invokevirtual 109, 3) := by decide +kernel
theorem d_m_restore_80 : decode c_m_restore 80 = .ok (.ifCond .ne 5, 3) := by decide +kernel
theorem d_m_restore_83 : decode c_m_restore 83 = .ok (.iconst 0, 1) := by decide +kernel
theorem d_m_restore_84 : decode c_m_restore 84 = .ok (.ireturn, 1) := by decide +kernel
theorem d_m_restore_85 : decode c_m_restore 85 = .ok (.aload_n 0, 1) := by decide +kernel
theorem d_m_restore_86 : decode c_m_restore 86 = .ok (.iconst 0, 1) := by decide +kernel
theorem d_m_restore_87 : decode c_m_restore 87 = .ok (.iload_n 2, 1) := by decide +kernel
theorem d_m_restore_88 : decode c_m_restore 88 = .ok (.iconst 0, 1) := by decide +kernel
theorem d_m_restore_89 : decode c_m_restore 89 = .ok (.iconst 1, 1) := by decide +kernel
theorem d_m_restore_90 : decode c_m_restore 90 = .ok (.invokevirtual 145, 3) := by decide +kernel
theorem d_m_restore_93 : decode c_m_restore 93 = .ok (.aload_n 0, 1) := by decide +kernel
theorem d_m_restore_94 : decode c_m_restore 94 = .ok (.aload_n 0, 1) := by decide +kernel
theorem d_m_restore_95 : decode c_m_restore 95 = .ok (.getfield 94, 3) := by decide +kernel
theorem d_m_restore_98 : decode c_m_restore 98 = .ok (.iconst 1, 1) := by decide +kernel
theorem d_m_restore_99 : decode c_m_restore 99 = .ok (.isub, 1) := by decide +kernel
theorem d_m_restore_100 : decode c_m_restore 100 = .ok (.iload 4, 2) := by decide +kernel
theorem d_m_restore_102 : decode c_m_restore 102 = .ok (.invokevirtual 201, 3) := by decide +kernel
theorem d_m_restore_105 : decode c_m_restore 105 = .ok (.aload_n 0, 1) := by decide +kernel
theorem d_m_restore_106 : decode c_m_restore 106 = .ok (.getfield 94, 3) := by decide +kernel
theorem d_m_restore_109 : decode c_m_restore 109 = .ok (.iconst 1, 1) := by decide +kernel
theorem d_m_restore_110 : decode c_m_restore 110 = .ok (.isub, 1) := by decide +kernel
theorem d_m_restore_111 : decode c_m_restore 111 = .ok (.ireturn, 1) := by decide +kernel
theorem d_m_containers_0 : decode c_m_containers 0 = .ok (.aload_n 0, 1) := by decide +kernel
theorem d_m_containers_1 : decode c_m_containers 1 = .ok (.iconst 0, 1) := by decide +kernel
theorem d_m_containers_2 : decode c_m_containers 2 = .ok (.putfield 84, 3) := by decide +kernel
theorem d_m_containers_5 : decode c_m_containers 5 = .ok (.aload_n 0, 1) := by decide +kernel
theorem d_m_containers_6 : decode c_m_containers 6 = .ok (.getfield 94, 3) := by decide +kernel
theorem d_m_containers_9 : decode c_m_containers 9 = .ok (.ireturn, 1) := by decide +kernel
theorem d_m_stateOf_0 : decode c_m_stateOf 0 = .ok (.aload_n 0, 1) := by decide +kernel
theorem d_m_stateOf_1 : decode c_m_stateOf 1 = .ok (.iload_n 1, 1) := by decide +kernel
theorem d_m_stateOf_2 : decode c_m_stateOf 2 = .ok (.invokevirtual 204, 3) := by decide +kernel
theorem d_m_stateOf_5 : decode c_m_stateOf 5 = .ok (.ifCond .eq 12, 3) := by decide +kernel
theorem d_m_stateOf_8 : decode c_m_stateOf 8 = .ok (.aload_n 0, 1) := by decide +kernel
theorem d_m_stateOf_9 : decode c_m_stateOf 9 = .ok (.getfield 60, 3) := by decide +kernel
theorem d_m_stateOf_12 : decode c_m_stateOf 12 = .ok (.iload_n 1, 1) := by decide +kernel
theorem d_m_stateOf_13 : decode c_m_stateOf 13 = .ok (.iaload, 1) := by decide +kernel
theorem d_m_stateOf_14 : decode c_m_stateOf 14 = .ok (.goto 4, 3) := by decide +kernel
theorem d_m_stateOf_17 : decode c_m_stateOf 17 = .ok (.iconst 0, 1) := by decide +kernel
theorem d_m_stateOf_18 : decode c_m_stateOf 18 = .ok (.ireturn, 1) := by decide +kernel
theorem d_m_isAsked_0 : decode c_m_isAsked 0 = .ok (.aload_n 0, 1) := by decide +kernel
theorem d_m_isAsked_1 : decode c_m_isAsked 1 = .ok (.aload_n 0, 1) := by decide +kernel
theorem d_m_isAsked_2 : decode c_m_isAsked 2 = .ok (.iload_n 1, 1) := by decide +kernel
theorem d_m_isAsked_3 : decode c_m_isAsked 3 = .ok (.invokevirtual 123, 3) := by decide +kernel
theorem d_m_isAsked_6 : decode c_m_isAsked 6 = .ok (.ifCond .eq 7, 3) := by decide +kernel
theorem d_m_isAsked_9 : decode c_m_isAsked 9 = .ok (.iconst 0, 1) := by decide +kernel
theorem d_m_isAsked_10 : decode c_m_isAsked 10 = .ok (.goto 4, 3) := by decide +kernel
theorem d_m_isAsked_13 : decode c_m_isAsked 13 = .ok (.iconst 1, 1) := by decide +kernel
theorem d_m_isAsked_14 : decode c_m_isAsked 14 = .ok (.invokevirtual 109, 3) := by decide +kernel
theorem d_m_isAsked_17 : decode c_m_isAsked 17 = .ok (.ireturn, 1) := by decide +kernel
theorem d_m_memoryOf_0 : decode c_m_memoryOf 0 = .ok (.aload_n 0, 1) := by decide +kernel
theorem d_m_memoryOf_1 : decode c_m_memoryOf 1 = .ok (.iload_n 1, 1) := by decide +kernel
theorem d_m_memoryOf_2 : decode c_m_memoryOf 2 = .ok (.invokevirtual 204, 3) := by decide +kernel
theorem d_m_memoryOf_5 : decode c_m_memoryOf 5 = .ok (.ifCond .eq 12, 3) := by decide +kernel
theorem d_m_memoryOf_8 : decode c_m_memoryOf 8 = .ok (.aload_n 0, 1) := by decide +kernel
theorem d_m_memoryOf_9 : decode c_m_memoryOf 9 = .ok (.getfield 45, 3) := by decide +kernel
theorem d_m_memoryOf_12 : decode c_m_memoryOf 12 = .ok (.iload_n 1, 1) := by decide +kernel
theorem d_m_memoryOf_13 : decode c_m_memoryOf 13 = .ok (.iaload, 1) := by decide +kernel
theorem d_m_memoryOf_14 : decode c_m_memoryOf 14 = .ok (.goto 4, 3) := by decide +kernel
theorem d_m_memoryOf_17 : decode c_m_memoryOf 17 = .ok (.iconst 0, 1) := by decide +kernel
theorem d_m_memoryOf_18 : decode c_m_memoryOf 18 = .ok (.ireturn, 1) := by decide +kernel
theorem d_m_timeOf_0 : decode c_m_timeOf 0 = .ok (.aload_n 0, 1) := by decide +kernel
theorem d_m_timeOf_1 : decode c_m_timeOf 1 = .ok (.iload_n 1, 1) := by decide +kernel
theorem d_m_timeOf_2 : decode c_m_timeOf 2 = .ok (.invokevirtual 204, 3) := by decide +kernel
theorem d_m_timeOf_5 : decode c_m_timeOf 5 = .ok (.ifCond .eq 12, 3) := by decide +kernel
theorem d_m_timeOf_8 : decode c_m_timeOf 8 = .ok (.aload_n 0, 1) := by decide +kernel
theorem d_m_timeOf_9 : decode c_m_timeOf 9 = .ok (.getfield 69, 3) := by decide +kernel
theorem d_m_timeOf_12 : decode c_m_timeOf 12 = .ok (.iload_n 1, 1) := by decide +kernel
theorem d_m_timeOf_13 : decode c_m_timeOf 13 = .ok (.iaload, 1) := by decide +kernel
theorem d_m_timeOf_14 : decode c_m_timeOf 14 = .ok (.goto 4, 3) := by decide +kernel
theorem d_m_timeOf_17 : decode c_m_timeOf 17 = .ok (.iconst 0, 1) := by decide +kernel
theorem d_m_timeOf_18 : decode c_m_timeOf 18 = .ok (.ireturn, 1) := by decide +kernel
theorem d_m_capabilitiesOf_0 : decode c_m_capabilitiesOf 0 = .ok (.aload_n 0, 1) := by decide +kernel
theorem d_m_capabilitiesOf_1 : decode c_m_capabilitiesOf 1 = .ok (.iload_n 1, 1) := by decide +kernel
theorem d_m_capabilitiesOf_2 : decode c_m_capabilitiesOf 2 = .ok (.invokevirtual 204, 3) := by decide +kernel
theorem d_m_capabilitiesOf_5 : decode c_m_capabilitiesOf 5 = .ok (.ifCond .eq 22, 3) := by decide +kernel
theorem d_m_capabilitiesOf_8 : decode c_m_capabilitiesOf 8 = .ok (.bipush 16, 2) := by decide +kernel
theorem d_m_capabilitiesOf_10 : decode c_m_capabilitiesOf 10 = .ok (.aload_n 0, 1) := by decide +kernel
theorem d_m_capabilitiesOf_11 : decode c_m_capabilitiesOf 11 = .ok (.getfield 51, 3) := by decide +kernel
theorem d_m_capabilitiesOf_14 : decode c_m_capabilitiesOf 14 = .ok (.iload_n 1, 1) := by decide +kernel
theorem d_m_capabilitiesOf_15 : decode c_m_capabilitiesOf 15 = .ok (.iaload, 1) := by decide +kernel
theorem d_m_capabilitiesOf_16 : decode c_m_capabilitiesOf 16 = .ok (.imul, 1) := by decide +kernel
theorem d_m_capabilitiesOf_17 : decode c_m_capabilitiesOf 17 = .ok (.aload_n 0, 1) := by decide +kernel
theorem d_m_capabilitiesOf_18 : decode c_m_capabilitiesOf 18 = .ok (.getfield 54, 3) := by decide +kernel
theorem d_m_capabilitiesOf_21 : decode c_m_capabilitiesOf 21 = .ok (.iload_n 1, 1) := by decide +kernel
theorem d_m_capabilitiesOf_22 : decode c_m_capabilitiesOf 22 = .ok (.iaload, 1) := by decide +kernel
theorem d_m_capabilitiesOf_23 : decode c_m_capabilitiesOf 23 = .ok (.iadd, 1) := by decide +kernel
theorem d_m_capabilitiesOf_24 : decode c_m_capabilitiesOf 24 = .ok (.goto 4, 3) := by decide +kernel
theorem d_m_capabilitiesOf_27 : decode c_m_capabilitiesOf 27 = .ok (.iconst 0, 1) := by decide +kernel
theorem d_m_capabilitiesOf_28 : decode c_m_capabilitiesOf 28 = .ok (.ireturn, 1) := by decide +kernel
theorem d_m_addressOf_0 : decode c_m_addressOf 0 = .ok (.aload_n 0, 1) := by decide +kernel
theorem d_m_addressOf_1 : decode c_m_addressOf 1 = .ok (.iload_n 1, 1) := by decide +kernel
theorem d_m_addressOf_2 : decode c_m_addressOf 2 = .ok (.invokevirtual 204, 3) := by decide +kernel
theorem d_m_addressOf_5 : decode c_m_addressOf 5 = .ok (.ifCond .eq 12, 3) := by decide +kernel
theorem d_m_addressOf_8 : decode c_m_addressOf 8 = .ok (.aload_n 0, 1) := by decide +kernel
theorem d_m_addressOf_9 : decode c_m_addressOf 9 = .ok (.getfield 66, 3) := by decide +kernel
theorem d_m_addressOf_12 : decode c_m_addressOf 12 = .ok (.iload_n 1, 1) := by decide +kernel
theorem d_m_addressOf_13 : decode c_m_addressOf 13 = .ok (.iaload, 1) := by decide +kernel
theorem d_m_addressOf_14 : decode c_m_addressOf 14 = .ok (.goto 4, 3) := by decide +kernel
theorem d_m_addressOf_17 : decode c_m_addressOf 17 = .ok (.iconst 0, 1) := by decide +kernel
theorem d_m_addressOf_18 : decode c_m_addressOf 18 = .ok (.ireturn, 1) := by decide +kernel
