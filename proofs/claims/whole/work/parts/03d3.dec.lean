theorem dX9_who_79 : decode cX9_who 79 = .ok (.iconst 0, 1) := by decide +kernel
theorem dX9_who_80 : decode cX9_who 80 = .ok (.istore 14, 2) := by decide +kernel
theorem dX9_who_82 : decode cX9_who 82 = .ok (.iload 14, 2) := by decide +kernel
theorem dX9_who_84 : decode cX9_who 84 = .ok (.iconst 5, 1) := by decide +kernel
theorem dX9_who_85 : decode cX9_who 85 = .ok (.if_icmp .ge 99, 3) := by decide +kernel
theorem dX9_who_88 : decode cX9_who 88 = .ok (.iload 9, 2) := by decide +kernel
theorem dX9_who_90 : decode cX9_who 90 = .ok (.bipush 7, 2) := by decide +kernel
theorem dX9_who_92 : decode cX9_who 92 = .ok (.irem, 1) := by decide +kernel
theorem dX9_who_93 : decode cX9_who 93 = .ok (.istore 15, 2) := by decide +kernel
theorem dX9_who_95 : decode cX9_who 95 = .ok (.iload 9, 2) := by decide +kernel
theorem dX9_who_97 : decode cX9_who 97 = .ok (.bipush 7, 2) := by decide +kernel
theorem dX9_who_99 : decode cX9_who 99 = .ok (.idiv, 1) := by decide +kernel
theorem dX9_who_100 : decode cX9_who 100 = .ok (.istore 9, 2) := by decide +kernel
theorem dX9_who_102 : decode cX9_who 102 = .ok (.iload 10, 2) := by decide +kernel
theorem dX9_who_104 : decode cX9_who 104 = .ok (.iload 14, 2) := by decide +kernel
theorem dX9_who_106 : decode cX9_who 106 = .ok (.aload_n 0, 1) := by decide +kernel
theorem dX9_who_107 : decode cX9_who 107 = .ok (.getfield 13, 3) := by decide +kernel
theorem dX9_who_110 : decode cX9_who 110 = .ok (.iconst 1, 1) := by decide +kernel
theorem dX9_who_111 : decode cX9_who 111 = .ok (.iaload, 1) := by decide +kernel
theorem dX9_who_112 : decode cX9_who 112 = .ok (.if_icmp .ge 8, 3) := by decide +kernel
theorem dX9_who_115 : decode cX9_who 115 = .ok (.iload 15, 2) := by decide +kernel
theorem dX9_who_117 : decode cX9_who 117 = .ok (.goto 8, 3) := by decide +kernel
theorem dX9_who_120 : decode cX9_who 120 = .ok (.bipush 9, 2) := by decide +kernel
theorem dX9_who_122 : decode cX9_who 122 = .ok (.iload 15, 2) := by decide +kernel
theorem dX9_who_124 : decode cX9_who 124 = .ok (.imul, 1) := by decide +kernel
theorem dX9_who_125 : decode cX9_who 125 = .ok (.iadd, 1) := by decide +kernel
theorem dX9_who_126 : decode cX9_who 126 = .ok (.istore 10, 2) := by decide +kernel
theorem dX9_who_128 : decode cX9_who 128 = .ok (.iload 11, 2) := by decide +kernel
theorem dX9_who_130 : decode cX9_who 130 = .ok (.iload 15, 2) := by decide +kernel
theorem dX9_who_132 : decode cX9_who 132 = .ok (.aload_n 0, 1) := by decide +kernel
theorem dX9_who_133 : decode cX9_who 133 = .ok (.iload 14, 2) := by decide +kernel
theorem dX9_who_135 : decode cX9_who 135 = .ok (.invokevirtual 117, 3) := by decide +kernel
theorem dX9_who_138 : decode cX9_who 138 = .ok (.imul, 1) := by decide +kernel
theorem dX9_who_139 : decode cX9_who 139 = .ok (.iadd, 1) := by decide +kernel
theorem dX9_who_140 : decode cX9_who 140 = .ok (.istore 11, 2) := by decide +kernel
theorem dX9_who_142 : decode cX9_who 142 = .ok (.iload 12, 2) := by decide +kernel
theorem dX9_who_144 : decode cX9_who 144 = .ok (.iload 15, 2) := by decide +kernel
theorem dX9_who_146 : decode cX9_who 146 = .ok (.aload_n 0, 1) := by decide +kernel
theorem dX9_who_147 : decode cX9_who 147 = .ok (.getfield 13, 3) := by decide +kernel
theorem dX9_who_150 : decode cX9_who 150 = .ok (.bipush 44, 2) := by decide +kernel
theorem dX9_who_152 : decode cX9_who 152 = .ok (.iload 14, 2) := by decide +kernel
theorem dX9_who_154 : decode cX9_who 154 = .ok (.iadd, 1) := by decide +kernel
theorem dX9_who_155 : decode cX9_who 155 = .ok (.iaload, 1) := by decide +kernel
theorem dX9_who_156 : decode cX9_who 156 = .ok (.imul, 1) := by decide +kernel
theorem dX9_who_157 : decode cX9_who 157 = .ok (.iadd, 1) := by decide +kernel
theorem dX9_who_158 : decode cX9_who 158 = .ok (.istore 12, 2) := by decide +kernel
theorem dX9_who_160 : decode cX9_who 160 = .ok (.iload 13, 2) := by decide +kernel
theorem dX9_who_162 : decode cX9_who 162 = .ok (.iload 15, 2) := by decide +kernel
theorem dX9_who_164 : decode cX9_who 164 = .ok (.ifCond .le 10, 3) := by decide +kernel
theorem dX9_who_167 : decode cX9_who 167 = .ok (.iconst 1, 1) := by decide +kernel
theorem dX9_who_168 : decode cX9_who 168 = .ok (.iload 14, 2) := by decide +kernel
theorem dX9_who_170 : decode cX9_who 170 = .ok (.ishl, 1) := by decide +kernel
theorem dX9_who_171 : decode cX9_who 171 = .ok (.goto 4, 3) := by decide +kernel
theorem dX9_who_174 : decode cX9_who 174 = .ok (.iconst 0, 1) := by decide +kernel
theorem dX9_who_175 : decode cX9_who 175 = .ok (.ior, 1) := by decide +kernel
theorem dX9_who_176 : decode cX9_who 176 = .ok (.istore 13, 2) := by decide +kernel
theorem dX9_who_178 : decode cX9_who 178 = .ok (.iinc 14 1, 3) := by decide +kernel
theorem dX9_who_181 : decode cX9_who 181 = .ok (.goto (-99), 3) := by decide +kernel
theorem dX9_who_184 : decode cX9_who 184 = .ok (.iload 10, 2) := by decide +kernel
theorem dX9_who_186 : decode cX9_who 186 = .ok (.iload_n 1, 1) := by decide +kernel
theorem dX9_who_187 : decode cX9_who 187 = .ok (.if_icmp .ne 19, 3) := by decide +kernel
theorem dX9_who_190 : decode cX9_who 190 = .ok (.iload 11, 2) := by decide +kernel
theorem dX9_who_192 : decode cX9_who 192 = .ok (.iload_n 2, 1) := by decide +kernel
theorem dX9_who_193 : decode cX9_who 193 = .ok (.if_icmp .ne 13, 3) := by decide +kernel
theorem dX9_who_196 : decode cX9_who 196 = .ok (.iload 12, 2) := by decide +kernel
theorem dX9_who_198 : decode cX9_who 198 = .ok (.iload_n 3, 1) := by decide +kernel
theorem dX9_who_199 : decode cX9_who 199 = .ok (.if_icmp .ne 7, 3) := by decide +kernel
theorem dX9_who_202 : decode cX9_who 202 = .ok (.iconst 1, 1) := by decide +kernel
theorem dX9_who_203 : decode cX9_who 203 = .ok (.goto 4, 3) := by decide +kernel
theorem dX9_who_206 : decode cX9_who 206 = .ok (.iconst 0, 1) := by decide +kernel
theorem dX9_who_207 : decode cX9_who 207 = .ok (.istore 14, 2) := by decide +kernel
theorem dX9_who_209 : decode cX9_who 209 = .ok (.iload 5, 2) := by decide +kernel
theorem dX9_who_211 : decode cX9_who 211 = .ok (.iload 14, 2) := by decide +kernel
theorem dX9_who_213 : decode cX9_who 213 = .ok (.ifCond .eq 7, 3) := by decide +kernel
theorem dX9_who_216 : decode cX9_who 216 = .ok (.iconst 1, 1) := by decide +kernel
theorem dX9_who_217 : decode cX9_who 217 = .ok (.goto 4, 3) := by decide +kernel
theorem dX9_who_220 : decode cX9_who 220 = .ok (.iconst 0, 1) := by decide +kernel
theorem dX9_who_221 : decode cX9_who 221 = .ok (.iadd, 1) := by decide +kernel
theorem dX9_who_222 : decode cX9_who 222 = .ok (.istore 5, 2) := by decide +kernel
theorem dX9_who_224 : decode cX9_who 224 = .ok (.iload 6, 2) := by decide +kernel
theorem dX9_who_226 : decode cX9_who 226 = .ok (.iload 14, 2) := by decide +kernel
theorem dX9_who_228 : decode cX9_who 228 = .ok (.ifCond .eq 8, 3) := by decide +kernel
theorem dX9_who_231 : decode cX9_who 231 = .ok (.iload 13, 2) := by decide +kernel
theorem dX9_who_233 : decode cX9_who 233 = .ok (.goto 5, 3) := by decide +kernel
theorem dX9_who_236 : decode cX9_who 236 = .ok (.bipush 31, 2) := by decide +kernel
theorem dX9_who_238 : decode cX9_who 238 = .ok (.iand, 1) := by decide +kernel
theorem dX9_who_239 : decode cX9_who 239 = .ok (.istore 6, 2) := by decide +kernel
theorem dX9_who_241 : decode cX9_who 241 = .ok (.iload 7, 2) := by decide +kernel
theorem dX9_who_243 : decode cX9_who 243 = .ok (.iload 14, 2) := by decide +kernel
theorem dX9_who_245 : decode cX9_who 245 = .ok (.ifCond .eq 8, 3) := by decide +kernel
theorem dX9_who_248 : decode cX9_who 248 = .ok (.iload 13, 2) := by decide +kernel
theorem dX9_who_250 : decode cX9_who 250 = .ok (.goto 4, 3) := by decide +kernel
theorem dX9_who_253 : decode cX9_who 253 = .ok (.iconst 0, 1) := by decide +kernel
theorem dX9_who_254 : decode cX9_who 254 = .ok (.ior, 1) := by decide +kernel
theorem dX9_who_255 : decode cX9_who 255 = .ok (.istore 7, 2) := by decide +kernel
theorem dX9_who_257 : decode cX9_who 257 = .ok (.iinc 8 1, 3) := by decide +kernel
theorem dX9_who_260 : decode cX9_who 260 = .ok (.goto (-205), 3) := by decide +kernel
theorem dX9_who_263 : decode cX9_who 263 = .ok (.iload 4, 2) := by decide +kernel
theorem dX9_who_265 : decode cX9_who 265 = .ok (.ifCond .ne 8, 3) := by decide +kernel
theorem dX9_who_268 : decode cX9_who 268 = .ok (.iload 5, 2) := by decide +kernel
theorem dX9_who_270 : decode cX9_who 270 = .ok (.goto 25, 3) := by decide +kernel
theorem dX9_who_273 : decode cX9_who 273 = .ok (.iload 4, 2) := by decide +kernel
theorem dX9_who_275 : decode cX9_who 275 = .ok (.iconst 2, 1) := by decide +kernel
theorem dX9_who_276 : decode cX9_who 276 = .ok (.if_icmp .ne 8, 3) := by decide +kernel
theorem dX9_who_279 : decode cX9_who 279 = .ok (.iload 7, 2) := by decide +kernel
theorem dX9_who_281 : decode cX9_who 281 = .ok (.goto 14, 3) := by decide +kernel
theorem dX9_who_284 : decode cX9_who 284 = .ok (.iload 5, 2) := by decide +kernel
theorem dX9_who_286 : decode cX9_who 286 = .ok (.ifCond .ne 7, 3) := by decide +kernel
theorem dX9_who_289 : decode cX9_who 289 = .ok (.iconst 0, 1) := by decide +kernel
theorem dX9_who_290 : decode cX9_who 290 = .ok (.goto 5, 3) := by decide +kernel
theorem dX9_who_293 : decode cX9_who 293 = .ok (.iload 6, 2) := by decide +kernel
theorem dX9_who_295 : decode cX9_who 295 = .ok (.ireturn, 1) := by decide +kernel
theorem dX9_odds_0 : decode cX9_odds 0 = .ok (.iload_n 1, 1) := by decide +kernel
theorem dX9_odds_1 : decode cX9_odds 1 = .ok (.iconst 0, 1) := by decide +kernel
theorem dX9_odds_2 : decode cX9_odds 2 = .ok (.bipush 99, 2) := by decide +kernel
theorem dX9_odds_4 : decode cX9_odds 4 = .ok (.invokestatic 54, 3) := by decide +kernel
theorem dX9_odds_7 : decode cX9_odds 7 = .ok (.ifCond .eq 12, 3) := by decide +kernel
theorem dX9_odds_10 : decode cX9_odds 10 = .ok (.iload_n 2, 1) := by decide +kernel
theorem dX9_odds_11 : decode cX9_odds 11 = .ok (.iconst 0, 1) := by decide +kernel
theorem dX9_odds_12 : decode cX9_odds 12 = .ok (.iconst 1, 1) := by decide +kernel
theorem dX9_odds_13 : decode cX9_odds 13 = .ok (.invokestatic 54, 3) := by decide +kernel
theorem dX9_odds_16 : decode cX9_odds 16 = .ok (.ifCond .ne 5, 3) := by decide +kernel
theorem dX9_odds_19 : decode cX9_odds 19 = .ok (.iconst (-1), 1) := by decide +kernel
theorem dX9_odds_20 : decode cX9_odds 20 = .ok (.ireturn, 1) := by decide +kernel
theorem dX9_odds_21 : decode cX9_odds 21 = .ok (.iconst 0, 1) := by decide +kernel
theorem dX9_odds_22 : decode cX9_odds 22 = .ok (.istore_n 3, 1) := by decide +kernel
theorem dX9_odds_23 : decode cX9_odds 23 = .ok (.iconst 1, 1) := by decide +kernel
theorem dX9_odds_24 : decode cX9_odds 24 = .ok (.istore 4, 2) := by decide +kernel
theorem dX9_odds_26 : decode cX9_odds 26 = .ok (.iconst 0, 1) := by decide +kernel
theorem dX9_odds_27 : decode cX9_odds 27 = .ok (.istore 5, 2) := by decide +kernel
theorem dX9_odds_29 : decode cX9_odds 29 = .ok (.iload 5, 2) := by decide +kernel
theorem dX9_odds_31 : decode cX9_odds 31 = .ok (.aload_n 0, 1) := by decide +kernel
theorem dX9_odds_32 : decode cX9_odds 32 = .ok (.getfield 13, 3) := by decide +kernel
theorem dX9_odds_35 : decode cX9_odds 35 = .ok (.iconst 1, 1) := by decide +kernel
theorem dX9_odds_36 : decode cX9_odds 36 = .ok (.iaload, 1) := by decide +kernel
theorem dX9_odds_37 : decode cX9_odds 37 = .ok (.if_icmp .ge 16, 3) := by decide +kernel
theorem dX9_odds_40 : decode cX9_odds 40 = .ok (.iload 4, 2) := by decide +kernel
theorem dX9_odds_42 : decode cX9_odds 42 = .ok (.bipush 10, 2) := by decide +kernel
theorem dX9_odds_44 : decode cX9_odds 44 = .ok (.imul, 1) := by decide +kernel
theorem dX9_odds_45 : decode cX9_odds 45 = .ok (.istore 4, 2) := by decide +kernel
theorem dX9_odds_47 : decode cX9_odds 47 = .ok (.iinc 5 1, 3) := by decide +kernel
theorem dX9_odds_50 : decode cX9_odds 50 = .ok (.goto (-21), 3) := by decide +kernel
theorem dX9_odds_53 : decode cX9_odds 53 = .ok (.iconst 0, 1) := by decide +kernel
theorem dX9_odds_54 : decode cX9_odds 54 = .ok (.istore 5, 2) := by decide +kernel
theorem dX9_odds_56 : decode cX9_odds 56 = .ok (.iload 5, 2) := by decide +kernel
theorem dX9_odds_58 : decode cX9_odds 58 = .ok (.iconst 1, 1) := by decide +kernel
theorem dX9_odds_59 : decode cX9_odds 59 = .ok (.aload_n 0, 1) := by decide +kernel
theorem dX9_odds_60 : decode cX9_odds 60 = .ok (.getfield 13, 3) := by decide +kernel
theorem dX9_odds_63 : decode cX9_odds 63 = .ok (.iconst 1, 1) := by decide +kernel
theorem dX9_odds_64 : decode cX9_odds 64 = .ok (.iaload, 1) := by decide +kernel
theorem dX9_odds_65 : decode cX9_odds 65 = .ok (.ishl, 1) := by decide +kernel
theorem dX9_odds_66 : decode cX9_odds 66 = .ok (.if_icmp .ge 124, 3) := by decide +kernel
theorem dX9_odds_69 : decode cX9_odds 69 = .ok (.iconst 1, 1) := by decide +kernel
theorem dX9_odds_70 : decode cX9_odds 70 = .ok (.istore 6, 2) := by decide +kernel
theorem dX9_odds_72 : decode cX9_odds 72 = .ok (.iconst 0, 1) := by decide +kernel
theorem dX9_odds_73 : decode cX9_odds 73 = .ok (.istore 7, 2) := by decide +kernel
theorem dX9_odds_75 : decode cX9_odds 75 = .ok (.iconst 0, 1) := by decide +kernel
theorem dX9_odds_76 : decode cX9_odds 76 = .ok (.istore 8, 2) := by decide +kernel
theorem dX9_odds_78 : decode cX9_odds 78 = .ok (.iload 8, 2) := by decide +kernel
theorem dX9_odds_80 : decode cX9_odds 80 = .ok (.aload_n 0, 1) := by decide +kernel
theorem dX9_odds_81 : decode cX9_odds 81 = .ok (.getfield 13, 3) := by decide +kernel
theorem dX9_odds_84 : decode cX9_odds 84 = .ok (.iconst 1, 1) := by decide +kernel
theorem dX9_odds_85 : decode cX9_odds 85 = .ok (.iaload, 1) := by decide +kernel
theorem dX9_odds_86 : decode cX9_odds 86 = .ok (.if_icmp .ge 83, 3) := by decide +kernel
theorem dX9_odds_89 : decode cX9_odds 89 = .ok (.iload 5, 2) := by decide +kernel
theorem dX9_odds_91 : decode cX9_odds 91 = .ok (.iload 8, 2) := by decide +kernel
theorem dX9_odds_93 : decode cX9_odds 93 = .ok (.ishr, 1) := by decide +kernel
theorem dX9_odds_94 : decode cX9_odds 94 = .ok (.iconst 1, 1) := by decide +kernel
theorem dX9_odds_95 : decode cX9_odds 95 = .ok (.iand, 1) := by decide +kernel
theorem dX9_odds_96 : decode cX9_odds 96 = .ok (.iconst 1, 1) := by decide +kernel
theorem dX9_odds_97 : decode cX9_odds 97 = .ok (.if_icmp .ne 7, 3) := by decide +kernel
theorem dX9_odds_100 : decode cX9_odds 100 = .ok (.iconst 1, 1) := by decide +kernel
theorem dX9_odds_101 : decode cX9_odds 101 = .ok (.goto 4, 3) := by decide +kernel
theorem dX9_odds_104 : decode cX9_odds 104 = .ok (.iconst 0, 1) := by decide +kernel
theorem dX9_odds_105 : decode cX9_odds 105 = .ok (.istore 9, 2) := by decide +kernel
theorem dX9_odds_107 : decode cX9_odds 107 = .ok (.iload 6, 2) := by decide +kernel
theorem dX9_odds_109 : decode cX9_odds 109 = .ok (.iload 9, 2) := by decide +kernel
theorem dX9_odds_111 : decode cX9_odds 111 = .ok (.ifCond .eq 19, 3) := by decide +kernel
theorem dX9_odds_114 : decode cX9_odds 114 = .ok (.bipush 10, 2) := by decide +kernel
theorem dX9_odds_116 : decode cX9_odds 116 = .ok (.aload_n 0, 1) := by decide +kernel
theorem dX9_odds_117 : decode cX9_odds 117 = .ok (.getfield 13, 3) := by decide +kernel
theorem dX9_odds_120 : decode cX9_odds 120 = .ok (.bipush 39, 2) := by decide +kernel
theorem dX9_odds_122 : decode cX9_odds 122 = .ok (.iload 8, 2) := by decide +kernel
theorem dX9_odds_124 : decode cX9_odds 124 = .ok (.iadd, 1) := by decide +kernel
theorem dX9_odds_125 : decode cX9_odds 125 = .ok (.iaload, 1) := by decide +kernel
theorem dX9_odds_126 : decode cX9_odds 126 = .ok (.isub, 1) := by decide +kernel
theorem dX9_odds_127 : decode cX9_odds 127 = .ok (.goto 13, 3) := by decide +kernel
theorem dX9_odds_130 : decode cX9_odds 130 = .ok (.aload_n 0, 1) := by decide +kernel
theorem dX9_odds_131 : decode cX9_odds 131 = .ok (.getfield 13, 3) := by decide +kernel
theorem dX9_odds_134 : decode cX9_odds 134 = .ok (.bipush 39, 2) := by decide +kernel
theorem dX9_odds_136 : decode cX9_odds 136 = .ok (.iload 8, 2) := by decide +kernel
theorem dX9_odds_138 : decode cX9_odds 138 = .ok (.iadd, 1) := by decide +kernel
theorem dX9_odds_139 : decode cX9_odds 139 = .ok (.iaload, 1) := by decide +kernel
theorem dX9_odds_140 : decode cX9_odds 140 = .ok (.imul, 1) := by decide +kernel
theorem dX9_odds_141 : decode cX9_odds 141 = .ok (.istore 6, 2) := by decide +kernel
theorem dX9_odds_143 : decode cX9_odds 143 = .ok (.iload 7, 2) := by decide +kernel
theorem dX9_odds_145 : decode cX9_odds 145 = .ok (.iload 9, 2) := by decide +kernel
theorem dX9_odds_147 : decode cX9_odds 147 = .ok (.ifCond .eq 12, 3) := by decide +kernel
theorem dX9_odds_150 : decode cX9_odds 150 = .ok (.aload_n 0, 1) := by decide +kernel
theorem dX9_odds_151 : decode cX9_odds 151 = .ok (.iload 8, 2) := by decide +kernel
theorem dX9_odds_153 : decode cX9_odds 153 = .ok (.invokevirtual 117, 3) := by decide +kernel
theorem dX9_odds_156 : decode cX9_odds 156 = .ok (.goto 4, 3) := by decide +kernel
theorem dX9_odds_159 : decode cX9_odds 159 = .ok (.iconst 0, 1) := by decide +kernel
theorem dX9_odds_160 : decode cX9_odds 160 = .ok (.iadd, 1) := by decide +kernel
theorem dX9_odds_161 : decode cX9_odds 161 = .ok (.istore 7, 2) := by decide +kernel
theorem dX9_odds_163 : decode cX9_odds 163 = .ok (.iinc 8 1, 3) := by decide +kernel
theorem dX9_odds_166 : decode cX9_odds 166 = .ok (.goto (-88), 3) := by decide +kernel
theorem dX9_odds_169 : decode cX9_odds 169 = .ok (.iload_n 3, 1) := by decide +kernel
theorem dX9_odds_170 : decode cX9_odds 170 = .ok (.iload 7, 2) := by decide +kernel
theorem dX9_odds_172 : decode cX9_odds 172 = .ok (.iload_n 1, 1) := by decide +kernel
theorem dX9_odds_173 : decode cX9_odds 173 = .ok (.if_icmp .lt 8, 3) := by decide +kernel
theorem dX9_odds_176 : decode cX9_odds 176 = .ok (.iload 6, 2) := by decide +kernel
theorem dX9_odds_178 : decode cX9_odds 178 = .ok (.goto 4, 3) := by decide +kernel
theorem dX9_odds_181 : decode cX9_odds 181 = .ok (.iconst 0, 1) := by decide +kernel
theorem dX9_odds_182 : decode cX9_odds 182 = .ok (.iadd, 1) := by decide +kernel
theorem dX9_odds_183 : decode cX9_odds 183 = .ok (.istore_n 3, 1) := by decide +kernel
theorem dX9_odds_184 : decode cX9_odds 184 = .ok (.iinc 5 1, 3) := by decide +kernel
theorem dX9_odds_187 : decode cX9_odds 187 = .ok (.goto (-131), 3) := by decide +kernel
theorem dX9_odds_190 : decode cX9_odds 190 = .ok (.iload_n 3, 1) := by decide +kernel
theorem dX9_odds_191 : decode cX9_odds 191 = .ok (.istore 5, 2) := by decide +kernel
theorem dX9_odds_193 : decode cX9_odds 193 = .ok (.iload 4, 2) := by decide +kernel
theorem dX9_odds_195 : decode cX9_odds 195 = .ok (.istore 6, 2) := by decide +kernel
theorem dX9_odds_197 : decode cX9_odds 197 = .ok (.iload 6, 2) := by decide +kernel
theorem dX9_odds_199 : decode cX9_odds 199 = .ok (.ifCond .le 21, 3) := by decide +kernel
theorem dX9_odds_202 : decode cX9_odds 202 = .ok (.iload 5, 2) := by decide +kernel
theorem dX9_odds_204 : decode cX9_odds 204 = .ok (.iload 6, 2) := by decide +kernel
theorem dX9_odds_206 : decode cX9_odds 206 = .ok (.irem, 1) := by decide +kernel
theorem dX9_odds_207 : decode cX9_odds 207 = .ok (.istore 7, 2) := by decide +kernel
theorem dX9_odds_209 : decode cX9_odds 209 = .ok (.iload 6, 2) := by decide +kernel
theorem dX9_odds_211 : decode cX9_odds 211 = .ok (.istore 5, 2) := by decide +kernel
theorem dX9_odds_213 : decode cX9_odds 213 = .ok (.iload 7, 2) := by decide +kernel
theorem dX9_odds_215 : decode cX9_odds 215 = .ok (.istore 6, 2) := by decide +kernel
theorem dX9_odds_217 : decode cX9_odds 217 = .ok (.goto (-20), 3) := by decide +kernel
theorem dX9_odds_220 : decode cX9_odds 220 = .ok (.iload_n 2, 1) := by decide +kernel
theorem dX9_odds_221 : decode cX9_odds 221 = .ok (.ifCond .ne 10, 3) := by decide +kernel
theorem dX9_odds_224 : decode cX9_odds 224 = .ok (.iload_n 3, 1) := by decide +kernel
theorem dX9_odds_225 : decode cX9_odds 225 = .ok (.iload 5, 2) := by decide +kernel
theorem dX9_odds_227 : decode cX9_odds 227 = .ok (.idiv, 1) := by decide +kernel
theorem dX9_odds_228 : decode cX9_odds 228 = .ok (.goto 8, 3) := by decide +kernel
theorem dX9_odds_231 : decode cX9_odds 231 = .ok (.iload 4, 2) := by decide +kernel
theorem dX9_odds_233 : decode cX9_odds 233 = .ok (.iload 5, 2) := by decide +kernel
theorem dX9_odds_235 : decode cX9_odds 235 = .ok (.idiv, 1) := by decide +kernel
theorem dX9_odds_236 : decode cX9_odds 236 = .ok (.ireturn, 1) := by decide +kernel
theorem dX9_mark_0 : decode cX9_mark 0 = .ok (.iload_n 1, 1) := by decide +kernel
theorem dX9_mark_1 : decode cX9_mark 1 = .ok (.iconst 0, 1) := by decide +kernel
theorem dX9_mark_2 : decode cX9_mark 2 = .ok (.iconst 5, 1) := by decide +kernel
theorem dX9_mark_3 : decode cX9_mark 3 = .ok (.invokestatic 54, 3) := by decide +kernel
theorem dX9_mark_6 : decode cX9_mark 6 = .ok (.ifCond .eq 11, 3) := by decide +kernel
theorem dX9_mark_9 : decode cX9_mark 9 = .ok (.aload_n 0, 1) := by decide +kernel
theorem dX9_mark_10 : decode cX9_mark 10 = .ok (.iload_n 2, 1) := by decide +kernel
theorem dX9_mark_11 : decode cX9_mark 11 = .ok (.invokevirtual 104, 3) := by decide +kernel
theorem dX9_mark_14 : decode cX9_mark 14 = .ok (.ifCond .ne 6, 3) := by decide +kernel
theorem dX9_mark_17 : decode cX9_mark 17 = .ok (.ldc 164, 2) := by decide +kernel
theorem dX9_mark_19 : decode cX9_mark 19 = .ok (.ireturn, 1) := by decide +kernel
theorem dX9_mark_20 : decode cX9_mark 20 = .ok (.aload_n 0, 1) := by decide +kernel
theorem dX9_mark_21 : decode cX9_mark 21 = .ok (.dup, 1) := by decide +kernel
theorem dX9_mark_22 : decode cX9_mark 22 = .ok (.getfield 165, 3) := by decide +kernel
theorem dX9_mark_25 : decode cX9_mark 25 = .ok (.iload_n 1, 1) := by decide +kernel
theorem dX9_mark_26 : decode cX9_mark 26 = .ok (.ifCond .ne 7, 3) := by decide +kernel
theorem dX9_mark_29 : decode cX9_mark 29 = .ok (.lconst 1, 1) := by decide +kernel
theorem dX9_mark_30 : decode cX9_mark 30 = .ok (.goto 50, 3) := by decide +kernel
theorem dX9_mark_33 : decode cX9_mark 33 = .ok (.iload_n 1, 1) := by decide +kernel
theorem dX9_mark_34 : decode cX9_mark 34 = .ok (.iconst 1, 1) := by decide +kernel
theorem dX9_mark_35 : decode cX9_mark 35 = .ok (.if_icmp .ne 9, 3) := by decide +kernel
theorem dX9_mark_38 : decode cX9_mark 38 = .ok (.ldc2_w 169, 3) := by decide +kernel
theorem dX9_mark_41 : decode cX9_mark 41 = .ok (.goto 39, 3) := by decide +kernel
theorem dX9_mark_44 : decode cX9_mark 44 = .ok (.iload_n 1, 1) := by decide +kernel
theorem dX9_mark_45 : decode cX9_mark 45 = .ok (.iconst 2, 1) := by decide +kernel
theorem dX9_mark_46 : decode cX9_mark 46 = .ok (.if_icmp .ne 9, 3) := by decide +kernel
theorem dX9_mark_49 : decode cX9_mark 49 = .ok (.ldc2_w 171, 3) := by decide +kernel
theorem dX9_mark_52 : decode cX9_mark 52 = .ok (.goto 28, 3) := by decide +kernel
theorem dX9_mark_55 : decode cX9_mark 55 = .ok (.iload_n 1, 1) := by decide +kernel
theorem dX9_mark_56 : decode cX9_mark 56 = .ok (.iconst 3, 1) := by decide +kernel
theorem dX9_mark_57 : decode cX9_mark 57 = .ok (.if_icmp .ne 9, 3) := by decide +kernel
theorem dX9_mark_60 : decode cX9_mark 60 = .ok (.ldc2_w 173, 3) := by decide +kernel
theorem dX9_mark_63 : decode cX9_mark 63 = .ok (.goto 17, 3) := by decide +kernel
theorem dX9_mark_66 : decode cX9_mark 66 = .ok (.iload_n 1, 1) := by decide +kernel
theorem dX9_mark_67 : decode cX9_mark 67 = .ok (.iconst 4, 1) := by decide +kernel
theorem dX9_mark_68 : decode cX9_mark 68 = .ok (.if_icmp .ne 9, 3) := by decide +kernel
theorem dX9_mark_71 : decode cX9_mark 71 = .ok (.ldc2_w 175, 3) := by decide +kernel
theorem dX9_mark_74 : decode cX9_mark 74 = .ok (.goto 6, 3) := by decide +kernel
theorem dX9_mark_77 : decode cX9_mark 77 = .ok (.ldc2_w 177, 3) := by decide +kernel
theorem dX9_mark_80 : decode cX9_mark 80 = .ok (.ladd, 1) := by decide +kernel
theorem dX9_mark_81 : decode cX9_mark 81 = .ok (.putfield 165, 3) := by decide +kernel
theorem dX9_mark_84 : decode cX9_mark 84 = .ok (.aload_n 0, 1) := by decide +kernel
theorem dX9_mark_85 : decode cX9_mark 85 = .ok (.getfield 19, 3) := by decide +kernel
theorem dX9_mark_88 : decode cX9_mark 88 = .ok (.iload_n 2, 1) := by decide +kernel
theorem dX9_mark_89 : decode cX9_mark 89 = .ok (.iaload, 1) := by decide +kernel
theorem dX9_mark_90 : decode cX9_mark 90 = .ok (.aload_n 0, 1) := by decide +kernel
theorem dX9_mark_91 : decode cX9_mark 91 = .ok (.getfield 13, 3) := by decide +kernel
theorem dX9_mark_94 : decode cX9_mark 94 = .ok (.bipush 20, 2) := by decide +kernel
theorem dX9_mark_96 : decode cX9_mark 96 = .ok (.iload_n 2, 1) := by decide +kernel
theorem dX9_mark_97 : decode cX9_mark 97 = .ok (.iadd, 1) := by decide +kernel
theorem dX9_mark_98 : decode cX9_mark 98 = .ok (.iaload, 1) := by decide +kernel
theorem dX9_mark_99 : decode cX9_mark 99 = .ok (.iadd, 1) := by decide +kernel
theorem dX9_mark_100 : decode cX9_mark 100 = .ok (.istore_n 3, 1) := by decide +kernel
theorem dX9_mark_101 : decode cX9_mark 101 = .ok (.aload_n 0, 1) := by decide +kernel
theorem dX9_mark_102 : decode cX9_mark 102 = .ok (.getfield 19, 3) := by decide +kernel
theorem dX9_mark_105 : decode cX9_mark 105 = .ok (.iload_n 2, 1) := by decide +kernel
theorem dX9_mark_106 : decode cX9_mark 106 = .ok (.iaload, 1) := by decide +kernel
theorem dX9_mark_107 : decode cX9_mark 107 = .ok (.aload_n 0, 1) := by decide +kernel
theorem dX9_mark_108 : decode cX9_mark 108 = .ok (.getfield 19, 3) := by decide +kernel
theorem dX9_mark_111 : decode cX9_mark 111 = .ok (.bipush 7, 2) := by decide +kernel
theorem dX9_mark_113 : decode cX9_mark 113 = .ok (.iload_n 2, 1) := by decide +kernel
theorem dX9_mark_114 : decode cX9_mark 114 = .ok (.iadd, 1) := by decide +kernel
theorem dX9_mark_115 : decode cX9_mark 115 = .ok (.iaload, 1) := by decide +kernel
theorem dX9_mark_116 : decode cX9_mark 116 = .ok (.isub, 1) := by decide +kernel
theorem dX9_mark_117 : decode cX9_mark 117 = .ok (.istore 4, 2) := by decide +kernel
theorem dX9_mark_119 : decode cX9_mark 119 = .ok (.iload_n 1, 1) := by decide +kernel
theorem dX9_mark_120 : decode cX9_mark 120 = .ok (.ifCond .ne 12, 3) := by decide +kernel
theorem dX9_mark_123 : decode cX9_mark 123 = .ok (.aload_n 0, 1) := by decide +kernel
theorem dX9_mark_124 : decode cX9_mark 124 = .ok (.getfield 19, 3) := by decide +kernel
theorem dX9_mark_127 : decode cX9_mark 127 = .ok (.iload_n 2, 1) := by decide +kernel
theorem dX9_mark_128 : decode cX9_mark 128 = .ok (.iaload, 1) := by decide +kernel
theorem dX9_mark_129 : decode cX9_mark 129 = .ok (.goto 67, 3) := by decide +kernel
theorem dX9_mark_132 : decode cX9_mark 132 = .ok (.iload_n 1, 1) := by decide +kernel
theorem dX9_mark_133 : decode cX9_mark 133 = .ok (.iconst 1, 1) := by decide +kernel
theorem dX9_mark_134 : decode cX9_mark 134 = .ok (.if_icmp .ne 7, 3) := by decide +kernel
theorem dX9_mark_137 : decode cX9_mark 137 = .ok (.iload_n 3, 1) := by decide +kernel
theorem dX9_mark_138 : decode cX9_mark 138 = .ok (.goto 58, 3) := by decide +kernel
theorem dX9_mark_141 : decode cX9_mark 141 = .ok (.iload_n 1, 1) := by decide +kernel
theorem dX9_mark_142 : decode cX9_mark 142 = .ok (.iconst 2, 1) := by decide +kernel
theorem dX9_mark_143 : decode cX9_mark 143 = .ok (.if_icmp .ne 8, 3) := by decide +kernel
theorem dX9_mark_146 : decode cX9_mark 146 = .ok (.iload 4, 2) := by decide +kernel
theorem dX9_mark_148 : decode cX9_mark 148 = .ok (.goto 48, 3) := by decide +kernel
theorem dX9_mark_151 : decode cX9_mark 151 = .ok (.iload_n 1, 1) := by decide +kernel
theorem dX9_mark_152 : decode cX9_mark 152 = .ok (.iconst 3, 1) := by decide +kernel
theorem dX9_mark_153 : decode cX9_mark 153 = .ok (.if_icmp .ne 9, 3) := by decide +kernel
theorem dX9_mark_156 : decode cX9_mark 156 = .ok (.iconst 2, 1) := by decide +kernel
theorem dX9_mark_157 : decode cX9_mark 157 = .ok (.iload_n 3, 1) := by decide +kernel
theorem dX9_mark_158 : decode cX9_mark 158 = .ok (.imul, 1) := by decide +kernel
theorem dX9_mark_159 : decode cX9_mark 159 = .ok (.goto 37, 3) := by decide +kernel
theorem dX9_mark_162 : decode cX9_mark 162 = .ok (.iload_n 1, 1) := by decide +kernel
theorem dX9_mark_163 : decode cX9_mark 163 = .ok (.iconst 4, 1) := by decide +kernel
theorem dX9_mark_164 : decode cX9_mark 164 = .ok (.if_icmp .ne 18, 3) := by decide +kernel
theorem dX9_mark_167 : decode cX9_mark 167 = .ok (.iload 4, 2) := by decide +kernel
theorem dX9_mark_169 : decode cX9_mark 169 = .ok (.aload_n 0, 1) := by decide +kernel
theorem dX9_mark_170 : decode cX9_mark 170 = .ok (.getfield 13, 3) := by decide +kernel
theorem dX9_mark_173 : decode cX9_mark 173 = .ok (.bipush 27, 2) := by decide +kernel
theorem dX9_mark_175 : decode cX9_mark 175 = .ok (.iload_n 2, 1) := by decide +kernel
theorem dX9_mark_176 : decode cX9_mark 176 = .ok (.iadd, 1) := by decide +kernel
theorem dX9_mark_177 : decode cX9_mark 177 = .ok (.iaload, 1) := by decide +kernel
theorem dX9_mark_178 : decode cX9_mark 178 = .ok (.iadd, 1) := by decide +kernel
theorem dX9_mark_179 : decode cX9_mark 179 = .ok (.goto 17, 3) := by decide +kernel
theorem dX9_mark_182 : decode cX9_mark 182 = .ok (.aload_n 0, 1) := by decide +kernel
theorem dX9_mark_183 : decode cX9_mark 183 = .ok (.getfield 19, 3) := by decide +kernel
theorem dX9_mark_186 : decode cX9_mark 186 = .ok (.iload_n 2, 1) := by decide +kernel
theorem dX9_mark_187 : decode cX9_mark 187 = .ok (.iaload, 1) := by decide +kernel
theorem dX9_mark_188 : decode cX9_mark 188 = .ok (.aload_n 0, 1) := by decide +kernel
theorem dX9_mark_189 : decode cX9_mark 189 = .ok (.getfield 19, 3) := by decide +kernel
theorem dX9_mark_192 : decode cX9_mark 192 = .ok (.bipush 64, 2) := by decide +kernel
theorem dX9_mark_194 : decode cX9_mark 194 = .ok (.iaload, 1) := by decide +kernel
theorem dX9_mark_195 : decode cX9_mark 195 = .ok (.iadd, 1) := by decide +kernel
theorem dX9_mark_196 : decode cX9_mark 196 = .ok (.ireturn, 1) := by decide +kernel
theorem dX9_keep_0 : decode cX9_keep 0 = .ok (.iload_n 1, 1) := by decide +kernel
theorem dX9_keep_1 : decode cX9_keep 1 = .ok (.iconst 0, 1) := by decide +kernel
theorem dX9_keep_2 : decode cX9_keep 2 = .ok (.iconst 1, 1) := by decide +kernel
theorem dX9_keep_3 : decode cX9_keep 3 = .ok (.invokestatic 54, 3) := by decide +kernel
theorem dX9_keep_6 : decode cX9_keep 6 = .ok (.ifCond .ne 5, 3) := by decide +kernel
theorem dX9_keep_9 : decode cX9_keep 9 = .ok (.iconst (-1), 1) := by decide +kernel
theorem dX9_keep_10 : decode cX9_keep 10 = .ok (.ireturn, 1) := by decide +kernel
theorem dX9_keep_11 : decode cX9_keep 11 = .ok (.iconst 0, 1) := by decide +kernel
theorem dX9_keep_12 : decode cX9_keep 12 = .ok (.istore_n 2, 1) := by decide +kernel
theorem dX9_keep_13 : decode cX9_keep 13 = .ok (.iload_n 2, 1) := by decide +kernel
theorem dX9_keep_14 : decode cX9_keep 14 = .ok (.sipush 716, 3) := by decide +kernel
theorem dX9_keep_17 : decode cX9_keep 17 = .ok (.if_icmp .ge 27, 3) := by decide +kernel
theorem dX9_keep_20 : decode cX9_keep 20 = .ok (.aload_n 0, 1) := by decide +kernel
theorem dX9_keep_21 : decode cX9_keep 21 = .ok (.getfield 22, 3) := by decide +kernel
theorem dX9_keep_24 : decode cX9_keep 24 = .ok (.sipush 716, 3) := by decide +kernel
theorem dX9_keep_27 : decode cX9_keep 27 = .ok (.iload_n 1, 1) := by decide +kernel
theorem dX9_keep_28 : decode cX9_keep 28 = .ok (.imul, 1) := by decide +kernel
theorem dX9_keep_29 : decode cX9_keep 29 = .ok (.iload_n 2, 1) := by decide +kernel
theorem dX9_keep_30 : decode cX9_keep 30 = .ok (.iadd, 1) := by decide +kernel
theorem dX9_keep_31 : decode cX9_keep 31 = .ok (.aload_n 0, 1) := by decide +kernel
theorem dX9_keep_32 : decode cX9_keep 32 = .ok (.getfield 19, 3) := by decide +kernel
theorem dX9_keep_35 : decode cX9_keep 35 = .ok (.iload_n 2, 1) := by decide +kernel
theorem dX9_keep_36 : decode cX9_keep 36 = .ok (.iaload, 1) := by decide +kernel
theorem dX9_keep_37 : decode cX9_keep 37 = .ok (.iastore, 1) := by decide +kernel
theorem dX9_keep_38 : decode cX9_keep 38 = .ok (.iinc 2 1, 3) := by decide +kernel
theorem dX9_keep_41 : decode cX9_keep 41 = .ok (.goto (-28), 3) := by decide +kernel
theorem dX9_keep_44 : decode cX9_keep 44 = .ok (.aload_n 0, 1) := by decide +kernel
theorem dX9_keep_45 : decode cX9_keep 45 = .ok (.getfield 25, 3) := by decide +kernel
theorem dX9_keep_48 : decode cX9_keep 48 = .ok (.iload_n 1, 1) := by decide +kernel
theorem dX9_keep_49 : decode cX9_keep 49 = .ok (.iconst 1, 1) := by decide +kernel
theorem dX9_keep_50 : decode cX9_keep 50 = .ok (.bastore, 1) := by decide +kernel
theorem dX9_keep_51 : decode cX9_keep 51 = .ok (.aload_n 0, 1) := by decide +kernel
theorem dX9_keep_52 : decode cX9_keep 52 = .ok (.getfield 19, 3) := by decide +kernel
theorem dX9_keep_55 : decode cX9_keep 55 = .ok (.bipush 64, 2) := by decide +kernel
theorem dX9_keep_57 : decode cX9_keep 57 = .ok (.iaload, 1) := by decide +kernel
theorem dX9_keep_58 : decode cX9_keep 58 = .ok (.ireturn, 1) := by decide +kernel
theorem dX9_back_0 : decode cX9_back 0 = .ok (.iload_n 1, 1) := by decide +kernel
theorem dX9_back_1 : decode cX9_back 1 = .ok (.iconst 0, 1) := by decide +kernel
theorem dX9_back_2 : decode cX9_back 2 = .ok (.iconst 1, 1) := by decide +kernel
theorem dX9_back_3 : decode cX9_back 3 = .ok (.invokestatic 54, 3) := by decide +kernel
theorem dX9_back_6 : decode cX9_back 6 = .ok (.ifCond .ne 5, 3) := by decide +kernel
theorem dX9_back_9 : decode cX9_back 9 = .ok (.iconst (-1), 1) := by decide +kernel
theorem dX9_back_10 : decode cX9_back 10 = .ok (.ireturn, 1) := by decide +kernel
theorem dX9_back_11 : decode cX9_back 11 = .ok (.aload_n 0, 1) := by decide +kernel
theorem dX9_back_12 : decode cX9_back 12 = .ok (.getfield 25, 3) := by decide +kernel
theorem dX9_back_15 : decode cX9_back 15 = .ok (.iload_n 1, 1) := by decide +kernel
theorem dX9_back_16 : decode cX9_back 16 = .ok (.baload, 1) := by decide +kernel
theorem dX9_back_17 : decode cX9_back 17 = .ok (.ifCond .ne 6, 3) := by decide +kernel
theorem dX9_back_20 : decode cX9_back 20 = .ok (.bipush (-2), 2) := by decide +kernel
theorem dX9_back_22 : decode cX9_back 22 = .ok (.ireturn, 1) := by decide +kernel
theorem dX9_back_23 : decode cX9_back 23 = .ok (.iconst 0, 1) := by decide +kernel
theorem dX9_back_24 : decode cX9_back 24 = .ok (.istore_n 2, 1) := by decide +kernel
theorem dX9_back_25 : decode cX9_back 25 = .ok (.iload_n 2, 1) := by decide +kernel
theorem dX9_back_26 : decode cX9_back 26 = .ok (.sipush 716, 3) := by decide +kernel
theorem dX9_back_29 : decode cX9_back 29 = .ok (.if_icmp .ge 27, 3) := by decide +kernel
theorem dX9_back_32 : decode cX9_back 32 = .ok (.aload_n 0, 1) := by decide +kernel
theorem dX9_back_33 : decode cX9_back 33 = .ok (.getfield 19, 3) := by decide +kernel
theorem dX9_back_36 : decode cX9_back 36 = .ok (.iload_n 2, 1) := by decide +kernel
theorem dX9_back_37 : decode cX9_back 37 = .ok (.aload_n 0, 1) := by decide +kernel
theorem dX9_back_38 : decode cX9_back 38 = .ok (.getfield 22, 3) := by decide +kernel
theorem dX9_back_41 : decode cX9_back 41 = .ok (.sipush 716, 3) := by decide +kernel
theorem dX9_back_44 : decode cX9_back 44 = .ok (.iload_n 1, 1) := by decide +kernel
theorem dX9_back_45 : decode cX9_back 45 = .ok (.imul, 1) := by decide +kernel
theorem dX9_back_46 : decode cX9_back 46 = .ok (.iload_n 2, 1) := by decide +kernel
theorem dX9_back_47 : decode cX9_back 47 = .ok (.iadd, 1) := by decide +kernel
theorem dX9_back_48 : decode cX9_back 48 = .ok (.iaload, 1) := by decide +kernel
theorem dX9_back_49 : decode cX9_back 49 = .ok (.iastore, 1) := by decide +kernel
theorem dX9_back_50 : decode cX9_back 50 = .ok (.iinc 2 1, 3) := by decide +kernel
theorem dX9_back_53 : decode cX9_back 53 = .ok (.goto (-28), 3) := by decide +kernel
theorem dX9_back_56 : decode cX9_back 56 = .ok (.aload_n 0, 1) := by decide +kernel
theorem dX9_back_57 : decode cX9_back 57 = .ok (.getfield 19, 3) := by decide +kernel
theorem dX9_back_60 : decode cX9_back 60 = .ok (.bipush 64, 2) := by decide +kernel
theorem dX9_back_62 : decode cX9_back 62 = .ok (.iaload, 1) := by decide +kernel
theorem dX9_back_63 : decode cX9_back 63 = .ok (.ireturn, 1) := by decide +kernel
theorem dX9_count_0 : decode cX9_count 0 = .ok (.iload_n 1, 1) := by decide +kernel
theorem dX9_count_1 : decode cX9_count 1 = .ok (.tableswitch 80 0 5 #[39, 46, 53, 60, 67, 75], 39) := by decide +kernel
theorem dX9_count_40 : decode cX9_count 40 = .ok (.aload_n 0, 1) := by decide +kernel
theorem dX9_count_41 : decode cX9_count 41 = .ok (.getfield 13, 3) := by decide +kernel
theorem dX9_count_44 : decode cX9_count 44 = .ok (.iconst 0, 1) := by decide +kernel
theorem dX9_count_45 : decode cX9_count 45 = .ok (.iaload, 1) := by decide +kernel
theorem dX9_count_46 : decode cX9_count 46 = .ok (.ireturn, 1) := by decide +kernel
theorem dX9_count_47 : decode cX9_count 47 = .ok (.aload_n 0, 1) := by decide +kernel
theorem dX9_count_48 : decode cX9_count 48 = .ok (.getfield 13, 3) := by decide +kernel
theorem dX9_count_51 : decode cX9_count 51 = .ok (.iconst 1, 1) := by decide +kernel
theorem dX9_count_52 : decode cX9_count 52 = .ok (.iaload, 1) := by decide +kernel
theorem dX9_count_53 : decode cX9_count 53 = .ok (.ireturn, 1) := by decide +kernel
theorem dX9_count_54 : decode cX9_count 54 = .ok (.aload_n 0, 1) := by decide +kernel
theorem dX9_count_55 : decode cX9_count 55 = .ok (.getfield 13, 3) := by decide +kernel
theorem dX9_count_58 : decode cX9_count 58 = .ok (.iconst 2, 1) := by decide +kernel
theorem dX9_count_59 : decode cX9_count 59 = .ok (.iaload, 1) := by decide +kernel
theorem dX9_count_60 : decode cX9_count 60 = .ok (.ireturn, 1) := by decide +kernel
theorem dX9_count_61 : decode cX9_count 61 = .ok (.aload_n 0, 1) := by decide +kernel
theorem dX9_count_62 : decode cX9_count 62 = .ok (.getfield 13, 3) := by decide +kernel
theorem dX9_count_65 : decode cX9_count 65 = .ok (.iconst 3, 1) := by decide +kernel
theorem dX9_count_66 : decode cX9_count 66 = .ok (.iaload, 1) := by decide +kernel
theorem dX9_count_67 : decode cX9_count 67 = .ok (.ireturn, 1) := by decide +kernel
theorem dX9_count_68 : decode cX9_count 68 = .ok (.aload_n 0, 1) := by decide +kernel
theorem dX9_count_69 : decode cX9_count 69 = .ok (.getfield 19, 3) := by decide +kernel
theorem dX9_count_72 : decode cX9_count 72 = .ok (.bipush 65, 2) := by decide +kernel
theorem dX9_count_74 : decode cX9_count 74 = .ok (.iaload, 1) := by decide +kernel
theorem dX9_count_75 : decode cX9_count 75 = .ok (.ireturn, 1) := by decide +kernel
theorem dX9_count_76 : decode cX9_count 76 = .ok (.aload_n 0, 1) := by decide +kernel
theorem dX9_count_77 : decode cX9_count 77 = .ok (.getfield 58, 3) := by decide +kernel
theorem dX9_count_80 : decode cX9_count 80 = .ok (.ireturn, 1) := by decide +kernel
theorem dX9_count_81 : decode cX9_count 81 = .ok (.iconst (-1), 1) := by decide +kernel
theorem dX9_count_82 : decode cX9_count 82 = .ok (.ireturn, 1) := by decide +kernel
theorem dX9_trace_0 : decode cX9_trace 0 = .ok (.aload_n 0, 1) := by decide +kernel
theorem dX9_trace_1 : decode cX9_trace 1 = .ok (.getfield 165, 3) := by decide +kernel
theorem dX9_trace_4 : decode cX9_trace 4 = .ok (.lreturn, 1) := by decide +kernel
