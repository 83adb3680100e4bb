theorem dX9_lays_138 : decode cX9_lays 138 = .ok (.invokevirtual 141, 3) := by decide +kernel
theorem dX9_lays_141 : decode cX9_lays 141 = .ok (.iadd, 1) := by decide +kernel
theorem dX9_lays_142 : decode cX9_lays 142 = .ok (.istore 7, 2) := by decide +kernel
theorem dX9_lays_144 : decode cX9_lays 144 = .ok (.aload_n 0, 1) := by decide +kernel
theorem dX9_lays_145 : decode cX9_lays 145 = .ok (.getfield 35, 3) := by decide +kernel
theorem dX9_lays_148 : decode cX9_lays 148 = .ok (.iload 5, 2) := by decide +kernel
theorem dX9_lays_150 : decode cX9_lays 150 = .ok (.iload 7, 2) := by decide +kernel
theorem dX9_lays_152 : decode cX9_lays 152 = .ok (.ifCond .lt 30, 3) := by decide +kernel
theorem dX9_lays_155 : decode cX9_lays 155 = .ok (.aload_n 0, 1) := by decide +kernel
theorem dX9_lays_156 : decode cX9_lays 156 = .ok (.getfield 35, 3) := by decide +kernel
theorem dX9_lays_159 : decode cX9_lays 159 = .ok (.iload 5, 2) := by decide +kernel
theorem dX9_lays_161 : decode cX9_lays 161 = .ok (.iaload, 1) := by decide +kernel
theorem dX9_lays_162 : decode cX9_lays 162 = .ok (.ifCond .lt 15, 3) := by decide +kernel
theorem dX9_lays_165 : decode cX9_lays 165 = .ok (.iload 7, 2) := by decide +kernel
theorem dX9_lays_167 : decode cX9_lays 167 = .ok (.aload_n 0, 1) := by decide +kernel
theorem dX9_lays_168 : decode cX9_lays 168 = .ok (.getfield 35, 3) := by decide +kernel
theorem dX9_lays_171 : decode cX9_lays 171 = .ok (.iload 5, 2) := by decide +kernel
theorem dX9_lays_173 : decode cX9_lays 173 = .ok (.iaload, 1) := by decide +kernel
theorem dX9_lays_174 : decode cX9_lays 174 = .ok (.if_icmp .ge 8, 3) := by decide +kernel
theorem dX9_lays_177 : decode cX9_lays 177 = .ok (.iload 7, 2) := by decide +kernel
theorem dX9_lays_179 : decode cX9_lays 179 = .ok (.goto 10, 3) := by decide +kernel
theorem dX9_lays_182 : decode cX9_lays 182 = .ok (.aload_n 0, 1) := by decide +kernel
theorem dX9_lays_183 : decode cX9_lays 183 = .ok (.getfield 35, 3) := by decide +kernel
theorem dX9_lays_186 : decode cX9_lays 186 = .ok (.iload 5, 2) := by decide +kernel
theorem dX9_lays_188 : decode cX9_lays 188 = .ok (.iaload, 1) := by decide +kernel
theorem dX9_lays_189 : decode cX9_lays 189 = .ok (.iastore, 1) := by decide +kernel
theorem dX9_lays_190 : decode cX9_lays 190 = .ok (.iinc 4 1, 3) := by decide +kernel
theorem dX9_lays_193 : decode cX9_lays 193 = .ok (.goto (-140), 3) := by decide +kernel
theorem dX9_lays_196 : decode cX9_lays 196 = .ok (.iinc 3 1, 3) := by decide +kernel
theorem dX9_lays_199 : decode cX9_lays 199 = .ok (.goto (-159), 3) := by decide +kernel
theorem dX9_lays_202 : decode cX9_lays 202 = .ok (.iinc 2 1, 3) := by decide +kernel
theorem dX9_lays_205 : decode cX9_lays 205 = .ok (.goto (-173), 3) := by decide +kernel
theorem dX9_lays_208 : decode cX9_lays 208 = .ok (.return_, 1) := by decide +kernel
theorem dX9_surest_0 : decode cX9_surest 0 = .ok (.iload_n 1, 1) := by decide +kernel
theorem dX9_surest_1 : decode cX9_surest 1 = .ok (.invokestatic 144, 3) := by decide +kernel
theorem dX9_surest_4 : decode cX9_surest 4 = .ok (.ifCond .eq 19, 3) := by decide +kernel
theorem dX9_surest_7 : decode cX9_surest 7 = .ok (.iload_n 2, 1) := by decide +kernel
theorem dX9_surest_8 : decode cX9_surest 8 = .ok (.invokestatic 144, 3) := by decide +kernel
theorem dX9_surest_11 : decode cX9_surest 11 = .ok (.ifCond .eq 12, 3) := by decide +kernel
theorem dX9_surest_14 : decode cX9_surest 14 = .ok (.iload_n 3, 1) := by decide +kernel
theorem dX9_surest_15 : decode cX9_surest 15 = .ok (.iconst 0, 1) := by decide +kernel
theorem dX9_surest_16 : decode cX9_surest 16 = .ok (.iconst 2, 1) := by decide +kernel
theorem dX9_surest_17 : decode cX9_surest 17 = .ok (.invokestatic 54, 3) := by decide +kernel
theorem dX9_surest_20 : decode cX9_surest 20 = .ok (.ifCond .ne 5, 3) := by decide +kernel
theorem dX9_surest_23 : decode cX9_surest 23 = .ok (.iconst (-1), 1) := by decide +kernel
theorem dX9_surest_24 : decode cX9_surest 24 = .ok (.ireturn, 1) := by decide +kernel
theorem dX9_surest_25 : decode cX9_surest 25 = .ok (.aload_n 0, 1) := by decide +kernel
theorem dX9_surest_26 : decode cX9_surest 26 = .ok (.iload_n 2, 1) := by decide +kernel
theorem dX9_surest_27 : decode cX9_surest 27 = .ok (.invokevirtual 147, 3) := by decide +kernel
theorem dX9_surest_30 : decode cX9_surest 30 = .ok (.aload_n 0, 1) := by decide +kernel
theorem dX9_surest_31 : decode cX9_surest 31 = .ok (.getfield 35, 3) := by decide +kernel
theorem dX9_surest_34 : decode cX9_surest 34 = .ok (.iload_n 1, 1) := by decide +kernel
theorem dX9_surest_35 : decode cX9_surest 35 = .ok (.iaload, 1) := by decide +kernel
theorem dX9_surest_36 : decode cX9_surest 36 = .ok (.ifCond .ge 6, 3) := by decide +kernel
theorem dX9_surest_39 : decode cX9_surest 39 = .ok (.bipush (-9), 2) := by decide +kernel
theorem dX9_surest_41 : decode cX9_surest 41 = .ok (.ireturn, 1) := by decide +kernel
theorem dX9_surest_42 : decode cX9_surest 42 = .ok (.bipush (-9), 2) := by decide +kernel
theorem dX9_surest_44 : decode cX9_surest 44 = .ok (.istore 4, 2) := by decide +kernel
theorem dX9_surest_46 : decode cX9_surest 46 = .ok (.aload_n 0, 1) := by decide +kernel
theorem dX9_surest_47 : decode cX9_surest 47 = .ok (.getfield 13, 3) := by decide +kernel
theorem dX9_surest_50 : decode cX9_surest 50 = .ok (.iconst 0, 1) := by decide +kernel
theorem dX9_surest_51 : decode cX9_surest 51 = .ok (.iaload, 1) := by decide +kernel
theorem dX9_surest_52 : decode cX9_surest 52 = .ok (.iconst 1, 1) := by decide +kernel
theorem dX9_surest_53 : decode cX9_surest 53 = .ok (.isub, 1) := by decide +kernel
theorem dX9_surest_54 : decode cX9_surest 54 = .ok (.istore 5, 2) := by decide +kernel
theorem dX9_surest_56 : decode cX9_surest 56 = .ok (.iload 5, 2) := by decide +kernel
theorem dX9_surest_58 : decode cX9_surest 58 = .ok (.ifCond .lt 82, 3) := by decide +kernel
theorem dX9_surest_61 : decode cX9_surest 61 = .ok (.aload_n 0, 1) := by decide +kernel
theorem dX9_surest_62 : decode cX9_surest 62 = .ok (.iload 5, 2) := by decide +kernel
theorem dX9_surest_64 : decode cX9_surest 64 = .ok (.iload_n 1, 1) := by decide +kernel
theorem dX9_surest_65 : decode cX9_surest 65 = .ok (.invokevirtual 151, 3) := by decide +kernel
theorem dX9_surest_68 : decode cX9_surest 68 = .ok (.istore 6, 2) := by decide +kernel
theorem dX9_surest_70 : decode cX9_surest 70 = .ok (.iload 6, 2) := by decide +kernel
theorem dX9_surest_72 : decode cX9_surest 72 = .ok (.ifCond .lt 45, 3) := by decide +kernel
theorem dX9_surest_75 : decode cX9_surest 75 = .ok (.aload_n 0, 1) := by decide +kernel
theorem dX9_surest_76 : decode cX9_surest 76 = .ok (.getfield 35, 3) := by decide +kernel
theorem dX9_surest_79 : decode cX9_surest 79 = .ok (.iload 6, 2) := by decide +kernel
theorem dX9_surest_81 : decode cX9_surest 81 = .ok (.iaload, 1) := by decide +kernel
theorem dX9_surest_82 : decode cX9_surest 82 = .ok (.ifCond .lt 35, 3) := by decide +kernel
theorem dX9_surest_85 : decode cX9_surest 85 = .ok (.iload_n 1, 1) := by decide +kernel
theorem dX9_surest_86 : decode cX9_surest 86 = .ok (.iload_n 2, 1) := by decide +kernel
theorem dX9_surest_87 : decode cX9_surest 87 = .ok (.if_icmp .eq 30, 3) := by decide +kernel
theorem dX9_surest_90 : decode cX9_surest 90 = .ok (.aload_n 0, 1) := by decide +kernel
theorem dX9_surest_91 : decode cX9_surest 91 = .ok (.getfield 35, 3) := by decide +kernel
theorem dX9_surest_94 : decode cX9_surest 94 = .ok (.iload 6, 2) := by decide +kernel
theorem dX9_surest_96 : decode cX9_surest 96 = .ok (.iaload, 1) := by decide +kernel
theorem dX9_surest_97 : decode cX9_surest 97 = .ok (.aload_n 0, 1) := by decide +kernel
theorem dX9_surest_98 : decode cX9_surest 98 = .ok (.iload 5, 2) := by decide +kernel
theorem dX9_surest_100 : decode cX9_surest 100 = .ok (.invokevirtual 141, 3) := by decide +kernel
theorem dX9_surest_103 : decode cX9_surest 103 = .ok (.iadd, 1) := by decide +kernel
theorem dX9_surest_104 : decode cX9_surest 104 = .ok (.aload_n 0, 1) := by decide +kernel
theorem dX9_surest_105 : decode cX9_surest 105 = .ok (.getfield 35, 3) := by decide +kernel
theorem dX9_surest_108 : decode cX9_surest 108 = .ok (.iload_n 1, 1) := by decide +kernel
theorem dX9_surest_109 : decode cX9_surest 109 = .ok (.iaload, 1) := by decide +kernel
theorem dX9_surest_110 : decode cX9_surest 110 = .ok (.if_icmp .ne 7, 3) := by decide +kernel
theorem dX9_surest_113 : decode cX9_surest 113 = .ok (.iconst 1, 1) := by decide +kernel
theorem dX9_surest_114 : decode cX9_surest 114 = .ok (.goto 4, 3) := by decide +kernel
theorem dX9_surest_117 : decode cX9_surest 117 = .ok (.iconst 0, 1) := by decide +kernel
theorem dX9_surest_118 : decode cX9_surest 118 = .ok (.istore 7, 2) := by decide +kernel
theorem dX9_surest_120 : decode cX9_surest 120 = .ok (.iload 7, 2) := by decide +kernel
theorem dX9_surest_122 : decode cX9_surest 122 = .ok (.ifCond .eq 8, 3) := by decide +kernel
theorem dX9_surest_125 : decode cX9_surest 125 = .ok (.iload 5, 2) := by decide +kernel
theorem dX9_surest_127 : decode cX9_surest 127 = .ok (.goto 5, 3) := by decide +kernel
theorem dX9_surest_130 : decode cX9_surest 130 = .ok (.iload 4, 2) := by decide +kernel
theorem dX9_surest_132 : decode cX9_surest 132 = .ok (.istore 4, 2) := by decide +kernel
theorem dX9_surest_134 : decode cX9_surest 134 = .ok (.iinc 5 (-1), 3) := by decide +kernel
theorem dX9_surest_137 : decode cX9_surest 137 = .ok (.goto (-81), 3) := by decide +kernel
theorem dX9_surest_140 : decode cX9_surest 140 = .ok (.iload_n 3, 1) := by decide +kernel
theorem dX9_surest_141 : decode cX9_surest 141 = .ok (.ifCond .ne 16, 3) := by decide +kernel
theorem dX9_surest_144 : decode cX9_surest 144 = .ok (.aload_n 0, 1) := by decide +kernel
theorem dX9_surest_145 : decode cX9_surest 145 = .ok (.getfield 35, 3) := by decide +kernel
theorem dX9_surest_148 : decode cX9_surest 148 = .ok (.iload_n 1, 1) := by decide +kernel
theorem dX9_surest_149 : decode cX9_surest 149 = .ok (.iaload, 1) := by decide +kernel
theorem dX9_surest_150 : decode cX9_surest 150 = .ok (.sipush 1000, 3) := by decide +kernel
theorem dX9_surest_153 : decode cX9_surest 153 = .ok (.idiv, 1) := by decide +kernel
theorem dX9_surest_154 : decode cX9_surest 154 = .ok (.goto 23, 3) := by decide +kernel
theorem dX9_surest_157 : decode cX9_surest 157 = .ok (.iload_n 3, 1) := by decide +kernel
theorem dX9_surest_158 : decode cX9_surest 158 = .ok (.iconst 1, 1) := by decide +kernel
theorem dX9_surest_159 : decode cX9_surest 159 = .ok (.if_icmp .ne 16, 3) := by decide +kernel
theorem dX9_surest_162 : decode cX9_surest 162 = .ok (.aload_n 0, 1) := by decide +kernel
theorem dX9_surest_163 : decode cX9_surest 163 = .ok (.getfield 35, 3) := by decide +kernel
theorem dX9_surest_166 : decode cX9_surest 166 = .ok (.iload_n 1, 1) := by decide +kernel
theorem dX9_surest_167 : decode cX9_surest 167 = .ok (.iaload, 1) := by decide +kernel
theorem dX9_surest_168 : decode cX9_surest 168 = .ok (.sipush 1000, 3) := by decide +kernel
theorem dX9_surest_171 : decode cX9_surest 171 = .ok (.irem, 1) := by decide +kernel
theorem dX9_surest_172 : decode cX9_surest 172 = .ok (.goto 5, 3) := by decide +kernel
theorem dX9_surest_175 : decode cX9_surest 175 = .ok (.iload 4, 2) := by decide +kernel
theorem dX9_surest_177 : decode cX9_surest 177 = .ok (.ireturn, 1) := by decide +kernel
theorem dX9_isWay_0 : decode cX9_isWay 0 = .ok (.iconst 1, 1) := by decide +kernel
theorem dX9_isWay_1 : decode cX9_isWay 1 = .ok (.iload_n 1, 1) := by decide +kernel
theorem dX9_isWay_2 : decode cX9_isWay 2 = .ok (.ishl, 1) := by decide +kernel
theorem dX9_isWay_3 : decode cX9_isWay 3 = .ok (.istore 4, 2) := by decide +kernel
theorem dX9_isWay_5 : decode cX9_isWay 5 = .ok (.iconst 0, 1) := by decide +kernel
theorem dX9_isWay_6 : decode cX9_isWay 6 = .ok (.istore 5, 2) := by decide +kernel
theorem dX9_isWay_8 : decode cX9_isWay 8 = .ok (.iload 5, 2) := by decide +kernel
theorem dX9_isWay_10 : decode cX9_isWay 10 = .ok (.bipush 7, 2) := by decide +kernel
theorem dX9_isWay_12 : decode cX9_isWay 12 = .ok (.if_icmp .ge 106, 3) := by decide +kernel
theorem dX9_isWay_15 : decode cX9_isWay 15 = .ok (.iconst 0, 1) := by decide +kernel
theorem dX9_isWay_16 : decode cX9_isWay 16 = .ok (.istore 6, 2) := by decide +kernel
theorem dX9_isWay_18 : decode cX9_isWay 18 = .ok (.iload 6, 2) := by decide +kernel
theorem dX9_isWay_20 : decode cX9_isWay 20 = .ok (.aload_n 0, 1) := by decide +kernel
theorem dX9_isWay_21 : decode cX9_isWay 21 = .ok (.getfield 13, 3) := by decide +kernel
theorem dX9_isWay_24 : decode cX9_isWay 24 = .ok (.iconst 0, 1) := by decide +kernel
theorem dX9_isWay_25 : decode cX9_isWay 25 = .ok (.iaload, 1) := by decide +kernel
theorem dX9_isWay_26 : decode cX9_isWay 26 = .ok (.if_icmp .ge 86, 3) := by decide +kernel
theorem dX9_isWay_29 : decode cX9_isWay 29 = .ok (.aload_n 0, 1) := by decide +kernel
theorem dX9_isWay_30 : decode cX9_isWay 30 = .ok (.getfield 13, 3) := by decide +kernel
theorem dX9_isWay_33 : decode cX9_isWay 33 = .ok (.bipush 6, 2) := by decide +kernel
theorem dX9_isWay_35 : decode cX9_isWay 35 = .ok (.iload 6, 2) := by decide +kernel
theorem dX9_isWay_37 : decode cX9_isWay 37 = .ok (.iadd, 1) := by decide +kernel
theorem dX9_isWay_38 : decode cX9_isWay 38 = .ok (.iaload, 1) := by decide +kernel
theorem dX9_isWay_39 : decode cX9_isWay 39 = .ok (.istore 7, 2) := by decide +kernel
theorem dX9_isWay_41 : decode cX9_isWay 41 = .ok (.aload_n 0, 1) := by decide +kernel
theorem dX9_isWay_42 : decode cX9_isWay 42 = .ok (.getfield 13, 3) := by decide +kernel
theorem dX9_isWay_45 : decode cX9_isWay 45 = .ok (.bipush 13, 2) := by decide +kernel
theorem dX9_isWay_47 : decode cX9_isWay 47 = .ok (.iload 6, 2) := by decide +kernel
theorem dX9_isWay_49 : decode cX9_isWay 49 = .ok (.iadd, 1) := by decide +kernel
theorem dX9_isWay_50 : decode cX9_isWay 50 = .ok (.iaload, 1) := by decide +kernel
theorem dX9_isWay_51 : decode cX9_isWay 51 = .ok (.istore 8, 2) := by decide +kernel
theorem dX9_isWay_53 : decode cX9_isWay 53 = .ok (.iload 6, 2) := by decide +kernel
theorem dX9_isWay_55 : decode cX9_isWay 55 = .ok (.iload_n 3, 1) := by decide +kernel
theorem dX9_isWay_56 : decode cX9_isWay 56 = .ok (.if_icmp .eq 24, 3) := by decide +kernel
theorem dX9_isWay_59 : decode cX9_isWay 59 = .ok (.iload 4, 2) := by decide +kernel
theorem dX9_isWay_61 : decode cX9_isWay 61 = .ok (.iload 7, 2) := by decide +kernel
theorem dX9_isWay_63 : decode cX9_isWay 63 = .ok (.ishr, 1) := by decide +kernel
theorem dX9_isWay_64 : decode cX9_isWay 64 = .ok (.iload 4, 2) := by decide +kernel
theorem dX9_isWay_66 : decode cX9_isWay 66 = .ok (.iload 8, 2) := by decide +kernel
theorem dX9_isWay_68 : decode cX9_isWay 68 = .ok (.ishr, 1) := by decide +kernel
theorem dX9_isWay_69 : decode cX9_isWay 69 = .ok (.ior, 1) := by decide +kernel
theorem dX9_isWay_70 : decode cX9_isWay 70 = .ok (.iconst 1, 1) := by decide +kernel
theorem dX9_isWay_71 : decode cX9_isWay 71 = .ok (.iand, 1) := by decide +kernel
theorem dX9_isWay_72 : decode cX9_isWay 72 = .ok (.iconst 1, 1) := by decide +kernel
theorem dX9_isWay_73 : decode cX9_isWay 73 = .ok (.if_icmp .ne 7, 3) := by decide +kernel
theorem dX9_isWay_76 : decode cX9_isWay 76 = .ok (.iconst 1, 1) := by decide +kernel
theorem dX9_isWay_77 : decode cX9_isWay 77 = .ok (.goto 4, 3) := by decide +kernel
theorem dX9_isWay_80 : decode cX9_isWay 80 = .ok (.iconst 0, 1) := by decide +kernel
theorem dX9_isWay_81 : decode cX9_isWay 81 = .ok (.istore 9, 2) := by decide +kernel
theorem dX9_isWay_83 : decode cX9_isWay 83 = .ok (.iload 4, 2) := by decide +kernel
theorem dX9_isWay_85 : decode cX9_isWay 85 = .ok (.iload 9, 2) := by decide +kernel
theorem dX9_isWay_87 : decode cX9_isWay 87 = .ok (.ifCond .eq 15, 3) := by decide +kernel
theorem dX9_isWay_90 : decode cX9_isWay 90 = .ok (.iconst 1, 1) := by decide +kernel
theorem dX9_isWay_91 : decode cX9_isWay 91 = .ok (.iload 7, 2) := by decide +kernel
theorem dX9_isWay_93 : decode cX9_isWay 93 = .ok (.ishl, 1) := by decide +kernel
theorem dX9_isWay_94 : decode cX9_isWay 94 = .ok (.iconst 1, 1) := by decide +kernel
theorem dX9_isWay_95 : decode cX9_isWay 95 = .ok (.iload 8, 2) := by decide +kernel
theorem dX9_isWay_97 : decode cX9_isWay 97 = .ok (.ishl, 1) := by decide +kernel
theorem dX9_isWay_98 : decode cX9_isWay 98 = .ok (.ior, 1) := by decide +kernel
theorem dX9_isWay_99 : decode cX9_isWay 99 = .ok (.goto 4, 3) := by decide +kernel
theorem dX9_isWay_102 : decode cX9_isWay 102 = .ok (.iconst 0, 1) := by decide +kernel
theorem dX9_isWay_103 : decode cX9_isWay 103 = .ok (.ior, 1) := by decide +kernel
theorem dX9_isWay_104 : decode cX9_isWay 104 = .ok (.istore 4, 2) := by decide +kernel
theorem dX9_isWay_106 : decode cX9_isWay 106 = .ok (.iinc 6 1, 3) := by decide +kernel
theorem dX9_isWay_109 : decode cX9_isWay 109 = .ok (.goto (-91), 3) := by decide +kernel
theorem dX9_isWay_112 : decode cX9_isWay 112 = .ok (.iinc 5 1, 3) := by decide +kernel
theorem dX9_isWay_115 : decode cX9_isWay 115 = .ok (.goto (-107), 3) := by decide +kernel
theorem dX9_isWay_118 : decode cX9_isWay 118 = .ok (.iload 4, 2) := by decide +kernel
theorem dX9_isWay_120 : decode cX9_isWay 120 = .ok (.iload_n 2, 1) := by decide +kernel
theorem dX9_isWay_121 : decode cX9_isWay 121 = .ok (.ishr, 1) := by decide +kernel
theorem dX9_isWay_122 : decode cX9_isWay 122 = .ok (.iconst 1, 1) := by decide +kernel
theorem dX9_isWay_123 : decode cX9_isWay 123 = .ok (.iand, 1) := by decide +kernel
theorem dX9_isWay_124 : decode cX9_isWay 124 = .ok (.iconst 1, 1) := by decide +kernel
theorem dX9_isWay_125 : decode cX9_isWay 125 = .ok (.if_icmp .ne 7, 3) := by decide +kernel
theorem dX9_isWay_128 : decode cX9_isWay 128 = .ok (.iconst 1, 1) := by decide +kernel
theorem dX9_isWay_129 : decode cX9_isWay 129 = .ok (.goto 4, 3) := by decide +kernel
theorem dX9_isWay_132 : decode cX9_isWay 132 = .ok (.iconst 0, 1) := by decide +kernel
theorem dX9_isWay_133 : decode cX9_isWay 133 = .ok (.ireturn, 1) := by decide +kernel
theorem dX9_bars_0 : decode cX9_bars 0 = .ok (.iload_n 1, 1) := by decide +kernel
theorem dX9_bars_1 : decode cX9_bars 1 = .ok (.invokestatic 144, 3) := by decide +kernel
theorem dX9_bars_4 : decode cX9_bars 4 = .ok (.ifCond .eq 10, 3) := by decide +kernel
theorem dX9_bars_7 : decode cX9_bars 7 = .ok (.iload_n 2, 1) := by decide +kernel
theorem dX9_bars_8 : decode cX9_bars 8 = .ok (.invokestatic 144, 3) := by decide +kernel
theorem dX9_bars_11 : decode cX9_bars 11 = .ok (.ifCond .ne 5, 3) := by decide +kernel
theorem dX9_bars_14 : decode cX9_bars 14 = .ok (.iconst (-1), 1) := by decide +kernel
theorem dX9_bars_15 : decode cX9_bars 15 = .ok (.ireturn, 1) := by decide +kernel
theorem dX9_bars_16 : decode cX9_bars 16 = .ok (.iconst 0, 1) := by decide +kernel
theorem dX9_bars_17 : decode cX9_bars 17 = .ok (.istore_n 3, 1) := by decide +kernel
theorem dX9_bars_18 : decode cX9_bars 18 = .ok (.iconst 0, 1) := by decide +kernel
theorem dX9_bars_19 : decode cX9_bars 19 = .ok (.istore 4, 2) := by decide +kernel
theorem dX9_bars_21 : decode cX9_bars 21 = .ok (.iload 4, 2) := by decide +kernel
theorem dX9_bars_23 : decode cX9_bars 23 = .ok (.aload_n 0, 1) := by decide +kernel
theorem dX9_bars_24 : decode cX9_bars 24 = .ok (.getfield 13, 3) := by decide +kernel
theorem dX9_bars_27 : decode cX9_bars 27 = .ok (.iconst 0, 1) := by decide +kernel
theorem dX9_bars_28 : decode cX9_bars 28 = .ok (.iaload, 1) := by decide +kernel
theorem dX9_bars_29 : decode cX9_bars 29 = .ok (.if_icmp .ge 41, 3) := by decide +kernel
theorem dX9_bars_32 : decode cX9_bars 32 = .ok (.iload_n 3, 1) := by decide +kernel
theorem dX9_bars_33 : decode cX9_bars 33 = .ok (.aload_n 0, 1) := by decide +kernel
theorem dX9_bars_34 : decode cX9_bars 34 = .ok (.iload_n 1, 1) := by decide +kernel
theorem dX9_bars_35 : decode cX9_bars 35 = .ok (.iload_n 2, 1) := by decide +kernel
theorem dX9_bars_36 : decode cX9_bars 36 = .ok (.iconst (-1), 1) := by decide +kernel
theorem dX9_bars_37 : decode cX9_bars 37 = .ok (.invokevirtual 154, 3) := by decide +kernel
theorem dX9_bars_40 : decode cX9_bars 40 = .ok (.ifCond .eq 21, 3) := by decide +kernel
theorem dX9_bars_43 : decode cX9_bars 43 = .ok (.aload_n 0, 1) := by decide +kernel
theorem dX9_bars_44 : decode cX9_bars 44 = .ok (.iload_n 1, 1) := by decide +kernel
theorem dX9_bars_45 : decode cX9_bars 45 = .ok (.iload_n 2, 1) := by decide +kernel
theorem dX9_bars_46 : decode cX9_bars 46 = .ok (.iload 4, 2) := by decide +kernel
theorem dX9_bars_48 : decode cX9_bars 48 = .ok (.invokevirtual 154, 3) := by decide +kernel
theorem dX9_bars_51 : decode cX9_bars 51 = .ok (.ifCond .ne 10, 3) := by decide +kernel
theorem dX9_bars_54 : decode cX9_bars 54 = .ok (.iconst 1, 1) := by decide +kernel
theorem dX9_bars_55 : decode cX9_bars 55 = .ok (.iload 4, 2) := by decide +kernel
theorem dX9_bars_57 : decode cX9_bars 57 = .ok (.ishl, 1) := by decide +kernel
theorem dX9_bars_58 : decode cX9_bars 58 = .ok (.goto 4, 3) := by decide +kernel
theorem dX9_bars_61 : decode cX9_bars 61 = .ok (.iconst 0, 1) := by decide +kernel
theorem dX9_bars_62 : decode cX9_bars 62 = .ok (.ior, 1) := by decide +kernel
theorem dX9_bars_63 : decode cX9_bars 63 = .ok (.istore_n 3, 1) := by decide +kernel
theorem dX9_bars_64 : decode cX9_bars 64 = .ok (.iinc 4 1, 3) := by decide +kernel
theorem dX9_bars_67 : decode cX9_bars 67 = .ok (.goto (-46), 3) := by decide +kernel
theorem dX9_bars_70 : decode cX9_bars 70 = .ok (.iload_n 3, 1) := by decide +kernel
theorem dX9_bars_71 : decode cX9_bars 71 = .ok (.ireturn, 1) := by decide +kernel
theorem dX9_better_0 : decode cX9_better 0 = .ok (.iload_n 0, 1) := by decide +kernel
theorem dX9_better_1 : decode cX9_better 1 = .ok (.ifCond .lt 12, 3) := by decide +kernel
theorem dX9_better_4 : decode cX9_better 4 = .ok (.iload_n 1, 1) := by decide +kernel
theorem dX9_better_5 : decode cX9_better 5 = .ok (.ifCond .lt 12, 3) := by decide +kernel
theorem dX9_better_8 : decode cX9_better 8 = .ok (.iload_n 1, 1) := by decide +kernel
theorem dX9_better_9 : decode cX9_better 9 = .ok (.iload_n 0, 1) := by decide +kernel
theorem dX9_better_10 : decode cX9_better 10 = .ok (.if_icmp .ge 7, 3) := by decide +kernel
theorem dX9_better_13 : decode cX9_better 13 = .ok (.iload_n 1, 1) := by decide +kernel
theorem dX9_better_14 : decode cX9_better 14 = .ok (.goto 4, 3) := by decide +kernel
theorem dX9_better_17 : decode cX9_better 17 = .ok (.iload_n 0, 1) := by decide +kernel
theorem dX9_better_18 : decode cX9_better 18 = .ok (.ireturn, 1) := by decide +kernel
theorem dX9_paid_0 : decode cX9_paid 0 = .ok (.aload_n 0, 1) := by decide +kernel
theorem dX9_paid_1 : decode cX9_paid 1 = .ok (.iload_n 1, 1) := by decide +kernel
theorem dX9_paid_2 : decode cX9_paid 2 = .ok (.invokevirtual 104, 3) := by decide +kernel
theorem dX9_paid_5 : decode cX9_paid 5 = .ok (.ifCond .eq 12, 3) := by decide +kernel
theorem dX9_paid_8 : decode cX9_paid 8 = .ok (.iload_n 2, 1) := by decide +kernel
theorem dX9_paid_9 : decode cX9_paid 9 = .ok (.iconst 0, 1) := by decide +kernel
theorem dX9_paid_10 : decode cX9_paid 10 = .ok (.iconst 1, 1) := by decide +kernel
theorem dX9_paid_11 : decode cX9_paid 11 = .ok (.invokestatic 54, 3) := by decide +kernel
theorem dX9_paid_14 : decode cX9_paid 14 = .ok (.ifCond .ne 5, 3) := by decide +kernel
theorem dX9_paid_17 : decode cX9_paid 17 = .ok (.iconst (-1), 1) := by decide +kernel
theorem dX9_paid_18 : decode cX9_paid 18 = .ok (.ireturn, 1) := by decide +kernel
theorem dX9_paid_19 : decode cX9_paid 19 = .ok (.iconst 1, 1) := by decide +kernel
theorem dX9_paid_20 : decode cX9_paid 20 = .ok (.istore_n 3, 1) := by decide +kernel
theorem dX9_paid_21 : decode cX9_paid 21 = .ok (.iload_n 3, 1) := by decide +kernel
theorem dX9_paid_22 : decode cX9_paid 22 = .ok (.aload_n 0, 1) := by decide +kernel
theorem dX9_paid_23 : decode cX9_paid 23 = .ok (.getfield 19, 3) := by decide +kernel
theorem dX9_paid_26 : decode cX9_paid 26 = .ok (.iload_n 1, 1) := by decide +kernel
theorem dX9_paid_27 : decode cX9_paid 27 = .ok (.iaload, 1) := by decide +kernel
theorem dX9_paid_28 : decode cX9_paid 28 = .ok (.if_icmp .gt 176, 3) := by decide +kernel
theorem dX9_paid_31 : decode cX9_paid 31 = .ok (.iconst (-1), 1) := by decide +kernel
theorem dX9_paid_32 : decode cX9_paid 32 = .ok (.istore 4, 2) := by decide +kernel
theorem dX9_paid_34 : decode cX9_paid 34 = .ok (.iconst 0, 1) := by decide +kernel
theorem dX9_paid_35 : decode cX9_paid 35 = .ok (.istore 5, 2) := by decide +kernel
theorem dX9_paid_37 : decode cX9_paid 37 = .ok (.iload 5, 2) := by decide +kernel
theorem dX9_paid_39 : decode cX9_paid 39 = .ok (.aload_n 0, 1) := by decide +kernel
theorem dX9_paid_40 : decode cX9_paid 40 = .ok (.getfield 13, 3) := by decide +kernel
theorem dX9_paid_43 : decode cX9_paid 43 = .ok (.iconst 1, 1) := by decide +kernel
theorem dX9_paid_44 : decode cX9_paid 44 = .ok (.iaload, 1) := by decide +kernel
theorem dX9_paid_45 : decode cX9_paid 45 = .ok (.if_icmp .ge 145, 3) := by decide +kernel
theorem dX9_paid_48 : decode cX9_paid 48 = .ok (.iload_n 3, 1) := by decide +kernel
theorem dX9_paid_49 : decode cX9_paid 49 = .ok (.aload_n 0, 1) := by decide +kernel
theorem dX9_paid_50 : decode cX9_paid 50 = .ok (.iload 5, 2) := by decide +kernel
theorem dX9_paid_52 : decode cX9_paid 52 = .ok (.invokevirtual 117, 3) := by decide +kernel
theorem dX9_paid_55 : decode cX9_paid 55 = .ok (.isub, 1) := by decide +kernel
theorem dX9_paid_56 : decode cX9_paid 56 = .ok (.istore 6, 2) := by decide +kernel
theorem dX9_paid_58 : decode cX9_paid 58 = .ok (.iload 4, 2) := by decide +kernel
theorem dX9_paid_60 : decode cX9_paid 60 = .ok (.aload_n 0, 1) := by decide +kernel
theorem dX9_paid_61 : decode cX9_paid 61 = .ok (.getfield 38, 3) := by decide +kernel
theorem dX9_paid_64 : decode cX9_paid 64 = .ok (.iload 6, 2) := by decide +kernel
theorem dX9_paid_66 : decode cX9_paid 66 = .ok (.ifCond .ge 7, 3) := by decide +kernel
theorem dX9_paid_69 : decode cX9_paid 69 = .ok (.iconst 0, 1) := by decide +kernel
theorem dX9_paid_70 : decode cX9_paid 70 = .ok (.goto 5, 3) := by decide +kernel
theorem dX9_paid_73 : decode cX9_paid 73 = .ok (.iload 6, 2) := by decide +kernel
theorem dX9_paid_75 : decode cX9_paid 75 = .ok (.iaload, 1) := by decide +kernel
theorem dX9_paid_76 : decode cX9_paid 76 = .ok (.sipush 10000, 3) := by decide +kernel
theorem dX9_paid_79 : decode cX9_paid 79 = .ok (.aload_n 0, 1) := by decide +kernel
theorem dX9_paid_80 : decode cX9_paid 80 = .ok (.getfield 13, 3) := by decide +kernel
theorem dX9_paid_83 : decode cX9_paid 83 = .ok (.bipush 44, 2) := by decide +kernel
theorem dX9_paid_85 : decode cX9_paid 85 = .ok (.iload 5, 2) := by decide +kernel
theorem dX9_paid_87 : decode cX9_paid 87 = .ok (.iadd, 1) := by decide +kernel
theorem dX9_paid_88 : decode cX9_paid 88 = .ok (.iaload, 1) := by decide +kernel
theorem dX9_paid_89 : decode cX9_paid 89 = .ok (.imul, 1) := by decide +kernel
theorem dX9_paid_90 : decode cX9_paid 90 = .ok (.iadd, 1) := by decide +kernel
theorem dX9_paid_91 : decode cX9_paid 91 = .ok (.iconst 1, 1) := by decide +kernel
theorem dX9_paid_92 : decode cX9_paid 92 = .ok (.iadd, 1) := by decide +kernel
theorem dX9_paid_93 : decode cX9_paid 93 = .ok (.invokestatic 157, 3) := by decide +kernel
theorem dX9_paid_96 : decode cX9_paid 96 = .ok (.istore 4, 2) := by decide +kernel
theorem dX9_paid_98 : decode cX9_paid 98 = .ok (.iconst 0, 1) := by decide +kernel
theorem dX9_paid_99 : decode cX9_paid 99 = .ok (.istore 7, 2) := by decide +kernel
theorem dX9_paid_101 : decode cX9_paid 101 = .ok (.iload 7, 2) := by decide +kernel
theorem dX9_paid_103 : decode cX9_paid 103 = .ok (.iload 5, 2) := by decide +kernel
theorem dX9_paid_105 : decode cX9_paid 105 = .ok (.if_icmp .ge 79, 3) := by decide +kernel
theorem dX9_paid_108 : decode cX9_paid 108 = .ok (.aload_n 0, 1) := by decide +kernel
theorem dX9_paid_109 : decode cX9_paid 109 = .ok (.getfield 13, 3) := by decide +kernel
theorem dX9_paid_112 : decode cX9_paid 112 = .ok (.iconst 3, 1) := by decide +kernel
theorem dX9_paid_113 : decode cX9_paid 113 = .ok (.iaload, 1) := by decide +kernel
theorem dX9_paid_114 : decode cX9_paid 114 = .ok (.ifCond .le 70, 3) := by decide +kernel
theorem dX9_paid_117 : decode cX9_paid 117 = .ok (.iload_n 3, 1) := by decide +kernel
theorem dX9_paid_118 : decode cX9_paid 118 = .ok (.aload_n 0, 1) := by decide +kernel
theorem dX9_paid_119 : decode cX9_paid 119 = .ok (.getfield 13, 3) := by decide +kernel
theorem dX9_paid_122 : decode cX9_paid 122 = .ok (.iconst 3, 1) := by decide +kernel
theorem dX9_paid_123 : decode cX9_paid 123 = .ok (.iaload, 1) := by decide +kernel
theorem dX9_paid_124 : decode cX9_paid 124 = .ok (.isub, 1) := by decide +kernel
theorem dX9_paid_125 : decode cX9_paid 125 = .ok (.istore 8, 2) := by decide +kernel
theorem dX9_paid_127 : decode cX9_paid 127 = .ok (.iload 4, 2) := by decide +kernel
theorem dX9_paid_129 : decode cX9_paid 129 = .ok (.aload_n 0, 1) := by decide +kernel
theorem dX9_paid_130 : decode cX9_paid 130 = .ok (.getfield 38, 3) := by decide +kernel
theorem dX9_paid_133 : decode cX9_paid 133 = .ok (.iload 8, 2) := by decide +kernel
theorem dX9_paid_135 : decode cX9_paid 135 = .ok (.ifCond .ge 7, 3) := by decide +kernel
theorem dX9_paid_138 : decode cX9_paid 138 = .ok (.iconst 0, 1) := by decide +kernel
theorem dX9_paid_139 : decode cX9_paid 139 = .ok (.goto 5, 3) := by decide +kernel
theorem dX9_paid_142 : decode cX9_paid 142 = .ok (.iload 8, 2) := by decide +kernel
theorem dX9_paid_144 : decode cX9_paid 144 = .ok (.iaload, 1) := by decide +kernel
theorem dX9_paid_145 : decode cX9_paid 145 = .ok (.sipush 10000, 3) := by decide +kernel
theorem dX9_paid_148 : decode cX9_paid 148 = .ok (.aload_n 0, 1) := by decide +kernel
theorem dX9_paid_149 : decode cX9_paid 149 = .ok (.getfield 13, 3) := by decide +kernel
theorem dX9_paid_152 : decode cX9_paid 152 = .ok (.bipush 44, 2) := by decide +kernel
theorem dX9_paid_154 : decode cX9_paid 154 = .ok (.iload 5, 2) := by decide +kernel
theorem dX9_paid_156 : decode cX9_paid 156 = .ok (.iadd, 1) := by decide +kernel
theorem dX9_paid_157 : decode cX9_paid 157 = .ok (.iaload, 1) := by decide +kernel
theorem dX9_paid_158 : decode cX9_paid 158 = .ok (.aload_n 0, 1) := by decide +kernel
theorem dX9_paid_159 : decode cX9_paid 159 = .ok (.getfield 13, 3) := by decide +kernel
theorem dX9_paid_162 : decode cX9_paid 162 = .ok (.bipush 44, 2) := by decide +kernel
theorem dX9_paid_164 : decode cX9_paid 164 = .ok (.iload 7, 2) := by decide +kernel
theorem dX9_paid_166 : decode cX9_paid 166 = .ok (.iadd, 1) := by decide +kernel
theorem dX9_paid_167 : decode cX9_paid 167 = .ok (.iaload, 1) := by decide +kernel
theorem dX9_paid_168 : decode cX9_paid 168 = .ok (.iadd, 1) := by decide +kernel
theorem dX9_paid_169 : decode cX9_paid 169 = .ok (.imul, 1) := by decide +kernel
theorem dX9_paid_170 : decode cX9_paid 170 = .ok (.iadd, 1) := by decide +kernel
theorem dX9_paid_171 : decode cX9_paid 171 = .ok (.iconst 1, 1) := by decide +kernel
theorem dX9_paid_172 : decode cX9_paid 172 = .ok (.iadd, 1) := by decide +kernel
theorem dX9_paid_173 : decode cX9_paid 173 = .ok (.invokestatic 157, 3) := by decide +kernel
theorem dX9_paid_176 : decode cX9_paid 176 = .ok (.istore 4, 2) := by decide +kernel
theorem dX9_paid_178 : decode cX9_paid 178 = .ok (.iinc 7 1, 3) := by decide +kernel
theorem dX9_paid_181 : decode cX9_paid 181 = .ok (.goto (-80), 3) := by decide +kernel
theorem dX9_paid_184 : decode cX9_paid 184 = .ok (.iinc 5 1, 3) := by decide +kernel
theorem dX9_paid_187 : decode cX9_paid 187 = .ok (.goto (-150), 3) := by decide +kernel
theorem dX9_paid_190 : decode cX9_paid 190 = .ok (.aload_n 0, 1) := by decide +kernel
theorem dX9_paid_191 : decode cX9_paid 191 = .ok (.getfield 38, 3) := by decide +kernel
theorem dX9_paid_194 : decode cX9_paid 194 = .ok (.iload_n 3, 1) := by decide +kernel
theorem dX9_paid_195 : decode cX9_paid 195 = .ok (.iload 4, 2) := by decide +kernel
theorem dX9_paid_197 : decode cX9_paid 197 = .ok (.iastore, 1) := by decide +kernel
theorem dX9_paid_198 : decode cX9_paid 198 = .ok (.iinc 3 1, 3) := by decide +kernel
theorem dX9_paid_201 : decode cX9_paid 201 = .ok (.goto (-180), 3) := by decide +kernel
theorem dX9_paid_204 : decode cX9_paid 204 = .ok (.aload_n 0, 1) := by decide +kernel
theorem dX9_paid_205 : decode cX9_paid 205 = .ok (.getfield 19, 3) := by decide +kernel
theorem dX9_paid_208 : decode cX9_paid 208 = .ok (.iload_n 1, 1) := by decide +kernel
theorem dX9_paid_209 : decode cX9_paid 209 = .ok (.iaload, 1) := by decide +kernel
theorem dX9_paid_210 : decode cX9_paid 210 = .ok (.ifCond .le 15, 3) := by decide +kernel
theorem dX9_paid_213 : decode cX9_paid 213 = .ok (.aload_n 0, 1) := by decide +kernel
theorem dX9_paid_214 : decode cX9_paid 214 = .ok (.getfield 13, 3) := by decide +kernel
theorem dX9_paid_217 : decode cX9_paid 217 = .ok (.iconst 1, 1) := by decide +kernel
theorem dX9_paid_218 : decode cX9_paid 218 = .ok (.iaload, 1) := by decide +kernel
theorem dX9_paid_219 : decode cX9_paid 219 = .ok (.ifCond .ne 6, 3) := by decide +kernel
theorem dX9_paid_222 : decode cX9_paid 222 = .ok (.bipush (-9), 2) := by decide +kernel
theorem dX9_paid_224 : decode cX9_paid 224 = .ok (.ireturn, 1) := by decide +kernel
theorem dX9_paid_225 : decode cX9_paid 225 = .ok (.iload_n 2, 1) := by decide +kernel
theorem dX9_paid_226 : decode cX9_paid 226 = .ok (.ifCond .ne 21, 3) := by decide +kernel
theorem dX9_paid_229 : decode cX9_paid 229 = .ok (.aload_n 0, 1) := by decide +kernel
theorem dX9_paid_230 : decode cX9_paid 230 = .ok (.getfield 38, 3) := by decide +kernel
theorem dX9_paid_233 : decode cX9_paid 233 = .ok (.aload_n 0, 1) := by decide +kernel
theorem dX9_paid_234 : decode cX9_paid 234 = .ok (.getfield 19, 3) := by decide +kernel
theorem dX9_paid_237 : decode cX9_paid 237 = .ok (.iload_n 1, 1) := by decide +kernel
theorem dX9_paid_238 : decode cX9_paid 238 = .ok (.iaload, 1) := by decide +kernel
theorem dX9_paid_239 : decode cX9_paid 239 = .ok (.iaload, 1) := by decide +kernel
theorem dX9_paid_240 : decode cX9_paid 240 = .ok (.sipush 10000, 3) := by decide +kernel
theorem dX9_paid_243 : decode cX9_paid 243 = .ok (.idiv, 1) := by decide +kernel
theorem dX9_paid_244 : decode cX9_paid 244 = .ok (.goto 18, 3) := by decide +kernel
theorem dX9_paid_247 : decode cX9_paid 247 = .ok (.aload_n 0, 1) := by decide +kernel
theorem dX9_paid_248 : decode cX9_paid 248 = .ok (.getfield 38, 3) := by decide +kernel
theorem dX9_paid_251 : decode cX9_paid 251 = .ok (.aload_n 0, 1) := by decide +kernel
theorem dX9_paid_252 : decode cX9_paid 252 = .ok (.getfield 19, 3) := by decide +kernel
theorem dX9_paid_255 : decode cX9_paid 255 = .ok (.iload_n 1, 1) := by decide +kernel
theorem dX9_paid_256 : decode cX9_paid 256 = .ok (.iaload, 1) := by decide +kernel
theorem dX9_paid_257 : decode cX9_paid 257 = .ok (.iaload, 1) := by decide +kernel
theorem dX9_paid_258 : decode cX9_paid 258 = .ok (.sipush 10000, 3) := by decide +kernel
theorem dX9_paid_261 : decode cX9_paid 261 = .ok (.irem, 1) := by decide +kernel
theorem dX9_paid_262 : decode cX9_paid 262 = .ok (.ireturn, 1) := by decide +kernel
theorem dX9_dueBy_0 : decode cX9_dueBy 0 = .ok (.iload_n 2, 1) := by decide +kernel
theorem dX9_dueBy_1 : decode cX9_dueBy 1 = .ok (.bipush 11, 2) := by decide +kernel
theorem dX9_dueBy_3 : decode cX9_dueBy 3 = .ok (.if_icmp .le 7, 3) := by decide +kernel
theorem dX9_dueBy_6 : decode cX9_dueBy 6 = .ok (.iconst 0, 1) := by decide +kernel
theorem dX9_dueBy_7 : decode cX9_dueBy 7 = .ok (.goto 9, 3) := by decide +kernel
theorem dX9_dueBy_10 : decode cX9_dueBy 10 = .ok (.aload_n 0, 1) := by decide +kernel
theorem dX9_dueBy_11 : decode cX9_dueBy 11 = .ok (.getfield 19, 3) := by decide +kernel
theorem dX9_dueBy_14 : decode cX9_dueBy 14 = .ok (.iload_n 1, 1) := by decide +kernel
theorem dX9_dueBy_15 : decode cX9_dueBy 15 = .ok (.iaload, 1) := by decide +kernel
theorem dX9_dueBy_16 : decode cX9_dueBy 16 = .ok (.istore_n 3, 1) := by decide +kernel
theorem dX9_dueBy_17 : decode cX9_dueBy 17 = .ok (.aload_n 0, 1) := by decide +kernel
theorem dX9_dueBy_18 : decode cX9_dueBy 18 = .ok (.getfield 13, 3) := by decide +kernel
theorem dX9_dueBy_21 : decode cX9_dueBy 21 = .ok (.iconst 2, 1) := by decide +kernel
theorem dX9_dueBy_22 : decode cX9_dueBy 22 = .ok (.iaload, 1) := by decide +kernel
theorem dX9_dueBy_23 : decode cX9_dueBy 23 = .ok (.aload_n 0, 1) := by decide +kernel
theorem dX9_dueBy_24 : decode cX9_dueBy 24 = .ok (.getfield 19, 3) := by decide +kernel
theorem dX9_dueBy_27 : decode cX9_dueBy 27 = .ok (.bipush 7, 2) := by decide +kernel
theorem dX9_dueBy_29 : decode cX9_dueBy 29 = .ok (.iload_n 1, 1) := by decide +kernel
theorem dX9_dueBy_30 : decode cX9_dueBy 30 = .ok (.iadd, 1) := by decide +kernel
theorem dX9_dueBy_31 : decode cX9_dueBy 31 = .ok (.iaload, 1) := by decide +kernel
theorem dX9_dueBy_32 : decode cX9_dueBy 32 = .ok (.isub, 1) := by decide +kernel
theorem dX9_dueBy_33 : decode cX9_dueBy 33 = .ok (.istore 4, 2) := by decide +kernel
theorem dX9_dueBy_35 : decode cX9_dueBy 35 = .ok (.iconst 0, 1) := by decide +kernel
theorem dX9_dueBy_36 : decode cX9_dueBy 36 = .ok (.istore 5, 2) := by decide +kernel
theorem dX9_dueBy_38 : decode cX9_dueBy 38 = .ok (.iconst 3, 1) := by decide +kernel
theorem dX9_dueBy_39 : decode cX9_dueBy 39 = .ok (.iload 5, 2) := by decide +kernel
theorem dX9_dueBy_41 : decode cX9_dueBy 41 = .ok (.imul, 1) := by decide +kernel
theorem dX9_dueBy_42 : decode cX9_dueBy 42 = .ok (.iload_n 2, 1) := by decide +kernel
theorem dX9_dueBy_43 : decode cX9_dueBy 43 = .ok (.if_icmp .gt 58, 3) := by decide +kernel
theorem dX9_dueBy_46 : decode cX9_dueBy 46 = .ok (.iload_n 2, 1) := by decide +kernel
theorem dX9_dueBy_47 : decode cX9_dueBy 47 = .ok (.iconst 3, 1) := by decide +kernel
theorem dX9_dueBy_48 : decode cX9_dueBy 48 = .ok (.iload 5, 2) := by decide +kernel
theorem dX9_dueBy_50 : decode cX9_dueBy 50 = .ok (.imul, 1) := by decide +kernel
theorem dX9_dueBy_51 : decode cX9_dueBy 51 = .ok (.isub, 1) := by decide +kernel
theorem dX9_dueBy_52 : decode cX9_dueBy 52 = .ok (.istore 6, 2) := by decide +kernel
theorem dX9_dueBy_54 : decode cX9_dueBy 54 = .ok (.aload_n 0, 1) := by decide +kernel
theorem dX9_dueBy_55 : decode cX9_dueBy 55 = .ok (.getfield 19, 3) := by decide +kernel
theorem dX9_dueBy_58 : decode cX9_dueBy 58 = .ok (.iload_n 1, 1) := by decide +kernel
theorem dX9_dueBy_59 : decode cX9_dueBy 59 = .ok (.iaload, 1) := by decide +kernel
theorem dX9_dueBy_60 : decode cX9_dueBy 60 = .ok (.iconst 4, 1) := by decide +kernel
theorem dX9_dueBy_61 : decode cX9_dueBy 61 = .ok (.iload 5, 2) := by decide +kernel
theorem dX9_dueBy_63 : decode cX9_dueBy 63 = .ok (.imul, 1) := by decide +kernel
theorem dX9_dueBy_64 : decode cX9_dueBy 64 = .ok (.isub, 1) := by decide +kernel
theorem dX9_dueBy_65 : decode cX9_dueBy 65 = .ok (.iload 6, 2) := by decide +kernel
theorem dX9_dueBy_67 : decode cX9_dueBy 67 = .ok (.iload 4, 2) := by decide +kernel
theorem dX9_dueBy_69 : decode cX9_dueBy 69 = .ok (.if_icmp .ge 8, 3) := by decide +kernel
theorem dX9_dueBy_72 : decode cX9_dueBy 72 = .ok (.iload 6, 2) := by decide +kernel
theorem dX9_dueBy_74 : decode cX9_dueBy 74 = .ok (.goto 5, 3) := by decide +kernel
theorem dX9_dueBy_77 : decode cX9_dueBy 77 = .ok (.iload 4, 2) := by decide +kernel
theorem dX9_dueBy_79 : decode cX9_dueBy 79 = .ok (.isub, 1) := by decide +kernel
theorem dX9_dueBy_80 : decode cX9_dueBy 80 = .ok (.istore 7, 2) := by decide +kernel
theorem dX9_dueBy_82 : decode cX9_dueBy 82 = .ok (.iload 7, 2) := by decide +kernel
theorem dX9_dueBy_84 : decode cX9_dueBy 84 = .ok (.iload_n 3, 1) := by decide +kernel
theorem dX9_dueBy_85 : decode cX9_dueBy 85 = .ok (.if_icmp .ge 8, 3) := by decide +kernel
theorem dX9_dueBy_88 : decode cX9_dueBy 88 = .ok (.iload 7, 2) := by decide +kernel
theorem dX9_dueBy_90 : decode cX9_dueBy 90 = .ok (.goto 4, 3) := by decide +kernel
theorem dX9_dueBy_93 : decode cX9_dueBy 93 = .ok (.iload_n 3, 1) := by decide +kernel
theorem dX9_dueBy_94 : decode cX9_dueBy 94 = .ok (.istore_n 3, 1) := by decide +kernel
theorem dX9_dueBy_95 : decode cX9_dueBy 95 = .ok (.iinc 5 1, 3) := by decide +kernel
theorem dX9_dueBy_98 : decode cX9_dueBy 98 = .ok (.goto (-60), 3) := by decide +kernel
theorem dX9_dueBy_101 : decode cX9_dueBy 101 = .ok (.iload_n 3, 1) := by decide +kernel
theorem dX9_dueBy_102 : decode cX9_dueBy 102 = .ok (.ifCond .ge 7, 3) := by decide +kernel
theorem dX9_dueBy_105 : decode cX9_dueBy 105 = .ok (.iconst 0, 1) := by decide +kernel
theorem dX9_dueBy_106 : decode cX9_dueBy 106 = .ok (.goto 4, 3) := by decide +kernel
theorem dX9_dueBy_109 : decode cX9_dueBy 109 = .ok (.iload_n 3, 1) := by decide +kernel
theorem dX9_dueBy_110 : decode cX9_dueBy 110 = .ok (.ireturn, 1) := by decide +kernel
theorem dX9_coins_0 : decode cX9_coins 0 = .ok (.iload_n 1, 1) := by decide +kernel
theorem dX9_coins_1 : decode cX9_coins 1 = .ok (.iconst 0, 1) := by decide +kernel
theorem dX9_coins_2 : decode cX9_coins 2 = .ok (.bipush 99, 2) := by decide +kernel
theorem dX9_coins_4 : decode cX9_coins 4 = .ok (.invokestatic 54, 3) := by decide +kernel
theorem dX9_coins_7 : decode cX9_coins 7 = .ok (.ifCond .eq 20, 3) := by decide +kernel
theorem dX9_coins_10 : decode cX9_coins 10 = .ok (.iload_n 2, 1) := by decide +kernel
theorem dX9_coins_11 : decode cX9_coins 11 = .ok (.bipush (-2), 2) := by decide +kernel
theorem dX9_coins_13 : decode cX9_coins 13 = .ok (.aload_n 0, 1) := by decide +kernel
theorem dX9_coins_14 : decode cX9_coins 14 = .ok (.getfield 13, 3) := by decide +kernel
theorem dX9_coins_17 : decode cX9_coins 17 = .ok (.iconst 0, 1) := by decide +kernel
theorem dX9_coins_18 : decode cX9_coins 18 = .ok (.iaload, 1) := by decide +kernel
theorem dX9_coins_19 : decode cX9_coins 19 = .ok (.iconst 1, 1) := by decide +kernel
theorem dX9_coins_20 : decode cX9_coins 20 = .ok (.isub, 1) := by decide +kernel
theorem dX9_coins_21 : decode cX9_coins 21 = .ok (.invokestatic 54, 3) := by decide +kernel
theorem dX9_coins_24 : decode cX9_coins 24 = .ok (.ifCond .ne 5, 3) := by decide +kernel
theorem dX9_coins_27 : decode cX9_coins 27 = .ok (.iconst (-1), 1) := by decide +kernel
theorem dX9_coins_28 : decode cX9_coins 28 = .ok (.ireturn, 1) := by decide +kernel
theorem dX9_coins_29 : decode cX9_coins 29 = .ok (.iconst 0, 1) := by decide +kernel
theorem dX9_coins_30 : decode cX9_coins 30 = .ok (.istore_n 3, 1) := by decide +kernel
theorem dX9_coins_31 : decode cX9_coins 31 = .ok (.iload_n 3, 1) := by decide +kernel
theorem dX9_coins_32 : decode cX9_coins 32 = .ok (.iload_n 1, 1) := by decide +kernel
theorem dX9_coins_33 : decode cX9_coins 33 = .ok (.if_icmp .gt 43, 3) := by decide +kernel
theorem dX9_coins_36 : decode cX9_coins 36 = .ok (.aload_n 0, 1) := by decide +kernel
theorem dX9_coins_37 : decode cX9_coins 37 = .ok (.getfield 41, 3) := by decide +kernel
theorem dX9_coins_40 : decode cX9_coins 40 = .ok (.bipush 100, 2) := by decide +kernel
theorem dX9_coins_42 : decode cX9_coins 42 = .ok (.aload_n 0, 1) := by decide +kernel
theorem dX9_coins_43 : decode cX9_coins 43 = .ok (.getfield 13, 3) := by decide +kernel
theorem dX9_coins_46 : decode cX9_coins 46 = .ok (.iconst 0, 1) := by decide +kernel
theorem dX9_coins_47 : decode cX9_coins 47 = .ok (.iaload, 1) := by decide +kernel
theorem dX9_coins_48 : decode cX9_coins 48 = .ok (.imul, 1) := by decide +kernel
theorem dX9_coins_49 : decode cX9_coins 49 = .ok (.iload_n 3, 1) := by decide +kernel
theorem dX9_coins_50 : decode cX9_coins 50 = .ok (.iadd, 1) := by decide +kernel
theorem dX9_coins_51 : decode cX9_coins 51 = .ok (.iconst 0, 1) := by decide +kernel
theorem dX9_coins_52 : decode cX9_coins 52 = .ok (.iastore, 1) := by decide +kernel
theorem dX9_coins_53 : decode cX9_coins 53 = .ok (.aload_n 0, 1) := by decide +kernel
theorem dX9_coins_54 : decode cX9_coins 54 = .ok (.getfield 44, 3) := by decide +kernel
theorem dX9_coins_57 : decode cX9_coins 57 = .ok (.bipush 100, 2) := by decide +kernel
theorem dX9_coins_59 : decode cX9_coins 59 = .ok (.aload_n 0, 1) := by decide +kernel
theorem dX9_coins_60 : decode cX9_coins 60 = .ok (.getfield 13, 3) := by decide +kernel
theorem dX9_coins_63 : decode cX9_coins 63 = .ok (.iconst 0, 1) := by decide +kernel
theorem dX9_coins_64 : decode cX9_coins 64 = .ok (.iaload, 1) := by decide +kernel
theorem dX9_coins_65 : decode cX9_coins 65 = .ok (.imul, 1) := by decide +kernel
theorem dX9_coins_66 : decode cX9_coins 66 = .ok (.iload_n 3, 1) := by decide +kernel
theorem dX9_coins_67 : decode cX9_coins 67 = .ok (.iadd, 1) := by decide +kernel
theorem dX9_coins_68 : decode cX9_coins 68 = .ok (.iconst 0, 1) := by decide +kernel
theorem dX9_coins_69 : decode cX9_coins 69 = .ok (.iastore, 1) := by decide +kernel
theorem dX9_coins_70 : decode cX9_coins 70 = .ok (.iinc 3 1, 3) := by decide +kernel
theorem dX9_coins_73 : decode cX9_coins 73 = .ok (.goto (-42), 3) := by decide +kernel
theorem dX9_coins_76 : decode cX9_coins 76 = .ok (.aload_n 0, 1) := by decide +kernel
theorem dX9_coins_77 : decode cX9_coins 77 = .ok (.getfield 13, 3) := by decide +kernel
theorem dX9_coins_80 : decode cX9_coins 80 = .ok (.iconst 0, 1) := by decide +kernel
theorem dX9_coins_81 : decode cX9_coins 81 = .ok (.iaload, 1) := by decide +kernel
theorem dX9_coins_82 : decode cX9_coins 82 = .ok (.iconst 1, 1) := by decide +kernel
theorem dX9_coins_83 : decode cX9_coins 83 = .ok (.isub, 1) := by decide +kernel
theorem dX9_coins_84 : decode cX9_coins 84 = .ok (.istore_n 3, 1) := by decide +kernel
theorem dX9_coins_85 : decode cX9_coins 85 = .ok (.iload_n 3, 1) := by decide +kernel
theorem dX9_coins_86 : decode cX9_coins 86 = .ok (.ifCond .lt 174, 3) := by decide +kernel
theorem dX9_coins_89 : decode cX9_coins 89 = .ok (.iconst 0, 1) := by decide +kernel
theorem dX9_coins_90 : decode cX9_coins 90 = .ok (.istore 4, 2) := by decide +kernel
theorem dX9_coins_92 : decode cX9_coins 92 = .ok (.iload 4, 2) := by decide +kernel
theorem dX9_coins_94 : decode cX9_coins 94 = .ok (.iload_n 1, 1) := by decide +kernel
theorem dX9_coins_95 : decode cX9_coins 95 = .ok (.if_icmp .gt 159, 3) := by decide +kernel
theorem dX9_coins_98 : decode cX9_coins 98 = .ok (.ldc 160, 2) := by decide +kernel
theorem dX9_coins_100 : decode cX9_coins 100 = .ok (.istore 5, 2) := by decide +kernel
theorem dX9_coins_102 : decode cX9_coins 102 = .ok (.iconst 0, 1) := by decide +kernel
theorem dX9_coins_103 : decode cX9_coins 103 = .ok (.istore 6, 2) := by decide +kernel
theorem dX9_coins_105 : decode cX9_coins 105 = .ok (.iconst 0, 1) := by decide +kernel
theorem dX9_coins_106 : decode cX9_coins 106 = .ok (.istore 7, 2) := by decide +kernel
theorem dX9_coins_108 : decode cX9_coins 108 = .ok (.iload 7, 2) := by decide +kernel
theorem dX9_coins_110 : decode cX9_coins 110 = .ok (.iload 4, 2) := by decide +kernel
theorem dX9_coins_112 : decode cX9_coins 112 = .ok (.if_icmp .gt 108, 3) := by decide +kernel
theorem dX9_coins_115 : decode cX9_coins 115 = .ok (.bipush 100, 2) := by decide +kernel
theorem dX9_coins_117 : decode cX9_coins 117 = .ok (.iload_n 3, 1) := by decide +kernel
theorem dX9_coins_118 : decode cX9_coins 118 = .ok (.iconst 1, 1) := by decide +kernel
theorem dX9_coins_119 : decode cX9_coins 119 = .ok (.iadd, 1) := by decide +kernel
theorem dX9_coins_120 : decode cX9_coins 120 = .ok (.imul, 1) := by decide +kernel
theorem dX9_coins_121 : decode cX9_coins 121 = .ok (.iload 4, 2) := by decide +kernel
theorem dX9_coins_123 : decode cX9_coins 123 = .ok (.iadd, 1) := by decide +kernel
theorem dX9_coins_124 : decode cX9_coins 124 = .ok (.iload 7, 2) := by decide +kernel
theorem dX9_coins_126 : decode cX9_coins 126 = .ok (.isub, 1) := by decide +kernel
theorem dX9_coins_127 : decode cX9_coins 127 = .ok (.istore 8, 2) := by decide +kernel
theorem dX9_coins_129 : decode cX9_coins 129 = .ok (.aload_n 0, 1) := by decide +kernel
theorem dX9_coins_130 : decode cX9_coins 130 = .ok (.iload_n 3, 1) := by decide +kernel
theorem dX9_coins_131 : decode cX9_coins 131 = .ok (.iload 7, 2) := by decide +kernel
theorem dX9_coins_133 : decode cX9_coins 133 = .ok (.invokevirtual 161, 3) := by decide +kernel
theorem dX9_coins_136 : decode cX9_coins 136 = .ok (.aload_n 0, 1) := by decide +kernel
theorem dX9_coins_137 : decode cX9_coins 137 = .ok (.getfield 41, 3) := by decide +kernel
theorem dX9_coins_140 : decode cX9_coins 140 = .ok (.iload 8, 2) := by decide +kernel
theorem dX9_coins_142 : decode cX9_coins 142 = .ok (.iaload, 1) := by decide +kernel
theorem dX9_coins_143 : decode cX9_coins 143 = .ok (.iadd, 1) := by decide +kernel
theorem dX9_coins_144 : decode cX9_coins 144 = .ok (.istore 9, 2) := by decide +kernel
theorem dX9_coins_146 : decode cX9_coins 146 = .ok (.iload 7, 2) := by decide +kernel
theorem dX9_coins_148 : decode cX9_coins 148 = .ok (.aload_n 0, 1) := by decide +kernel
theorem dX9_coins_149 : decode cX9_coins 149 = .ok (.getfield 44, 3) := by decide +kernel
theorem dX9_coins_152 : decode cX9_coins 152 = .ok (.iload 8, 2) := by decide +kernel
theorem dX9_coins_154 : decode cX9_coins 154 = .ok (.iaload, 1) := by decide +kernel
theorem dX9_coins_155 : decode cX9_coins 155 = .ok (.iadd, 1) := by decide +kernel
theorem dX9_coins_156 : decode cX9_coins 156 = .ok (.istore 10, 2) := by decide +kernel
theorem dX9_coins_158 : decode cX9_coins 158 = .ok (.iload 9, 2) := by decide +kernel
theorem dX9_coins_160 : decode cX9_coins 160 = .ok (.iload 5, 2) := by decide +kernel
theorem dX9_coins_162 : decode cX9_coins 162 = .ok (.if_icmp .lt 17, 3) := by decide +kernel
theorem dX9_coins_165 : decode cX9_coins 165 = .ok (.iload 9, 2) := by decide +kernel
theorem dX9_coins_167 : decode cX9_coins 167 = .ok (.iload 5, 2) := by decide +kernel
theorem dX9_coins_169 : decode cX9_coins 169 = .ok (.if_icmp .ne 14, 3) := by decide +kernel
theorem dX9_coins_172 : decode cX9_coins 172 = .ok (.iload 10, 2) := by decide +kernel
theorem dX9_coins_174 : decode cX9_coins 174 = .ok (.iload 6, 2) := by decide +kernel
theorem dX9_coins_176 : decode cX9_coins 176 = .ok (.if_icmp .ge 7, 3) := by decide +kernel
theorem dX9_coins_179 : decode cX9_coins 179 = .ok (.iconst 1, 1) := by decide +kernel
theorem dX9_coins_180 : decode cX9_coins 180 = .ok (.goto 4, 3) := by decide +kernel
theorem dX9_coins_183 : decode cX9_coins 183 = .ok (.iconst 0, 1) := by decide +kernel
theorem dX9_coins_184 : decode cX9_coins 184 = .ok (.istore 11, 2) := by decide +kernel
theorem dX9_coins_186 : decode cX9_coins 186 = .ok (.iload 11, 2) := by decide +kernel
theorem dX9_coins_188 : decode cX9_coins 188 = .ok (.ifCond .eq 8, 3) := by decide +kernel
theorem dX9_coins_191 : decode cX9_coins 191 = .ok (.iload 9, 2) := by decide +kernel
theorem dX9_coins_193 : decode cX9_coins 193 = .ok (.goto 5, 3) := by decide +kernel
theorem dX9_coins_196 : decode cX9_coins 196 = .ok (.iload 5, 2) := by decide +kernel
theorem dX9_coins_198 : decode cX9_coins 198 = .ok (.istore 5, 2) := by decide +kernel
theorem dX9_coins_200 : decode cX9_coins 200 = .ok (.iload 11, 2) := by decide +kernel
theorem dX9_coins_202 : decode cX9_coins 202 = .ok (.ifCond .eq 8, 3) := by decide +kernel
theorem dX9_coins_205 : decode cX9_coins 205 = .ok (.iload 10, 2) := by decide +kernel
theorem dX9_coins_207 : decode cX9_coins 207 = .ok (.goto 5, 3) := by decide +kernel
theorem dX9_coins_210 : decode cX9_coins 210 = .ok (.iload 6, 2) := by decide +kernel
theorem dX9_coins_212 : decode cX9_coins 212 = .ok (.istore 6, 2) := by decide +kernel
theorem dX9_coins_214 : decode cX9_coins 214 = .ok (.iinc 7 1, 3) := by decide +kernel
theorem dX9_coins_217 : decode cX9_coins 217 = .ok (.goto (-109), 3) := by decide +kernel
theorem dX9_coins_220 : decode cX9_coins 220 = .ok (.aload_n 0, 1) := by decide +kernel
theorem dX9_coins_221 : decode cX9_coins 221 = .ok (.getfield 41, 3) := by decide +kernel
theorem dX9_coins_224 : decode cX9_coins 224 = .ok (.bipush 100, 2) := by decide +kernel
theorem dX9_coins_226 : decode cX9_coins 226 = .ok (.iload_n 3, 1) := by decide +kernel
theorem dX9_coins_227 : decode cX9_coins 227 = .ok (.imul, 1) := by decide +kernel
theorem dX9_coins_228 : decode cX9_coins 228 = .ok (.iload 4, 2) := by decide +kernel
theorem dX9_coins_230 : decode cX9_coins 230 = .ok (.iadd, 1) := by decide +kernel
theorem dX9_coins_231 : decode cX9_coins 231 = .ok (.iload 5, 2) := by decide +kernel
theorem dX9_coins_233 : decode cX9_coins 233 = .ok (.iastore, 1) := by decide +kernel
theorem dX9_coins_234 : decode cX9_coins 234 = .ok (.aload_n 0, 1) := by decide +kernel
theorem dX9_coins_235 : decode cX9_coins 235 = .ok (.getfield 44, 3) := by decide +kernel
theorem dX9_coins_238 : decode cX9_coins 238 = .ok (.bipush 100, 2) := by decide +kernel
theorem dX9_coins_240 : decode cX9_coins 240 = .ok (.iload_n 3, 1) := by decide +kernel
theorem dX9_coins_241 : decode cX9_coins 241 = .ok (.imul, 1) := by decide +kernel
theorem dX9_coins_242 : decode cX9_coins 242 = .ok (.iload 4, 2) := by decide +kernel
theorem dX9_coins_244 : decode cX9_coins 244 = .ok (.iadd, 1) := by decide +kernel
theorem dX9_coins_245 : decode cX9_coins 245 = .ok (.iload 6, 2) := by decide +kernel
theorem dX9_coins_247 : decode cX9_coins 247 = .ok (.iastore, 1) := by decide +kernel
theorem dX9_coins_248 : decode cX9_coins 248 = .ok (.iinc 4 1, 3) := by decide +kernel
theorem dX9_coins_251 : decode cX9_coins 251 = .ok (.goto (-159), 3) := by decide +kernel
theorem dX9_coins_254 : decode cX9_coins 254 = .ok (.iinc 3 (-1), 3) := by decide +kernel
theorem dX9_coins_257 : decode cX9_coins 257 = .ok (.goto (-172), 3) := by decide +kernel
theorem dX9_coins_260 : decode cX9_coins 260 = .ok (.iload_n 2, 1) := by decide +kernel
theorem dX9_coins_261 : decode cX9_coins 261 = .ok (.ifCond .ge 24, 3) := by decide +kernel
theorem dX9_coins_264 : decode cX9_coins 264 = .ok (.iload_n 2, 1) := by decide +kernel
theorem dX9_coins_265 : decode cX9_coins 265 = .ok (.iconst (-1), 1) := by decide +kernel
theorem dX9_coins_266 : decode cX9_coins 266 = .ok (.if_icmp .ne 12, 3) := by decide +kernel
theorem dX9_coins_269 : decode cX9_coins 269 = .ok (.aload_n 0, 1) := by decide +kernel
theorem dX9_coins_270 : decode cX9_coins 270 = .ok (.getfield 41, 3) := by decide +kernel
theorem dX9_coins_273 : decode cX9_coins 273 = .ok (.iload_n 1, 1) := by decide +kernel
theorem dX9_coins_274 : decode cX9_coins 274 = .ok (.iaload, 1) := by decide +kernel
theorem dX9_coins_275 : decode cX9_coins 275 = .ok (.goto 9, 3) := by decide +kernel
theorem dX9_coins_278 : decode cX9_coins 278 = .ok (.aload_n 0, 1) := by decide +kernel
theorem dX9_coins_279 : decode cX9_coins 279 = .ok (.getfield 44, 3) := by decide +kernel
theorem dX9_coins_282 : decode cX9_coins 282 = .ok (.iload_n 1, 1) := by decide +kernel
theorem dX9_coins_283 : decode cX9_coins 283 = .ok (.iaload, 1) := by decide +kernel
theorem dX9_coins_284 : decode cX9_coins 284 = .ok (.ireturn, 1) := by decide +kernel
theorem dX9_coins_285 : decode cX9_coins 285 = .ok (.iload_n 1, 1) := by decide +kernel
theorem dX9_coins_286 : decode cX9_coins 286 = .ok (.istore_n 3, 1) := by decide +kernel
theorem dX9_coins_287 : decode cX9_coins 287 = .ok (.iconst 0, 1) := by decide +kernel
theorem dX9_coins_288 : decode cX9_coins 288 = .ok (.istore 4, 2) := by decide +kernel
theorem dX9_coins_290 : decode cX9_coins 290 = .ok (.iconst 0, 1) := by decide +kernel
theorem dX9_coins_291 : decode cX9_coins 291 = .ok (.istore 5, 2) := by decide +kernel
theorem dX9_coins_293 : decode cX9_coins 293 = .ok (.iload 5, 2) := by decide +kernel
theorem dX9_coins_295 : decode cX9_coins 295 = .ok (.iload_n 2, 1) := by decide +kernel
theorem dX9_coins_296 : decode cX9_coins 296 = .ok (.if_icmp .gt 128, 3) := by decide +kernel
theorem dX9_coins_299 : decode cX9_coins 299 = .ok (.iconst (-1), 1) := by decide +kernel
theorem dX9_coins_300 : decode cX9_coins 300 = .ok (.istore 4, 2) := by decide +kernel
theorem dX9_coins_302 : decode cX9_coins 302 = .ok (.iconst 0, 1) := by decide +kernel
theorem dX9_coins_303 : decode cX9_coins 303 = .ok (.istore 6, 2) := by decide +kernel
theorem dX9_coins_305 : decode cX9_coins 305 = .ok (.iload 6, 2) := by decide +kernel
theorem dX9_coins_307 : decode cX9_coins 307 = .ok (.iload_n 3, 1) := by decide +kernel
theorem dX9_coins_308 : decode cX9_coins 308 = .ok (.if_icmp .gt 105, 3) := by decide +kernel
theorem dX9_coins_311 : decode cX9_coins 311 = .ok (.iload 4, 2) := by decide +kernel
theorem dX9_coins_313 : decode cX9_coins 313 = .ok (.ifCond .ge 100, 3) := by decide +kernel
theorem dX9_coins_316 : decode cX9_coins 316 = .ok (.bipush 100, 2) := by decide +kernel
theorem dX9_coins_318 : decode cX9_coins 318 = .ok (.iload 5, 2) := by decide +kernel
theorem dX9_coins_320 : decode cX9_coins 320 = .ok (.iconst 1, 1) := by decide +kernel
theorem dX9_coins_321 : decode cX9_coins 321 = .ok (.iadd, 1) := by decide +kernel
theorem dX9_coins_322 : decode cX9_coins 322 = .ok (.imul, 1) := by decide +kernel
theorem dX9_coins_323 : decode cX9_coins 323 = .ok (.iload_n 3, 1) := by decide +kernel
theorem dX9_coins_324 : decode cX9_coins 324 = .ok (.iadd, 1) := by decide +kernel
theorem dX9_coins_325 : decode cX9_coins 325 = .ok (.iload 6, 2) := by decide +kernel
theorem dX9_coins_327 : decode cX9_coins 327 = .ok (.isub, 1) := by decide +kernel
theorem dX9_coins_328 : decode cX9_coins 328 = .ok (.istore 7, 2) := by decide +kernel
theorem dX9_coins_330 : decode cX9_coins 330 = .ok (.aload_n 0, 1) := by decide +kernel
theorem dX9_coins_331 : decode cX9_coins 331 = .ok (.iload 5, 2) := by decide +kernel
theorem dX9_coins_333 : decode cX9_coins 333 = .ok (.iload 6, 2) := by decide +kernel
theorem dX9_coins_335 : decode cX9_coins 335 = .ok (.invokevirtual 161, 3) := by decide +kernel
theorem dX9_coins_338 : decode cX9_coins 338 = .ok (.aload_n 0, 1) := by decide +kernel
theorem dX9_coins_339 : decode cX9_coins 339 = .ok (.getfield 41, 3) := by decide +kernel
theorem dX9_coins_342 : decode cX9_coins 342 = .ok (.iload 7, 2) := by decide +kernel
theorem dX9_coins_344 : decode cX9_coins 344 = .ok (.iaload, 1) := by decide +kernel
theorem dX9_coins_345 : decode cX9_coins 345 = .ok (.iadd, 1) := by decide +kernel
theorem dX9_coins_346 : decode cX9_coins 346 = .ok (.aload_n 0, 1) := by decide +kernel
theorem dX9_coins_347 : decode cX9_coins 347 = .ok (.getfield 41, 3) := by decide +kernel
theorem dX9_coins_350 : decode cX9_coins 350 = .ok (.bipush 100, 2) := by decide +kernel
theorem dX9_coins_352 : decode cX9_coins 352 = .ok (.iload 5, 2) := by decide +kernel
theorem dX9_coins_354 : decode cX9_coins 354 = .ok (.imul, 1) := by decide +kernel
theorem dX9_coins_355 : decode cX9_coins 355 = .ok (.iload_n 3, 1) := by decide +kernel
theorem dX9_coins_356 : decode cX9_coins 356 = .ok (.iadd, 1) := by decide +kernel
theorem dX9_coins_357 : decode cX9_coins 357 = .ok (.iaload, 1) := by decide +kernel
theorem dX9_coins_358 : decode cX9_coins 358 = .ok (.if_icmp .ne 32, 3) := by decide +kernel
theorem dX9_coins_361 : decode cX9_coins 361 = .ok (.iload 6, 2) := by decide +kernel
theorem dX9_coins_363 : decode cX9_coins 363 = .ok (.aload_n 0, 1) := by decide +kernel
theorem dX9_coins_364 : decode cX9_coins 364 = .ok (.getfield 44, 3) := by decide +kernel
theorem dX9_coins_367 : decode cX9_coins 367 = .ok (.iload 7, 2) := by decide +kernel
theorem dX9_coins_369 : decode cX9_coins 369 = .ok (.iaload, 1) := by decide +kernel
theorem dX9_coins_370 : decode cX9_coins 370 = .ok (.iadd, 1) := by decide +kernel
theorem dX9_coins_371 : decode cX9_coins 371 = .ok (.aload_n 0, 1) := by decide +kernel
theorem dX9_coins_372 : decode cX9_coins 372 = .ok (.getfield 44, 3) := by decide +kernel
theorem dX9_coins_375 : decode cX9_coins 375 = .ok (.bipush 100, 2) := by decide +kernel
theorem dX9_coins_377 : decode cX9_coins 377 = .ok (.iload 5, 2) := by decide +kernel
theorem dX9_coins_379 : decode cX9_coins 379 = .ok (.imul, 1) := by decide +kernel
theorem dX9_coins_380 : decode cX9_coins 380 = .ok (.iload_n 3, 1) := by decide +kernel
theorem dX9_coins_381 : decode cX9_coins 381 = .ok (.iadd, 1) := by decide +kernel
theorem dX9_coins_382 : decode cX9_coins 382 = .ok (.iaload, 1) := by decide +kernel
theorem dX9_coins_383 : decode cX9_coins 383 = .ok (.if_icmp .ne 7, 3) := by decide +kernel
theorem dX9_coins_386 : decode cX9_coins 386 = .ok (.iconst 1, 1) := by decide +kernel
theorem dX9_coins_387 : decode cX9_coins 387 = .ok (.goto 4, 3) := by decide +kernel
theorem dX9_coins_390 : decode cX9_coins 390 = .ok (.iconst 0, 1) := by decide +kernel
theorem dX9_coins_391 : decode cX9_coins 391 = .ok (.istore 8, 2) := by decide +kernel
theorem dX9_coins_393 : decode cX9_coins 393 = .ok (.iload 8, 2) := by decide +kernel
theorem dX9_coins_395 : decode cX9_coins 395 = .ok (.ifCond .eq 8, 3) := by decide +kernel
theorem dX9_coins_398 : decode cX9_coins 398 = .ok (.iload 6, 2) := by decide +kernel
theorem dX9_coins_400 : decode cX9_coins 400 = .ok (.goto 5, 3) := by decide +kernel
theorem dX9_coins_403 : decode cX9_coins 403 = .ok (.iload 4, 2) := by decide +kernel
theorem dX9_coins_405 : decode cX9_coins 405 = .ok (.istore 4, 2) := by decide +kernel
theorem dX9_coins_407 : decode cX9_coins 407 = .ok (.iinc 6 1, 3) := by decide +kernel
theorem dX9_coins_410 : decode cX9_coins 410 = .ok (.goto (-105), 3) := by decide +kernel
theorem dX9_coins_413 : decode cX9_coins 413 = .ok (.iload_n 3, 1) := by decide +kernel
theorem dX9_coins_414 : decode cX9_coins 414 = .ok (.iload 4, 2) := by decide +kernel
theorem dX9_coins_416 : decode cX9_coins 416 = .ok (.isub, 1) := by decide +kernel
theorem dX9_coins_417 : decode cX9_coins 417 = .ok (.istore_n 3, 1) := by decide +kernel
theorem dX9_coins_418 : decode cX9_coins 418 = .ok (.iinc 5 1, 3) := by decide +kernel
theorem dX9_coins_421 : decode cX9_coins 421 = .ok (.goto (-128), 3) := by decide +kernel
theorem dX9_coins_424 : decode cX9_coins 424 = .ok (.iload 4, 2) := by decide +kernel
theorem dX9_coins_426 : decode cX9_coins 426 = .ok (.ireturn, 1) := by decide +kernel
theorem dX9_free_0 : decode cX9_free 0 = .ok (.aload_n 0, 1) := by decide +kernel
theorem dX9_free_1 : decode cX9_free 1 = .ok (.iload_n 1, 1) := by decide +kernel
theorem dX9_free_2 : decode cX9_free 2 = .ok (.invokevirtual 104, 3) := by decide +kernel
theorem dX9_free_5 : decode cX9_free 5 = .ok (.ifCond .eq 13, 3) := by decide +kernel
theorem dX9_free_8 : decode cX9_free 8 = .ok (.iload_n 2, 1) := by decide +kernel
theorem dX9_free_9 : decode cX9_free 9 = .ok (.iconst 0, 1) := by decide +kernel
theorem dX9_free_10 : decode cX9_free 10 = .ok (.bipush 99, 2) := by decide +kernel
theorem dX9_free_12 : decode cX9_free 12 = .ok (.invokestatic 54, 3) := by decide +kernel
theorem dX9_free_15 : decode cX9_free 15 = .ok (.ifCond .ne 5, 3) := by decide +kernel
theorem dX9_free_18 : decode cX9_free 18 = .ok (.iconst (-1), 1) := by decide +kernel
theorem dX9_free_19 : decode cX9_free 19 = .ok (.ireturn, 1) := by decide +kernel
theorem dX9_free_20 : decode cX9_free 20 = .ok (.aload_n 0, 1) := by decide +kernel
theorem dX9_free_21 : decode cX9_free 21 = .ok (.getfield 19, 3) := by decide +kernel
theorem dX9_free_24 : decode cX9_free 24 = .ok (.iload_n 1, 1) := by decide +kernel
theorem dX9_free_25 : decode cX9_free 25 = .ok (.iaload, 1) := by decide +kernel
theorem dX9_free_26 : decode cX9_free 26 = .ok (.istore_n 3, 1) := by decide +kernel
theorem dX9_free_27 : decode cX9_free 27 = .ok (.iload_n 3, 1) := by decide +kernel
theorem dX9_free_28 : decode cX9_free 28 = .ok (.ifCond .ne 5, 3) := by decide +kernel
theorem dX9_free_31 : decode cX9_free 31 = .ok (.iconst 0, 1) := by decide +kernel
theorem dX9_free_32 : decode cX9_free 32 = .ok (.ireturn, 1) := by decide +kernel
theorem dX9_free_33 : decode cX9_free 33 = .ok (.iconst 1, 1) := by decide +kernel
theorem dX9_free_34 : decode cX9_free 34 = .ok (.istore 4, 2) := by decide +kernel
theorem dX9_free_36 : decode cX9_free 36 = .ok (.iload 4, 2) := by decide +kernel
theorem dX9_free_38 : decode cX9_free 38 = .ok (.bipush 99, 2) := by decide +kernel
theorem dX9_free_40 : decode cX9_free 40 = .ok (.if_icmp .gt 43, 3) := by decide +kernel
theorem dX9_free_43 : decode cX9_free 43 = .ok (.iload_n 3, 1) := by decide +kernel
theorem dX9_free_44 : decode cX9_free 44 = .ok (.iload_n 2, 1) := by decide +kernel
theorem dX9_free_45 : decode cX9_free 45 = .ok (.if_icmp .le 9, 3) := by decide +kernel
theorem dX9_free_48 : decode cX9_free 48 = .ok (.iload_n 3, 1) := by decide +kernel
theorem dX9_free_49 : decode cX9_free 49 = .ok (.iload_n 2, 1) := by decide +kernel
theorem dX9_free_50 : decode cX9_free 50 = .ok (.isub, 1) := by decide +kernel
theorem dX9_free_51 : decode cX9_free 51 = .ok (.goto 4, 3) := by decide +kernel
theorem dX9_free_54 : decode cX9_free 54 = .ok (.iconst 0, 1) := by decide +kernel
theorem dX9_free_55 : decode cX9_free 55 = .ok (.istore_n 3, 1) := by decide +kernel
theorem dX9_free_56 : decode cX9_free 56 = .ok (.iload_n 3, 1) := by decide +kernel
theorem dX9_free_57 : decode cX9_free 57 = .ok (.ifCond .ne 6, 3) := by decide +kernel
theorem dX9_free_60 : decode cX9_free 60 = .ok (.iload 4, 2) := by decide +kernel
theorem dX9_free_62 : decode cX9_free 62 = .ok (.ireturn, 1) := by decide +kernel
theorem dX9_free_63 : decode cX9_free 63 = .ok (.iload_n 3, 1) := by decide +kernel
theorem dX9_free_64 : decode cX9_free 64 = .ok (.aload_n 0, 1) := by decide +kernel
theorem dX9_free_65 : decode cX9_free 65 = .ok (.getfield 13, 3) := by decide +kernel
theorem dX9_free_68 : decode cX9_free 68 = .ok (.bipush 27, 2) := by decide +kernel
theorem dX9_free_70 : decode cX9_free 70 = .ok (.iload_n 1, 1) := by decide +kernel
theorem dX9_free_71 : decode cX9_free 71 = .ok (.iadd, 1) := by decide +kernel
theorem dX9_free_72 : decode cX9_free 72 = .ok (.iaload, 1) := by decide +kernel
theorem dX9_free_73 : decode cX9_free 73 = .ok (.invokestatic 124, 3) := by decide +kernel
theorem dX9_free_76 : decode cX9_free 76 = .ok (.istore_n 3, 1) := by decide +kernel
theorem dX9_free_77 : decode cX9_free 77 = .ok (.iinc 4 1, 3) := by decide +kernel
theorem dX9_free_80 : decode cX9_free 80 = .ok (.goto (-44), 3) := by decide +kernel
theorem dX9_free_83 : decode cX9_free 83 = .ok (.bipush (-9), 2) := by decide +kernel
theorem dX9_free_85 : decode cX9_free 85 = .ok (.ireturn, 1) := by decide +kernel
theorem dX9_who_0 : decode cX9_who 0 = .ok (.iload_n 1, 1) := by decide +kernel
theorem dX9_who_1 : decode cX9_who 1 = .ok (.iconst 0, 1) := by decide +kernel
theorem dX9_who_2 : decode cX9_who 2 = .ok (.bipush 6, 2) := by decide +kernel
theorem dX9_who_4 : decode cX9_who 4 = .ok (.invokestatic 54, 3) := by decide +kernel
theorem dX9_who_7 : decode cX9_who 7 = .ok (.ifCond .eq 33, 3) := by decide +kernel
theorem dX9_who_10 : decode cX9_who 10 = .ok (.iload_n 2, 1) := by decide +kernel
theorem dX9_who_11 : decode cX9_who 11 = .ok (.iconst 0, 1) := by decide +kernel
theorem dX9_who_12 : decode cX9_who 12 = .ok (.bipush 99, 2) := by decide +kernel
theorem dX9_who_14 : decode cX9_who 14 = .ok (.invokestatic 54, 3) := by decide +kernel
theorem dX9_who_17 : decode cX9_who 17 = .ok (.ifCond .eq 23, 3) := by decide +kernel
theorem dX9_who_20 : decode cX9_who 20 = .ok (.iload_n 3, 1) := by decide +kernel
theorem dX9_who_21 : decode cX9_who 21 = .ok (.iconst 0, 1) := by decide +kernel
theorem dX9_who_22 : decode cX9_who 22 = .ok (.bipush 99, 2) := by decide +kernel
theorem dX9_who_24 : decode cX9_who 24 = .ok (.invokestatic 54, 3) := by decide +kernel
theorem dX9_who_27 : decode cX9_who 27 = .ok (.ifCond .eq 13, 3) := by decide +kernel
theorem dX9_who_30 : decode cX9_who 30 = .ok (.iload 4, 2) := by decide +kernel
theorem dX9_who_32 : decode cX9_who 32 = .ok (.iconst 0, 1) := by decide +kernel
theorem dX9_who_33 : decode cX9_who 33 = .ok (.iconst 2, 1) := by decide +kernel
theorem dX9_who_34 : decode cX9_who 34 = .ok (.invokestatic 54, 3) := by decide +kernel
theorem dX9_who_37 : decode cX9_who 37 = .ok (.ifCond .ne 5, 3) := by decide +kernel
theorem dX9_who_40 : decode cX9_who 40 = .ok (.iconst (-1), 1) := by decide +kernel
theorem dX9_who_41 : decode cX9_who 41 = .ok (.ireturn, 1) := by decide +kernel
theorem dX9_who_42 : decode cX9_who 42 = .ok (.iconst 0, 1) := by decide +kernel
theorem dX9_who_43 : decode cX9_who 43 = .ok (.istore 5, 2) := by decide +kernel
theorem dX9_who_45 : decode cX9_who 45 = .ok (.bipush 31, 2) := by decide +kernel
theorem dX9_who_47 : decode cX9_who 47 = .ok (.istore 6, 2) := by decide +kernel
theorem dX9_who_49 : decode cX9_who 49 = .ok (.iconst 0, 1) := by decide +kernel
theorem dX9_who_50 : decode cX9_who 50 = .ok (.istore 7, 2) := by decide +kernel
theorem dX9_who_52 : decode cX9_who 52 = .ok (.iconst 0, 1) := by decide +kernel
theorem dX9_who_53 : decode cX9_who 53 = .ok (.istore 8, 2) := by decide +kernel
theorem dX9_who_55 : decode cX9_who 55 = .ok (.iload 8, 2) := by decide +kernel
theorem dX9_who_57 : decode cX9_who 57 = .ok (.sipush 16807, 3) := by decide +kernel
theorem dX9_who_60 : decode cX9_who 60 = .ok (.if_icmp .ge 203, 3) := by decide +kernel
theorem dX9_who_63 : decode cX9_who 63 = .ok (.iload 8, 2) := by decide +kernel
theorem dX9_who_65 : decode cX9_who 65 = .ok (.istore 9, 2) := by decide +kernel
theorem dX9_who_67 : decode cX9_who 67 = .ok (.iconst 0, 1) := by decide +kernel
theorem dX9_who_68 : decode cX9_who 68 = .ok (.istore 10, 2) := by decide +kernel
theorem dX9_who_70 : decode cX9_who 70 = .ok (.iconst 0, 1) := by decide +kernel
theorem dX9_who_71 : decode cX9_who 71 = .ok (.istore 11, 2) := by decide +kernel
theorem dX9_who_73 : decode cX9_who 73 = .ok (.iconst 0, 1) := by decide +kernel
theorem dX9_who_74 : decode cX9_who 74 = .ok (.istore 12, 2) := by decide +kernel
theorem dX9_who_76 : decode cX9_who 76 = .ok (.iconst 0, 1) := by decide +kernel
theorem dX9_who_77 : decode cX9_who 77 = .ok (.istore 13, 2) := by decide +kernel
