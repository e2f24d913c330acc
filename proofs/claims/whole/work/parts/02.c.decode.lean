theorem dX4_count_102 : decode cX4_count 102 = .ok (.invokevirtual 95, 3) := by decide +kernel
theorem dX4_count_105 : decode cX4_count 105 = .ok (.ifCond .eq 7, 3) := by decide +kernel
theorem dX4_count_108 : decode cX4_count 108 = .ok (.iconst 1, 1) := by decide +kernel
theorem dX4_count_109 : decode cX4_count 109 = .ok (.goto 4, 3) := by decide +kernel
theorem dX4_count_112 : decode cX4_count 112 = .ok (.iconst 0, 1) := by decide +kernel
theorem dX4_count_113 : decode cX4_count 113 = .ok (.ireturn, 1) := by decide +kernel
theorem dX4_count_114 : decode cX4_count 114 = .ok (.aload_n 0, 1) := by decide +kernel
theorem dX4_count_115 : decode cX4_count 115 = .ok (.getfield 19, 3) := by decide +kernel
theorem dX4_count_118 : decode cX4_count 118 = .ok (.aload_n 0, 1) := by decide +kernel
theorem dX4_count_119 : decode cX4_count 119 = .ok (.getfield 19, 3) := by decide +kernel
theorem dX4_count_122 : decode cX4_count 122 = .ok (.iconst 0, 1) := by decide +kernel
theorem dX4_count_123 : decode cX4_count 123 = .ok (.invokevirtual 120, 3) := by decide +kernel
theorem dX4_count_126 : decode cX4_count 126 = .ok (.invokevirtual 95, 3) := by decide +kernel
theorem dX4_count_129 : decode cX4_count 129 = .ok (.ifCond .eq 7, 3) := by decide +kernel
theorem dX4_count_132 : decode cX4_count 132 = .ok (.iconst 1, 1) := by decide +kernel
theorem dX4_count_133 : decode cX4_count 133 = .ok (.goto 4, 3) := by decide +kernel
theorem dX4_count_136 : decode cX4_count 136 = .ok (.iconst 0, 1) := by decide +kernel
theorem dX4_count_137 : decode cX4_count 137 = .ok (.ireturn, 1) := by decide +kernel
theorem dX4_count_138 : decode cX4_count 138 = .ok (.aload_n 0, 1) := by decide +kernel
theorem dX4_count_139 : decode cX4_count 139 = .ok (.getfield 19, 3) := by decide +kernel
theorem dX4_count_142 : decode cX4_count 142 = .ok (.getfield 73, 3) := by decide +kernel
theorem dX4_count_145 : decode cX4_count 145 = .ok (.ireturn, 1) := by decide +kernel
theorem dX4_count_146 : decode cX4_count 146 = .ok (.aload_n 0, 1) := by decide +kernel
theorem dX4_count_147 : decode cX4_count 147 = .ok (.getfield 19, 3) := by decide +kernel
theorem dX4_count_150 : decode cX4_count 150 = .ok (.getfield 79, 3) := by decide +kernel
theorem dX4_count_153 : decode cX4_count 153 = .ok (.ireturn, 1) := by decide +kernel
theorem dX4_count_154 : decode cX4_count 154 = .ok (.aload_n 0, 1) := by decide +kernel
theorem dX4_count_155 : decode cX4_count 155 = .ok (.getfield 53, 3) := by decide +kernel
theorem dX4_count_158 : decode cX4_count 158 = .ok (.ireturn, 1) := by decide +kernel
theorem dX4_count_159 : decode cX4_count 159 = .ok (.aload_n 0, 1) := by decide +kernel
theorem dX4_count_160 : decode cX4_count 160 = .ok (.getfield 98, 3) := by decide +kernel
theorem dX4_count_163 : decode cX4_count 163 = .ok (.ireturn, 1) := by decide +kernel
theorem dX4_count_164 : decode cX4_count 164 = .ok (.sipush (-1003), 3) := by decide +kernel
theorem dX4_count_167 : decode cX4_count 167 = .ok (.ireturn, 1) := by decide +kernel
theorem dX4_digest_0 : decode cX4_digest 0 = .ok (.aload_n 0, 1) := by decide +kernel
theorem dX4_digest_1 : decode cX4_digest 1 = .ok (.ldc2_w 165, 3) := by decide +kernel
theorem dX4_digest_4 : decode cX4_digest 4 = .ok (.invokevirtual 167, 3) := by decide +kernel
theorem dX4_digest_7 : decode cX4_digest 7 = .ok (.lstore_n 1, 1) := by decide +kernel
theorem dX4_digest_8 : decode cX4_digest 8 = .ok (.aload_n 0, 1) := by decide +kernel
theorem dX4_digest_9 : decode cX4_digest 9 = .ok (.getfield 19, 3) := by decide +kernel
theorem dX4_digest_12 : decode cX4_digest 12 = .ok (.invokevirtual 70, 3) := by decide +kernel
theorem dX4_digest_15 : decode cX4_digest 15 = .ok (.ifCond .eq 177, 3) := by decide +kernel
theorem dX4_digest_18 : decode cX4_digest 18 = .ok (.iconst 0, 1) := by decide +kernel
theorem dX4_digest_19 : decode cX4_digest 19 = .ok (.istore_n 3, 1) := by decide +kernel
theorem dX4_digest_20 : decode cX4_digest 20 = .ok (.iload_n 3, 1) := by decide +kernel
theorem dX4_digest_21 : decode cX4_digest 21 = .ok (.iconst 1, 1) := by decide +kernel
theorem dX4_digest_22 : decode cX4_digest 22 = .ok (.if_icmp .gt 132, 3) := by decide +kernel
theorem dX4_digest_25 : decode cX4_digest 25 = .ok (.iload_n 3, 1) := by decide +kernel
theorem dX4_digest_26 : decode cX4_digest 26 = .ok (.iconst 1, 1) := by decide +kernel
theorem dX4_digest_27 : decode cX4_digest 27 = .ok (.if_icmp .ne 7, 3) := by decide +kernel
theorem dX4_digest_30 : decode cX4_digest 30 = .ok (.iconst 1, 1) := by decide +kernel
theorem dX4_digest_31 : decode cX4_digest 31 = .ok (.goto 4, 3) := by decide +kernel
theorem dX4_digest_34 : decode cX4_digest 34 = .ok (.iconst 0, 1) := by decide +kernel
theorem dX4_digest_35 : decode cX4_digest 35 = .ok (.istore 4, 2) := by decide +kernel
theorem dX4_digest_37 : decode cX4_digest 37 = .ok (.ldc2_w 171, 3) := by decide +kernel
theorem dX4_digest_40 : decode cX4_digest 40 = .ok (.lload_n 1, 1) := by decide +kernel
theorem dX4_digest_41 : decode cX4_digest 41 = .ok (.lmul, 1) := by decide +kernel
theorem dX4_digest_42 : decode cX4_digest 42 = .ok (.aload_n 0, 1) := by decide +kernel
theorem dX4_digest_43 : decode cX4_digest 43 = .ok (.iload 4, 2) := by decide +kernel
theorem dX4_digest_45 : decode cX4_digest 45 = .ok (.iconst 0, 1) := by decide +kernel
theorem dX4_digest_46 : decode cX4_digest 46 = .ok (.invokevirtual 173, 3) := by decide +kernel
theorem dX4_digest_49 : decode cX4_digest 49 = .ok (.i2l, 1) := by decide +kernel
theorem dX4_digest_50 : decode cX4_digest 50 = .ok (.ladd, 1) := by decide +kernel
theorem dX4_digest_51 : decode cX4_digest 51 = .ok (.lstore_n 1, 1) := by decide +kernel
theorem dX4_digest_52 : decode cX4_digest 52 = .ok (.ldc2_w 171, 3) := by decide +kernel
theorem dX4_digest_55 : decode cX4_digest 55 = .ok (.lload_n 1, 1) := by decide +kernel
theorem dX4_digest_56 : decode cX4_digest 56 = .ok (.lmul, 1) := by decide +kernel
theorem dX4_digest_57 : decode cX4_digest 57 = .ok (.aload_n 0, 1) := by decide +kernel
theorem dX4_digest_58 : decode cX4_digest 58 = .ok (.iload 4, 2) := by decide +kernel
theorem dX4_digest_60 : decode cX4_digest 60 = .ok (.iconst 1, 1) := by decide +kernel
theorem dX4_digest_61 : decode cX4_digest 61 = .ok (.invokevirtual 173, 3) := by decide +kernel
theorem dX4_digest_64 : decode cX4_digest 64 = .ok (.i2l, 1) := by decide +kernel
theorem dX4_digest_65 : decode cX4_digest 65 = .ok (.ladd, 1) := by decide +kernel
theorem dX4_digest_66 : decode cX4_digest 66 = .ok (.lstore_n 1, 1) := by decide +kernel
theorem dX4_digest_67 : decode cX4_digest 67 = .ok (.bipush 10, 2) := by decide +kernel
theorem dX4_digest_69 : decode cX4_digest 69 = .ok (.istore 5, 2) := by decide +kernel
theorem dX4_digest_71 : decode cX4_digest 71 = .ok (.iload 5, 2) := by decide +kernel
theorem dX4_digest_73 : decode cX4_digest 73 = .ok (.bipush 14, 2) := by decide +kernel
theorem dX4_digest_75 : decode cX4_digest 75 = .ok (.if_icmp .gt 25, 3) := by decide +kernel
theorem dX4_digest_78 : decode cX4_digest 78 = .ok (.ldc2_w 171, 3) := by decide +kernel
theorem dX4_digest_81 : decode cX4_digest 81 = .ok (.lload_n 1, 1) := by decide +kernel
theorem dX4_digest_82 : decode cX4_digest 82 = .ok (.lmul, 1) := by decide +kernel
theorem dX4_digest_83 : decode cX4_digest 83 = .ok (.aload_n 0, 1) := by decide +kernel
theorem dX4_digest_84 : decode cX4_digest 84 = .ok (.iload 4, 2) := by decide +kernel
theorem dX4_digest_86 : decode cX4_digest 86 = .ok (.iload 5, 2) := by decide +kernel
theorem dX4_digest_88 : decode cX4_digest 88 = .ok (.invokevirtual 173, 3) := by decide +kernel
theorem dX4_digest_91 : decode cX4_digest 91 = .ok (.i2l, 1) := by decide +kernel
theorem dX4_digest_92 : decode cX4_digest 92 = .ok (.ladd, 1) := by decide +kernel
theorem dX4_digest_93 : decode cX4_digest 93 = .ok (.lstore_n 1, 1) := by decide +kernel
theorem dX4_digest_94 : decode cX4_digest 94 = .ok (.iinc 5 1, 3) := by decide +kernel
theorem dX4_digest_97 : decode cX4_digest 97 = .ok (.goto (-26), 3) := by decide +kernel
theorem dX4_digest_100 : decode cX4_digest 100 = .ok (.ldc2_w 171, 3) := by decide +kernel
theorem dX4_digest_103 : decode cX4_digest 103 = .ok (.lload_n 1, 1) := by decide +kernel
theorem dX4_digest_104 : decode cX4_digest 104 = .ok (.lmul, 1) := by decide +kernel
theorem dX4_digest_105 : decode cX4_digest 105 = .ok (.aload_n 0, 1) := by decide +kernel
theorem dX4_digest_106 : decode cX4_digest 106 = .ok (.iload 4, 2) := by decide +kernel
theorem dX4_digest_108 : decode cX4_digest 108 = .ok (.iconst 0, 1) := by decide +kernel
theorem dX4_digest_109 : decode cX4_digest 109 = .ok (.invokevirtual 177, 3) := by decide +kernel
theorem dX4_digest_112 : decode cX4_digest 112 = .ok (.i2l, 1) := by decide +kernel
theorem dX4_digest_113 : decode cX4_digest 113 = .ok (.ladd, 1) := by decide +kernel
theorem dX4_digest_114 : decode cX4_digest 114 = .ok (.lstore_n 1, 1) := by decide +kernel
theorem dX4_digest_115 : decode cX4_digest 115 = .ok (.bipush 10, 2) := by decide +kernel
theorem dX4_digest_117 : decode cX4_digest 117 = .ok (.istore 5, 2) := by decide +kernel
theorem dX4_digest_119 : decode cX4_digest 119 = .ok (.iload 5, 2) := by decide +kernel
theorem dX4_digest_121 : decode cX4_digest 121 = .ok (.bipush 12, 2) := by decide +kernel
theorem dX4_digest_123 : decode cX4_digest 123 = .ok (.if_icmp .gt 25, 3) := by decide +kernel
theorem dX4_digest_126 : decode cX4_digest 126 = .ok (.ldc2_w 171, 3) := by decide +kernel
theorem dX4_digest_129 : decode cX4_digest 129 = .ok (.lload_n 1, 1) := by decide +kernel
theorem dX4_digest_130 : decode cX4_digest 130 = .ok (.lmul, 1) := by decide +kernel
theorem dX4_digest_131 : decode cX4_digest 131 = .ok (.aload_n 0, 1) := by decide +kernel
theorem dX4_digest_132 : decode cX4_digest 132 = .ok (.iload 4, 2) := by decide +kernel
theorem dX4_digest_134 : decode cX4_digest 134 = .ok (.iload 5, 2) := by decide +kernel
theorem dX4_digest_136 : decode cX4_digest 136 = .ok (.invokevirtual 177, 3) := by decide +kernel
theorem dX4_digest_139 : decode cX4_digest 139 = .ok (.i2l, 1) := by decide +kernel
theorem dX4_digest_140 : decode cX4_digest 140 = .ok (.ladd, 1) := by decide +kernel
theorem dX4_digest_141 : decode cX4_digest 141 = .ok (.lstore_n 1, 1) := by decide +kernel
theorem dX4_digest_142 : decode cX4_digest 142 = .ok (.iinc 5 1, 3) := by decide +kernel
theorem dX4_digest_145 : decode cX4_digest 145 = .ok (.goto (-26), 3) := by decide +kernel
theorem dX4_digest_148 : decode cX4_digest 148 = .ok (.iinc 3 1, 3) := by decide +kernel
theorem dX4_digest_151 : decode cX4_digest 151 = .ok (.goto (-131), 3) := by decide +kernel
theorem dX4_digest_154 : decode cX4_digest 154 = .ok (.iconst 0, 1) := by decide +kernel
theorem dX4_digest_155 : decode cX4_digest 155 = .ok (.istore_n 3, 1) := by decide +kernel
theorem dX4_digest_156 : decode cX4_digest 156 = .ok (.iload_n 3, 1) := by decide +kernel
theorem dX4_digest_157 : decode cX4_digest 157 = .ok (.iconst 2, 1) := by decide +kernel
theorem dX4_digest_158 : decode cX4_digest 158 = .ok (.if_icmp .gt 22, 3) := by decide +kernel
theorem dX4_digest_161 : decode cX4_digest 161 = .ok (.ldc2_w 171, 3) := by decide +kernel
theorem dX4_digest_164 : decode cX4_digest 164 = .ok (.lload_n 1, 1) := by decide +kernel
theorem dX4_digest_165 : decode cX4_digest 165 = .ok (.lmul, 1) := by decide +kernel
theorem dX4_digest_166 : decode cX4_digest 166 = .ok (.aload_n 0, 1) := by decide +kernel
theorem dX4_digest_167 : decode cX4_digest 167 = .ok (.iload_n 3, 1) := by decide +kernel
theorem dX4_digest_168 : decode cX4_digest 168 = .ok (.invokevirtual 180, 3) := by decide +kernel
theorem dX4_digest_171 : decode cX4_digest 171 = .ok (.i2l, 1) := by decide +kernel
theorem dX4_digest_172 : decode cX4_digest 172 = .ok (.ladd, 1) := by decide +kernel
theorem dX4_digest_173 : decode cX4_digest 173 = .ok (.lstore_n 1, 1) := by decide +kernel
theorem dX4_digest_174 : decode cX4_digest 174 = .ok (.iinc 3 1, 3) := by decide +kernel
theorem dX4_digest_177 : decode cX4_digest 177 = .ok (.goto (-21), 3) := by decide +kernel
theorem dX4_digest_180 : decode cX4_digest 180 = .ok (.ldc2_w 171, 3) := by decide +kernel
theorem dX4_digest_183 : decode cX4_digest 183 = .ok (.lload_n 1, 1) := by decide +kernel
theorem dX4_digest_184 : decode cX4_digest 184 = .ok (.lmul, 1) := by decide +kernel
theorem dX4_digest_185 : decode cX4_digest 185 = .ok (.aload_n 0, 1) := by decide +kernel
theorem dX4_digest_186 : decode cX4_digest 186 = .ok (.invokevirtual 183, 3) := by decide +kernel
theorem dX4_digest_189 : decode cX4_digest 189 = .ok (.i2l, 1) := by decide +kernel
theorem dX4_digest_190 : decode cX4_digest 190 = .ok (.ladd, 1) := by decide +kernel
theorem dX4_digest_191 : decode cX4_digest 191 = .ok (.lstore_n 1, 1) := by decide +kernel
theorem dX4_digest_192 : decode cX4_digest 192 = .ok (.iconst 0, 1) := by decide +kernel
theorem dX4_digest_193 : decode cX4_digest 193 = .ok (.istore_n 3, 1) := by decide +kernel
theorem dX4_digest_194 : decode cX4_digest 194 = .ok (.iload_n 3, 1) := by decide +kernel
theorem dX4_digest_195 : decode cX4_digest 195 = .ok (.aload_n 0, 1) := by decide +kernel
theorem dX4_digest_196 : decode cX4_digest 196 = .ok (.getfield 10, 3) := by decide +kernel
theorem dX4_digest_199 : decode cX4_digest 199 = .ok (.getfield 30, 3) := by decide +kernel
theorem dX4_digest_202 : decode cX4_digest 202 = .ok (.if_icmp .ge 25, 3) := by decide +kernel
theorem dX4_digest_205 : decode cX4_digest 205 = .ok (.ldc2_w 171, 3) := by decide +kernel
theorem dX4_digest_208 : decode cX4_digest 208 = .ok (.lload_n 1, 1) := by decide +kernel
theorem dX4_digest_209 : decode cX4_digest 209 = .ok (.lmul, 1) := by decide +kernel
theorem dX4_digest_210 : decode cX4_digest 210 = .ok (.aload_n 0, 1) := by decide +kernel
theorem dX4_digest_211 : decode cX4_digest 211 = .ok (.getfield 10, 3) := by decide +kernel
theorem dX4_digest_214 : decode cX4_digest 214 = .ok (.iload_n 3, 1) := by decide +kernel
theorem dX4_digest_215 : decode cX4_digest 215 = .ok (.invokevirtual 186, 3) := by decide +kernel
theorem dX4_digest_218 : decode cX4_digest 218 = .ok (.i2l, 1) := by decide +kernel
theorem dX4_digest_219 : decode cX4_digest 219 = .ok (.ladd, 1) := by decide +kernel
theorem dX4_digest_220 : decode cX4_digest 220 = .ok (.lstore_n 1, 1) := by decide +kernel
theorem dX4_digest_221 : decode cX4_digest 221 = .ok (.iinc 3 1, 3) := by decide +kernel
theorem dX4_digest_224 : decode cX4_digest 224 = .ok (.goto (-30), 3) := by decide +kernel
theorem dX4_digest_227 : decode cX4_digest 227 = .ok (.iconst 0, 1) := by decide +kernel
theorem dX4_digest_228 : decode cX4_digest 228 = .ok (.istore_n 3, 1) := by decide +kernel
theorem dX4_digest_229 : decode cX4_digest 229 = .ok (.iload_n 3, 1) := by decide +kernel
theorem dX4_digest_230 : decode cX4_digest 230 = .ok (.bipush 9, 2) := by decide +kernel
theorem dX4_digest_232 : decode cX4_digest 232 = .ok (.if_icmp .gt 22, 3) := by decide +kernel
theorem dX4_digest_235 : decode cX4_digest 235 = .ok (.ldc2_w 171, 3) := by decide +kernel
theorem dX4_digest_238 : decode cX4_digest 238 = .ok (.lload_n 1, 1) := by decide +kernel
theorem dX4_digest_239 : decode cX4_digest 239 = .ok (.lmul, 1) := by decide +kernel
theorem dX4_digest_240 : decode cX4_digest 240 = .ok (.aload_n 0, 1) := by decide +kernel
theorem dX4_digest_241 : decode cX4_digest 241 = .ok (.iload_n 3, 1) := by decide +kernel
theorem dX4_digest_242 : decode cX4_digest 242 = .ok (.invokevirtual 189, 3) := by decide +kernel
theorem dX4_digest_245 : decode cX4_digest 245 = .ok (.i2l, 1) := by decide +kernel
theorem dX4_digest_246 : decode cX4_digest 246 = .ok (.ladd, 1) := by decide +kernel
theorem dX4_digest_247 : decode cX4_digest 247 = .ok (.lstore_n 1, 1) := by decide +kernel
theorem dX4_digest_248 : decode cX4_digest 248 = .ok (.iinc 3 1, 3) := by decide +kernel
theorem dX4_digest_251 : decode cX4_digest 251 = .ok (.goto (-22), 3) := by decide +kernel
theorem dX4_digest_254 : decode cX4_digest 254 = .ok (.lload_n 1, 1) := by decide +kernel
theorem dX4_digest_255 : decode cX4_digest 255 = .ok (.lreturn, 1) := by decide +kernel
theorem dX4_digestOfParts_0 : decode cX4_digestOfParts 0 = .ok (.lload_n 1, 1) := by decide +kernel
theorem dX4_digestOfParts_1 : decode cX4_digestOfParts 1 = .ok (.lstore_n 3, 1) := by decide +kernel
theorem dX4_digestOfParts_2 : decode cX4_digestOfParts 2 = .ok (.iconst 0, 1) := by decide +kernel
theorem dX4_digestOfParts_3 : decode cX4_digestOfParts 3 = .ok (.istore 5, 2) := by decide +kernel
theorem dX4_digestOfParts_5 : decode cX4_digestOfParts 5 = .ok (.iload 5, 2) := by decide +kernel
theorem dX4_digestOfParts_7 : decode cX4_digestOfParts 7 = .ok (.aload_n 0, 1) := by decide +kernel
theorem dX4_digestOfParts_8 : decode cX4_digestOfParts 8 = .ok (.getfield 19, 3) := by decide +kernel
theorem dX4_digestOfParts_11 : decode cX4_digestOfParts 11 = .ok (.getfield 56, 3) := by decide +kernel
theorem dX4_digestOfParts_14 : decode cX4_digestOfParts 14 = .ok (.if_icmp .ge 40, 3) := by decide +kernel
theorem dX4_digestOfParts_17 : decode cX4_digestOfParts 17 = .ok (.iconst 0, 1) := by decide +kernel
theorem dX4_digestOfParts_18 : decode cX4_digestOfParts 18 = .ok (.istore 6, 2) := by decide +kernel
theorem dX4_digestOfParts_20 : decode cX4_digestOfParts 20 = .ok (.iload 6, 2) := by decide +kernel
theorem dX4_digestOfParts_22 : decode cX4_digestOfParts 22 = .ok (.iconst 5, 1) := by decide +kernel
theorem dX4_digestOfParts_23 : decode cX4_digestOfParts 23 = .ok (.if_icmp .gt 25, 3) := by decide +kernel
theorem dX4_digestOfParts_26 : decode cX4_digestOfParts 26 = .ok (.ldc2_w 171, 3) := by decide +kernel
theorem dX4_digestOfParts_29 : decode cX4_digestOfParts 29 = .ok (.lload_n 3, 1) := by decide +kernel
theorem dX4_digestOfParts_30 : decode cX4_digestOfParts 30 = .ok (.lmul, 1) := by decide +kernel
theorem dX4_digestOfParts_31 : decode cX4_digestOfParts 31 = .ok (.aload_n 0, 1) := by decide +kernel
theorem dX4_digestOfParts_32 : decode cX4_digestOfParts 32 = .ok (.iload 5, 2) := by decide +kernel
theorem dX4_digestOfParts_34 : decode cX4_digestOfParts 34 = .ok (.iload 6, 2) := by decide +kernel
theorem dX4_digestOfParts_36 : decode cX4_digestOfParts 36 = .ok (.invokevirtual 192, 3) := by decide +kernel
theorem dX4_digestOfParts_39 : decode cX4_digestOfParts 39 = .ok (.i2l, 1) := by decide +kernel
theorem dX4_digestOfParts_40 : decode cX4_digestOfParts 40 = .ok (.ladd, 1) := by decide +kernel
theorem dX4_digestOfParts_41 : decode cX4_digestOfParts 41 = .ok (.lstore_n 3, 1) := by decide +kernel
theorem dX4_digestOfParts_42 : decode cX4_digestOfParts 42 = .ok (.iinc 6 1, 3) := by decide +kernel
theorem dX4_digestOfParts_45 : decode cX4_digestOfParts 45 = .ok (.goto (-25), 3) := by decide +kernel
theorem dX4_digestOfParts_48 : decode cX4_digestOfParts 48 = .ok (.iinc 5 1, 3) := by decide +kernel
theorem dX4_digestOfParts_51 : decode cX4_digestOfParts 51 = .ok (.goto (-46), 3) := by decide +kernel
theorem dX4_digestOfParts_54 : decode cX4_digestOfParts 54 = .ok (.iconst 0, 1) := by decide +kernel
theorem dX4_digestOfParts_55 : decode cX4_digestOfParts 55 = .ok (.istore 5, 2) := by decide +kernel
theorem dX4_digestOfParts_57 : decode cX4_digestOfParts 57 = .ok (.iload 5, 2) := by decide +kernel
theorem dX4_digestOfParts_59 : decode cX4_digestOfParts 59 = .ok (.aload_n 0, 1) := by decide +kernel
theorem dX4_digestOfParts_60 : decode cX4_digestOfParts 60 = .ok (.getfield 19, 3) := by decide +kernel
theorem dX4_digestOfParts_63 : decode cX4_digestOfParts 63 = .ok (.getfield 162, 3) := by decide +kernel
theorem dX4_digestOfParts_66 : decode cX4_digestOfParts 66 = .ok (.if_icmp .ge 40, 3) := by decide +kernel
theorem dX4_digestOfParts_69 : decode cX4_digestOfParts 69 = .ok (.iconst 0, 1) := by decide +kernel
theorem dX4_digestOfParts_70 : decode cX4_digestOfParts 70 = .ok (.istore 6, 2) := by decide +kernel
theorem dX4_digestOfParts_72 : decode cX4_digestOfParts 72 = .ok (.iload 6, 2) := by decide +kernel
theorem dX4_digestOfParts_74 : decode cX4_digestOfParts 74 = .ok (.iconst 3, 1) := by decide +kernel
theorem dX4_digestOfParts_75 : decode cX4_digestOfParts 75 = .ok (.if_icmp .gt 25, 3) := by decide +kernel
theorem dX4_digestOfParts_78 : decode cX4_digestOfParts 78 = .ok (.ldc2_w 171, 3) := by decide +kernel
theorem dX4_digestOfParts_81 : decode cX4_digestOfParts 81 = .ok (.lload_n 3, 1) := by decide +kernel
theorem dX4_digestOfParts_82 : decode cX4_digestOfParts 82 = .ok (.lmul, 1) := by decide +kernel
theorem dX4_digestOfParts_83 : decode cX4_digestOfParts 83 = .ok (.aload_n 0, 1) := by decide +kernel
theorem dX4_digestOfParts_84 : decode cX4_digestOfParts 84 = .ok (.iload 5, 2) := by decide +kernel
theorem dX4_digestOfParts_86 : decode cX4_digestOfParts 86 = .ok (.iload 6, 2) := by decide +kernel
theorem dX4_digestOfParts_88 : decode cX4_digestOfParts 88 = .ok (.invokevirtual 195, 3) := by decide +kernel
theorem dX4_digestOfParts_91 : decode cX4_digestOfParts 91 = .ok (.i2l, 1) := by decide +kernel
theorem dX4_digestOfParts_92 : decode cX4_digestOfParts 92 = .ok (.ladd, 1) := by decide +kernel
theorem dX4_digestOfParts_93 : decode cX4_digestOfParts 93 = .ok (.lstore_n 3, 1) := by decide +kernel
theorem dX4_digestOfParts_94 : decode cX4_digestOfParts 94 = .ok (.iinc 6 1, 3) := by decide +kernel
theorem dX4_digestOfParts_97 : decode cX4_digestOfParts 97 = .ok (.goto (-25), 3) := by decide +kernel
theorem dX4_digestOfParts_100 : decode cX4_digestOfParts 100 = .ok (.iinc 5 1, 3) := by decide +kernel
theorem dX4_digestOfParts_103 : decode cX4_digestOfParts 103 = .ok (.goto (-46), 3) := by decide +kernel
theorem dX4_digestOfParts_106 : decode cX4_digestOfParts 106 = .ok (.lload_n 3, 1) := by decide +kernel
theorem dX4_digestOfParts_107 : decode cX4_digestOfParts 107 = .ok (.lreturn, 1) := by decide +kernel
theorem dX4_bit_0 : decode cX4_bit 0 = .ok (.iload_n 0, 1) := by decide +kernel
theorem dX4_bit_1 : decode cX4_bit 1 = .ok (.iload_n 1, 1) := by decide +kernel
theorem dX4_bit_2 : decode cX4_bit 2 = .ok (.ishr, 1) := by decide +kernel
theorem dX4_bit_3 : decode cX4_bit 3 = .ok (.iconst 1, 1) := by decide +kernel
theorem dX4_bit_4 : decode cX4_bit 4 = .ok (.iand, 1) := by decide +kernel
theorem dX4_bit_5 : decode cX4_bit 5 = .ok (.ireturn, 1) := by decide +kernel
theorem dX4_heatOf_0 : decode cX4_heatOf 0 = .ok (.iload_n 0, 1) := by decide +kernel
theorem dX4_heatOf_1 : decode cX4_heatOf 1 = .ok (.bipush 8, 2) := by decide +kernel
theorem dX4_heatOf_3 : decode cX4_heatOf 3 = .ok (.iload_n 1, 1) := by decide +kernel
theorem dX4_heatOf_4 : decode cX4_heatOf 4 = .ok (.imul, 1) := by decide +kernel
theorem dX4_heatOf_5 : decode cX4_heatOf 5 = .ok (.iushr, 1) := by decide +kernel
theorem dX4_heatOf_6 : decode cX4_heatOf 6 = .ok (.sipush 255, 3) := by decide +kernel
theorem dX4_heatOf_9 : decode cX4_heatOf 9 = .ok (.iand, 1) := by decide +kernel
theorem dX4_heatOf_10 : decode cX4_heatOf 10 = .ok (.ireturn, 1) := by decide +kernel
theorem dX4_sum_0 : decode cX4_sum 0 = .ok (.iload_n 0, 1) := by decide +kernel
theorem dX4_sum_1 : decode cX4_sum 1 = .ok (.iconst 0, 1) := by decide +kernel
theorem dX4_sum_2 : decode cX4_sum 2 = .ok (.invokestatic 117, 3) := by decide +kernel
theorem dX4_sum_5 : decode cX4_sum 5 = .ok (.iload_n 0, 1) := by decide +kernel
theorem dX4_sum_6 : decode cX4_sum 6 = .ok (.iconst 1, 1) := by decide +kernel
theorem dX4_sum_7 : decode cX4_sum 7 = .ok (.invokestatic 117, 3) := by decide +kernel
theorem dX4_sum_10 : decode cX4_sum 10 = .ok (.iadd, 1) := by decide +kernel
theorem dX4_sum_11 : decode cX4_sum 11 = .ok (.iload_n 0, 1) := by decide +kernel
theorem dX4_sum_12 : decode cX4_sum 12 = .ok (.iconst 2, 1) := by decide +kernel
theorem dX4_sum_13 : decode cX4_sum 13 = .ok (.invokestatic 117, 3) := by decide +kernel
theorem dX4_sum_16 : decode cX4_sum 16 = .ok (.iadd, 1) := by decide +kernel
theorem dX4_sum_17 : decode cX4_sum 17 = .ok (.iload_n 0, 1) := by decide +kernel
theorem dX4_sum_18 : decode cX4_sum 18 = .ok (.iconst 3, 1) := by decide +kernel
theorem dX4_sum_19 : decode cX4_sum 19 = .ok (.invokestatic 117, 3) := by decide +kernel
theorem dX4_sum_22 : decode cX4_sum 22 = .ok (.iadd, 1) := by decide +kernel
theorem dX4_sum_23 : decode cX4_sum 23 = .ok (.ireturn, 1) := by decide +kernel
theorem dX4_aimIn_0 : decode cX4_aimIn 0 = .ok (.iload_n 0, 1) := by decide +kernel
theorem dX4_aimIn_1 : decode cX4_aimIn 1 = .ok (.istore_n 2, 1) := by decide +kernel
theorem dX4_aimIn_2 : decode cX4_aimIn 2 = .ok (.iconst 0, 1) := by decide +kernel
theorem dX4_aimIn_3 : decode cX4_aimIn 3 = .ok (.istore_n 3, 1) := by decide +kernel
theorem dX4_aimIn_4 : decode cX4_aimIn 4 = .ok (.iload_n 3, 1) := by decide +kernel
theorem dX4_aimIn_5 : decode cX4_aimIn 5 = .ok (.iload_n 1, 1) := by decide +kernel
theorem dX4_aimIn_6 : decode cX4_aimIn 6 = .ok (.if_icmp .ge 18, 3) := by decide +kernel
theorem dX4_aimIn_9 : decode cX4_aimIn 9 = .ok (.iload_n 3, 1) := by decide +kernel
theorem dX4_aimIn_10 : decode cX4_aimIn 10 = .ok (.iconst 5, 1) := by decide +kernel
theorem dX4_aimIn_11 : decode cX4_aimIn 11 = .ok (.if_icmp .ge 13, 3) := by decide +kernel
theorem dX4_aimIn_14 : decode cX4_aimIn 14 = .ok (.iload_n 2, 1) := by decide +kernel
theorem dX4_aimIn_15 : decode cX4_aimIn 15 = .ok (.iconst 5, 1) := by decide +kernel
theorem dX4_aimIn_16 : decode cX4_aimIn 16 = .ok (.idiv, 1) := by decide +kernel
theorem dX4_aimIn_17 : decode cX4_aimIn 17 = .ok (.istore_n 2, 1) := by decide +kernel
theorem dX4_aimIn_18 : decode cX4_aimIn 18 = .ok (.iinc 3 1, 3) := by decide +kernel
theorem dX4_aimIn_21 : decode cX4_aimIn 21 = .ok (.goto (-17), 3) := by decide +kernel
theorem dX4_aimIn_24 : decode cX4_aimIn 24 = .ok (.iload_n 2, 1) := by decide +kernel
theorem dX4_aimIn_25 : decode cX4_aimIn 25 = .ok (.iconst 5, 1) := by decide +kernel
theorem dX4_aimIn_26 : decode cX4_aimIn 26 = .ok (.irem, 1) := by decide +kernel
theorem dX4_aimIn_27 : decode cX4_aimIn 27 = .ok (.iconst 1, 1) := by decide +kernel
theorem dX4_aimIn_28 : decode cX4_aimIn 28 = .ok (.isub, 1) := by decide +kernel
theorem dX4_aimIn_29 : decode cX4_aimIn 29 = .ok (.ireturn, 1) := by decide +kernel
theorem dX5_init_0 : decode cX5_init 0 = .ok (.aload_n 0, 1) := by decide +kernel
theorem dX5_init_1 : decode cX5_init 1 = .ok (.invokespecial 1, 3) := by decide +kernel
theorem dX5_init_4 : decode cX5_init 4 = .ok (.aload_n 0, 1) := by decide +kernel
theorem dX5_init_5 : decode cX5_init 5 = .ok (.bipush 21, 2) := by decide +kernel
theorem dX5_init_7 : decode cX5_init 7 = .ok (.newarray .int, 2) := by decide +kernel
theorem dX5_init_9 : decode cX5_init 9 = .ok (.putfield 7, 3) := by decide +kernel
theorem dX5_init_12 : decode cX5_init 12 = .ok (.aload_n 0, 1) := by decide +kernel
theorem dX5_init_13 : decode cX5_init 13 = .ok (.iconst 5, 1) := by decide +kernel
theorem dX5_init_14 : decode cX5_init 14 = .ok (.newarray .int, 2) := by decide +kernel
theorem dX5_init_16 : decode cX5_init 16 = .ok (.putfield 13, 3) := by decide +kernel
theorem dX5_init_19 : decode cX5_init 19 = .ok (.aload_n 0, 1) := by decide +kernel
theorem dX5_init_20 : decode cX5_init 20 = .ok (.iconst 5, 1) := by decide +kernel
theorem dX5_init_21 : decode cX5_init 21 = .ok (.newarray .int, 2) := by decide +kernel
theorem dX5_init_23 : decode cX5_init 23 = .ok (.putfield 16, 3) := by decide +kernel
theorem dX5_init_26 : decode cX5_init 26 = .ok (.aload_n 0, 1) := by decide +kernel
theorem dX5_init_27 : decode cX5_init 27 = .ok (.iconst 5, 1) := by decide +kernel
theorem dX5_init_28 : decode cX5_init 28 = .ok (.newarray .int, 2) := by decide +kernel
theorem dX5_init_30 : decode cX5_init 30 = .ok (.putfield 19, 3) := by decide +kernel
theorem dX5_init_33 : decode cX5_init 33 = .ok (.aload_n 0, 1) := by decide +kernel
theorem dX5_init_34 : decode cX5_init 34 = .ok (.iconst 4, 1) := by decide +kernel
theorem dX5_init_35 : decode cX5_init 35 = .ok (.newarray .int, 2) := by decide +kernel
theorem dX5_init_37 : decode cX5_init 37 = .ok (.putfield 22, 3) := by decide +kernel
theorem dX5_init_40 : decode cX5_init 40 = .ok (.aload_n 0, 1) := by decide +kernel
theorem dX5_init_41 : decode cX5_init 41 = .ok (.iconst 5, 1) := by decide +kernel
theorem dX5_init_42 : decode cX5_init 42 = .ok (.newarray .int, 2) := by decide +kernel
theorem dX5_init_44 : decode cX5_init 44 = .ok (.putfield 25, 3) := by decide +kernel
theorem dX5_init_47 : decode cX5_init 47 = .ok (.aload_n 0, 1) := by decide +kernel
theorem dX5_init_48 : decode cX5_init 48 = .ok (.sipush 3125, 3) := by decide +kernel
theorem dX5_init_51 : decode cX5_init 51 = .ok (.newarray .boolean, 2) := by decide +kernel
theorem dX5_init_53 : decode cX5_init 53 = .ok (.putfield 28, 3) := by decide +kernel
theorem dX5_init_56 : decode cX5_init 56 = .ok (.aload_n 0, 1) := by decide +kernel
theorem dX5_init_57 : decode cX5_init 57 = .ok (.sipush 3125, 3) := by decide +kernel
theorem dX5_init_60 : decode cX5_init 60 = .ok (.newarray .int, 2) := by decide +kernel
theorem dX5_init_62 : decode cX5_init 62 = .ok (.putfield 32, 3) := by decide +kernel
theorem dX5_init_65 : decode cX5_init 65 = .ok (.aload_n 0, 1) := by decide +kernel
theorem dX5_init_66 : decode cX5_init 66 = .ok (.sipush 3125, 3) := by decide +kernel
theorem dX5_init_69 : decode cX5_init 69 = .ok (.newarray .int, 2) := by decide +kernel
theorem dX5_init_71 : decode cX5_init 71 = .ok (.putfield 35, 3) := by decide +kernel
theorem dX5_init_74 : decode cX5_init 74 = .ok (.aload_n 0, 1) := by decide +kernel
theorem dX5_init_75 : decode cX5_init 75 = .ok (.bipush 15, 2) := by decide +kernel
theorem dX5_init_77 : decode cX5_init 77 = .ok (.newarray .int, 2) := by decide +kernel
theorem dX5_init_79 : decode cX5_init 79 = .ok (.putfield 38, 3) := by decide +kernel
theorem dX5_init_82 : decode cX5_init 82 = .ok (.return_, 1) := by decide +kernel
theorem dX5_within_0 : decode cX5_within 0 = .ok (.iload_n 0, 1) := by decide +kernel
theorem dX5_within_1 : decode cX5_within 1 = .ok (.iload_n 1, 1) := by decide +kernel
theorem dX5_within_2 : decode cX5_within 2 = .ok (.if_icmp .lt 12, 3) := by decide +kernel
theorem dX5_within_5 : decode cX5_within 5 = .ok (.iload_n 0, 1) := by decide +kernel
theorem dX5_within_6 : decode cX5_within 6 = .ok (.iload_n 2, 1) := by decide +kernel
theorem dX5_within_7 : decode cX5_within 7 = .ok (.if_icmp .gt 7, 3) := by decide +kernel
theorem dX5_within_10 : decode cX5_within 10 = .ok (.iconst 1, 1) := by decide +kernel
theorem dX5_within_11 : decode cX5_within 11 = .ok (.goto 4, 3) := by decide +kernel
theorem dX5_within_14 : decode cX5_within 14 = .ok (.iconst 0, 1) := by decide +kernel
theorem dX5_within_15 : decode cX5_within 15 = .ok (.ireturn, 1) := by decide +kernel
theorem dX5_has_0 : decode cX5_has 0 = .ok (.iload_n 0, 1) := by decide +kernel
theorem dX5_has_1 : decode cX5_has 1 = .ok (.iload_n 1, 1) := by decide +kernel
theorem dX5_has_2 : decode cX5_has 2 = .ok (.ishr, 1) := by decide +kernel
theorem dX5_has_3 : decode cX5_has 3 = .ok (.iconst 1, 1) := by decide +kernel
theorem dX5_has_4 : decode cX5_has 4 = .ok (.iand, 1) := by decide +kernel
theorem dX5_has_5 : decode cX5_has 5 = .ok (.iconst 1, 1) := by decide +kernel
theorem dX5_has_6 : decode cX5_has 6 = .ok (.if_icmp .ne 7, 3) := by decide +kernel
theorem dX5_has_9 : decode cX5_has 9 = .ok (.iconst 1, 1) := by decide +kernel
theorem dX5_has_10 : decode cX5_has 10 = .ok (.goto 4, 3) := by decide +kernel
theorem dX5_has_13 : decode cX5_has 13 = .ok (.iconst 0, 1) := by decide +kernel
theorem dX5_has_14 : decode cX5_has 14 = .ok (.ireturn, 1) := by decide +kernel
theorem dX5_letter_0 : decode cX5_letter 0 = .ok (.iload_n 1, 1) := by decide +kernel
theorem dX5_letter_1 : decode cX5_letter 1 = .ok (.bipush 32, 2) := by decide +kernel
theorem dX5_letter_3 : decode cX5_letter 3 = .ok (.bipush 126, 2) := by decide +kernel
theorem dX5_letter_5 : decode cX5_letter 5 = .ok (.invokestatic 41, 3) := by decide +kernel
theorem dX5_letter_8 : decode cX5_letter 8 = .ok (.ifCond .ne 7, 3) := by decide +kernel
theorem dX5_letter_11 : decode cX5_letter 11 = .ok (.sipush (-1003), 3) := by decide +kernel
theorem dX5_letter_14 : decode cX5_letter 14 = .ok (.ireturn, 1) := by decide +kernel
theorem dX5_letter_15 : decode cX5_letter 15 = .ok (.aload_n 0, 1) := by decide +kernel
theorem dX5_letter_16 : decode cX5_letter 16 = .ok (.getfield 45, 3) := by decide +kernel
theorem dX5_letter_19 : decode cX5_letter 19 = .ok (.bipush 21, 2) := by decide +kernel
theorem dX5_letter_21 : decode cX5_letter 21 = .ok (.if_icmp .ne 7, 3) := by decide +kernel
theorem dX5_letter_24 : decode cX5_letter 24 = .ok (.sipush (-1005), 3) := by decide +kernel
theorem dX5_letter_27 : decode cX5_letter 27 = .ok (.ireturn, 1) := by decide +kernel
theorem dX5_letter_28 : decode cX5_letter 28 = .ok (.aload_n 0, 1) := by decide +kernel
theorem dX5_letter_29 : decode cX5_letter 29 = .ok (.getfield 7, 3) := by decide +kernel
theorem dX5_letter_32 : decode cX5_letter 32 = .ok (.aload_n 0, 1) := by decide +kernel
theorem dX5_letter_33 : decode cX5_letter 33 = .ok (.getfield 45, 3) := by decide +kernel
theorem dX5_letter_36 : decode cX5_letter 36 = .ok (.iload_n 1, 1) := by decide +kernel
theorem dX5_letter_37 : decode cX5_letter 37 = .ok (.iastore, 1) := by decide +kernel
theorem dX5_letter_38 : decode cX5_letter 38 = .ok (.aload_n 0, 1) := by decide +kernel
theorem dX5_letter_39 : decode cX5_letter 39 = .ok (.dup, 1) := by decide +kernel
theorem dX5_letter_40 : decode cX5_letter 40 = .ok (.getfield 45, 3) := by decide +kernel
theorem dX5_letter_43 : decode cX5_letter 43 = .ok (.iconst 1, 1) := by decide +kernel
theorem dX5_letter_44 : decode cX5_letter 44 = .ok (.iadd, 1) := by decide +kernel
theorem dX5_letter_45 : decode cX5_letter 45 = .ok (.putfield 45, 3) := by decide +kernel
theorem dX5_letter_48 : decode cX5_letter 48 = .ok (.aload_n 0, 1) := by decide +kernel
theorem dX5_letter_49 : decode cX5_letter 49 = .ok (.getfield 45, 3) := by decide +kernel
theorem dX5_letter_52 : decode cX5_letter 52 = .ok (.ireturn, 1) := by decide +kernel
theorem dX5_blank_0 : decode cX5_blank 0 = .ok (.aload_n 0, 1) := by decide +kernel
theorem dX5_blank_1 : decode cX5_blank 1 = .ok (.getfield 45, 3) := by decide +kernel
theorem dX5_blank_4 : decode cX5_blank 4 = .ok (.istore_n 1, 1) := by decide +kernel
theorem dX5_blank_5 : decode cX5_blank 5 = .ok (.aload_n 0, 1) := by decide +kernel
theorem dX5_blank_6 : decode cX5_blank 6 = .ok (.iconst 0, 1) := by decide +kernel
theorem dX5_blank_7 : decode cX5_blank 7 = .ok (.putfield 45, 3) := by decide +kernel
theorem dX5_blank_10 : decode cX5_blank 10 = .ok (.iload_n 1, 1) := by decide +kernel
theorem dX5_blank_11 : decode cX5_blank 11 = .ok (.ireturn, 1) := by decide +kernel
theorem dX5_isRight_0 : decode cX5_isRight 0 = .ok (.aload_n 0, 1) := by decide +kernel
theorem dX5_isRight_1 : decode cX5_isRight 1 = .ok (.getfield 7, 3) := by decide +kernel
theorem dX5_isRight_4 : decode cX5_isRight 4 = .ok (.iload_n 1, 1) := by decide +kernel
theorem dX5_isRight_5 : decode cX5_isRight 5 = .ok (.iaload, 1) := by decide +kernel
theorem dX5_isRight_6 : decode cX5_isRight 6 = .ok (.istore_n 2, 1) := by decide +kernel
theorem dX5_isRight_7 : decode cX5_isRight 7 = .ok (.iload_n 1, 1) := by decide +kernel
theorem dX5_isRight_8 : decode cX5_isRight 8 = .ok (.ifCond .ne 12, 3) := by decide +kernel
theorem dX5_isRight_11 : decode cX5_isRight 11 = .ok (.iload_n 2, 1) := by decide +kernel
theorem dX5_isRight_12 : decode cX5_isRight 12 = .ok (.bipush 49, 2) := by decide +kernel
theorem dX5_isRight_14 : decode cX5_isRight 14 = .ok (.bipush 52, 2) := by decide +kernel
theorem dX5_isRight_16 : decode cX5_isRight 16 = .ok (.invokestatic 41, 3) := by decide +kernel
theorem dX5_isRight_19 : decode cX5_isRight 19 = .ok (.ireturn, 1) := by decide +kernel
theorem dX5_isRight_20 : decode cX5_isRight 20 = .ok (.iload_n 1, 1) := by decide +kernel
theorem dX5_isRight_21 : decode cX5_isRight 21 = .ok (.iconst 4, 1) := by decide +kernel
theorem dX5_isRight_22 : decode cX5_isRight 22 = .ok (.irem, 1) := by decide +kernel
theorem dX5_isRight_23 : decode cX5_isRight 23 = .ok (.tableswitch 58 1 3 #[25, 37, 46], 25) := by decide +kernel
theorem dX5_isRight_48 : decode cX5_isRight 48 = .ok (.iload_n 2, 1) := by decide +kernel
theorem dX5_isRight_49 : decode cX5_isRight 49 = .ok (.bipush 59, 2) := by decide +kernel
theorem dX5_isRight_51 : decode cX5_isRight 51 = .ok (.if_icmp .ne 7, 3) := by decide +kernel
theorem dX5_isRight_54 : decode cX5_isRight 54 = .ok (.iconst 1, 1) := by decide +kernel
theorem dX5_isRight_55 : decode cX5_isRight 55 = .ok (.goto 4, 3) := by decide +kernel
theorem dX5_isRight_58 : decode cX5_isRight 58 = .ok (.iconst 0, 1) := by decide +kernel
theorem dX5_isRight_59 : decode cX5_isRight 59 = .ok (.ireturn, 1) := by decide +kernel
theorem dX5_isRight_60 : decode cX5_isRight 60 = .ok (.iload_n 2, 1) := by decide +kernel
theorem dX5_isRight_61 : decode cX5_isRight 61 = .ok (.bipush 49, 2) := by decide +kernel
theorem dX5_isRight_63 : decode cX5_isRight 63 = .ok (.bipush 57, 2) := by decide +kernel
theorem dX5_isRight_65 : decode cX5_isRight 65 = .ok (.invokestatic 41, 3) := by decide +kernel
theorem dX5_isRight_68 : decode cX5_isRight 68 = .ok (.ireturn, 1) := by decide +kernel
theorem dX5_isRight_69 : decode cX5_isRight 69 = .ok (.iload_n 2, 1) := by decide +kernel
theorem dX5_isRight_70 : decode cX5_isRight 70 = .ok (.bipush 44, 2) := by decide +kernel
theorem dX5_isRight_72 : decode cX5_isRight 72 = .ok (.if_icmp .ne 7, 3) := by decide +kernel
theorem dX5_isRight_75 : decode cX5_isRight 75 = .ok (.iconst 1, 1) := by decide +kernel
theorem dX5_isRight_76 : decode cX5_isRight 76 = .ok (.goto 4, 3) := by decide +kernel
theorem dX5_isRight_79 : decode cX5_isRight 79 = .ok (.iconst 0, 1) := by decide +kernel
theorem dX5_isRight_80 : decode cX5_isRight 80 = .ok (.ireturn, 1) := by decide +kernel
theorem dX5_isRight_81 : decode cX5_isRight 81 = .ok (.iload_n 2, 1) := by decide +kernel
theorem dX5_isRight_82 : decode cX5_isRight 82 = .ok (.bipush 48, 2) := by decide +kernel
theorem dX5_isRight_84 : decode cX5_isRight 84 = .ok (.bipush 57, 2) := by decide +kernel
theorem dX5_isRight_86 : decode cX5_isRight 86 = .ok (.invokestatic 41, 3) := by decide +kernel
theorem dX5_isRight_89 : decode cX5_isRight 89 = .ok (.ireturn, 1) := by decide +kernel
theorem dX5_rightLetters_0 : decode cX5_rightLetters 0 = .ok (.iconst 0, 1) := by decide +kernel
theorem dX5_rightLetters_1 : decode cX5_rightLetters 1 = .ok (.istore_n 1, 1) := by decide +kernel
theorem dX5_rightLetters_2 : decode cX5_rightLetters 2 = .ok (.iload_n 1, 1) := by decide +kernel
theorem dX5_rightLetters_3 : decode cX5_rightLetters 3 = .ok (.aload_n 0, 1) := by decide +kernel
theorem dX5_rightLetters_4 : decode cX5_rightLetters 4 = .ok (.getfield 45, 3) := by decide +kernel
theorem dX5_rightLetters_7 : decode cX5_rightLetters 7 = .ok (.if_icmp .ge 17, 3) := by decide +kernel
theorem dX5_rightLetters_10 : decode cX5_rightLetters 10 = .ok (.aload_n 0, 1) := by decide +kernel
theorem dX5_rightLetters_11 : decode cX5_rightLetters 11 = .ok (.iload_n 1, 1) := by decide +kernel
theorem dX5_rightLetters_12 : decode cX5_rightLetters 12 = .ok (.invokevirtual 49, 3) := by decide +kernel
theorem dX5_rightLetters_15 : decode cX5_rightLetters 15 = .ok (.ifCond .eq 9, 3) := by decide +kernel
theorem dX5_rightLetters_18 : decode cX5_rightLetters 18 = .ok (.iinc 1 1, 3) := by decide +kernel
theorem dX5_rightLetters_21 : decode cX5_rightLetters 21 = .ok (.goto (-19), 3) := by decide +kernel
theorem dX5_rightLetters_24 : decode cX5_rightLetters 24 = .ok (.iload_n 1, 1) := by decide +kernel
theorem dX5_rightLetters_25 : decode cX5_rightLetters 25 = .ok (.ireturn, 1) := by decide +kernel
theorem dX5_fault_0 : decode cX5_fault 0 = .ok (.aload_n 0, 1) := by decide +kernel
theorem dX5_fault_1 : decode cX5_fault 1 = .ok (.invokevirtual 53, 3) := by decide +kernel
theorem dX5_fault_4 : decode cX5_fault 4 = .ok (.ireturn, 1) := by decide +kernel
theorem dX5_field_0 : decode cX5_field 0 = .ok (.aload_n 0, 1) := by decide +kernel
theorem dX5_field_1 : decode cX5_field 1 = .ok (.getfield 45, 3) := by decide +kernel
theorem dX5_field_4 : decode cX5_field 4 = .ok (.iconst 5, 1) := by decide +kernel
theorem dX5_field_5 : decode cX5_field 5 = .ok (.if_icmp .lt 24, 3) := by decide +kernel
theorem dX5_field_8 : decode cX5_field 8 = .ok (.aload_n 0, 1) := by decide +kernel
theorem dX5_field_9 : decode cX5_field 9 = .ok (.getfield 45, 3) := by decide +kernel
theorem dX5_field_12 : decode cX5_field 12 = .ok (.iconst 4, 1) := by decide +kernel
theorem dX5_field_13 : decode cX5_field 13 = .ok (.irem, 1) := by decide +kernel
theorem dX5_field_14 : decode cX5_field 14 = .ok (.iconst 1, 1) := by decide +kernel
theorem dX5_field_15 : decode cX5_field 15 = .ok (.if_icmp .ne 14, 3) := by decide +kernel
theorem dX5_field_18 : decode cX5_field 18 = .ok (.aload_n 0, 1) := by decide +kernel
theorem dX5_field_19 : decode cX5_field 19 = .ok (.invokevirtual 53, 3) := by decide +kernel
theorem dX5_field_22 : decode cX5_field 22 = .ok (.aload_n 0, 1) := by decide +kernel
theorem dX5_field_23 : decode cX5_field 23 = .ok (.getfield 45, 3) := by decide +kernel
theorem dX5_field_26 : decode cX5_field 26 = .ok (.if_icmp .ge 7, 3) := by decide +kernel
theorem dX5_field_29 : decode cX5_field 29 = .ok (.sipush (-1004), 3) := by decide +kernel
theorem dX5_field_32 : decode cX5_field 32 = .ok (.ireturn, 1) := by decide +kernel
theorem dX5_field_33 : decode cX5_field 33 = .ok (.aload_n 0, 1) := by decide +kernel
theorem dX5_field_34 : decode cX5_field 34 = .ok (.aload_n 0, 1) := by decide +kernel
theorem dX5_field_35 : decode cX5_field 35 = .ok (.getfield 7, 3) := by decide +kernel
theorem dX5_field_38 : decode cX5_field 38 = .ok (.iconst 0, 1) := by decide +kernel
theorem dX5_field_39 : decode cX5_field 39 = .ok (.iaload, 1) := by decide +kernel
theorem dX5_field_40 : decode cX5_field 40 = .ok (.bipush 48, 2) := by decide +kernel
theorem dX5_field_42 : decode cX5_field 42 = .ok (.isub, 1) := by decide +kernel
theorem dX5_field_43 : decode cX5_field 43 = .ok (.putfield 57, 3) := by decide +kernel
theorem dX5_field_46 : decode cX5_field 46 = .ok (.aload_n 0, 1) := by decide +kernel
theorem dX5_field_47 : decode cX5_field 47 = .ok (.aload_n 0, 1) := by decide +kernel
theorem dX5_field_48 : decode cX5_field 48 = .ok (.getfield 45, 3) := by decide +kernel
theorem dX5_field_51 : decode cX5_field 51 = .ok (.iconst 4, 1) := by decide +kernel
theorem dX5_field_52 : decode cX5_field 52 = .ok (.idiv, 1) := by decide +kernel
theorem dX5_field_53 : decode cX5_field 53 = .ok (.putfield 60, 3) := by decide +kernel
theorem dX5_field_56 : decode cX5_field 56 = .ok (.iconst 0, 1) := by decide +kernel
theorem dX5_field_57 : decode cX5_field 57 = .ok (.istore_n 1, 1) := by decide +kernel
theorem dX5_field_58 : decode cX5_field 58 = .ok (.iload_n 1, 1) := by decide +kernel
theorem dX5_field_59 : decode cX5_field 59 = .ok (.iconst 5, 1) := by decide +kernel
theorem dX5_field_60 : decode cX5_field 60 = .ok (.if_icmp .ge 78, 3) := by decide +kernel
theorem dX5_field_63 : decode cX5_field 63 = .ok (.aload_n 0, 1) := by decide +kernel
theorem dX5_field_64 : decode cX5_field 64 = .ok (.getfield 13, 3) := by decide +kernel
theorem dX5_field_67 : decode cX5_field 67 = .ok (.iload_n 1, 1) := by decide +kernel
theorem dX5_field_68 : decode cX5_field 68 = .ok (.iload_n 1, 1) := by decide +kernel
theorem dX5_field_69 : decode cX5_field 69 = .ok (.aload_n 0, 1) := by decide +kernel
theorem dX5_field_70 : decode cX5_field 70 = .ok (.getfield 60, 3) := by decide +kernel
theorem dX5_field_73 : decode cX5_field 73 = .ok (.if_icmp .ge 19, 3) := by decide +kernel
theorem dX5_field_76 : decode cX5_field 76 = .ok (.aload_n 0, 1) := by decide +kernel
theorem dX5_field_77 : decode cX5_field 77 = .ok (.getfield 7, 3) := by decide +kernel
theorem dX5_field_80 : decode cX5_field 80 = .ok (.iconst 4, 1) := by decide +kernel
theorem dX5_field_81 : decode cX5_field 81 = .ok (.iload_n 1, 1) := by decide +kernel
theorem dX5_field_82 : decode cX5_field 82 = .ok (.imul, 1) := by decide +kernel
theorem dX5_field_83 : decode cX5_field 83 = .ok (.iconst 2, 1) := by decide +kernel
theorem dX5_field_84 : decode cX5_field 84 = .ok (.iadd, 1) := by decide +kernel
theorem dX5_field_85 : decode cX5_field 85 = .ok (.iaload, 1) := by decide +kernel
theorem dX5_field_86 : decode cX5_field 86 = .ok (.bipush 48, 2) := by decide +kernel
theorem dX5_field_88 : decode cX5_field 88 = .ok (.isub, 1) := by decide +kernel
theorem dX5_field_89 : decode cX5_field 89 = .ok (.goto 4, 3) := by decide +kernel
theorem dX5_field_92 : decode cX5_field 92 = .ok (.iconst 0, 1) := by decide +kernel
theorem dX5_field_93 : decode cX5_field 93 = .ok (.iastore, 1) := by decide +kernel
theorem dX5_field_94 : decode cX5_field 94 = .ok (.aload_n 0, 1) := by decide +kernel
theorem dX5_field_95 : decode cX5_field 95 = .ok (.getfield 16, 3) := by decide +kernel
theorem dX5_field_98 : decode cX5_field 98 = .ok (.iload_n 1, 1) := by decide +kernel
theorem dX5_field_99 : decode cX5_field 99 = .ok (.iload_n 1, 1) := by decide +kernel
theorem dX5_field_100 : decode cX5_field 100 = .ok (.aload_n 0, 1) := by decide +kernel
theorem dX5_field_101 : decode cX5_field 101 = .ok (.getfield 60, 3) := by decide +kernel
theorem dX5_field_104 : decode cX5_field 104 = .ok (.if_icmp .ge 19, 3) := by decide +kernel
theorem dX5_field_107 : decode cX5_field 107 = .ok (.aload_n 0, 1) := by decide +kernel
theorem dX5_field_108 : decode cX5_field 108 = .ok (.getfield 7, 3) := by decide +kernel
theorem dX5_field_111 : decode cX5_field 111 = .ok (.iconst 4, 1) := by decide +kernel
theorem dX5_field_112 : decode cX5_field 112 = .ok (.iload_n 1, 1) := by decide +kernel
theorem dX5_field_113 : decode cX5_field 113 = .ok (.imul, 1) := by decide +kernel
theorem dX5_field_114 : decode cX5_field 114 = .ok (.iconst 4, 1) := by decide +kernel
theorem dX5_field_115 : decode cX5_field 115 = .ok (.iadd, 1) := by decide +kernel
theorem dX5_field_116 : decode cX5_field 116 = .ok (.iaload, 1) := by decide +kernel
theorem dX5_field_117 : decode cX5_field 117 = .ok (.bipush 48, 2) := by decide +kernel
theorem dX5_field_119 : decode cX5_field 119 = .ok (.isub, 1) := by decide +kernel
theorem dX5_field_120 : decode cX5_field 120 = .ok (.goto 4, 3) := by decide +kernel
theorem dX5_field_123 : decode cX5_field 123 = .ok (.iconst 0, 1) := by decide +kernel
theorem dX5_field_124 : decode cX5_field 124 = .ok (.iastore, 1) := by decide +kernel
theorem dX5_field_125 : decode cX5_field 125 = .ok (.aload_n 0, 1) := by decide +kernel
theorem dX5_field_126 : decode cX5_field 126 = .ok (.getfield 19, 3) := by decide +kernel
theorem dX5_field_129 : decode cX5_field 129 = .ok (.iload_n 1, 1) := by decide +kernel
theorem dX5_field_130 : decode cX5_field 130 = .ok (.iconst (-1), 1) := by decide +kernel
theorem dX5_field_131 : decode cX5_field 131 = .ok (.iastore, 1) := by decide +kernel
theorem dX5_field_132 : decode cX5_field 132 = .ok (.iinc 1 1, 3) := by decide +kernel
theorem dX5_field_135 : decode cX5_field 135 = .ok (.goto (-77), 3) := by decide +kernel
theorem dX5_field_138 : decode cX5_field 138 = .ok (.iconst 0, 1) := by decide +kernel
theorem dX5_field_139 : decode cX5_field 139 = .ok (.istore_n 1, 1) := by decide +kernel
theorem dX5_field_140 : decode cX5_field 140 = .ok (.iload_n 1, 1) := by decide +kernel
theorem dX5_field_141 : decode cX5_field 141 = .ok (.iconst 4, 1) := by decide +kernel
theorem dX5_field_142 : decode cX5_field 142 = .ok (.if_icmp .ge 17, 3) := by decide +kernel
theorem dX5_field_145 : decode cX5_field 145 = .ok (.aload_n 0, 1) := by decide +kernel
theorem dX5_field_146 : decode cX5_field 146 = .ok (.getfield 22, 3) := by decide +kernel
theorem dX5_field_149 : decode cX5_field 149 = .ok (.iload_n 1, 1) := by decide +kernel
theorem dX5_field_150 : decode cX5_field 150 = .ok (.bipush 20, 2) := by decide +kernel
theorem dX5_field_152 : decode cX5_field 152 = .ok (.iastore, 1) := by decide +kernel
theorem dX5_field_153 : decode cX5_field 153 = .ok (.iinc 1 1, 3) := by decide +kernel
theorem dX5_field_156 : decode cX5_field 156 = .ok (.goto (-16), 3) := by decide +kernel
theorem dX5_field_159 : decode cX5_field 159 = .ok (.aload_n 0, 1) := by decide +kernel
theorem dX5_field_160 : decode cX5_field 160 = .ok (.iconst 0, 1) := by decide +kernel
theorem dX5_field_161 : decode cX5_field 161 = .ok (.putfield 63, 3) := by decide +kernel
theorem dX5_field_164 : decode cX5_field 164 = .ok (.aload_n 0, 1) := by decide +kernel
theorem dX5_field_165 : decode cX5_field 165 = .ok (.iconst 0, 1) := by decide +kernel
theorem dX5_field_166 : decode cX5_field 166 = .ok (.putfield 66, 3) := by decide +kernel
theorem dX5_field_169 : decode cX5_field 169 = .ok (.aload_n 0, 1) := by decide +kernel
theorem dX5_field_170 : decode cX5_field 170 = .ok (.dup, 1) := by decide +kernel
theorem dX5_field_171 : decode cX5_field 171 = .ok (.getfield 69, 3) := by decide +kernel
theorem dX5_field_174 : decode cX5_field 174 = .ok (.iconst 1, 1) := by decide +kernel
theorem dX5_field_175 : decode cX5_field 175 = .ok (.iadd, 1) := by decide +kernel
theorem dX5_field_176 : decode cX5_field 176 = .ok (.putfield 69, 3) := by decide +kernel
theorem dX5_field_179 : decode cX5_field 179 = .ok (.aload_n 0, 1) := by decide +kernel
theorem dX5_field_180 : decode cX5_field 180 = .ok (.iconst 0, 1) := by decide +kernel
theorem dX5_field_181 : decode cX5_field 181 = .ok (.putfield 45, 3) := by decide +kernel
theorem dX5_field_184 : decode cX5_field 184 = .ok (.aload_n 0, 1) := by decide +kernel
theorem dX5_field_185 : decode cX5_field 185 = .ok (.getfield 60, 3) := by decide +kernel
theorem dX5_field_188 : decode cX5_field 188 = .ok (.ireturn, 1) := by decide +kernel
theorem dX5_isMirror_0 : decode cX5_isMirror 0 = .ok (.iload_n 1, 1) := by decide +kernel
theorem dX5_isMirror_1 : decode cX5_isMirror 1 = .ok (.iconst 0, 1) := by decide +kernel
theorem dX5_isMirror_2 : decode cX5_isMirror 2 = .ok (.aload_n 0, 1) := by decide +kernel
theorem dX5_isMirror_3 : decode cX5_isMirror 3 = .ok (.getfield 60, 3) := by decide +kernel
theorem dX5_isMirror_6 : decode cX5_isMirror 6 = .ok (.iconst 1, 1) := by decide +kernel
theorem dX5_isMirror_7 : decode cX5_isMirror 7 = .ok (.isub, 1) := by decide +kernel
theorem dX5_isMirror_8 : decode cX5_isMirror 8 = .ok (.invokestatic 41, 3) := by decide +kernel
theorem dX5_isMirror_11 : decode cX5_isMirror 11 = .ok (.ireturn, 1) := by decide +kernel
theorem dX5_isPatch_0 : decode cX5_isPatch 0 = .ok (.iload_n 1, 1) := by decide +kernel
theorem dX5_isPatch_1 : decode cX5_isPatch 1 = .ok (.iconst 0, 1) := by decide +kernel
theorem dX5_isPatch_2 : decode cX5_isPatch 2 = .ok (.aload_n 0, 1) := by decide +kernel
theorem dX5_isPatch_3 : decode cX5_isPatch 3 = .ok (.getfield 57, 3) := by decide +kernel
theorem dX5_isPatch_6 : decode cX5_isPatch 6 = .ok (.iconst 1, 1) := by decide +kernel
theorem dX5_isPatch_7 : decode cX5_isPatch 7 = .ok (.isub, 1) := by decide +kernel
theorem dX5_isPatch_8 : decode cX5_isPatch 8 = .ok (.invokestatic 41, 3) := by decide +kernel
theorem dX5_isPatch_11 : decode cX5_isPatch 11 = .ok (.ireturn, 1) := by decide +kernel
theorem dX5_gives_0 : decode cX5_gives 0 = .ok (.iload_n 2, 1) := by decide +kernel
theorem dX5_gives_1 : decode cX5_gives 1 = .ok (.iconst (-1), 1) := by decide +kernel
theorem dX5_gives_2 : decode cX5_gives 2 = .ok (.if_icmp .ne 5, 3) := by decide +kernel
theorem dX5_gives_5 : decode cX5_gives 5 = .ok (.iconst 0, 1) := by decide +kernel
theorem dX5_gives_6 : decode cX5_gives 6 = .ok (.ireturn, 1) := by decide +kernel
theorem dX5_gives_7 : decode cX5_gives 7 = .ok (.iload_n 2, 1) := by decide +kernel
theorem dX5_gives_8 : decode cX5_gives 8 = .ok (.iload_n 3, 1) := by decide +kernel
theorem dX5_gives_9 : decode cX5_gives 9 = .ok (.if_icmp .ge 9, 3) := by decide +kernel
theorem dX5_gives_12 : decode cX5_gives 12 = .ok (.iload_n 3, 1) := by decide +kernel
theorem dX5_gives_13 : decode cX5_gives 13 = .ok (.iload_n 2, 1) := by decide +kernel
theorem dX5_gives_14 : decode cX5_gives 14 = .ok (.isub, 1) := by decide +kernel
theorem dX5_gives_15 : decode cX5_gives 15 = .ok (.goto 6, 3) := by decide +kernel
theorem dX5_gives_18 : decode cX5_gives 18 = .ok (.iload_n 2, 1) := by decide +kernel
theorem dX5_gives_19 : decode cX5_gives 19 = .ok (.iload_n 3, 1) := by decide +kernel
theorem dX5_gives_20 : decode cX5_gives 20 = .ok (.isub, 1) := by decide +kernel
theorem dX5_gives_21 : decode cX5_gives 21 = .ok (.istore 4, 2) := by decide +kernel
theorem dX5_gives_23 : decode cX5_gives 23 = .ok (.iload 4, 2) := by decide +kernel
theorem dX5_gives_25 : decode cX5_gives 25 = .ok (.ifCond .ne 12, 3) := by decide +kernel
theorem dX5_gives_28 : decode cX5_gives 28 = .ok (.aload_n 0, 1) := by decide +kernel
theorem dX5_gives_29 : decode cX5_gives 29 = .ok (.getfield 13, 3) := by decide +kernel
theorem dX5_gives_32 : decode cX5_gives 32 = .ok (.iload_n 1, 1) := by decide +kernel
theorem dX5_gives_33 : decode cX5_gives 33 = .ok (.iaload, 1) := by decide +kernel
theorem dX5_gives_34 : decode cX5_gives 34 = .ok (.goto 19, 3) := by decide +kernel
theorem dX5_gives_37 : decode cX5_gives 37 = .ok (.iload 4, 2) := by decide +kernel
theorem dX5_gives_39 : decode cX5_gives 39 = .ok (.iconst 1, 1) := by decide +kernel
theorem dX5_gives_40 : decode cX5_gives 40 = .ok (.if_icmp .ne 12, 3) := by decide +kernel
theorem dX5_gives_43 : decode cX5_gives 43 = .ok (.aload_n 0, 1) := by decide +kernel
theorem dX5_gives_44 : decode cX5_gives 44 = .ok (.getfield 16, 3) := by decide +kernel
theorem dX5_gives_47 : decode cX5_gives 47 = .ok (.iload_n 1, 1) := by decide +kernel
theorem dX5_gives_48 : decode cX5_gives 48 = .ok (.iaload, 1) := by decide +kernel
theorem dX5_gives_49 : decode cX5_gives 49 = .ok (.goto 4, 3) := by decide +kernel
theorem dX5_gives_52 : decode cX5_gives 52 = .ok (.iconst 0, 1) := by decide +kernel
theorem dX5_gives_53 : decode cX5_gives 53 = .ok (.ireturn, 1) := by decide +kernel
theorem dX5_givesAll_0 : decode cX5_givesAll 0 = .ok (.iconst 0, 1) := by decide +kernel
theorem dX5_givesAll_1 : decode cX5_givesAll 1 = .ok (.istore_n 3, 1) := by decide +kernel
theorem dX5_givesAll_2 : decode cX5_givesAll 2 = .ok (.iconst 0, 1) := by decide +kernel
theorem dX5_givesAll_3 : decode cX5_givesAll 3 = .ok (.istore 4, 2) := by decide +kernel
theorem dX5_givesAll_5 : decode cX5_givesAll 5 = .ok (.iload 4, 2) := by decide +kernel
theorem dX5_givesAll_7 : decode cX5_givesAll 7 = .ok (.aload_n 0, 1) := by decide +kernel
theorem dX5_givesAll_8 : decode cX5_givesAll 8 = .ok (.getfield 57, 3) := by decide +kernel
theorem dX5_givesAll_11 : decode cX5_givesAll 11 = .ok (.if_icmp .ge 20, 3) := by decide +kernel
theorem dX5_givesAll_14 : decode cX5_givesAll 14 = .ok (.iload_n 3, 1) := by decide +kernel
theorem dX5_givesAll_15 : decode cX5_givesAll 15 = .ok (.aload_n 0, 1) := by decide +kernel
theorem dX5_givesAll_16 : decode cX5_givesAll 16 = .ok (.iload_n 1, 1) := by decide +kernel
theorem dX5_givesAll_17 : decode cX5_givesAll 17 = .ok (.iload_n 2, 1) := by decide +kernel
theorem dX5_givesAll_18 : decode cX5_givesAll 18 = .ok (.iload 4, 2) := by decide +kernel
theorem dX5_givesAll_20 : decode cX5_givesAll 20 = .ok (.invokevirtual 72, 3) := by decide +kernel
theorem dX5_givesAll_23 : decode cX5_givesAll 23 = .ok (.iadd, 1) := by decide +kernel
theorem dX5_givesAll_24 : decode cX5_givesAll 24 = .ok (.istore_n 3, 1) := by decide +kernel
theorem dX5_givesAll_25 : decode cX5_givesAll 25 = .ok (.iinc 4 1, 3) := by decide +kernel
theorem dX5_givesAll_28 : decode cX5_givesAll 28 = .ok (.goto (-23), 3) := by decide +kernel
theorem dX5_givesAll_31 : decode cX5_givesAll 31 = .ok (.iload_n 3, 1) := by decide +kernel
theorem dX5_givesAll_32 : decode cX5_givesAll 32 = .ok (.ireturn, 1) := by decide +kernel
theorem dX5_asTheyAre_0 : decode cX5_asTheyAre 0 = .ok (.iconst 0, 1) := by decide +kernel
theorem dX5_asTheyAre_1 : decode cX5_asTheyAre 1 = .ok (.istore_n 1, 1) := by decide +kernel
theorem dX5_asTheyAre_2 : decode cX5_asTheyAre 2 = .ok (.iload_n 1, 1) := by decide +kernel
theorem dX5_asTheyAre_3 : decode cX5_asTheyAre 3 = .ok (.iconst 5, 1) := by decide +kernel
theorem dX5_asTheyAre_4 : decode cX5_asTheyAre 4 = .ok (.if_icmp .ge 21, 3) := by decide +kernel
theorem dX5_asTheyAre_7 : decode cX5_asTheyAre 7 = .ok (.aload_n 0, 1) := by decide +kernel
theorem dX5_asTheyAre_8 : decode cX5_asTheyAre 8 = .ok (.getfield 25, 3) := by decide +kernel
theorem dX5_asTheyAre_11 : decode cX5_asTheyAre 11 = .ok (.iload_n 1, 1) := by decide +kernel
theorem dX5_asTheyAre_12 : decode cX5_asTheyAre 12 = .ok (.aload_n 0, 1) := by decide +kernel
theorem dX5_asTheyAre_13 : decode cX5_asTheyAre 13 = .ok (.getfield 19, 3) := by decide +kernel
theorem dX5_asTheyAre_16 : decode cX5_asTheyAre 16 = .ok (.iload_n 1, 1) := by decide +kernel
theorem dX5_asTheyAre_17 : decode cX5_asTheyAre 17 = .ok (.iaload, 1) := by decide +kernel
theorem dX5_asTheyAre_18 : decode cX5_asTheyAre 18 = .ok (.iastore, 1) := by decide +kernel
theorem dX5_asTheyAre_19 : decode cX5_asTheyAre 19 = .ok (.iinc 1 1, 3) := by decide +kernel
theorem dX5_asTheyAre_22 : decode cX5_asTheyAre 22 = .ok (.goto (-20), 3) := by decide +kernel
theorem dX5_asTheyAre_25 : decode cX5_asTheyAre 25 = .ok (.return_, 1) := by decide +kernel
theorem dX5_heatAt_0 : decode cX5_heatAt 0 = .ok (.iconst 0, 1) := by decide +kernel
theorem dX5_heatAt_1 : decode cX5_heatAt 1 = .ok (.istore_n 3, 1) := by decide +kernel
theorem dX5_heatAt_2 : decode cX5_heatAt 2 = .ok (.iconst 0, 1) := by decide +kernel
theorem dX5_heatAt_3 : decode cX5_heatAt 3 = .ok (.istore 4, 2) := by decide +kernel
theorem dX5_heatAt_5 : decode cX5_heatAt 5 = .ok (.iload 4, 2) := by decide +kernel
theorem dX5_heatAt_7 : decode cX5_heatAt 7 = .ok (.aload_n 0, 1) := by decide +kernel
theorem dX5_heatAt_8 : decode cX5_heatAt 8 = .ok (.getfield 60, 3) := by decide +kernel
theorem dX5_heatAt_11 : decode cX5_heatAt 11 = .ok (.if_icmp .ge 46, 3) := by decide +kernel
theorem dX5_heatAt_14 : decode cX5_heatAt 14 = .ok (.iload_n 3, 1) := by decide +kernel
theorem dX5_heatAt_15 : decode cX5_heatAt 15 = .ok (.iload_n 2, 1) := by decide +kernel
theorem dX5_heatAt_16 : decode cX5_heatAt 16 = .ok (.ifCond .ne 15, 3) := by decide +kernel
theorem dX5_heatAt_19 : decode cX5_heatAt 19 = .ok (.aload_n 0, 1) := by decide +kernel
theorem dX5_heatAt_20 : decode cX5_heatAt 20 = .ok (.getfield 63, 3) := by decide +kernel
theorem dX5_heatAt_23 : decode cX5_heatAt 23 = .ok (.iload 4, 2) := by decide +kernel
theorem dX5_heatAt_25 : decode cX5_heatAt 25 = .ok (.invokestatic 76, 3) := by decide +kernel
theorem dX5_heatAt_28 : decode cX5_heatAt 28 = .ok (.ifCond .ne 20, 3) := by decide +kernel
theorem dX5_heatAt_31 : decode cX5_heatAt 31 = .ok (.aload_n 0, 1) := by decide +kernel
theorem dX5_heatAt_32 : decode cX5_heatAt 32 = .ok (.iload 4, 2) := by decide +kernel
theorem dX5_heatAt_34 : decode cX5_heatAt 34 = .ok (.aload_n 0, 1) := by decide +kernel
theorem dX5_heatAt_35 : decode cX5_heatAt 35 = .ok (.getfield 25, 3) := by decide +kernel
theorem dX5_heatAt_38 : decode cX5_heatAt 38 = .ok (.iload 4, 2) := by decide +kernel
theorem dX5_heatAt_40 : decode cX5_heatAt 40 = .ok (.iaload, 1) := by decide +kernel
theorem dX5_heatAt_41 : decode cX5_heatAt 41 = .ok (.iload_n 1, 1) := by decide +kernel
theorem dX5_heatAt_42 : decode cX5_heatAt 42 = .ok (.invokevirtual 72, 3) := by decide +kernel
theorem dX5_heatAt_45 : decode cX5_heatAt 45 = .ok (.goto 4, 3) := by decide +kernel
theorem dX5_heatAt_48 : decode cX5_heatAt 48 = .ok (.iconst 0, 1) := by decide +kernel
theorem dX5_heatAt_49 : decode cX5_heatAt 49 = .ok (.iadd, 1) := by decide +kernel
theorem dX5_heatAt_50 : decode cX5_heatAt 50 = .ok (.istore_n 3, 1) := by decide +kernel
theorem dX5_heatAt_51 : decode cX5_heatAt 51 = .ok (.iinc 4 1, 3) := by decide +kernel
theorem dX5_heatAt_54 : decode cX5_heatAt 54 = .ok (.goto (-49), 3) := by decide +kernel
theorem dX5_heatAt_57 : decode cX5_heatAt 57 = .ok (.iload_n 3, 1) := by decide +kernel
theorem dX5_heatAt_58 : decode cX5_heatAt 58 = .ok (.ireturn, 1) := by decide +kernel
theorem dX5_isGood_0 : decode cX5_isGood 0 = .ok (.iconst 1, 1) := by decide +kernel
theorem dX5_isGood_1 : decode cX5_isGood 1 = .ok (.istore_n 2, 1) := by decide +kernel
theorem dX5_isGood_2 : decode cX5_isGood 2 = .ok (.iconst 0, 1) := by decide +kernel
theorem dX5_isGood_3 : decode cX5_isGood 3 = .ok (.istore_n 3, 1) := by decide +kernel
theorem dX5_isGood_4 : decode cX5_isGood 4 = .ok (.iload_n 3, 1) := by decide +kernel
theorem dX5_isGood_5 : decode cX5_isGood 5 = .ok (.aload_n 0, 1) := by decide +kernel
theorem dX5_isGood_6 : decode cX5_isGood 6 = .ok (.getfield 57, 3) := by decide +kernel
theorem dX5_isGood_9 : decode cX5_isGood 9 = .ok (.if_icmp .ge 34, 3) := by decide +kernel
theorem dX5_isGood_12 : decode cX5_isGood 12 = .ok (.iload_n 2, 1) := by decide +kernel
theorem dX5_isGood_13 : decode cX5_isGood 13 = .ok (.ifCond .eq 22, 3) := by decide +kernel
theorem dX5_isGood_16 : decode cX5_isGood 16 = .ok (.aload_n 0, 1) := by decide +kernel
theorem dX5_isGood_17 : decode cX5_isGood 17 = .ok (.iload_n 3, 1) := by decide +kernel
theorem dX5_isGood_18 : decode cX5_isGood 18 = .ok (.iload_n 1, 1) := by decide +kernel
theorem dX5_isGood_19 : decode cX5_isGood 19 = .ok (.invokevirtual 80, 3) := by decide +kernel
theorem dX5_isGood_22 : decode cX5_isGood 22 = .ok (.aload_n 0, 1) := by decide +kernel
theorem dX5_isGood_23 : decode cX5_isGood 23 = .ok (.getfield 22, 3) := by decide +kernel
theorem dX5_isGood_26 : decode cX5_isGood 26 = .ok (.iload_n 3, 1) := by decide +kernel
theorem dX5_isGood_27 : decode cX5_isGood 27 = .ok (.iaload, 1) := by decide +kernel
theorem dX5_isGood_28 : decode cX5_isGood 28 = .ok (.if_icmp .gt 7, 3) := by decide +kernel
theorem dX5_isGood_31 : decode cX5_isGood 31 = .ok (.iconst 1, 1) := by decide +kernel
theorem dX5_isGood_32 : decode cX5_isGood 32 = .ok (.goto 4, 3) := by decide +kernel
theorem dX5_isGood_35 : decode cX5_isGood 35 = .ok (.iconst 0, 1) := by decide +kernel
theorem dX5_isGood_36 : decode cX5_isGood 36 = .ok (.istore_n 2, 1) := by decide +kernel
theorem dX5_isGood_37 : decode cX5_isGood 37 = .ok (.iinc 3 1, 3) := by decide +kernel
theorem dX5_isGood_40 : decode cX5_isGood 40 = .ok (.goto (-36), 3) := by decide +kernel
theorem dX5_isGood_43 : decode cX5_isGood 43 = .ok (.iload_n 2, 1) := by decide +kernel
theorem dX5_isGood_44 : decode cX5_isGood 44 = .ok (.ireturn, 1) := by decide +kernel
theorem dX5_caught_0 : decode cX5_caught 0 = .ok (.iconst 0, 1) := by decide +kernel
theorem dX5_caught_1 : decode cX5_caught 1 = .ok (.istore_n 1, 1) := by decide +kernel
theorem dX5_caught_2 : decode cX5_caught 2 = .ok (.iconst 0, 1) := by decide +kernel
theorem dX5_caught_3 : decode cX5_caught 3 = .ok (.istore_n 2, 1) := by decide +kernel
theorem dX5_caught_4 : decode cX5_caught 4 = .ok (.iload_n 2, 1) := by decide +kernel
theorem dX5_caught_5 : decode cX5_caught 5 = .ok (.aload_n 0, 1) := by decide +kernel
theorem dX5_caught_6 : decode cX5_caught 6 = .ok (.getfield 57, 3) := by decide +kernel
theorem dX5_caught_9 : decode cX5_caught 9 = .ok (.if_icmp .ge 18, 3) := by decide +kernel
theorem dX5_caught_12 : decode cX5_caught 12 = .ok (.iload_n 1, 1) := by decide +kernel
theorem dX5_caught_13 : decode cX5_caught 13 = .ok (.aload_n 0, 1) := by decide +kernel
theorem dX5_caught_14 : decode cX5_caught 14 = .ok (.iload_n 2, 1) := by decide +kernel
theorem dX5_caught_15 : decode cX5_caught 15 = .ok (.iconst 0, 1) := by decide +kernel
theorem dX5_caught_16 : decode cX5_caught 16 = .ok (.invokevirtual 80, 3) := by decide +kernel
theorem dX5_caught_19 : decode cX5_caught 19 = .ok (.iadd, 1) := by decide +kernel
theorem dX5_caught_20 : decode cX5_caught 20 = .ok (.istore_n 1, 1) := by decide +kernel
theorem dX5_caught_21 : decode cX5_caught 21 = .ok (.iinc 2 1, 3) := by decide +kernel
theorem dX5_caught_24 : decode cX5_caught 24 = .ok (.goto (-20), 3) := by decide +kernel
theorem dX5_caught_27 : decode cX5_caught 27 = .ok (.iload_n 1, 1) := by decide +kernel
theorem dX5_caught_28 : decode cX5_caught 28 = .ok (.ireturn, 1) := by decide +kernel
theorem dX5_ceiling_0 : decode cX5_ceiling 0 = .ok (.aload_n 0, 1) := by decide +kernel
theorem dX5_ceiling_1 : decode cX5_ceiling 1 = .ok (.iload_n 1, 1) := by decide +kernel
theorem dX5_ceiling_2 : decode cX5_ceiling 2 = .ok (.invokevirtual 84, 3) := by decide +kernel
theorem dX5_ceiling_5 : decode cX5_ceiling 5 = .ok (.ifCond .ne 7, 3) := by decide +kernel
theorem dX5_ceiling_8 : decode cX5_ceiling 8 = .ok (.sipush (-1002), 3) := by decide +kernel
theorem dX5_ceiling_11 : decode cX5_ceiling 11 = .ok (.ireturn, 1) := by decide +kernel
theorem dX5_ceiling_12 : decode cX5_ceiling 12 = .ok (.iload_n 2, 1) := by decide +kernel
theorem dX5_ceiling_13 : decode cX5_ceiling 13 = .ok (.iconst 0, 1) := by decide +kernel
theorem dX5_ceiling_14 : decode cX5_ceiling 14 = .ok (.bipush 60, 2) := by decide +kernel
theorem dX5_ceiling_16 : decode cX5_ceiling 16 = .ok (.invokestatic 41, 3) := by decide +kernel
theorem dX5_ceiling_19 : decode cX5_ceiling 19 = .ok (.ifCond .ne 7, 3) := by decide +kernel
theorem dX5_ceiling_22 : decode cX5_ceiling 22 = .ok (.sipush (-1003), 3) := by decide +kernel
theorem dX5_ceiling_25 : decode cX5_ceiling 25 = .ok (.ireturn, 1) := by decide +kernel
theorem dX5_ceiling_26 : decode cX5_ceiling 26 = .ok (.aload_n 0, 1) := by decide +kernel
theorem dX5_ceiling_27 : decode cX5_ceiling 27 = .ok (.getfield 22, 3) := by decide +kernel
theorem dX5_ceiling_30 : decode cX5_ceiling 30 = .ok (.iload_n 1, 1) := by decide +kernel
theorem dX5_ceiling_31 : decode cX5_ceiling 31 = .ok (.iaload, 1) := by decide +kernel
theorem dX5_ceiling_32 : decode cX5_ceiling 32 = .ok (.istore_n 3, 1) := by decide +kernel
theorem dX5_ceiling_33 : decode cX5_ceiling 33 = .ok (.aload_n 0, 1) := by decide +kernel
theorem dX5_ceiling_34 : decode cX5_ceiling 34 = .ok (.getfield 22, 3) := by decide +kernel
theorem dX5_ceiling_37 : decode cX5_ceiling 37 = .ok (.iload_n 1, 1) := by decide +kernel
theorem dX5_ceiling_38 : decode cX5_ceiling 38 = .ok (.iload_n 2, 1) := by decide +kernel
theorem dX5_ceiling_39 : decode cX5_ceiling 39 = .ok (.iastore, 1) := by decide +kernel
theorem dX5_ceiling_40 : decode cX5_ceiling 40 = .ok (.iload_n 3, 1) := by decide +kernel
theorem dX5_ceiling_41 : decode cX5_ceiling 41 = .ok (.ireturn, 1) := by decide +kernel
theorem dX5_shade_0 : decode cX5_shade 0 = .ok (.aload_n 0, 1) := by decide +kernel
theorem dX5_shade_1 : decode cX5_shade 1 = .ok (.getfield 60, 3) := by decide +kernel
theorem dX5_shade_4 : decode cX5_shade 4 = .ok (.ifCond .ne 7, 3) := by decide +kernel
theorem dX5_shade_7 : decode cX5_shade 7 = .ok (.sipush (-1004), 3) := by decide +kernel
theorem dX5_shade_10 : decode cX5_shade 10 = .ok (.ireturn, 1) := by decide +kernel
theorem dX5_shade_11 : decode cX5_shade 11 = .ok (.iload_n 1, 1) := by decide +kernel
theorem dX5_shade_12 : decode cX5_shade 12 = .ok (.iconst 0, 1) := by decide +kernel
theorem dX5_shade_13 : decode cX5_shade 13 = .ok (.iconst 1, 1) := by decide +kernel
theorem dX5_shade_14 : decode cX5_shade 14 = .ok (.aload_n 0, 1) := by decide +kernel
theorem dX5_shade_15 : decode cX5_shade 15 = .ok (.getfield 60, 3) := by decide +kernel
theorem dX5_shade_18 : decode cX5_shade 18 = .ok (.ishl, 1) := by decide +kernel
theorem dX5_shade_19 : decode cX5_shade 19 = .ok (.iconst 1, 1) := by decide +kernel
theorem dX5_shade_20 : decode cX5_shade 20 = .ok (.isub, 1) := by decide +kernel
theorem dX5_shade_21 : decode cX5_shade 21 = .ok (.invokestatic 41, 3) := by decide +kernel
theorem dX5_shade_24 : decode cX5_shade 24 = .ok (.ifCond .ne 7, 3) := by decide +kernel
theorem dX5_shade_27 : decode cX5_shade 27 = .ok (.sipush (-1003), 3) := by decide +kernel
theorem dX5_shade_30 : decode cX5_shade 30 = .ok (.ireturn, 1) := by decide +kernel
theorem dX5_shade_31 : decode cX5_shade 31 = .ok (.aload_n 0, 1) := by decide +kernel
theorem dX5_shade_32 : decode cX5_shade 32 = .ok (.getfield 63, 3) := by decide +kernel
theorem dX5_shade_35 : decode cX5_shade 35 = .ok (.istore_n 2, 1) := by decide +kernel
theorem dX5_shade_36 : decode cX5_shade 36 = .ok (.aload_n 0, 1) := by decide +kernel
theorem dX5_shade_37 : decode cX5_shade 37 = .ok (.iload_n 1, 1) := by decide +kernel
theorem dX5_shade_38 : decode cX5_shade 38 = .ok (.putfield 63, 3) := by decide +kernel
theorem dX5_shade_41 : decode cX5_shade 41 = .ok (.iload_n 2, 1) := by decide +kernel
theorem dX5_shade_42 : decode cX5_shade 42 = .ok (.ireturn, 1) := by decide +kernel
theorem dX5_stuck_0 : decode cX5_stuck 0 = .ok (.aload_n 0, 1) := by decide +kernel
theorem dX5_stuck_1 : decode cX5_stuck 1 = .ok (.iload_n 1, 1) := by decide +kernel
theorem dX5_stuck_2 : decode cX5_stuck 2 = .ok (.invokevirtual 87, 3) := by decide +kernel
theorem dX5_stuck_5 : decode cX5_stuck 5 = .ok (.ifCond .ne 7, 3) := by decide +kernel
theorem dX5_stuck_8 : decode cX5_stuck 8 = .ok (.sipush (-1002), 3) := by decide +kernel
theorem dX5_stuck_11 : decode cX5_stuck 11 = .ok (.ireturn, 1) := by decide +kernel
theorem dX5_stuck_12 : decode cX5_stuck 12 = .ok (.aload_n 0, 1) := by decide +kernel
theorem dX5_stuck_13 : decode cX5_stuck 13 = .ok (.getfield 66, 3) := by decide +kernel
theorem dX5_stuck_16 : decode cX5_stuck 16 = .ok (.iload_n 1, 1) := by decide +kernel
theorem dX5_stuck_17 : decode cX5_stuck 17 = .ok (.ishr, 1) := by decide +kernel
theorem dX5_stuck_18 : decode cX5_stuck 18 = .ok (.iconst 1, 1) := by decide +kernel
theorem dX5_stuck_19 : decode cX5_stuck 19 = .ok (.iand, 1) := by decide +kernel
theorem dX5_stuck_20 : decode cX5_stuck 20 = .ok (.istore_n 3, 1) := by decide +kernel
theorem dX5_stuck_21 : decode cX5_stuck 21 = .ok (.aload_n 0, 1) := by decide +kernel
theorem dX5_stuck_22 : decode cX5_stuck 22 = .ok (.iload_n 2, 1) := by decide +kernel
theorem dX5_stuck_23 : decode cX5_stuck 23 = .ok (.ifCond .eq 14, 3) := by decide +kernel
theorem dX5_stuck_26 : decode cX5_stuck 26 = .ok (.aload_n 0, 1) := by decide +kernel
theorem dX5_stuck_27 : decode cX5_stuck 27 = .ok (.getfield 66, 3) := by decide +kernel
theorem dX5_stuck_30 : decode cX5_stuck 30 = .ok (.iconst 1, 1) := by decide +kernel
theorem dX5_stuck_31 : decode cX5_stuck 31 = .ok (.iload_n 1, 1) := by decide +kernel
theorem dX5_stuck_32 : decode cX5_stuck 32 = .ok (.ishl, 1) := by decide +kernel
theorem dX5_stuck_33 : decode cX5_stuck 33 = .ok (.ior, 1) := by decide +kernel
theorem dX5_stuck_34 : decode cX5_stuck 34 = .ok (.goto 13, 3) := by decide +kernel
theorem dX5_stuck_37 : decode cX5_stuck 37 = .ok (.aload_n 0, 1) := by decide +kernel
theorem dX5_stuck_38 : decode cX5_stuck 38 = .ok (.getfield 66, 3) := by decide +kernel
theorem dX5_stuck_41 : decode cX5_stuck 41 = .ok (.iconst 1, 1) := by decide +kernel
theorem dX5_stuck_42 : decode cX5_stuck 42 = .ok (.iload_n 1, 1) := by decide +kernel
theorem dX5_stuck_43 : decode cX5_stuck 43 = .ok (.ishl, 1) := by decide +kernel
theorem dX5_stuck_44 : decode cX5_stuck 44 = .ok (.iconst (-1), 1) := by decide +kernel
theorem dX5_stuck_45 : decode cX5_stuck 45 = .ok (.ixor, 1) := by decide +kernel
theorem dX5_stuck_46 : decode cX5_stuck 46 = .ok (.iand, 1) := by decide +kernel
theorem dX5_stuck_47 : decode cX5_stuck 47 = .ok (.putfield 66, 3) := by decide +kernel
theorem dX5_stuck_50 : decode cX5_stuck 50 = .ok (.iload_n 3, 1) := by decide +kernel
theorem dX5_stuck_51 : decode cX5_stuck 51 = .ok (.ireturn, 1) := by decide +kernel
theorem dX5_aim_0 : decode cX5_aim 0 = .ok (.aload_n 0, 1) := by decide +kernel
theorem dX5_aim_1 : decode cX5_aim 1 = .ok (.iload_n 1, 1) := by decide +kernel
theorem dX5_aim_2 : decode cX5_aim 2 = .ok (.invokevirtual 87, 3) := by decide +kernel
theorem dX5_aim_5 : decode cX5_aim 5 = .ok (.ifCond .ne 7, 3) := by decide +kernel
theorem dX5_aim_8 : decode cX5_aim 8 = .ok (.sipush (-1002), 3) := by decide +kernel
theorem dX5_aim_11 : decode cX5_aim 11 = .ok (.ireturn, 1) := by decide +kernel
theorem dX5_aim_12 : decode cX5_aim 12 = .ok (.iload_n 2, 1) := by decide +kernel
theorem dX5_aim_13 : decode cX5_aim 13 = .ok (.iconst (-1), 1) := by decide +kernel
theorem dX5_aim_14 : decode cX5_aim 14 = .ok (.if_icmp .eq 15, 3) := by decide +kernel
theorem dX5_aim_17 : decode cX5_aim 17 = .ok (.aload_n 0, 1) := by decide +kernel
theorem dX5_aim_18 : decode cX5_aim 18 = .ok (.iload_n 2, 1) := by decide +kernel
theorem dX5_aim_19 : decode cX5_aim 19 = .ok (.invokevirtual 84, 3) := by decide +kernel
theorem dX5_aim_22 : decode cX5_aim 22 = .ok (.ifCond .ne 7, 3) := by decide +kernel
theorem dX5_aim_25 : decode cX5_aim 25 = .ok (.sipush (-1003), 3) := by decide +kernel
theorem dX5_aim_28 : decode cX5_aim 28 = .ok (.ireturn, 1) := by decide +kernel
theorem dX5_aim_29 : decode cX5_aim 29 = .ok (.aload_n 0, 1) := by decide +kernel
theorem dX5_aim_30 : decode cX5_aim 30 = .ok (.invokevirtual 90, 3) := by decide +kernel
theorem dX5_aim_33 : decode cX5_aim 33 = .ok (.aload_n 0, 1) := by decide +kernel
theorem dX5_aim_34 : decode cX5_aim 34 = .ok (.getfield 25, 3) := by decide +kernel
theorem dX5_aim_37 : decode cX5_aim 37 = .ok (.iload_n 1, 1) := by decide +kernel
theorem dX5_aim_38 : decode cX5_aim 38 = .ok (.iload_n 2, 1) := by decide +kernel
theorem dX5_aim_39 : decode cX5_aim 39 = .ok (.iastore, 1) := by decide +kernel
theorem dX5_aim_40 : decode cX5_aim 40 = .ok (.aload_n 0, 1) := by decide +kernel
theorem dX5_aim_41 : decode cX5_aim 41 = .ok (.getfield 66, 3) := by decide +kernel
theorem dX5_aim_44 : decode cX5_aim 44 = .ok (.iload_n 1, 1) := by decide +kernel
theorem dX5_aim_45 : decode cX5_aim 45 = .ok (.invokestatic 76, 3) := by decide +kernel
theorem dX5_aim_48 : decode cX5_aim 48 = .ok (.ifCond .ne 16, 3) := by decide +kernel
theorem dX5_aim_51 : decode cX5_aim 51 = .ok (.iload_n 2, 1) := by decide +kernel
theorem dX5_aim_52 : decode cX5_aim 52 = .ok (.iconst (-1), 1) := by decide +kernel
theorem dX5_aim_53 : decode cX5_aim 53 = .ok (.if_icmp .eq 15, 3) := by decide +kernel
theorem dX5_aim_56 : decode cX5_aim 56 = .ok (.aload_n 0, 1) := by decide +kernel
theorem dX5_aim_57 : decode cX5_aim 57 = .ok (.iconst 0, 1) := by decide +kernel
theorem dX5_aim_58 : decode cX5_aim 58 = .ok (.invokevirtual 93, 3) := by decide +kernel
theorem dX5_aim_61 : decode cX5_aim 61 = .ok (.ifCond .ne 7, 3) := by decide +kernel
theorem dX5_aim_64 : decode cX5_aim 64 = .ok (.sipush (-1004), 3) := by decide +kernel
theorem dX5_aim_67 : decode cX5_aim 67 = .ok (.ireturn, 1) := by decide +kernel
theorem dX5_aim_68 : decode cX5_aim 68 = .ok (.aload_n 0, 1) := by decide +kernel
theorem dX5_aim_69 : decode cX5_aim 69 = .ok (.getfield 19, 3) := by decide +kernel
theorem dX5_aim_72 : decode cX5_aim 72 = .ok (.iload_n 1, 1) := by decide +kernel
theorem dX5_aim_73 : decode cX5_aim 73 = .ok (.iaload, 1) := by decide +kernel
theorem dX5_aim_74 : decode cX5_aim 74 = .ok (.istore_n 3, 1) := by decide +kernel
theorem dX5_aim_75 : decode cX5_aim 75 = .ok (.aload_n 0, 1) := by decide +kernel
theorem dX5_aim_76 : decode cX5_aim 76 = .ok (.getfield 19, 3) := by decide +kernel
theorem dX5_aim_79 : decode cX5_aim 79 = .ok (.iload_n 1, 1) := by decide +kernel
theorem dX5_aim_80 : decode cX5_aim 80 = .ok (.iload_n 2, 1) := by decide +kernel
theorem dX5_aim_81 : decode cX5_aim 81 = .ok (.iastore, 1) := by decide +kernel
theorem dX5_aim_82 : decode cX5_aim 82 = .ok (.aload_n 0, 1) := by decide +kernel
theorem dX5_aim_83 : decode cX5_aim 83 = .ok (.dup, 1) := by decide +kernel
theorem dX5_aim_84 : decode cX5_aim 84 = .ok (.getfield 97, 3) := by decide +kernel
theorem dX5_aim_87 : decode cX5_aim 87 = .ok (.iconst 1, 1) := by decide +kernel
theorem dX5_aim_88 : decode cX5_aim 88 = .ok (.iadd, 1) := by decide +kernel
theorem dX5_aim_89 : decode cX5_aim 89 = .ok (.putfield 97, 3) := by decide +kernel
theorem dX5_aim_92 : decode cX5_aim 92 = .ok (.iload_n 3, 1) := by decide +kernel
theorem dX5_aim_93 : decode cX5_aim 93 = .ok (.ireturn, 1) := by decide +kernel
theorem dX5_ofMirror_0 : decode cX5_ofMirror 0 = .ok (.iload_n 2, 1) := by decide +kernel
theorem dX5_ofMirror_1 : decode cX5_ofMirror 1 = .ok (.tableswitch 74 0 4 #[35, 42, 49, 56, 65], 35) := by decide +kernel
theorem dX5_ofMirror_36 : decode cX5_ofMirror 36 = .ok (.aload_n 0, 1) := by decide +kernel
theorem dX5_ofMirror_37 : decode cX5_ofMirror 37 = .ok (.getfield 13, 3) := by decide +kernel
theorem dX5_ofMirror_40 : decode cX5_ofMirror 40 = .ok (.iload_n 1, 1) := by decide +kernel
theorem dX5_ofMirror_41 : decode cX5_ofMirror 41 = .ok (.iaload, 1) := by decide +kernel
theorem dX5_ofMirror_42 : decode cX5_ofMirror 42 = .ok (.ireturn, 1) := by decide +kernel
theorem dX5_ofMirror_43 : decode cX5_ofMirror 43 = .ok (.aload_n 0, 1) := by decide +kernel
theorem dX5_ofMirror_44 : decode cX5_ofMirror 44 = .ok (.getfield 16, 3) := by decide +kernel
theorem dX5_ofMirror_47 : decode cX5_ofMirror 47 = .ok (.iload_n 1, 1) := by decide +kernel
theorem dX5_ofMirror_48 : decode cX5_ofMirror 48 = .ok (.iaload, 1) := by decide +kernel
theorem dX5_ofMirror_49 : decode cX5_ofMirror 49 = .ok (.ireturn, 1) := by decide +kernel
theorem dX5_ofMirror_50 : decode cX5_ofMirror 50 = .ok (.aload_n 0, 1) := by decide +kernel
theorem dX5_ofMirror_51 : decode cX5_ofMirror 51 = .ok (.getfield 19, 3) := by decide +kernel
theorem dX5_ofMirror_54 : decode cX5_ofMirror 54 = .ok (.iload_n 1, 1) := by decide +kernel
theorem dX5_ofMirror_55 : decode cX5_ofMirror 55 = .ok (.iaload, 1) := by decide +kernel
theorem dX5_ofMirror_56 : decode cX5_ofMirror 56 = .ok (.ireturn, 1) := by decide +kernel
theorem dX5_ofMirror_57 : decode cX5_ofMirror 57 = .ok (.aload_n 0, 1) := by decide +kernel
theorem dX5_ofMirror_58 : decode cX5_ofMirror 58 = .ok (.getfield 63, 3) := by decide +kernel
theorem dX5_ofMirror_61 : decode cX5_ofMirror 61 = .ok (.iload_n 1, 1) := by decide +kernel
theorem dX5_ofMirror_62 : decode cX5_ofMirror 62 = .ok (.ishr, 1) := by decide +kernel
theorem dX5_ofMirror_63 : decode cX5_ofMirror 63 = .ok (.iconst 1, 1) := by decide +kernel
theorem dX5_ofMirror_64 : decode cX5_ofMirror 64 = .ok (.iand, 1) := by decide +kernel
theorem dX5_ofMirror_65 : decode cX5_ofMirror 65 = .ok (.ireturn, 1) := by decide +kernel
theorem dX5_ofMirror_66 : decode cX5_ofMirror 66 = .ok (.aload_n 0, 1) := by decide +kernel
theorem dX5_ofMirror_67 : decode cX5_ofMirror 67 = .ok (.getfield 66, 3) := by decide +kernel
theorem dX5_ofMirror_70 : decode cX5_ofMirror 70 = .ok (.iload_n 1, 1) := by decide +kernel
theorem dX5_ofMirror_71 : decode cX5_ofMirror 71 = .ok (.ishr, 1) := by decide +kernel
theorem dX5_ofMirror_72 : decode cX5_ofMirror 72 = .ok (.iconst 1, 1) := by decide +kernel
theorem dX5_ofMirror_73 : decode cX5_ofMirror 73 = .ok (.iand, 1) := by decide +kernel
theorem dX5_ofMirror_74 : decode cX5_ofMirror 74 = .ok (.ireturn, 1) := by decide +kernel
theorem dX5_ofMirror_75 : decode cX5_ofMirror 75 = .ok (.aload_n 0, 1) := by decide +kernel
theorem dX5_ofMirror_76 : decode cX5_ofMirror 76 = .ok (.getfield 63, 3) := by decide +kernel
theorem dX5_ofMirror_79 : decode cX5_ofMirror 79 = .ok (.iload_n 1, 1) := by decide +kernel
theorem dX5_ofMirror_80 : decode cX5_ofMirror 80 = .ok (.invokestatic 76, 3) := by decide +kernel
theorem dX5_ofMirror_83 : decode cX5_ofMirror 83 = .ok (.ifCond .eq 7, 3) := by decide +kernel
theorem dX5_ofMirror_86 : decode cX5_ofMirror 86 = .ok (.iconst 0, 1) := by decide +kernel
theorem dX5_ofMirror_87 : decode cX5_ofMirror 87 = .ok (.goto 14, 3) := by decide +kernel
theorem dX5_ofMirror_90 : decode cX5_ofMirror 90 = .ok (.aload_n 0, 1) := by decide +kernel
theorem dX5_ofMirror_91 : decode cX5_ofMirror 91 = .ok (.iload_n 1, 1) := by decide +kernel
