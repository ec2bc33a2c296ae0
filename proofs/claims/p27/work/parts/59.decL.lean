theorem dL_below_0 : decode cL_below 0 = .ok (.iload_n 0, 1) := by decide +kernel
theorem dL_below_1 : decode cL_below 1 = .ok (.ldc 7, 2) := by decide +kernel
theorem dL_below_3 : decode cL_below 3 = .ok (.iand, 1) := by decide +kernel
theorem dL_below_4 : decode cL_below 4 = .ok (.iload_n 1, 1) := by decide +kernel
theorem dL_below_5 : decode cL_below 5 = .ok (.irem, 1) := by decide +kernel
theorem dL_below_6 : decode cL_below 6 = .ok (.ireturn, 1) := by decide +kernel
theorem dL_cell_0 : decode cL_cell 0 = .ok (.iload_n 1, 1) := by decide +kernel
theorem dL_cell_1 : decode cL_cell 1 = .ok (.aload_n 0, 1) := by decide +kernel
theorem dL_cell_2 : decode cL_cell 2 = .ok (.arraylength, 1) := by decide +kernel
theorem dL_cell_3 : decode cL_cell 3 = .ok (.if_icmp .ge 9, 3) := by decide +kernel
theorem dL_cell_6 : decode cL_cell 6 = .ok (.aload_n 0, 1) := by decide +kernel
theorem dL_cell_7 : decode cL_cell 7 = .ok (.iload_n 1, 1) := by decide +kernel
theorem dL_cell_8 : decode cL_cell 8 = .ok (.iaload, 1) := by decide +kernel
theorem dL_cell_9 : decode cL_cell 9 = .ok (.goto 9, 3) := by decide +kernel
theorem dL_cell_12 : decode cL_cell 12 = .ok (.ldc 8, 2) := by decide +kernel
theorem dL_cell_14 : decode cL_cell 14 = .ok (.iload_n 1, 1) := by decide +kernel
theorem dL_cell_15 : decode cL_cell 15 = .ok (.iconst 3, 1) := by decide +kernel
theorem dL_cell_16 : decode cL_cell 16 = .ok (.iadd, 1) := by decide +kernel
theorem dL_cell_17 : decode cL_cell 17 = .ok (.imul, 1) := by decide +kernel
theorem dL_cell_18 : decode cL_cell 18 = .ok (.ireturn, 1) := by decide +kernel
theorem dL_build_0 : decode cL_build 0 = .ok (.iconst 3, 1) := by decide +kernel
theorem dL_build_1 : decode cL_build 1 = .ok (.newarray .int, 2) := by decide +kernel
theorem dL_build_3 : decode cL_build 3 = .ok (.dup, 1) := by decide +kernel
theorem dL_build_4 : decode cL_build 4 = .ok (.iconst 0, 1) := by decide +kernel
theorem dL_build_5 : decode cL_build 5 = .ok (.iconst 1, 1) := by decide +kernel
theorem dL_build_6 : decode cL_build 6 = .ok (.aload_n 1, 1) := by decide +kernel
theorem dL_build_7 : decode cL_build 7 = .ok (.iload_n 2, 1) := by decide +kernel
theorem dL_build_8 : decode cL_build 8 = .ok (.invokestatic 9, 3) := by decide +kernel
theorem dL_build_11 : decode cL_build 11 = .ok (.iconst 4, 1) := by decide +kernel
theorem dL_build_12 : decode cL_build 12 = .ok (.invokestatic 15, 3) := by decide +kernel
theorem dL_build_15 : decode cL_build 15 = .ok (.iadd, 1) := by decide +kernel
theorem dL_build_16 : decode cL_build 16 = .ok (.iastore, 1) := by decide +kernel
theorem dL_build_17 : decode cL_build 17 = .ok (.dup, 1) := by decide +kernel
theorem dL_build_18 : decode cL_build 18 = .ok (.iconst 1, 1) := by decide +kernel
theorem dL_build_19 : decode cL_build 19 = .ok (.aload_n 1, 1) := by decide +kernel
theorem dL_build_20 : decode cL_build 20 = .ok (.iload_n 2, 1) := by decide +kernel
theorem dL_build_21 : decode cL_build 21 = .ok (.invokestatic 9, 3) := by decide +kernel
theorem dL_build_24 : decode cL_build 24 = .ok (.iconst 3, 1) := by decide +kernel
theorem dL_build_25 : decode cL_build 25 = .ok (.ishr, 1) := by decide +kernel
theorem dL_build_26 : decode cL_build 26 = .ok (.iconst 4, 1) := by decide +kernel
theorem dL_build_27 : decode cL_build 27 = .ok (.invokestatic 15, 3) := by decide +kernel
theorem dL_build_30 : decode cL_build 30 = .ok (.iastore, 1) := by decide +kernel
theorem dL_build_31 : decode cL_build 31 = .ok (.dup, 1) := by decide +kernel
theorem dL_build_32 : decode cL_build 32 = .ok (.iconst 2, 1) := by decide +kernel
theorem dL_build_33 : decode cL_build 33 = .ok (.iconst 0, 1) := by decide +kernel
theorem dL_build_34 : decode cL_build 34 = .ok (.iastore, 1) := by decide +kernel
theorem dL_build_35 : decode cL_build 35 = .ok (.astore 7, 2) := by decide +kernel
theorem dL_build_37 : decode cL_build 37 = .ok (.iconst 0, 1) := by decide +kernel
theorem dL_build_38 : decode cL_build 38 = .ok (.istore 8, 2) := by decide +kernel
theorem dL_build_40 : decode cL_build 40 = .ok (.iload 8, 2) := by decide +kernel
theorem dL_build_42 : decode cL_build 42 = .ok (.aload 7, 2) := by decide +kernel
theorem dL_build_44 : decode cL_build 44 = .ok (.iconst 0, 1) := by decide +kernel
theorem dL_build_45 : decode cL_build 45 = .ok (.iaload, 1) := by decide +kernel
theorem dL_build_46 : decode cL_build 46 = .ok (.if_icmp .ge 91, 3) := by decide +kernel
theorem dL_build_49 : decode cL_build 49 = .ok (.aload 4, 2) := by decide +kernel
theorem dL_build_51 : decode cL_build 51 = .ok (.iconst 2, 1) := by decide +kernel
theorem dL_build_52 : decode cL_build 52 = .ok (.iload 8, 2) := by decide +kernel
theorem dL_build_54 : decode cL_build 54 = .ok (.imul, 1) := by decide +kernel
theorem dL_build_55 : decode cL_build 55 = .ok (.iconst 1, 1) := by decide +kernel
theorem dL_build_56 : decode cL_build 56 = .ok (.aload_n 1, 1) := by decide +kernel
theorem dL_build_57 : decode cL_build 57 = .ok (.iload_n 2, 1) := by decide +kernel
theorem dL_build_58 : decode cL_build 58 = .ok (.iconst 1, 1) := by decide +kernel
theorem dL_build_59 : decode cL_build 59 = .ok (.iadd, 1) := by decide +kernel
theorem dL_build_60 : decode cL_build 60 = .ok (.invokestatic 9, 3) := by decide +kernel
theorem dL_build_63 : decode cL_build 63 = .ok (.iconst 4, 1) := by decide +kernel
theorem dL_build_64 : decode cL_build 64 = .ok (.iload 8, 2) := by decide +kernel
theorem dL_build_66 : decode cL_build 66 = .ok (.imul, 1) := by decide +kernel
theorem dL_build_67 : decode cL_build 67 = .ok (.ishr, 1) := by decide +kernel
theorem dL_build_68 : decode cL_build 68 = .ok (.bipush 9, 2) := by decide +kernel
theorem dL_build_70 : decode cL_build 70 = .ok (.invokestatic 15, 3) := by decide +kernel
theorem dL_build_73 : decode cL_build 73 = .ok (.iadd, 1) := by decide +kernel
theorem dL_build_74 : decode cL_build 74 = .ok (.iastore, 1) := by decide +kernel
theorem dL_build_75 : decode cL_build 75 = .ok (.aload 4, 2) := by decide +kernel
theorem dL_build_77 : decode cL_build 77 = .ok (.iconst 2, 1) := by decide +kernel
theorem dL_build_78 : decode cL_build 78 = .ok (.iload 8, 2) := by decide +kernel
theorem dL_build_80 : decode cL_build 80 = .ok (.imul, 1) := by decide +kernel
theorem dL_build_81 : decode cL_build 81 = .ok (.iconst 1, 1) := by decide +kernel
theorem dL_build_82 : decode cL_build 82 = .ok (.iadd, 1) := by decide +kernel
theorem dL_build_83 : decode cL_build 83 = .ok (.iconst 1, 1) := by decide +kernel
theorem dL_build_84 : decode cL_build 84 = .ok (.aload_n 1, 1) := by decide +kernel
theorem dL_build_85 : decode cL_build 85 = .ok (.iload_n 2, 1) := by decide +kernel
theorem dL_build_86 : decode cL_build 86 = .ok (.iconst 1, 1) := by decide +kernel
theorem dL_build_87 : decode cL_build 87 = .ok (.iadd, 1) := by decide +kernel
theorem dL_build_88 : decode cL_build 88 = .ok (.invokestatic 9, 3) := by decide +kernel
theorem dL_build_91 : decode cL_build 91 = .ok (.iconst 5, 1) := by decide +kernel
theorem dL_build_92 : decode cL_build 92 = .ok (.iload 8, 2) := by decide +kernel
theorem dL_build_94 : decode cL_build 94 = .ok (.imul, 1) := by decide +kernel
theorem dL_build_95 : decode cL_build 95 = .ok (.ishr, 1) := by decide +kernel
theorem dL_build_96 : decode cL_build 96 = .ok (.iconst 4, 1) := by decide +kernel
theorem dL_build_97 : decode cL_build 97 = .ok (.invokestatic 15, 3) := by decide +kernel
theorem dL_build_100 : decode cL_build 100 = .ok (.iconst 3, 1) := by decide +kernel
theorem dL_build_101 : decode cL_build 101 = .ok (.idiv, 1) := by decide +kernel
theorem dL_build_102 : decode cL_build 102 = .ok (.iadd, 1) := by decide +kernel
theorem dL_build_103 : decode cL_build 103 = .ok (.iastore, 1) := by decide +kernel
theorem dL_build_104 : decode cL_build 104 = .ok (.aload_n 0, 1) := by decide +kernel
theorem dL_build_105 : decode cL_build 105 = .ok (.aload 4, 2) := by decide +kernel
theorem dL_build_107 : decode cL_build 107 = .ok (.iconst 2, 1) := by decide +kernel
theorem dL_build_108 : decode cL_build 108 = .ok (.iload 8, 2) := by decide +kernel
theorem dL_build_110 : decode cL_build 110 = .ok (.imul, 1) := by decide +kernel
theorem dL_build_111 : decode cL_build 111 = .ok (.iaload, 1) := by decide +kernel
theorem dL_build_112 : decode cL_build 112 = .ok (.aload 4, 2) := by decide +kernel
theorem dL_build_114 : decode cL_build 114 = .ok (.iconst 2, 1) := by decide +kernel
theorem dL_build_115 : decode cL_build 115 = .ok (.iload 8, 2) := by decide +kernel
theorem dL_build_117 : decode cL_build 117 = .ok (.imul, 1) := by decide +kernel
theorem dL_build_118 : decode cL_build 118 = .ok (.iconst 1, 1) := by decide +kernel
theorem dL_build_119 : decode cL_build 119 = .ok (.iadd, 1) := by decide +kernel
theorem dL_build_120 : decode cL_build 120 = .ok (.iaload, 1) := by decide +kernel
theorem dL_build_121 : decode cL_build 121 = .ok (.invokevirtual 19, 3) := by decide +kernel
theorem dL_build_124 : decode cL_build 124 = .ok (.iload 8, 2) := by decide +kernel
theorem dL_build_126 : decode cL_build 126 = .ok (.if_icmp .eq 5, 3) := by decide +kernel
theorem dL_build_129 : decode cL_build 129 = .ok (.aconst_null, 1) := by decide +kernel
theorem dL_build_130 : decode cL_build 130 = .ok (.areturn, 1) := by decide +kernel
theorem dL_build_131 : decode cL_build 131 = .ok (.iinc 8 1, 3) := by decide +kernel
theorem dL_build_134 : decode cL_build 134 = .ok (.goto (-94), 3) := by decide +kernel
theorem dL_build_137 : decode cL_build 137 = .ok (.iconst 0, 1) := by decide +kernel
theorem dL_build_138 : decode cL_build 138 = .ok (.istore 8, 2) := by decide +kernel
theorem dL_build_140 : decode cL_build 140 = .ok (.iload 8, 2) := by decide +kernel
theorem dL_build_142 : decode cL_build 142 = .ok (.aload 7, 2) := by decide +kernel
theorem dL_build_144 : decode cL_build 144 = .ok (.iconst 1, 1) := by decide +kernel
theorem dL_build_145 : decode cL_build 145 = .ok (.iaload, 1) := by decide +kernel
theorem dL_build_146 : decode cL_build 146 = .ok (.if_icmp .ge 88, 3) := by decide +kernel
theorem dL_build_149 : decode cL_build 149 = .ok (.aload 5, 2) := by decide +kernel
theorem dL_build_151 : decode cL_build 151 = .ok (.iconst 2, 1) := by decide +kernel
theorem dL_build_152 : decode cL_build 152 = .ok (.iload 8, 2) := by decide +kernel
theorem dL_build_154 : decode cL_build 154 = .ok (.imul, 1) := by decide +kernel
theorem dL_build_155 : decode cL_build 155 = .ok (.iconst 1, 1) := by decide +kernel
theorem dL_build_156 : decode cL_build 156 = .ok (.aload_n 1, 1) := by decide +kernel
theorem dL_build_157 : decode cL_build 157 = .ok (.iload_n 2, 1) := by decide +kernel
theorem dL_build_158 : decode cL_build 158 = .ok (.iconst 2, 1) := by decide +kernel
theorem dL_build_159 : decode cL_build 159 = .ok (.iadd, 1) := by decide +kernel
theorem dL_build_160 : decode cL_build 160 = .ok (.invokestatic 9, 3) := by decide +kernel
theorem dL_build_163 : decode cL_build 163 = .ok (.iconst 4, 1) := by decide +kernel
theorem dL_build_164 : decode cL_build 164 = .ok (.iload 8, 2) := by decide +kernel
theorem dL_build_166 : decode cL_build 166 = .ok (.imul, 1) := by decide +kernel
theorem dL_build_167 : decode cL_build 167 = .ok (.ishr, 1) := by decide +kernel
theorem dL_build_168 : decode cL_build 168 = .ok (.bipush 20, 2) := by decide +kernel
theorem dL_build_170 : decode cL_build 170 = .ok (.invokestatic 15, 3) := by decide +kernel
theorem dL_build_173 : decode cL_build 173 = .ok (.iadd, 1) := by decide +kernel
theorem dL_build_174 : decode cL_build 174 = .ok (.iastore, 1) := by decide +kernel
theorem dL_build_175 : decode cL_build 175 = .ok (.aload 5, 2) := by decide +kernel
theorem dL_build_177 : decode cL_build 177 = .ok (.iconst 2, 1) := by decide +kernel
theorem dL_build_178 : decode cL_build 178 = .ok (.iload 8, 2) := by decide +kernel
theorem dL_build_180 : decode cL_build 180 = .ok (.imul, 1) := by decide +kernel
theorem dL_build_181 : decode cL_build 181 = .ok (.iconst 1, 1) := by decide +kernel
theorem dL_build_182 : decode cL_build 182 = .ok (.iadd, 1) := by decide +kernel
theorem dL_build_183 : decode cL_build 183 = .ok (.aload_n 1, 1) := by decide +kernel
theorem dL_build_184 : decode cL_build 184 = .ok (.iload_n 2, 1) := by decide +kernel
theorem dL_build_185 : decode cL_build 185 = .ok (.iconst 2, 1) := by decide +kernel
theorem dL_build_186 : decode cL_build 186 = .ok (.iadd, 1) := by decide +kernel
theorem dL_build_187 : decode cL_build 187 = .ok (.invokestatic 9, 3) := by decide +kernel
theorem dL_build_190 : decode cL_build 190 = .ok (.iconst 5, 1) := by decide +kernel
theorem dL_build_191 : decode cL_build 191 = .ok (.iload 8, 2) := by decide +kernel
theorem dL_build_193 : decode cL_build 193 = .ok (.imul, 1) := by decide +kernel
theorem dL_build_194 : decode cL_build 194 = .ok (.ishr, 1) := by decide +kernel
theorem dL_build_195 : decode cL_build 195 = .ok (.bipush 20, 2) := by decide +kernel
theorem dL_build_197 : decode cL_build 197 = .ok (.invokestatic 15, 3) := by decide +kernel
theorem dL_build_200 : decode cL_build 200 = .ok (.iastore, 1) := by decide +kernel
theorem dL_build_201 : decode cL_build 201 = .ok (.aload_n 0, 1) := by decide +kernel
theorem dL_build_202 : decode cL_build 202 = .ok (.aload 5, 2) := by decide +kernel
theorem dL_build_204 : decode cL_build 204 = .ok (.iconst 2, 1) := by decide +kernel
theorem dL_build_205 : decode cL_build 205 = .ok (.iload 8, 2) := by decide +kernel
theorem dL_build_207 : decode cL_build 207 = .ok (.imul, 1) := by decide +kernel
theorem dL_build_208 : decode cL_build 208 = .ok (.iaload, 1) := by decide +kernel
theorem dL_build_209 : decode cL_build 209 = .ok (.aload 5, 2) := by decide +kernel
theorem dL_build_211 : decode cL_build 211 = .ok (.iconst 2, 1) := by decide +kernel
theorem dL_build_212 : decode cL_build 212 = .ok (.iload 8, 2) := by decide +kernel
theorem dL_build_214 : decode cL_build 214 = .ok (.imul, 1) := by decide +kernel
theorem dL_build_215 : decode cL_build 215 = .ok (.iconst 1, 1) := by decide +kernel
theorem dL_build_216 : decode cL_build 216 = .ok (.iadd, 1) := by decide +kernel
theorem dL_build_217 : decode cL_build 217 = .ok (.iaload, 1) := by decide +kernel
theorem dL_build_218 : decode cL_build 218 = .ok (.invokevirtual 24, 3) := by decide +kernel
theorem dL_build_221 : decode cL_build 221 = .ok (.iload 8, 2) := by decide +kernel
theorem dL_build_223 : decode cL_build 223 = .ok (.if_icmp .eq 5, 3) := by decide +kernel
theorem dL_build_226 : decode cL_build 226 = .ok (.aconst_null, 1) := by decide +kernel
theorem dL_build_227 : decode cL_build 227 = .ok (.areturn, 1) := by decide +kernel
theorem dL_build_228 : decode cL_build 228 = .ok (.iinc 8 1, 3) := by decide +kernel
theorem dL_build_231 : decode cL_build 231 = .ok (.goto (-91), 3) := by decide +kernel
theorem dL_build_234 : decode cL_build 234 = .ok (.aload_n 1, 1) := by decide +kernel
theorem dL_build_235 : decode cL_build 235 = .ok (.iload_n 2, 1) := by decide +kernel
theorem dL_build_236 : decode cL_build 236 = .ok (.invokestatic 9, 3) := by decide +kernel
theorem dL_build_239 : decode cL_build 239 = .ok (.bipush 6, 2) := by decide +kernel
theorem dL_build_241 : decode cL_build 241 = .ok (.ishr, 1) := by decide +kernel
theorem dL_build_242 : decode cL_build 242 = .ok (.iload_n 3, 1) := by decide +kernel
theorem dL_build_243 : decode cL_build 243 = .ok (.iconst 1, 1) := by decide +kernel
theorem dL_build_244 : decode cL_build 244 = .ok (.iadd, 1) := by decide +kernel
theorem dL_build_245 : decode cL_build 245 = .ok (.invokestatic 15, 3) := by decide +kernel
theorem dL_build_248 : decode cL_build 248 = .ok (.istore 8, 2) := by decide +kernel
theorem dL_build_250 : decode cL_build 250 = .ok (.iconst 0, 1) := by decide +kernel
theorem dL_build_251 : decode cL_build 251 = .ok (.istore 9, 2) := by decide +kernel
theorem dL_build_253 : decode cL_build 253 = .ok (.iload 9, 2) := by decide +kernel
theorem dL_build_255 : decode cL_build 255 = .ok (.iload 8, 2) := by decide +kernel
theorem dL_build_257 : decode cL_build 257 = .ok (.if_icmp .ge 44, 3) := by decide +kernel
theorem dL_build_260 : decode cL_build 260 = .ok (.aload_n 0, 1) := by decide +kernel
theorem dL_build_261 : decode cL_build 261 = .ok (.aload_n 1, 1) := by decide +kernel
theorem dL_build_262 : decode cL_build 262 = .ok (.iload_n 2, 1) := by decide +kernel
theorem dL_build_263 : decode cL_build 263 = .ok (.iconst 3, 1) := by decide +kernel
theorem dL_build_264 : decode cL_build 264 = .ok (.iadd, 1) := by decide +kernel
theorem dL_build_265 : decode cL_build 265 = .ok (.iload 9, 2) := by decide +kernel
theorem dL_build_267 : decode cL_build 267 = .ok (.bipush 6, 2) := by decide +kernel
theorem dL_build_269 : decode cL_build 269 = .ok (.irem, 1) := by decide +kernel
theorem dL_build_270 : decode cL_build 270 = .ok (.iadd, 1) := by decide +kernel
theorem dL_build_271 : decode cL_build 271 = .ok (.invokestatic 9, 3) := by decide +kernel
theorem dL_build_274 : decode cL_build 274 = .ok (.iload 9, 2) := by decide +kernel
theorem dL_build_276 : decode cL_build 276 = .ok (.bipush 6, 2) := by decide +kernel
theorem dL_build_278 : decode cL_build 278 = .ok (.idiv, 1) := by decide +kernel
theorem dL_build_279 : decode cL_build 279 = .ok (.bipush 7, 2) := by decide +kernel
theorem dL_build_281 : decode cL_build 281 = .ok (.imul, 1) := by decide +kernel
theorem dL_build_282 : decode cL_build 282 = .ok (.ishr, 1) := by decide +kernel
theorem dL_build_283 : decode cL_build 283 = .ok (.aload 7, 2) := by decide +kernel
theorem dL_build_285 : decode cL_build 285 = .ok (.aload 6, 2) := by decide +kernel
theorem dL_build_287 : decode cL_build 287 = .ok (.invokestatic 27, 3) := by decide +kernel
theorem dL_build_290 : decode cL_build 290 = .ok (.ifCond .ne 5, 3) := by decide +kernel
theorem dL_build_293 : decode cL_build 293 = .ok (.aconst_null, 1) := by decide +kernel
theorem dL_build_294 : decode cL_build 294 = .ok (.areturn, 1) := by decide +kernel
theorem dL_build_295 : decode cL_build 295 = .ok (.iinc 9 1, 3) := by decide +kernel
theorem dL_build_298 : decode cL_build 298 = .ok (.goto (-45), 3) := by decide +kernel
theorem dL_build_301 : decode cL_build 301 = .ok (.aload 7, 2) := by decide +kernel
theorem dL_build_303 : decode cL_build 303 = .ok (.areturn, 1) := by decide +kernel
theorem dL_write_0 : decode cL_write 0 = .ok (.bipush 6, 2) := by decide +kernel
theorem dL_write_2 : decode cL_write 2 = .ok (.aload_n 2, 1) := by decide +kernel
theorem dL_write_3 : decode cL_write 3 = .ok (.iconst 2, 1) := by decide +kernel
theorem dL_write_4 : decode cL_write 4 = .ok (.iaload, 1) := by decide +kernel
theorem dL_write_5 : decode cL_write 5 = .ok (.imul, 1) := by decide +kernel
theorem dL_write_6 : decode cL_write 6 = .ok (.istore 4, 2) := by decide +kernel
theorem dL_write_8 : decode cL_write 8 = .ok (.iload_n 1, 1) := by decide +kernel
theorem dL_write_9 : decode cL_write 9 = .ok (.aload_n 2, 1) := by decide +kernel
theorem dL_write_10 : decode cL_write 10 = .ok (.iconst 0, 1) := by decide +kernel
theorem dL_write_11 : decode cL_write 11 = .ok (.iaload, 1) := by decide +kernel
theorem dL_write_12 : decode cL_write 12 = .ok (.invokestatic 15, 3) := by decide +kernel
theorem dL_write_15 : decode cL_write 15 = .ok (.istore 5, 2) := by decide +kernel
theorem dL_write_17 : decode cL_write 17 = .ok (.iconst 0, 1) := by decide +kernel
theorem dL_write_18 : decode cL_write 18 = .ok (.istore 6, 2) := by decide +kernel
theorem dL_write_20 : decode cL_write 20 = .ok (.iconst 0, 1) := by decide +kernel
theorem dL_write_21 : decode cL_write 21 = .ok (.istore 7, 2) := by decide +kernel
theorem dL_write_23 : decode cL_write 23 = .ok (.iconst 0, 1) := by decide +kernel
theorem dL_write_24 : decode cL_write 24 = .ok (.istore 8, 2) := by decide +kernel
theorem dL_write_26 : decode cL_write 26 = .ok (.iload 8, 2) := by decide +kernel
theorem dL_write_28 : decode cL_write 28 = .ok (.aload_n 2, 1) := by decide +kernel
theorem dL_write_29 : decode cL_write 29 = .ok (.iconst 2, 1) := by decide +kernel
theorem dL_write_30 : decode cL_write 30 = .ok (.iaload, 1) := by decide +kernel
theorem dL_write_31 : decode cL_write 31 = .ok (.if_icmp .ge 99, 3) := by decide +kernel
theorem dL_write_34 : decode cL_write 34 = .ok (.aload_n 3, 1) := by decide +kernel
theorem dL_write_35 : decode cL_write 35 = .ok (.bipush 6, 2) := by decide +kernel
theorem dL_write_37 : decode cL_write 37 = .ok (.iload 8, 2) := by decide +kernel
theorem dL_write_39 : decode cL_write 39 = .ok (.imul, 1) := by decide +kernel
theorem dL_write_40 : decode cL_write 40 = .ok (.iconst 1, 1) := by decide +kernel
theorem dL_write_41 : decode cL_write 41 = .ok (.iadd, 1) := by decide +kernel
theorem dL_write_42 : decode cL_write 42 = .ok (.iaload, 1) := by decide +kernel
theorem dL_write_43 : decode cL_write 43 = .ok (.iload 5, 2) := by decide +kernel
theorem dL_write_45 : decode cL_write 45 = .ok (.if_icmp .ne 79, 3) := by decide +kernel
theorem dL_write_48 : decode cL_write 48 = .ok (.aload_n 3, 1) := by decide +kernel
theorem dL_write_49 : decode cL_write 49 = .ok (.bipush 6, 2) := by decide +kernel
theorem dL_write_51 : decode cL_write 51 = .ok (.iload 8, 2) := by decide +kernel
theorem dL_write_53 : decode cL_write 53 = .ok (.imul, 1) := by decide +kernel
theorem dL_write_54 : decode cL_write 54 = .ok (.iconst 5, 1) := by decide +kernel
theorem dL_write_55 : decode cL_write 55 = .ok (.iadd, 1) := by decide +kernel
theorem dL_write_56 : decode cL_write 56 = .ok (.iaload, 1) := by decide +kernel
theorem dL_write_57 : decode cL_write 57 = .ok (.ifCond .ne 6, 3) := by decide +kernel
theorem dL_write_60 : decode cL_write 60 = .ok (.goto 64, 3) := by decide +kernel
theorem dL_write_63 : decode cL_write 63 = .ok (.iload 7, 2) := by decide +kernel
theorem dL_write_65 : decode cL_write 65 = .ok (.aload_n 3, 1) := by decide +kernel
theorem dL_write_66 : decode cL_write 66 = .ok (.bipush 6, 2) := by decide +kernel
theorem dL_write_68 : decode cL_write 68 = .ok (.iload 8, 2) := by decide +kernel
theorem dL_write_70 : decode cL_write 70 = .ok (.imul, 1) := by decide +kernel
theorem dL_write_71 : decode cL_write 71 = .ok (.iconst 2, 1) := by decide +kernel
theorem dL_write_72 : decode cL_write 72 = .ok (.iadd, 1) := by decide +kernel
theorem dL_write_73 : decode cL_write 73 = .ok (.iaload, 1) := by decide +kernel
theorem dL_write_74 : decode cL_write 74 = .ok (.invokestatic 31, 3) := by decide +kernel
theorem dL_write_77 : decode cL_write 77 = .ok (.istore 7, 2) := by decide +kernel
theorem dL_write_79 : decode cL_write 79 = .ok (.aload_n 3, 1) := by decide +kernel
theorem dL_write_80 : decode cL_write 80 = .ok (.bipush 6, 2) := by decide +kernel
theorem dL_write_82 : decode cL_write 82 = .ok (.iload 8, 2) := by decide +kernel
theorem dL_write_84 : decode cL_write 84 = .ok (.imul, 1) := by decide +kernel
theorem dL_write_85 : decode cL_write 85 = .ok (.iaload, 1) := by decide +kernel
theorem dL_write_86 : decode cL_write 86 = .ok (.ifCond .ne 15, 3) := by decide +kernel
theorem dL_write_89 : decode cL_write 89 = .ok (.iload 6, 2) := by decide +kernel
theorem dL_write_91 : decode cL_write 91 = .ok (.ifCond .ne 7, 3) := by decide +kernel
theorem dL_write_94 : decode cL_write 94 = .ok (.iconst 1, 1) := by decide +kernel
theorem dL_write_95 : decode cL_write 95 = .ok (.goto 4, 3) := by decide +kernel
theorem dL_write_98 : decode cL_write 98 = .ok (.iconst 0, 1) := by decide +kernel
theorem dL_write_99 : decode cL_write 99 = .ok (.istore 6, 2) := by decide +kernel
theorem dL_write_101 : decode cL_write 101 = .ok (.aload_n 3, 1) := by decide +kernel
theorem dL_write_102 : decode cL_write 102 = .ok (.bipush 6, 2) := by decide +kernel
theorem dL_write_104 : decode cL_write 104 = .ok (.iload 8, 2) := by decide +kernel
theorem dL_write_106 : decode cL_write 106 = .ok (.imul, 1) := by decide +kernel
theorem dL_write_107 : decode cL_write 107 = .ok (.iaload, 1) := by decide +kernel
theorem dL_write_108 : decode cL_write 108 = .ok (.iconst 3, 1) := by decide +kernel
theorem dL_write_109 : decode cL_write 109 = .ok (.if_icmp .ne 15, 3) := by decide +kernel
theorem dL_write_112 : decode cL_write 112 = .ok (.iload 6, 2) := by decide +kernel
theorem dL_write_114 : decode cL_write 114 = .ok (.ifCond .ne 7, 3) := by decide +kernel
theorem dL_write_117 : decode cL_write 117 = .ok (.iconst 1, 1) := by decide +kernel
theorem dL_write_118 : decode cL_write 118 = .ok (.goto 4, 3) := by decide +kernel
theorem dL_write_121 : decode cL_write 121 = .ok (.iconst 0, 1) := by decide +kernel
theorem dL_write_122 : decode cL_write 122 = .ok (.istore 6, 2) := by decide +kernel
theorem dL_write_124 : decode cL_write 124 = .ok (.iinc 8 1, 3) := by decide +kernel
theorem dL_write_127 : decode cL_write 127 = .ok (.goto (-101), 3) := by decide +kernel
theorem dL_write_130 : decode cL_write 130 = .ok (.iload_n 1, 1) := by decide +kernel
theorem dL_write_131 : decode cL_write 131 = .ok (.iconst 2, 1) := by decide +kernel
theorem dL_write_132 : decode cL_write 132 = .ok (.ishr, 1) := by decide +kernel
theorem dL_write_133 : decode cL_write 133 = .ok (.iconst 4, 1) := by decide +kernel
theorem dL_write_134 : decode cL_write 134 = .ok (.invokestatic 15, 3) := by decide +kernel
theorem dL_write_137 : decode cL_write 137 = .ok (.istore 8, 2) := by decide +kernel
theorem dL_write_139 : decode cL_write 139 = .ok (.iload_n 1, 1) := by decide +kernel
theorem dL_write_140 : decode cL_write 140 = .ok (.iconst 4, 1) := by decide +kernel
theorem dL_write_141 : decode cL_write 141 = .ok (.ishr, 1) := by decide +kernel
theorem dL_write_142 : decode cL_write 142 = .ok (.iconst 5, 1) := by decide +kernel
theorem dL_write_143 : decode cL_write 143 = .ok (.invokestatic 15, 3) := by decide +kernel
theorem dL_write_146 : decode cL_write 146 = .ok (.ifCond .le 23, 3) := by decide +kernel
theorem dL_write_149 : decode cL_write 149 = .ok (.iload 6, 2) := by decide +kernel
theorem dL_write_151 : decode cL_write 151 = .ok (.ifCond .eq 15, 3) := by decide +kernel
theorem dL_write_154 : decode cL_write 154 = .ok (.iconst 1, 1) := by decide +kernel
theorem dL_write_155 : decode cL_write 155 = .ok (.iload_n 1, 1) := by decide +kernel
theorem dL_write_156 : decode cL_write 156 = .ok (.iconst 2, 1) := by decide +kernel
theorem dL_write_157 : decode cL_write 157 = .ok (.ishr, 1) := by decide +kernel
theorem dL_write_158 : decode cL_write 158 = .ok (.iconst 3, 1) := by decide +kernel
theorem dL_write_159 : decode cL_write 159 = .ok (.invokestatic 15, 3) := by decide +kernel
theorem dL_write_162 : decode cL_write 162 = .ok (.iadd, 1) := by decide +kernel
theorem dL_write_163 : decode cL_write 163 = .ok (.goto 4, 3) := by decide +kernel
theorem dL_write_166 : decode cL_write 166 = .ok (.iconst 0, 1) := by decide +kernel
theorem dL_write_167 : decode cL_write 167 = .ok (.istore 8, 2) := by decide +kernel
theorem dL_write_169 : decode cL_write 169 = .ok (.iload_n 1, 1) := by decide +kernel
theorem dL_write_170 : decode cL_write 170 = .ok (.iconst 5, 1) := by decide +kernel
theorem dL_write_171 : decode cL_write 171 = .ok (.ishr, 1) := by decide +kernel
theorem dL_write_172 : decode cL_write 172 = .ok (.bipush 6, 2) := by decide +kernel
theorem dL_write_174 : decode cL_write 174 = .ok (.invokestatic 15, 3) := by decide +kernel
theorem dL_write_177 : decode cL_write 177 = .ok (.ifCond .ne 14, 3) := by decide +kernel
theorem dL_write_180 : decode cL_write 180 = .ok (.iload_n 1, 1) := by decide +kernel
theorem dL_write_181 : decode cL_write 181 = .ok (.iconst 3, 1) := by decide +kernel
theorem dL_write_182 : decode cL_write 182 = .ok (.ishr, 1) := by decide +kernel
theorem dL_write_183 : decode cL_write 183 = .ok (.bipush 60, 2) := by decide +kernel
theorem dL_write_185 : decode cL_write 185 = .ok (.invokestatic 15, 3) := by decide +kernel
theorem dL_write_188 : decode cL_write 188 = .ok (.goto 15, 3) := by decide +kernel
theorem dL_write_191 : decode cL_write 191 = .ok (.iload 7, 2) := by decide +kernel
theorem dL_write_193 : decode cL_write 193 = .ok (.iload_n 1, 1) := by decide +kernel
theorem dL_write_194 : decode cL_write 194 = .ok (.bipush 6, 2) := by decide +kernel
theorem dL_write_196 : decode cL_write 196 = .ok (.ishr, 1) := by decide +kernel
theorem dL_write_197 : decode cL_write 197 = .ok (.bipush 12, 2) := by decide +kernel
theorem dL_write_199 : decode cL_write 199 = .ok (.invokestatic 15, 3) := by decide +kernel
theorem dL_write_202 : decode cL_write 202 = .ok (.iadd, 1) := by decide +kernel
theorem dL_write_203 : decode cL_write 203 = .ok (.istore 9, 2) := by decide +kernel
theorem dL_write_205 : decode cL_write 205 = .ok (.aload_n 3, 1) := by decide +kernel
theorem dL_write_206 : decode cL_write 206 = .ok (.iload 4, 2) := by decide +kernel
theorem dL_write_208 : decode cL_write 208 = .ok (.iload 8, 2) := by decide +kernel
theorem dL_write_210 : decode cL_write 210 = .ok (.iastore, 1) := by decide +kernel
theorem dL_write_211 : decode cL_write 211 = .ok (.aload_n 3, 1) := by decide +kernel
theorem dL_write_212 : decode cL_write 212 = .ok (.iload 4, 2) := by decide +kernel
theorem dL_write_214 : decode cL_write 214 = .ok (.iconst 1, 1) := by decide +kernel
theorem dL_write_215 : decode cL_write 215 = .ok (.iadd, 1) := by decide +kernel
theorem dL_write_216 : decode cL_write 216 = .ok (.iload 5, 2) := by decide +kernel
theorem dL_write_218 : decode cL_write 218 = .ok (.iastore, 1) := by decide +kernel
theorem dL_write_219 : decode cL_write 219 = .ok (.aload_n 3, 1) := by decide +kernel
theorem dL_write_220 : decode cL_write 220 = .ok (.iload 4, 2) := by decide +kernel
theorem dL_write_222 : decode cL_write 222 = .ok (.iconst 2, 1) := by decide +kernel
theorem dL_write_223 : decode cL_write 223 = .ok (.iadd, 1) := by decide +kernel
theorem dL_write_224 : decode cL_write 224 = .ok (.iload 9, 2) := by decide +kernel
theorem dL_write_226 : decode cL_write 226 = .ok (.iastore, 1) := by decide +kernel
theorem dL_write_227 : decode cL_write 227 = .ok (.aload_n 3, 1) := by decide +kernel
theorem dL_write_228 : decode cL_write 228 = .ok (.iload 4, 2) := by decide +kernel
theorem dL_write_230 : decode cL_write 230 = .ok (.iconst 3, 1) := by decide +kernel
theorem dL_write_231 : decode cL_write 231 = .ok (.iadd, 1) := by decide +kernel
theorem dL_write_232 : decode cL_write 232 = .ok (.iload 8, 2) := by decide +kernel
theorem dL_write_234 : decode cL_write 234 = .ok (.iconst 2, 1) := by decide +kernel
theorem dL_write_235 : decode cL_write 235 = .ok (.if_icmp .ge 16, 3) := by decide +kernel
theorem dL_write_238 : decode cL_write 238 = .ok (.iload_n 1, 1) := by decide +kernel
theorem dL_write_239 : decode cL_write 239 = .ok (.iconst 3, 1) := by decide +kernel
theorem dL_write_240 : decode cL_write 240 = .ok (.ishr, 1) := by decide +kernel
theorem dL_write_241 : decode cL_write 241 = .ok (.bipush 7, 2) := by decide +kernel
theorem dL_write_243 : decode cL_write 243 = .ok (.invokestatic 15, 3) := by decide +kernel
theorem dL_write_246 : decode cL_write 246 = .ok (.iconst 2, 1) := by decide +kernel
theorem dL_write_247 : decode cL_write 247 = .ok (.imul, 1) := by decide +kernel
theorem dL_write_248 : decode cL_write 248 = .ok (.goto 4, 3) := by decide +kernel
theorem dL_write_251 : decode cL_write 251 = .ok (.iconst (-1), 1) := by decide +kernel
theorem dL_write_252 : decode cL_write 252 = .ok (.iastore, 1) := by decide +kernel
theorem dL_write_253 : decode cL_write 253 = .ok (.aload_n 3, 1) := by decide +kernel
theorem dL_write_254 : decode cL_write 254 = .ok (.iload 4, 2) := by decide +kernel
theorem dL_write_256 : decode cL_write 256 = .ok (.iconst 4, 1) := by decide +kernel
theorem dL_write_257 : decode cL_write 257 = .ok (.iadd, 1) := by decide +kernel
theorem dL_write_258 : decode cL_write 258 = .ok (.iload 8, 2) := by decide +kernel
theorem dL_write_260 : decode cL_write 260 = .ok (.ifCond .eq 9, 3) := by decide +kernel
theorem dL_write_263 : decode cL_write 263 = .ok (.iload 8, 2) := by decide +kernel
theorem dL_write_265 : decode cL_write 265 = .ok (.iconst 2, 1) := by decide +kernel
theorem dL_write_266 : decode cL_write 266 = .ok (.if_icmp .ne 14, 3) := by decide +kernel
theorem dL_write_269 : decode cL_write 269 = .ok (.iload_n 1, 1) := by decide +kernel
theorem dL_write_270 : decode cL_write 270 = .ok (.bipush 7, 2) := by decide +kernel
theorem dL_write_272 : decode cL_write 272 = .ok (.ishr, 1) := by decide +kernel
theorem dL_write_273 : decode cL_write 273 = .ok (.iconst 2, 1) := by decide +kernel
theorem dL_write_274 : decode cL_write 274 = .ok (.invokestatic 15, 3) := by decide +kernel
theorem dL_write_277 : decode cL_write 277 = .ok (.goto 4, 3) := by decide +kernel
theorem dL_write_280 : decode cL_write 280 = .ok (.iconst (-1), 1) := by decide +kernel
theorem dL_write_281 : decode cL_write 281 = .ok (.iastore, 1) := by decide +kernel
theorem dL_write_282 : decode cL_write 282 = .ok (.aload_n 3, 1) := by decide +kernel
theorem dL_write_283 : decode cL_write 283 = .ok (.iload 4, 2) := by decide +kernel
theorem dL_write_285 : decode cL_write 285 = .ok (.iconst 5, 1) := by decide +kernel
theorem dL_write_286 : decode cL_write 286 = .ok (.iadd, 1) := by decide +kernel
theorem dL_write_287 : decode cL_write 287 = .ok (.iconst 1, 1) := by decide +kernel
theorem dL_write_288 : decode cL_write 288 = .ok (.iastore, 1) := by decide +kernel
theorem dL_write_289 : decode cL_write 289 = .ok (.bipush (-3), 2) := by decide +kernel
theorem dL_write_291 : decode cL_write 291 = .ok (.istore 10, 2) := by decide +kernel
theorem dL_write_293 : decode cL_write 293 = .ok (.iload 8, 2) := by decide +kernel
theorem dL_write_295 : decode cL_write 295 = .ok (.ifCond .ne 26, 3) := by decide +kernel
theorem dL_write_298 : decode cL_write 298 = .ok (.aload_n 0, 1) := by decide +kernel
theorem dL_write_299 : decode cL_write 299 = .ok (.iload 5, 2) := by decide +kernel
theorem dL_write_301 : decode cL_write 301 = .ok (.iload 9, 2) := by decide +kernel
theorem dL_write_303 : decode cL_write 303 = .ok (.aload_n 3, 1) := by decide +kernel
theorem dL_write_304 : decode cL_write 304 = .ok (.iload 4, 2) := by decide +kernel
theorem dL_write_306 : decode cL_write 306 = .ok (.iconst 3, 1) := by decide +kernel
theorem dL_write_307 : decode cL_write 307 = .ok (.iadd, 1) := by decide +kernel
theorem dL_write_308 : decode cL_write 308 = .ok (.iaload, 1) := by decide +kernel
theorem dL_write_309 : decode cL_write 309 = .ok (.aload_n 3, 1) := by decide +kernel
theorem dL_write_310 : decode cL_write 310 = .ok (.iload 4, 2) := by decide +kernel
theorem dL_write_312 : decode cL_write 312 = .ok (.iconst 4, 1) := by decide +kernel
theorem dL_write_313 : decode cL_write 313 = .ok (.iadd, 1) := by decide +kernel
theorem dL_write_314 : decode cL_write 314 = .ok (.iaload, 1) := by decide +kernel
theorem dL_write_315 : decode cL_write 315 = .ok (.invokevirtual 36, 3) := by decide +kernel
theorem dL_write_318 : decode cL_write 318 = .ok (.goto 57, 3) := by decide +kernel
theorem dL_write_321 : decode cL_write 321 = .ok (.iload 8, 2) := by decide +kernel
theorem dL_write_323 : decode cL_write 323 = .ok (.iconst 1, 1) := by decide +kernel
theorem dL_write_324 : decode cL_write 324 = .ok (.if_icmp .ne 20, 3) := by decide +kernel
theorem dL_write_327 : decode cL_write 327 = .ok (.aload_n 0, 1) := by decide +kernel
theorem dL_write_328 : decode cL_write 328 = .ok (.iload 5, 2) := by decide +kernel
theorem dL_write_330 : decode cL_write 330 = .ok (.iload 9, 2) := by decide +kernel
theorem dL_write_332 : decode cL_write 332 = .ok (.aload_n 3, 1) := by decide +kernel
theorem dL_write_333 : decode cL_write 333 = .ok (.iload 4, 2) := by decide +kernel
theorem dL_write_335 : decode cL_write 335 = .ok (.iconst 3, 1) := by decide +kernel
theorem dL_write_336 : decode cL_write 336 = .ok (.iadd, 1) := by decide +kernel
theorem dL_write_337 : decode cL_write 337 = .ok (.iaload, 1) := by decide +kernel
theorem dL_write_338 : decode cL_write 338 = .ok (.invokevirtual 40, 3) := by decide +kernel
theorem dL_write_341 : decode cL_write 341 = .ok (.goto 34, 3) := by decide +kernel
theorem dL_write_344 : decode cL_write 344 = .ok (.iload 8, 2) := by decide +kernel
theorem dL_write_346 : decode cL_write 346 = .ok (.iconst 2, 1) := by decide +kernel
theorem dL_write_347 : decode cL_write 347 = .ok (.if_icmp .ne 20, 3) := by decide +kernel
theorem dL_write_350 : decode cL_write 350 = .ok (.aload_n 0, 1) := by decide +kernel
theorem dL_write_351 : decode cL_write 351 = .ok (.iload 5, 2) := by decide +kernel
theorem dL_write_353 : decode cL_write 353 = .ok (.iload 9, 2) := by decide +kernel
theorem dL_write_355 : decode cL_write 355 = .ok (.aload_n 3, 1) := by decide +kernel
theorem dL_write_356 : decode cL_write 356 = .ok (.iload 4, 2) := by decide +kernel
theorem dL_write_358 : decode cL_write 358 = .ok (.iconst 4, 1) := by decide +kernel
theorem dL_write_359 : decode cL_write 359 = .ok (.iadd, 1) := by decide +kernel
theorem dL_write_360 : decode cL_write 360 = .ok (.iaload, 1) := by decide +kernel
theorem dL_write_361 : decode cL_write 361 = .ok (.invokevirtual 44, 3) := by decide +kernel
theorem dL_write_364 : decode cL_write 364 = .ok (.goto 11, 3) := by decide +kernel
theorem dL_write_367 : decode cL_write 367 = .ok (.aload_n 0, 1) := by decide +kernel
theorem dL_write_368 : decode cL_write 368 = .ok (.iload 5, 2) := by decide +kernel
theorem dL_write_370 : decode cL_write 370 = .ok (.iload 9, 2) := by decide +kernel
theorem dL_write_372 : decode cL_write 372 = .ok (.invokevirtual 47, 3) := by decide +kernel
theorem dL_write_375 : decode cL_write 375 = .ok (.istore 10, 2) := by decide +kernel
theorem dL_write_377 : decode cL_write 377 = .ok (.goto 9, 3) := by decide +kernel
theorem dL_write_380 : decode cL_write 380 = .ok (.astore 11, 2) := by decide +kernel
theorem dL_write_382 : decode cL_write 382 = .ok (.bipush (-3), 2) := by decide +kernel
theorem dL_write_384 : decode cL_write 384 = .ok (.istore 10, 2) := by decide +kernel
theorem dL_write_386 : decode cL_write 386 = .ok (.aload_n 2, 1) := by decide +kernel
theorem dL_write_387 : decode cL_write 387 = .ok (.iconst 2, 1) := by decide +kernel
theorem dL_write_388 : decode cL_write 388 = .ok (.dup2, 1) := by decide +kernel
theorem dL_write_389 : decode cL_write 389 = .ok (.iaload, 1) := by decide +kernel
theorem dL_write_390 : decode cL_write 390 = .ok (.iconst 1, 1) := by decide +kernel
theorem dL_write_391 : decode cL_write 391 = .ok (.iadd, 1) := by decide +kernel
theorem dL_write_392 : decode cL_write 392 = .ok (.iastore, 1) := by decide +kernel
theorem dL_write_393 : decode cL_write 393 = .ok (.iload 5, 2) := by decide +kernel
theorem dL_write_395 : decode cL_write 395 = .ok (.aload_n 2, 1) := by decide +kernel
theorem dL_write_396 : decode cL_write 396 = .ok (.iconst 2, 1) := by decide +kernel
theorem dL_write_397 : decode cL_write 397 = .ok (.iaload, 1) := by decide +kernel
theorem dL_write_398 : decode cL_write 398 = .ok (.aload_n 3, 1) := by decide +kernel
theorem dL_write_399 : decode cL_write 399 = .ok (.invokestatic 52, 3) := by decide +kernel
theorem dL_write_402 : decode cL_write 402 = .ok (.istore 11, 2) := by decide +kernel
theorem dL_write_404 : decode cL_write 404 = .ok (.iload 11, 2) := by decide +kernel
theorem dL_write_406 : decode cL_write 406 = .ok (.ifCond .ne 10, 3) := by decide +kernel
theorem dL_write_409 : decode cL_write 409 = .ok (.aload_n 2, 1) := by decide +kernel
theorem dL_write_410 : decode cL_write 410 = .ok (.iconst 2, 1) := by decide +kernel
theorem dL_write_411 : decode cL_write 411 = .ok (.dup2, 1) := by decide +kernel
theorem dL_write_412 : decode cL_write 412 = .ok (.iaload, 1) := by decide +kernel
theorem dL_write_413 : decode cL_write 413 = .ok (.iconst 1, 1) := by decide +kernel
theorem dL_write_414 : decode cL_write 414 = .ok (.isub, 1) := by decide +kernel
theorem dL_write_415 : decode cL_write 415 = .ok (.iastore, 1) := by decide +kernel
theorem dL_write_416 : decode cL_write 416 = .ok (.iload 10, 2) := by decide +kernel
theorem dL_write_418 : decode cL_write 418 = .ok (.iload 11, 2) := by decide +kernel
theorem dL_write_420 : decode cL_write 420 = .ok (.ifCond .eq 11, 3) := by decide +kernel
theorem dL_write_423 : decode cL_write 423 = .ok (.aload_n 2, 1) := by decide +kernel
theorem dL_write_424 : decode cL_write 424 = .ok (.iconst 2, 1) := by decide +kernel
theorem dL_write_425 : decode cL_write 425 = .ok (.iaload, 1) := by decide +kernel
theorem dL_write_426 : decode cL_write 426 = .ok (.iconst 1, 1) := by decide +kernel
theorem dL_write_427 : decode cL_write 427 = .ok (.isub, 1) := by decide +kernel
theorem dL_write_428 : decode cL_write 428 = .ok (.goto 5, 3) := by decide +kernel
theorem dL_write_431 : decode cL_write 431 = .ok (.bipush (-3), 2) := by decide +kernel
theorem dL_write_433 : decode cL_write 433 = .ok (.if_icmp .ne 7, 3) := by decide +kernel
theorem dL_write_436 : decode cL_write 436 = .ok (.iconst 1, 1) := by decide +kernel
theorem dL_write_437 : decode cL_write 437 = .ok (.goto 4, 3) := by decide +kernel
theorem dL_write_440 : decode cL_write 440 = .ok (.iconst 0, 1) := by decide +kernel
theorem dL_write_441 : decode cL_write 441 = .ok (.ireturn, 1) := by decide +kernel
theorem dL_order_0 : decode cL_order 0 = .ok (.bipush 41, 2) := by decide +kernel
theorem dL_order_2 : decode cL_order 2 = .ok (.newarray .int, 2) := by decide +kernel
theorem dL_order_4 : decode cL_order 4 = .ok (.astore_n 3, 1) := by decide +kernel
theorem dL_order_5 : decode cL_order 5 = .ok (.iconst 0, 1) := by decide +kernel
theorem dL_order_6 : decode cL_order 6 = .ok (.istore 4, 2) := by decide +kernel
theorem dL_order_8 : decode cL_order 8 = .ok (.iload 4, 2) := by decide +kernel
theorem dL_order_10 : decode cL_order 10 = .ok (.iload_n 1, 1) := by decide +kernel
theorem dL_order_11 : decode cL_order 11 = .ok (.if_icmp .ge 101, 3) := by decide +kernel
theorem dL_order_14 : decode cL_order 14 = .ok (.aload_n 2, 1) := by decide +kernel
theorem dL_order_15 : decode cL_order 15 = .ok (.bipush 6, 2) := by decide +kernel
theorem dL_order_17 : decode cL_order 17 = .ok (.iload 4, 2) := by decide +kernel
theorem dL_order_19 : decode cL_order 19 = .ok (.imul, 1) := by decide +kernel
theorem dL_order_20 : decode cL_order 20 = .ok (.iconst 1, 1) := by decide +kernel
theorem dL_order_21 : decode cL_order 21 = .ok (.iadd, 1) := by decide +kernel
theorem dL_order_22 : decode cL_order 22 = .ok (.iaload, 1) := by decide +kernel
theorem dL_order_23 : decode cL_order 23 = .ok (.iload_n 0, 1) := by decide +kernel
theorem dL_order_24 : decode cL_order 24 = .ok (.if_icmp .ne 82, 3) := by decide +kernel
theorem dL_order_27 : decode cL_order 27 = .ok (.aload_n 2, 1) := by decide +kernel
theorem dL_order_28 : decode cL_order 28 = .ok (.bipush 6, 2) := by decide +kernel
theorem dL_order_30 : decode cL_order 30 = .ok (.iload 4, 2) := by decide +kernel
theorem dL_order_32 : decode cL_order 32 = .ok (.imul, 1) := by decide +kernel
theorem dL_order_33 : decode cL_order 33 = .ok (.iconst 5, 1) := by decide +kernel
theorem dL_order_34 : decode cL_order 34 = .ok (.iadd, 1) := by decide +kernel
theorem dL_order_35 : decode cL_order 35 = .ok (.iaload, 1) := by decide +kernel
theorem dL_order_36 : decode cL_order 36 = .ok (.ifCond .ne 6, 3) := by decide +kernel
theorem dL_order_39 : decode cL_order 39 = .ok (.goto 67, 3) := by decide +kernel
theorem dL_order_42 : decode cL_order 42 = .ok (.aload_n 3, 1) := by decide +kernel
theorem dL_order_43 : decode cL_order 43 = .ok (.iconst 0, 1) := by decide +kernel
theorem dL_order_44 : decode cL_order 44 = .ok (.iaload, 1) := by decide +kernel
theorem dL_order_45 : decode cL_order 45 = .ok (.istore 5, 2) := by decide +kernel
theorem dL_order_47 : decode cL_order 47 = .ok (.iload 5, 2) := by decide +kernel
theorem dL_order_49 : decode cL_order 49 = .ok (.ifCond .le 42, 3) := by decide +kernel
theorem dL_order_52 : decode cL_order 52 = .ok (.aload_n 2, 1) := by decide +kernel
theorem dL_order_53 : decode cL_order 53 = .ok (.bipush 6, 2) := by decide +kernel
theorem dL_order_55 : decode cL_order 55 = .ok (.aload_n 3, 1) := by decide +kernel
theorem dL_order_56 : decode cL_order 56 = .ok (.iload 5, 2) := by decide +kernel
theorem dL_order_58 : decode cL_order 58 = .ok (.iaload, 1) := by decide +kernel
theorem dL_order_59 : decode cL_order 59 = .ok (.imul, 1) := by decide +kernel
theorem dL_order_60 : decode cL_order 60 = .ok (.iconst 2, 1) := by decide +kernel
theorem dL_order_61 : decode cL_order 61 = .ok (.iadd, 1) := by decide +kernel
theorem dL_order_62 : decode cL_order 62 = .ok (.iaload, 1) := by decide +kernel
theorem dL_order_63 : decode cL_order 63 = .ok (.aload_n 2, 1) := by decide +kernel
theorem dL_order_64 : decode cL_order 64 = .ok (.bipush 6, 2) := by decide +kernel
theorem dL_order_66 : decode cL_order 66 = .ok (.iload 4, 2) := by decide +kernel
theorem dL_order_68 : decode cL_order 68 = .ok (.imul, 1) := by decide +kernel
theorem dL_order_69 : decode cL_order 69 = .ok (.iconst 2, 1) := by decide +kernel
theorem dL_order_70 : decode cL_order 70 = .ok (.iadd, 1) := by decide +kernel
theorem dL_order_71 : decode cL_order 71 = .ok (.iaload, 1) := by decide +kernel
theorem dL_order_72 : decode cL_order 72 = .ok (.if_icmp .le 19, 3) := by decide +kernel
theorem dL_order_75 : decode cL_order 75 = .ok (.aload_n 3, 1) := by decide +kernel
theorem dL_order_76 : decode cL_order 76 = .ok (.iload 5, 2) := by decide +kernel
theorem dL_order_78 : decode cL_order 78 = .ok (.iconst 1, 1) := by decide +kernel
theorem dL_order_79 : decode cL_order 79 = .ok (.iadd, 1) := by decide +kernel
theorem dL_order_80 : decode cL_order 80 = .ok (.aload_n 3, 1) := by decide +kernel
theorem dL_order_81 : decode cL_order 81 = .ok (.iload 5, 2) := by decide +kernel
theorem dL_order_83 : decode cL_order 83 = .ok (.iaload, 1) := by decide +kernel
theorem dL_order_84 : decode cL_order 84 = .ok (.iastore, 1) := by decide +kernel
theorem dL_order_85 : decode cL_order 85 = .ok (.iinc 5 (-1), 3) := by decide +kernel
theorem dL_order_88 : decode cL_order 88 = .ok (.goto (-41), 3) := by decide +kernel
theorem dL_order_91 : decode cL_order 91 = .ok (.aload_n 3, 1) := by decide +kernel
theorem dL_order_92 : decode cL_order 92 = .ok (.iload 5, 2) := by decide +kernel
theorem dL_order_94 : decode cL_order 94 = .ok (.iconst 1, 1) := by decide +kernel
theorem dL_order_95 : decode cL_order 95 = .ok (.iadd, 1) := by decide +kernel
theorem dL_order_96 : decode cL_order 96 = .ok (.iload 4, 2) := by decide +kernel
theorem dL_order_98 : decode cL_order 98 = .ok (.iastore, 1) := by decide +kernel
theorem dL_order_99 : decode cL_order 99 = .ok (.aload_n 3, 1) := by decide +kernel
theorem dL_order_100 : decode cL_order 100 = .ok (.iconst 0, 1) := by decide +kernel
theorem dL_order_101 : decode cL_order 101 = .ok (.dup2, 1) := by decide +kernel
theorem dL_order_102 : decode cL_order 102 = .ok (.iaload, 1) := by decide +kernel
theorem dL_order_103 : decode cL_order 103 = .ok (.iconst 1, 1) := by decide +kernel
theorem dL_order_104 : decode cL_order 104 = .ok (.iadd, 1) := by decide +kernel
theorem dL_order_105 : decode cL_order 105 = .ok (.iastore, 1) := by decide +kernel
theorem dL_order_106 : decode cL_order 106 = .ok (.iinc 4 1, 3) := by decide +kernel
theorem dL_order_109 : decode cL_order 109 = .ok (.goto (-101), 3) := by decide +kernel
theorem dL_order_112 : decode cL_order 112 = .ok (.aload_n 3, 1) := by decide +kernel
theorem dL_order_113 : decode cL_order 113 = .ok (.areturn, 1) := by decide +kernel
theorem dL_areRight_0 : decode cL_areRight 0 = .ok (.iload_n 0, 1) := by decide +kernel
theorem dL_areRight_1 : decode cL_areRight 1 = .ok (.iload_n 1, 1) := by decide +kernel
theorem dL_areRight_2 : decode cL_areRight 2 = .ok (.aload_n 2, 1) := by decide +kernel
theorem dL_areRight_3 : decode cL_areRight 3 = .ok (.invokestatic 56, 3) := by decide +kernel
theorem dL_areRight_6 : decode cL_areRight 6 = .ok (.astore_n 3, 1) := by decide +kernel
theorem dL_areRight_7 : decode cL_areRight 7 = .ok (.iconst (-1), 1) := by decide +kernel
theorem dL_areRight_8 : decode cL_areRight 8 = .ok (.istore 4, 2) := by decide +kernel
theorem dL_areRight_10 : decode cL_areRight 10 = .ok (.iconst 0, 1) := by decide +kernel
theorem dL_areRight_11 : decode cL_areRight 11 = .ok (.istore 5, 2) := by decide +kernel
theorem dL_areRight_13 : decode cL_areRight 13 = .ok (.iconst 0, 1) := by decide +kernel
theorem dL_areRight_14 : decode cL_areRight 14 = .ok (.istore 6, 2) := by decide +kernel
theorem dL_areRight_16 : decode cL_areRight 16 = .ok (.iconst 1, 1) := by decide +kernel
theorem dL_areRight_17 : decode cL_areRight 17 = .ok (.istore 7, 2) := by decide +kernel
theorem dL_areRight_19 : decode cL_areRight 19 = .ok (.iload 7, 2) := by decide +kernel
theorem dL_areRight_21 : decode cL_areRight 21 = .ok (.aload_n 3, 1) := by decide +kernel
theorem dL_areRight_22 : decode cL_areRight 22 = .ok (.iconst 0, 1) := by decide +kernel
theorem dL_areRight_23 : decode cL_areRight 23 = .ok (.iaload, 1) := by decide +kernel
theorem dL_areRight_24 : decode cL_areRight 24 = .ok (.if_icmp .gt 156, 3) := by decide +kernel
theorem dL_areRight_27 : decode cL_areRight 27 = .ok (.bipush 6, 2) := by decide +kernel
theorem dL_areRight_29 : decode cL_areRight 29 = .ok (.aload_n 3, 1) := by decide +kernel
theorem dL_areRight_30 : decode cL_areRight 30 = .ok (.iload 7, 2) := by decide +kernel
theorem dL_areRight_32 : decode cL_areRight 32 = .ok (.iaload, 1) := by decide +kernel
theorem dL_areRight_33 : decode cL_areRight 33 = .ok (.imul, 1) := by decide +kernel
theorem dL_areRight_34 : decode cL_areRight 34 = .ok (.istore 8, 2) := by decide +kernel
theorem dL_areRight_36 : decode cL_areRight 36 = .ok (.aload_n 2, 1) := by decide +kernel
theorem dL_areRight_37 : decode cL_areRight 37 = .ok (.iload 8, 2) := by decide +kernel
theorem dL_areRight_39 : decode cL_areRight 39 = .ok (.iconst 2, 1) := by decide +kernel
theorem dL_areRight_40 : decode cL_areRight 40 = .ok (.iadd, 1) := by decide +kernel
theorem dL_areRight_41 : decode cL_areRight 41 = .ok (.iaload, 1) := by decide +kernel
theorem dL_areRight_42 : decode cL_areRight 42 = .ok (.istore 9, 2) := by decide +kernel
theorem dL_areRight_44 : decode cL_areRight 44 = .ok (.aload_n 2, 1) := by decide +kernel
theorem dL_areRight_45 : decode cL_areRight 45 = .ok (.iload 8, 2) := by decide +kernel
theorem dL_areRight_47 : decode cL_areRight 47 = .ok (.iaload, 1) := by decide +kernel
theorem dL_areRight_48 : decode cL_areRight 48 = .ok (.ifCond .ne 29, 3) := by decide +kernel
theorem dL_areRight_51 : decode cL_areRight 51 = .ok (.iload 4, 2) := by decide +kernel
theorem dL_areRight_53 : decode cL_areRight 53 = .ok (.ifCond .lt 5, 3) := by decide +kernel
theorem dL_areRight_56 : decode cL_areRight 56 = .ok (.iconst 0, 1) := by decide +kernel
theorem dL_areRight_57 : decode cL_areRight 57 = .ok (.ireturn, 1) := by decide +kernel
theorem dL_areRight_58 : decode cL_areRight 58 = .ok (.iload 9, 2) := by decide +kernel
theorem dL_areRight_60 : decode cL_areRight 60 = .ok (.istore 4, 2) := by decide +kernel
theorem dL_areRight_62 : decode cL_areRight 62 = .ok (.aload_n 2, 1) := by decide +kernel
theorem dL_areRight_63 : decode cL_areRight 63 = .ok (.iload 8, 2) := by decide +kernel
theorem dL_areRight_65 : decode cL_areRight 65 = .ok (.iconst 3, 1) := by decide +kernel
theorem dL_areRight_66 : decode cL_areRight 66 = .ok (.iadd, 1) := by decide +kernel
theorem dL_areRight_67 : decode cL_areRight 67 = .ok (.iaload, 1) := by decide +kernel
theorem dL_areRight_68 : decode cL_areRight 68 = .ok (.istore 6, 2) := by decide +kernel
theorem dL_areRight_70 : decode cL_areRight 70 = .ok (.iload 9, 2) := by decide +kernel
theorem dL_areRight_72 : decode cL_areRight 72 = .ok (.istore 5, 2) := by decide +kernel
theorem dL_areRight_74 : decode cL_areRight 74 = .ok (.goto 100, 3) := by decide +kernel
theorem dL_areRight_77 : decode cL_areRight 77 = .ok (.iload 4, 2) := by decide +kernel
theorem dL_areRight_79 : decode cL_areRight 79 = .ok (.ifCond .lt 10, 3) := by decide +kernel
theorem dL_areRight_82 : decode cL_areRight 82 = .ok (.iload 9, 2) := by decide +kernel
theorem dL_areRight_84 : decode cL_areRight 84 = .ok (.iload 5, 2) := by decide +kernel
theorem dL_areRight_86 : decode cL_areRight 86 = .ok (.if_icmp .ge 5, 3) := by decide +kernel
theorem dL_areRight_89 : decode cL_areRight 89 = .ok (.iconst 0, 1) := by decide +kernel
theorem dL_areRight_90 : decode cL_areRight 90 = .ok (.ireturn, 1) := by decide +kernel
theorem dL_areRight_91 : decode cL_areRight 91 = .ok (.aload_n 2, 1) := by decide +kernel
theorem dL_areRight_92 : decode cL_areRight 92 = .ok (.iload 8, 2) := by decide +kernel
theorem dL_areRight_94 : decode cL_areRight 94 = .ok (.iaload, 1) := by decide +kernel
theorem dL_areRight_95 : decode cL_areRight 95 = .ok (.iconst 1, 1) := by decide +kernel
theorem dL_areRight_96 : decode cL_areRight 96 = .ok (.if_icmp .ne 58, 3) := by decide +kernel
theorem dL_areRight_99 : decode cL_areRight 99 = .ok (.iload 9, 2) := by decide +kernel
theorem dL_areRight_101 : decode cL_areRight 101 = .ok (.iload 6, 2) := by decide +kernel
theorem dL_areRight_103 : decode cL_areRight 103 = .ok (.aload_n 2, 1) := by decide +kernel
theorem dL_areRight_104 : decode cL_areRight 104 = .ok (.iload 8, 2) := by decide +kernel
theorem dL_areRight_106 : decode cL_areRight 106 = .ok (.iconst 3, 1) := by decide +kernel
theorem dL_areRight_107 : decode cL_areRight 107 = .ok (.iadd, 1) := by decide +kernel
theorem dL_areRight_108 : decode cL_areRight 108 = .ok (.iaload, 1) := by decide +kernel
theorem dL_areRight_109 : decode cL_areRight 109 = .ok (.if_icmp .le 15, 3) := by decide +kernel
theorem dL_areRight_112 : decode cL_areRight 112 = .ok (.iload 6, 2) := by decide +kernel
theorem dL_areRight_114 : decode cL_areRight 114 = .ok (.aload_n 2, 1) := by decide +kernel
theorem dL_areRight_115 : decode cL_areRight 115 = .ok (.iload 8, 2) := by decide +kernel
theorem dL_areRight_117 : decode cL_areRight 117 = .ok (.iconst 3, 1) := by decide +kernel
theorem dL_areRight_118 : decode cL_areRight 118 = .ok (.iadd, 1) := by decide +kernel
theorem dL_areRight_119 : decode cL_areRight 119 = .ok (.iaload, 1) := by decide +kernel
theorem dL_areRight_120 : decode cL_areRight 120 = .ok (.isub, 1) := by decide +kernel
theorem dL_areRight_121 : decode cL_areRight 121 = .ok (.goto 12, 3) := by decide +kernel
theorem dL_areRight_124 : decode cL_areRight 124 = .ok (.aload_n 2, 1) := by decide +kernel
theorem dL_areRight_125 : decode cL_areRight 125 = .ok (.iload 8, 2) := by decide +kernel
theorem dL_areRight_127 : decode cL_areRight 127 = .ok (.iconst 3, 1) := by decide +kernel
theorem dL_areRight_128 : decode cL_areRight 128 = .ok (.iadd, 1) := by decide +kernel
theorem dL_areRight_129 : decode cL_areRight 129 = .ok (.iaload, 1) := by decide +kernel
theorem dL_areRight_130 : decode cL_areRight 130 = .ok (.iload 6, 2) := by decide +kernel
theorem dL_areRight_132 : decode cL_areRight 132 = .ok (.isub, 1) := by decide +kernel
theorem dL_areRight_133 : decode cL_areRight 133 = .ok (.iadd, 1) := by decide +kernel
theorem dL_areRight_134 : decode cL_areRight 134 = .ok (.istore 5, 2) := by decide +kernel
theorem dL_areRight_136 : decode cL_areRight 136 = .ok (.aload_n 2, 1) := by decide +kernel
theorem dL_areRight_137 : decode cL_areRight 137 = .ok (.iload 8, 2) := by decide +kernel
theorem dL_areRight_139 : decode cL_areRight 139 = .ok (.iconst 3, 1) := by decide +kernel
theorem dL_areRight_140 : decode cL_areRight 140 = .ok (.iadd, 1) := by decide +kernel
theorem dL_areRight_141 : decode cL_areRight 141 = .ok (.iaload, 1) := by decide +kernel
theorem dL_areRight_142 : decode cL_areRight 142 = .ok (.istore 6, 2) := by decide +kernel
theorem dL_areRight_144 : decode cL_areRight 144 = .ok (.iload 5, 2) := by decide +kernel
theorem dL_areRight_146 : decode cL_areRight 146 = .ok (.sipush 999, 3) := by decide +kernel
theorem dL_areRight_149 : decode cL_areRight 149 = .ok (.if_icmp .le 5, 3) := by decide +kernel
theorem dL_areRight_152 : decode cL_areRight 152 = .ok (.iconst 0, 1) := by decide +kernel
theorem dL_areRight_153 : decode cL_areRight 153 = .ok (.ireturn, 1) := by decide +kernel
theorem dL_areRight_154 : decode cL_areRight 154 = .ok (.aload_n 2, 1) := by decide +kernel
theorem dL_areRight_155 : decode cL_areRight 155 = .ok (.iload 8, 2) := by decide +kernel
theorem dL_areRight_157 : decode cL_areRight 157 = .ok (.iaload, 1) := by decide +kernel
theorem dL_areRight_158 : decode cL_areRight 158 = .ok (.iconst 3, 1) := by decide +kernel
theorem dL_areRight_159 : decode cL_areRight 159 = .ok (.if_icmp .ne 15, 3) := by decide +kernel
theorem dL_areRight_162 : decode cL_areRight 162 = .ok (.iload 9, 2) := by decide +kernel
theorem dL_areRight_164 : decode cL_areRight 164 = .ok (.iload 4, 2) := by decide +kernel
theorem dL_areRight_166 : decode cL_areRight 166 = .ok (.if_icmp .gt 5, 3) := by decide +kernel
theorem dL_areRight_169 : decode cL_areRight 169 = .ok (.iconst 0, 1) := by decide +kernel
theorem dL_areRight_170 : decode cL_areRight 170 = .ok (.ireturn, 1) := by decide +kernel
theorem dL_areRight_171 : decode cL_areRight 171 = .ok (.iconst (-1), 1) := by decide +kernel
theorem dL_areRight_172 : decode cL_areRight 172 = .ok (.istore 4, 2) := by decide +kernel
theorem dL_areRight_174 : decode cL_areRight 174 = .ok (.iinc 7 1, 3) := by decide +kernel
theorem dL_areRight_177 : decode cL_areRight 177 = .ok (.goto (-158), 3) := by decide +kernel
theorem dL_areRight_180 : decode cL_areRight 180 = .ok (.iconst 1, 1) := by decide +kernel
theorem dL_areRight_181 : decode cL_areRight 181 = .ok (.ireturn, 1) := by decide +kernel
theorem dL_law_0 : decode cL_law 0 = .ok (.new 20, 3) := by decide +kernel
theorem dL_law_3 : decode cL_law 3 = .ok (.dup, 1) := by decide +kernel
theorem dL_law_4 : decode cL_law 4 = .ok (.invokespecial 67, 3) := by decide +kernel
theorem dL_law_7 : decode cL_law 7 = .ok (.astore_n 1, 1) := by decide +kernel
theorem dL_law_8 : decode cL_law 8 = .ok (.bipush 16, 2) := by decide +kernel
theorem dL_law_10 : decode cL_law 10 = .ok (.newarray .int, 2) := by decide +kernel
theorem dL_law_12 : decode cL_law 12 = .ok (.astore_n 2, 1) := by decide +kernel
theorem dL_law_13 : decode cL_law 13 = .ok (.bipush 10, 2) := by decide +kernel
theorem dL_law_15 : decode cL_law 15 = .ok (.newarray .int, 2) := by decide +kernel
theorem dL_law_17 : decode cL_law 17 = .ok (.astore_n 3, 1) := by decide +kernel
theorem dL_law_18 : decode cL_law 18 = .ok (.sipush 246, 3) := by decide +kernel
theorem dL_law_21 : decode cL_law 21 = .ok (.newarray .int, 2) := by decide +kernel
theorem dL_law_23 : decode cL_law 23 = .ok (.astore 4, 2) := by decide +kernel
theorem dL_law_25 : decode cL_law 25 = .ok (.aload_n 1, 1) := by decide +kernel
theorem dL_law_26 : decode cL_law 26 = .ok (.aload_n 0, 1) := by decide +kernel
theorem dL_law_27 : decode cL_law 27 = .ok (.iconst 0, 1) := by decide +kernel
theorem dL_law_28 : decode cL_law 28 = .ok (.bipush 18, 2) := by decide +kernel
theorem dL_law_30 : decode cL_law 30 = .ok (.aload_n 2, 1) := by decide +kernel
theorem dL_law_31 : decode cL_law 31 = .ok (.aload_n 3, 1) := by decide +kernel
theorem dL_law_32 : decode cL_law 32 = .ok (.aload 4, 2) := by decide +kernel
theorem dL_law_34 : decode cL_law 34 = .ok (.invokestatic 68, 3) := by decide +kernel
theorem dL_law_37 : decode cL_law 37 = .ok (.astore 5, 2) := by decide +kernel
theorem dL_law_39 : decode cL_law 39 = .ok (.aload 5, 2) := by decide +kernel
theorem dL_law_41 : decode cL_law 41 = .ok (.ifnonnull 5, 3) := by decide +kernel
theorem dL_law_44 : decode cL_law 44 = .ok (.iconst 0, 1) := by decide +kernel
theorem dL_law_45 : decode cL_law 45 = .ok (.ireturn, 1) := by decide +kernel
theorem dL_law_46 : decode cL_law 46 = .ok (.iconst 1, 1) := by decide +kernel
theorem dL_law_47 : decode cL_law 47 = .ok (.istore 6, 2) := by decide +kernel
theorem dL_law_49 : decode cL_law 49 = .ok (.iconst 0, 1) := by decide +kernel
theorem dL_law_50 : decode cL_law 50 = .ok (.istore 7, 2) := by decide +kernel
theorem dL_law_52 : decode cL_law 52 = .ok (.iload 7, 2) := by decide +kernel
theorem dL_law_54 : decode cL_law 54 = .ok (.aload 5, 2) := by decide +kernel
theorem dL_law_56 : decode cL_law 56 = .ok (.iconst 2, 1) := by decide +kernel
theorem dL_law_57 : decode cL_law 57 = .ok (.iaload, 1) := by decide +kernel
theorem dL_law_58 : decode cL_law 58 = .ok (.if_icmp .ge 35, 3) := by decide +kernel
theorem dL_law_61 : decode cL_law 61 = .ok (.iload 6, 2) := by decide +kernel
theorem dL_law_63 : decode cL_law 63 = .ok (.sipush 1000, 3) := by decide +kernel
theorem dL_law_66 : decode cL_law 66 = .ok (.aload 4, 2) := by decide +kernel
theorem dL_law_68 : decode cL_law 68 = .ok (.bipush 6, 2) := by decide +kernel
theorem dL_law_70 : decode cL_law 70 = .ok (.iload 7, 2) := by decide +kernel
theorem dL_law_72 : decode cL_law 72 = .ok (.imul, 1) := by decide +kernel
theorem dL_law_73 : decode cL_law 73 = .ok (.iconst 2, 1) := by decide +kernel
theorem dL_law_74 : decode cL_law 74 = .ok (.iadd, 1) := by decide +kernel
theorem dL_law_75 : decode cL_law 75 = .ok (.iaload, 1) := by decide +kernel
theorem dL_law_76 : decode cL_law 76 = .ok (.bipush 25, 2) := by decide +kernel
theorem dL_law_78 : decode cL_law 78 = .ok (.iadd, 1) := by decide +kernel
theorem dL_law_79 : decode cL_law 79 = .ok (.invokestatic 64, 3) := by decide +kernel
theorem dL_law_82 : decode cL_law 82 = .ok (.invokestatic 31, 3) := by decide +kernel
theorem dL_law_85 : decode cL_law 85 = .ok (.istore 6, 2) := by decide +kernel
theorem dL_law_87 : decode cL_law 87 = .ok (.iinc 7 1, 3) := by decide +kernel
theorem dL_law_90 : decode cL_law 90 = .ok (.goto (-38), 3) := by decide +kernel
theorem dL_law_93 : decode cL_law 93 = .ok (.iconst 0, 1) := by decide +kernel
theorem dL_law_94 : decode cL_law 94 = .ok (.istore 7, 2) := by decide +kernel
theorem dL_law_96 : decode cL_law 96 = .ok (.iload 7, 2) := by decide +kernel
theorem dL_law_98 : decode cL_law 98 = .ok (.aload 5, 2) := by decide +kernel
theorem dL_law_100 : decode cL_law 100 = .ok (.iconst 0, 1) := by decide +kernel
theorem dL_law_101 : decode cL_law 101 = .ok (.iaload, 1) := by decide +kernel
theorem dL_law_102 : decode cL_law 102 = .ok (.if_icmp .ge 245, 3) := by decide +kernel
theorem dL_law_105 : decode cL_law 105 = .ok (.iconst 0, 1) := by decide +kernel
theorem dL_law_106 : decode cL_law 106 = .ok (.istore 8, 2) := by decide +kernel
theorem dL_law_108 : decode cL_law 108 = .ok (.iconst 0, 1) := by decide +kernel
theorem dL_law_109 : decode cL_law 109 = .ok (.istore 9, 2) := by decide +kernel
theorem dL_law_111 : decode cL_law 111 = .ok (.iload 9, 2) := by decide +kernel
theorem dL_law_113 : decode cL_law 113 = .ok (.aload_n 1, 1) := by decide +kernel
theorem dL_law_114 : decode cL_law 114 = .ok (.iload 7, 2) := by decide +kernel
theorem dL_law_116 : decode cL_law 116 = .ok (.invokevirtual 72, 3) := by decide +kernel
theorem dL_law_119 : decode cL_law 119 = .ok (.if_icmp .ge 209, 3) := by decide +kernel
theorem dL_law_122 : decode cL_law 122 = .ok (.aload_n 1, 1) := by decide +kernel
theorem dL_law_123 : decode cL_law 123 = .ok (.iload 7, 2) := by decide +kernel
theorem dL_law_125 : decode cL_law 125 = .ok (.iload 9, 2) := by decide +kernel
theorem dL_law_127 : decode cL_law 127 = .ok (.iconst 0, 1) := by decide +kernel
theorem dL_law_128 : decode cL_law 128 = .ok (.invokevirtual 75, 3) := by decide +kernel
theorem dL_law_131 : decode cL_law 131 = .ok (.istore 10, 2) := by decide +kernel
theorem dL_law_133 : decode cL_law 133 = .ok (.aload_n 1, 1) := by decide +kernel
theorem dL_law_134 : decode cL_law 134 = .ok (.iload 7, 2) := by decide +kernel
theorem dL_law_136 : decode cL_law 136 = .ok (.iload 9, 2) := by decide +kernel
theorem dL_law_138 : decode cL_law 138 = .ok (.iconst 1, 1) := by decide +kernel
theorem dL_law_139 : decode cL_law 139 = .ok (.invokevirtual 75, 3) := by decide +kernel
theorem dL_law_142 : decode cL_law 142 = .ok (.istore 11, 2) := by decide +kernel
theorem dL_law_144 : decode cL_law 144 = .ok (.iload 10, 2) := by decide +kernel
theorem dL_law_146 : decode cL_law 146 = .ok (.iload 11, 2) := by decide +kernel
theorem dL_law_148 : decode cL_law 148 = .ok (.if_icmp .ge 24, 3) := by decide +kernel
theorem dL_law_151 : decode cL_law 151 = .ok (.iload 9, 2) := by decide +kernel
theorem dL_law_153 : decode cL_law 153 = .ok (.ifCond .le 21, 3) := by decide +kernel
theorem dL_law_156 : decode cL_law 156 = .ok (.iload 10, 2) := by decide +kernel
theorem dL_law_158 : decode cL_law 158 = .ok (.aload_n 1, 1) := by decide +kernel
theorem dL_law_159 : decode cL_law 159 = .ok (.iload 7, 2) := by decide +kernel
theorem dL_law_161 : decode cL_law 161 = .ok (.iload 9, 2) := by decide +kernel
theorem dL_law_163 : decode cL_law 163 = .ok (.iconst 1, 1) := by decide +kernel
theorem dL_law_164 : decode cL_law 164 = .ok (.isub, 1) := by decide +kernel
theorem dL_law_165 : decode cL_law 165 = .ok (.iconst 1, 1) := by decide +kernel
theorem dL_law_166 : decode cL_law 166 = .ok (.invokevirtual 75, 3) := by decide +kernel
theorem dL_law_169 : decode cL_law 169 = .ok (.if_icmp .ge 5, 3) := by decide +kernel
theorem dL_law_172 : decode cL_law 172 = .ok (.iconst 0, 1) := by decide +kernel
theorem dL_law_173 : decode cL_law 173 = .ok (.ireturn, 1) := by decide +kernel
theorem dL_law_174 : decode cL_law 174 = .ok (.iload 8, 2) := by decide +kernel
theorem dL_law_176 : decode cL_law 176 = .ok (.iload 11, 2) := by decide +kernel
theorem dL_law_178 : decode cL_law 178 = .ok (.iload 10, 2) := by decide +kernel
theorem dL_law_180 : decode cL_law 180 = .ok (.isub, 1) := by decide +kernel
theorem dL_law_181 : decode cL_law 181 = .ok (.iadd, 1) := by decide +kernel
theorem dL_law_182 : decode cL_law 182 = .ok (.istore 8, 2) := by decide +kernel
theorem dL_law_184 : decode cL_law 184 = .ok (.iload 10, 2) := by decide +kernel
theorem dL_law_186 : decode cL_law 186 = .ok (.istore 12, 2) := by decide +kernel
theorem dL_law_188 : decode cL_law 188 = .ok (.iload 12, 2) := by decide +kernel
theorem dL_law_190 : decode cL_law 190 = .ok (.iload 11, 2) := by decide +kernel
theorem dL_law_192 : decode cL_law 192 = .ok (.iload 6, 2) := by decide +kernel
theorem dL_law_194 : decode cL_law 194 = .ok (.invokestatic 64, 3) := by decide +kernel
theorem dL_law_197 : decode cL_law 197 = .ok (.if_icmp .ge 125, 3) := by decide +kernel
theorem dL_law_200 : decode cL_law 200 = .ok (.aload_n 1, 1) := by decide +kernel
theorem dL_law_201 : decode cL_law 201 = .ok (.iload 7, 2) := by decide +kernel
theorem dL_law_203 : decode cL_law 203 = .ok (.iload 12, 2) := by decide +kernel
theorem dL_law_205 : decode cL_law 205 = .ok (.invokevirtual 78, 3) := by decide +kernel
theorem dL_law_208 : decode cL_law 208 = .ok (.ifCond .lt 47, 3) := by decide +kernel
theorem dL_law_211 : decode cL_law 211 = .ok (.aload_n 1, 1) := by decide +kernel
theorem dL_law_212 : decode cL_law 212 = .ok (.iload 7, 2) := by decide +kernel
theorem dL_law_214 : decode cL_law 214 = .ok (.iload 12, 2) := by decide +kernel
theorem dL_law_216 : decode cL_law 216 = .ok (.invokevirtual 81, 3) := by decide +kernel
theorem dL_law_219 : decode cL_law 219 = .ok (.ifCond .lt 36, 3) := by decide +kernel
theorem dL_law_222 : decode cL_law 222 = .ok (.iload 12, 2) := by decide +kernel
theorem dL_law_224 : decode cL_law 224 = .ok (.iload 10, 2) := by decide +kernel
theorem dL_law_226 : decode cL_law 226 = .ok (.if_icmp .le 31, 3) := by decide +kernel
theorem dL_law_229 : decode cL_law 229 = .ok (.aload_n 1, 1) := by decide +kernel
theorem dL_law_230 : decode cL_law 230 = .ok (.iload 7, 2) := by decide +kernel
theorem dL_law_232 : decode cL_law 232 = .ok (.iload 12, 2) := by decide +kernel
theorem dL_law_234 : decode cL_law 234 = .ok (.invokevirtual 78, 3) := by decide +kernel
theorem dL_law_237 : decode cL_law 237 = .ok (.aload_n 1, 1) := by decide +kernel
theorem dL_law_238 : decode cL_law 238 = .ok (.iload 7, 2) := by decide +kernel
theorem dL_law_240 : decode cL_law 240 = .ok (.iload 12, 2) := by decide +kernel
theorem dL_law_242 : decode cL_law 242 = .ok (.iconst 1, 1) := by decide +kernel
theorem dL_law_243 : decode cL_law 243 = .ok (.isub, 1) := by decide +kernel
theorem dL_law_244 : decode cL_law 244 = .ok (.invokevirtual 78, 3) := by decide +kernel
theorem dL_law_247 : decode cL_law 247 = .ok (.isub, 1) := by decide +kernel
theorem dL_law_248 : decode cL_law 248 = .ok (.invokestatic 60, 3) := by decide +kernel
theorem dL_law_251 : decode cL_law 251 = .ok (.iconst 1, 1) := by decide +kernel
theorem dL_law_252 : decode cL_law 252 = .ok (.if_icmp .le 5, 3) := by decide +kernel
theorem dL_law_255 : decode cL_law 255 = .ok (.iconst 0, 1) := by decide +kernel
theorem dL_law_256 : decode cL_law 256 = .ok (.ireturn, 1) := by decide +kernel
theorem dL_law_257 : decode cL_law 257 = .ok (.aload_n 1, 1) := by decide +kernel
theorem dL_law_258 : decode cL_law 258 = .ok (.iload 7, 2) := by decide +kernel
theorem dL_law_260 : decode cL_law 260 = .ok (.iload 9, 2) := by decide +kernel
theorem dL_law_262 : decode cL_law 262 = .ok (.iconst 2, 1) := by decide +kernel
theorem dL_law_263 : decode cL_law 263 = .ok (.invokevirtual 75, 3) := by decide +kernel
theorem dL_law_266 : decode cL_law 266 = .ok (.istore 13, 2) := by decide +kernel
theorem dL_law_268 : decode cL_law 268 = .ok (.iconst 0, 1) := by decide +kernel
theorem dL_law_269 : decode cL_law 269 = .ok (.istore 14, 2) := by decide +kernel
theorem dL_law_271 : decode cL_law 271 = .ok (.iload 14, 2) := by decide +kernel
theorem dL_law_273 : decode cL_law 273 = .ok (.aload 5, 2) := by decide +kernel
theorem dL_law_275 : decode cL_law 275 = .ok (.iconst 1, 1) := by decide +kernel
theorem dL_law_276 : decode cL_law 276 = .ok (.iaload, 1) := by decide +kernel
theorem dL_law_277 : decode cL_law 277 = .ok (.if_icmp .ge 39, 3) := by decide +kernel
theorem dL_law_280 : decode cL_law 280 = .ok (.aload_n 1, 1) := by decide +kernel
theorem dL_law_281 : decode cL_law 281 = .ok (.iload 14, 2) := by decide +kernel
theorem dL_law_283 : decode cL_law 283 = .ok (.iload 12, 2) := by decide +kernel
theorem dL_law_285 : decode cL_law 285 = .ok (.invokevirtual 84, 3) := by decide +kernel
theorem dL_law_288 : decode cL_law 288 = .ok (.iload 7, 2) := by decide +kernel
theorem dL_law_290 : decode cL_law 290 = .ok (.ishr, 1) := by decide +kernel
theorem dL_law_291 : decode cL_law 291 = .ok (.iconst 1, 1) := by decide +kernel
theorem dL_law_292 : decode cL_law 292 = .ok (.iand, 1) := by decide +kernel
theorem dL_law_293 : decode cL_law 293 = .ok (.iload 14, 2) := by decide +kernel
theorem dL_law_295 : decode cL_law 295 = .ok (.iload 13, 2) := by decide +kernel
theorem dL_law_297 : decode cL_law 297 = .ok (.if_icmp .ne 7, 3) := by decide +kernel
theorem dL_law_300 : decode cL_law 300 = .ok (.iconst 1, 1) := by decide +kernel
theorem dL_law_301 : decode cL_law 301 = .ok (.goto 4, 3) := by decide +kernel
theorem dL_law_304 : decode cL_law 304 = .ok (.iconst 0, 1) := by decide +kernel
theorem dL_law_305 : decode cL_law 305 = .ok (.if_icmp .eq 5, 3) := by decide +kernel
theorem dL_law_308 : decode cL_law 308 = .ok (.iconst 0, 1) := by decide +kernel
theorem dL_law_309 : decode cL_law 309 = .ok (.ireturn, 1) := by decide +kernel
theorem dL_law_310 : decode cL_law 310 = .ok (.iinc 14 1, 3) := by decide +kernel
theorem dL_law_313 : decode cL_law 313 = .ok (.goto (-42), 3) := by decide +kernel
theorem dL_law_316 : decode cL_law 316 = .ok (.iinc 12 1, 3) := by decide +kernel
theorem dL_law_319 : decode cL_law 319 = .ok (.goto (-131), 3) := by decide +kernel
theorem dL_law_322 : decode cL_law 322 = .ok (.iinc 9 1, 3) := by decide +kernel
theorem dL_law_325 : decode cL_law 325 = .ok (.goto (-214), 3) := by decide +kernel
theorem dL_law_328 : decode cL_law 328 = .ok (.aload_n 1, 1) := by decide +kernel
theorem dL_law_329 : decode cL_law 329 = .ok (.iload 7, 2) := by decide +kernel
theorem dL_law_331 : decode cL_law 331 = .ok (.invokevirtual 87, 3) := by decide +kernel
theorem dL_law_334 : decode cL_law 334 = .ok (.iload 8, 2) := by decide +kernel
theorem dL_law_336 : decode cL_law 336 = .ok (.if_icmp .eq 5, 3) := by decide +kernel
theorem dL_law_339 : decode cL_law 339 = .ok (.iconst 0, 1) := by decide +kernel
theorem dL_law_340 : decode cL_law 340 = .ok (.ireturn, 1) := by decide +kernel
theorem dL_law_341 : decode cL_law 341 = .ok (.iinc 7 1, 3) := by decide +kernel
theorem dL_law_344 : decode cL_law 344 = .ok (.goto (-248), 3) := by decide +kernel
theorem dL_law_347 : decode cL_law 347 = .ok (.iconst 0, 1) := by decide +kernel
theorem dL_law_348 : decode cL_law 348 = .ok (.istore 7, 2) := by decide +kernel
theorem dL_law_350 : decode cL_law 350 = .ok (.iload 7, 2) := by decide +kernel
theorem dL_law_352 : decode cL_law 352 = .ok (.aload 5, 2) := by decide +kernel
theorem dL_law_354 : decode cL_law 354 = .ok (.iconst 1, 1) := by decide +kernel
theorem dL_law_355 : decode cL_law 355 = .ok (.iaload, 1) := by decide +kernel
theorem dL_law_356 : decode cL_law 356 = .ok (.if_icmp .ge 193, 3) := by decide +kernel
theorem dL_law_359 : decode cL_law 359 = .ok (.aload_n 3, 1) := by decide +kernel
theorem dL_law_360 : decode cL_law 360 = .ok (.iconst 2, 1) := by decide +kernel
theorem dL_law_361 : decode cL_law 361 = .ok (.iload 7, 2) := by decide +kernel
theorem dL_law_363 : decode cL_law 363 = .ok (.imul, 1) := by decide +kernel
theorem dL_law_364 : decode cL_law 364 = .ok (.iconst 1, 1) := by decide +kernel
theorem dL_law_365 : decode cL_law 365 = .ok (.iadd, 1) := by decide +kernel
theorem dL_law_366 : decode cL_law 366 = .ok (.iaload, 1) := by decide +kernel
theorem dL_law_367 : decode cL_law 367 = .ok (.istore 8, 2) := by decide +kernel
theorem dL_law_369 : decode cL_law 369 = .ok (.iconst 0, 1) := by decide +kernel
theorem dL_law_370 : decode cL_law 370 = .ok (.istore 9, 2) := by decide +kernel
theorem dL_law_372 : decode cL_law 372 = .ok (.iconst 0, 1) := by decide +kernel
theorem dL_law_373 : decode cL_law 373 = .ok (.istore 10, 2) := by decide +kernel
theorem dL_law_375 : decode cL_law 375 = .ok (.iload 10, 2) := by decide +kernel
theorem dL_law_377 : decode cL_law 377 = .ok (.iload 6, 2) := by decide +kernel
theorem dL_law_379 : decode cL_law 379 = .ok (.if_icmp .ge 164, 3) := by decide +kernel
theorem dL_law_382 : decode cL_law 382 = .ok (.aload_n 1, 1) := by decide +kernel
theorem dL_law_383 : decode cL_law 383 = .ok (.iload 7, 2) := by decide +kernel
theorem dL_law_385 : decode cL_law 385 = .ok (.iload 10, 2) := by decide +kernel
theorem dL_law_387 : decode cL_law 387 = .ok (.invokevirtual 84, 3) := by decide +kernel
theorem dL_law_390 : decode cL_law 390 = .ok (.istore 11, 2) := by decide +kernel
theorem dL_law_392 : decode cL_law 392 = .ok (.iconst 0, 1) := by decide +kernel
theorem dL_law_393 : decode cL_law 393 = .ok (.istore 12, 2) := by decide +kernel
theorem dL_law_395 : decode cL_law 395 = .ok (.iconst 0, 1) := by decide +kernel
theorem dL_law_396 : decode cL_law 396 = .ok (.istore 13, 2) := by decide +kernel
theorem dL_law_398 : decode cL_law 398 = .ok (.iconst (-1), 1) := by decide +kernel
theorem dL_law_399 : decode cL_law 399 = .ok (.istore 14, 2) := by decide +kernel
theorem dL_law_401 : decode cL_law 401 = .ok (.iconst 0, 1) := by decide +kernel
theorem dL_law_402 : decode cL_law 402 = .ok (.istore 15, 2) := by decide +kernel
theorem dL_law_404 : decode cL_law 404 = .ok (.iload 15, 2) := by decide +kernel
theorem dL_law_406 : decode cL_law 406 = .ok (.aload 5, 2) := by decide +kernel
theorem dL_law_408 : decode cL_law 408 = .ok (.iconst 0, 1) := by decide +kernel
theorem dL_law_409 : decode cL_law 409 = .ok (.iaload, 1) := by decide +kernel
theorem dL_law_410 : decode cL_law 410 = .ok (.if_icmp .ge 76, 3) := by decide +kernel
theorem dL_law_413 : decode cL_law 413 = .ok (.iload 11, 2) := by decide +kernel
theorem dL_law_415 : decode cL_law 415 = .ok (.iload 15, 2) := by decide +kernel
theorem dL_law_417 : decode cL_law 417 = .ok (.ishr, 1) := by decide +kernel
theorem dL_law_418 : decode cL_law 418 = .ok (.iconst 1, 1) := by decide +kernel
theorem dL_law_419 : decode cL_law 419 = .ok (.iand, 1) := by decide +kernel
theorem dL_law_420 : decode cL_law 420 = .ok (.ifCond .ne 6, 3) := by decide +kernel
theorem dL_law_423 : decode cL_law 423 = .ok (.goto 57, 3) := by decide +kernel
theorem dL_law_426 : decode cL_law 426 = .ok (.iload 12, 2) := by decide +kernel
theorem dL_law_428 : decode cL_law 428 = .ok (.aload_n 2, 1) := by decide +kernel
theorem dL_law_429 : decode cL_law 429 = .ok (.iconst 2, 1) := by decide +kernel
theorem dL_law_430 : decode cL_law 430 = .ok (.iload 15, 2) := by decide +kernel
theorem dL_law_432 : decode cL_law 432 = .ok (.imul, 1) := by decide +kernel
theorem dL_law_433 : decode cL_law 433 = .ok (.iconst 1, 1) := by decide +kernel
theorem dL_law_434 : decode cL_law 434 = .ok (.iadd, 1) := by decide +kernel
theorem dL_law_435 : decode cL_law 435 = .ok (.iaload, 1) := by decide +kernel
theorem dL_law_436 : decode cL_law 436 = .ok (.iadd, 1) := by decide +kernel
theorem dL_law_437 : decode cL_law 437 = .ok (.istore 12, 2) := by decide +kernel
theorem dL_law_439 : decode cL_law 439 = .ok (.iload 13, 2) := by decide +kernel
theorem dL_law_441 : decode cL_law 441 = .ok (.aload_n 2, 1) := by decide +kernel
theorem dL_law_442 : decode cL_law 442 = .ok (.iconst 2, 1) := by decide +kernel
theorem dL_law_443 : decode cL_law 443 = .ok (.iload 15, 2) := by decide +kernel
theorem dL_law_445 : decode cL_law 445 = .ok (.imul, 1) := by decide +kernel
theorem dL_law_446 : decode cL_law 446 = .ok (.iaload, 1) := by decide +kernel
theorem dL_law_447 : decode cL_law 447 = .ok (.iadd, 1) := by decide +kernel
theorem dL_law_448 : decode cL_law 448 = .ok (.istore 13, 2) := by decide +kernel
theorem dL_law_450 : decode cL_law 450 = .ok (.iload 14, 2) := by decide +kernel
theorem dL_law_452 : decode cL_law 452 = .ok (.ifCond .lt 18, 3) := by decide +kernel
theorem dL_law_455 : decode cL_law 455 = .ok (.iload 14, 2) := by decide +kernel
theorem dL_law_457 : decode cL_law 457 = .ok (.aload_n 1, 1) := by decide +kernel
theorem dL_law_458 : decode cL_law 458 = .ok (.iload 15, 2) := by decide +kernel
theorem dL_law_460 : decode cL_law 460 = .ok (.iload 10, 2) := by decide +kernel
theorem dL_law_462 : decode cL_law 462 = .ok (.invokevirtual 78, 3) := by decide +kernel
theorem dL_law_465 : decode cL_law 465 = .ok (.if_icmp .eq 5, 3) := by decide +kernel
theorem dL_law_468 : decode cL_law 468 = .ok (.iconst 0, 1) := by decide +kernel
theorem dL_law_469 : decode cL_law 469 = .ok (.ireturn, 1) := by decide +kernel
theorem dL_law_470 : decode cL_law 470 = .ok (.aload_n 1, 1) := by decide +kernel
theorem dL_law_471 : decode cL_law 471 = .ok (.iload 15, 2) := by decide +kernel
theorem dL_law_473 : decode cL_law 473 = .ok (.iload 10, 2) := by decide +kernel
theorem dL_law_475 : decode cL_law 475 = .ok (.invokevirtual 78, 3) := by decide +kernel
theorem dL_law_478 : decode cL_law 478 = .ok (.istore 14, 2) := by decide +kernel
theorem dL_law_480 : decode cL_law 480 = .ok (.iinc 15 1, 3) := by decide +kernel
theorem dL_law_483 : decode cL_law 483 = .ok (.goto (-79), 3) := by decide +kernel
theorem dL_law_486 : decode cL_law 486 = .ok (.iload 11, 2) := by decide +kernel
theorem dL_law_488 : decode cL_law 488 = .ok (.ifCond .ne 6, 3) := by decide +kernel
theorem dL_law_491 : decode cL_law 491 = .ok (.goto 46, 3) := by decide +kernel
theorem dL_law_494 : decode cL_law 494 = .ok (.iload 12, 2) := by decide +kernel
theorem dL_law_496 : decode cL_law 496 = .ok (.iconst 2, 1) := by decide +kernel
theorem dL_law_497 : decode cL_law 497 = .ok (.if_icmp .gt 30, 3) := by decide +kernel
theorem dL_law_500 : decode cL_law 500 = .ok (.iload 13, 2) := by decide +kernel
theorem dL_law_502 : decode cL_law 502 = .ok (.aload_n 3, 1) := by decide +kernel
theorem dL_law_503 : decode cL_law 503 = .ok (.iconst 2, 1) := by decide +kernel
theorem dL_law_504 : decode cL_law 504 = .ok (.iload 7, 2) := by decide +kernel
theorem dL_law_506 : decode cL_law 506 = .ok (.imul, 1) := by decide +kernel
theorem dL_law_507 : decode cL_law 507 = .ok (.iaload, 1) := by decide +kernel
theorem dL_law_508 : decode cL_law 508 = .ok (.if_icmp .gt 19, 3) := by decide +kernel
theorem dL_law_511 : decode cL_law 511 = .ok (.iload 14, 2) := by decide +kernel
theorem dL_law_513 : decode cL_law 513 = .ok (.iload 8, 2) := by decide +kernel
theorem dL_law_515 : decode cL_law 515 = .ok (.isub, 1) := by decide +kernel
theorem dL_law_516 : decode cL_law 516 = .ok (.invokestatic 60, 3) := by decide +kernel
theorem dL_law_519 : decode cL_law 519 = .ok (.iload 10, 2) := by decide +kernel
theorem dL_law_521 : decode cL_law 521 = .ok (.iload 9, 2) := by decide +kernel
theorem dL_law_523 : decode cL_law 523 = .ok (.isub, 1) := by decide +kernel
theorem dL_law_524 : decode cL_law 524 = .ok (.if_icmp .le 5, 3) := by decide +kernel
theorem dL_law_527 : decode cL_law 527 = .ok (.iconst 0, 1) := by decide +kernel
theorem dL_law_528 : decode cL_law 528 = .ok (.ireturn, 1) := by decide +kernel
theorem dL_law_529 : decode cL_law 529 = .ok (.iload 14, 2) := by decide +kernel
theorem dL_law_531 : decode cL_law 531 = .ok (.istore 8, 2) := by decide +kernel
theorem dL_law_533 : decode cL_law 533 = .ok (.iload 10, 2) := by decide +kernel
theorem dL_law_535 : decode cL_law 535 = .ok (.istore 9, 2) := by decide +kernel
theorem dL_law_537 : decode cL_law 537 = .ok (.iinc 10 1, 3) := by decide +kernel
theorem dL_law_540 : decode cL_law 540 = .ok (.goto (-165), 3) := by decide +kernel
theorem dL_law_543 : decode cL_law 543 = .ok (.iinc 7 1, 3) := by decide +kernel
theorem dL_law_546 : decode cL_law 546 = .ok (.goto (-196), 3) := by decide +kernel
theorem dL_law_549 : decode cL_law 549 = .ok (.iconst 0, 1) := by decide +kernel
theorem dL_law_550 : decode cL_law 550 = .ok (.istore 7, 2) := by decide +kernel
theorem dL_law_552 : decode cL_law 552 = .ok (.iload 7, 2) := by decide +kernel
theorem dL_law_554 : decode cL_law 554 = .ok (.aload 5, 2) := by decide +kernel
theorem dL_law_556 : decode cL_law 556 = .ok (.iconst 0, 1) := by decide +kernel
theorem dL_law_557 : decode cL_law 557 = .ok (.iaload, 1) := by decide +kernel
theorem dL_law_558 : decode cL_law 558 = .ok (.if_icmp .ge 139, 3) := by decide +kernel
theorem dL_law_561 : decode cL_law 561 = .ok (.iconst 0, 1) := by decide +kernel
theorem dL_law_562 : decode cL_law 562 = .ok (.istore 8, 2) := by decide +kernel
theorem dL_law_564 : decode cL_law 564 = .ok (.iload 8, 2) := by decide +kernel
theorem dL_law_566 : decode cL_law 566 = .ok (.aload_n 1, 1) := by decide +kernel
theorem dL_law_567 : decode cL_law 567 = .ok (.iload 7, 2) := by decide +kernel
theorem dL_law_569 : decode cL_law 569 = .ok (.invokevirtual 72, 3) := by decide +kernel
theorem dL_law_572 : decode cL_law 572 = .ok (.if_icmp .ge 119, 3) := by decide +kernel
theorem dL_law_575 : decode cL_law 575 = .ok (.aload_n 1, 1) := by decide +kernel
theorem dL_law_576 : decode cL_law 576 = .ok (.iload 7, 2) := by decide +kernel
theorem dL_law_578 : decode cL_law 578 = .ok (.iload 8, 2) := by decide +kernel
theorem dL_law_580 : decode cL_law 580 = .ok (.iconst 2, 1) := by decide +kernel
theorem dL_law_581 : decode cL_law 581 = .ok (.invokevirtual 75, 3) := by decide +kernel
theorem dL_law_584 : decode cL_law 584 = .ok (.ifCond .lt 6, 3) := by decide +kernel
theorem dL_law_587 : decode cL_law 587 = .ok (.goto 98, 3) := by decide +kernel
theorem dL_law_590 : decode cL_law 590 = .ok (.iconst 0, 1) := by decide +kernel
theorem dL_law_591 : decode cL_law 591 = .ok (.istore 9, 2) := by decide +kernel
theorem dL_law_593 : decode cL_law 593 = .ok (.iload 9, 2) := by decide +kernel
theorem dL_law_595 : decode cL_law 595 = .ok (.aload 5, 2) := by decide +kernel
theorem dL_law_597 : decode cL_law 597 = .ok (.iconst 1, 1) := by decide +kernel
theorem dL_law_598 : decode cL_law 598 = .ok (.iaload, 1) := by decide +kernel
theorem dL_law_599 : decode cL_law 599 = .ok (.if_icmp .ge 86, 3) := by decide +kernel
theorem dL_law_602 : decode cL_law 602 = .ok (.aload_n 2, 1) := by decide +kernel
theorem dL_law_603 : decode cL_law 603 = .ok (.iconst 2, 1) := by decide +kernel
theorem dL_law_604 : decode cL_law 604 = .ok (.iload 7, 2) := by decide +kernel
theorem dL_law_606 : decode cL_law 606 = .ok (.imul, 1) := by decide +kernel
theorem dL_law_607 : decode cL_law 607 = .ok (.iaload, 1) := by decide +kernel
theorem dL_law_608 : decode cL_law 608 = .ok (.aload_n 3, 1) := by decide +kernel
theorem dL_law_609 : decode cL_law 609 = .ok (.iconst 2, 1) := by decide +kernel
theorem dL_law_610 : decode cL_law 610 = .ok (.iload 9, 2) := by decide +kernel
theorem dL_law_612 : decode cL_law 612 = .ok (.imul, 1) := by decide +kernel
theorem dL_law_613 : decode cL_law 613 = .ok (.iaload, 1) := by decide +kernel
theorem dL_law_614 : decode cL_law 614 = .ok (.if_icmp .gt 46, 3) := by decide +kernel
theorem dL_law_617 : decode cL_law 617 = .ok (.aload_n 1, 1) := by decide +kernel
theorem dL_law_618 : decode cL_law 618 = .ok (.iload 7, 2) := by decide +kernel
theorem dL_law_620 : decode cL_law 620 = .ok (.aload_n 1, 1) := by decide +kernel
theorem dL_law_621 : decode cL_law 621 = .ok (.iload 7, 2) := by decide +kernel
theorem dL_law_623 : decode cL_law 623 = .ok (.iload 8, 2) := by decide +kernel
theorem dL_law_625 : decode cL_law 625 = .ok (.iconst 0, 1) := by decide +kernel
theorem dL_law_626 : decode cL_law 626 = .ok (.invokevirtual 75, 3) := by decide +kernel
theorem dL_law_629 : decode cL_law 629 = .ok (.invokevirtual 78, 3) := by decide +kernel
theorem dL_law_632 : decode cL_law 632 = .ok (.aload_n 3, 1) := by decide +kernel
theorem dL_law_633 : decode cL_law 633 = .ok (.iconst 2, 1) := by decide +kernel
theorem dL_law_634 : decode cL_law 634 = .ok (.iload 9, 2) := by decide +kernel
theorem dL_law_636 : decode cL_law 636 = .ok (.imul, 1) := by decide +kernel
theorem dL_law_637 : decode cL_law 637 = .ok (.iconst 1, 1) := by decide +kernel
theorem dL_law_638 : decode cL_law 638 = .ok (.iadd, 1) := by decide +kernel
theorem dL_law_639 : decode cL_law 639 = .ok (.iaload, 1) := by decide +kernel
theorem dL_law_640 : decode cL_law 640 = .ok (.isub, 1) := by decide +kernel
theorem dL_law_641 : decode cL_law 641 = .ok (.invokestatic 60, 3) := by decide +kernel
theorem dL_law_644 : decode cL_law 644 = .ok (.aload_n 1, 1) := by decide +kernel
theorem dL_law_645 : decode cL_law 645 = .ok (.iload 7, 2) := by decide +kernel
theorem dL_law_647 : decode cL_law 647 = .ok (.iload 8, 2) := by decide +kernel
theorem dL_law_649 : decode cL_law 649 = .ok (.iconst 0, 1) := by decide +kernel
theorem dL_law_650 : decode cL_law 650 = .ok (.invokevirtual 75, 3) := by decide +kernel
theorem dL_law_653 : decode cL_law 653 = .ok (.if_icmp .gt 7, 3) := by decide +kernel
theorem dL_law_656 : decode cL_law 656 = .ok (.iconst 1, 1) := by decide +kernel
theorem dL_law_657 : decode cL_law 657 = .ok (.goto 4, 3) := by decide +kernel
theorem dL_law_660 : decode cL_law 660 = .ok (.iconst 0, 1) := by decide +kernel
theorem dL_law_661 : decode cL_law 661 = .ok (.istore 10, 2) := by decide +kernel
theorem dL_law_663 : decode cL_law 663 = .ok (.iload 10, 2) := by decide +kernel
theorem dL_law_665 : decode cL_law 665 = .ok (.ifCond .eq 14, 3) := by decide +kernel
theorem dL_law_668 : decode cL_law 668 = .ok (.aload_n 1, 1) := by decide +kernel
theorem dL_law_669 : decode cL_law 669 = .ok (.iload 9, 2) := by decide +kernel
theorem dL_law_671 : decode cL_law 671 = .ok (.invokevirtual 90, 3) := by decide +kernel
theorem dL_law_674 : decode cL_law 674 = .ok (.ifCond .ne 5, 3) := by decide +kernel
theorem dL_law_677 : decode cL_law 677 = .ok (.iconst 0, 1) := by decide +kernel
theorem dL_law_678 : decode cL_law 678 = .ok (.ireturn, 1) := by decide +kernel
theorem dL_law_679 : decode cL_law 679 = .ok (.iinc 9 1, 3) := by decide +kernel
theorem dL_law_682 : decode cL_law 682 = .ok (.goto (-89), 3) := by decide +kernel
theorem dL_law_685 : decode cL_law 685 = .ok (.iinc 8 1, 3) := by decide +kernel
theorem dL_law_688 : decode cL_law 688 = .ok (.goto (-124), 3) := by decide +kernel
theorem dL_law_691 : decode cL_law 691 = .ok (.iinc 7 1, 3) := by decide +kernel
theorem dL_law_694 : decode cL_law 694 = .ok (.goto (-142), 3) := by decide +kernel
theorem dL_law_697 : decode cL_law 697 = .ok (.iconst 1, 1) := by decide +kernel
theorem dL_law_698 : decode cL_law 698 = .ok (.ireturn, 1) := by decide +kernel
