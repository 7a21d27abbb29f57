theorem dL_low_0 : decode cL_low 0 = .ok (.iload_n 0, 1) := by decide +kernel
theorem dL_low_1 : decode cL_low 1 = .ok (.ldc 7, 2) := by decide +kernel
theorem dL_low_3 : decode cL_low 3 = .ok (.iand, 1) := by decide +kernel
theorem dL_low_4 : decode cL_low 4 = .ok (.iload_n 1, 1) := by decide +kernel
theorem dL_low_5 : decode cL_low 5 = .ok (.irem, 1) := by decide +kernel
theorem dL_low_6 : decode cL_low 6 = .ok (.ireturn, 1) := by decide +kernel
theorem dL_cell_0 : decode cL_cell 0 = .ok (.iload_n 1, 1) := by decide +kernel
theorem dL_cell_1 : decode cL_cell 1 = .ok (.aload_n 0, 1) := by decide +kernel
theorem dL_cell_2 : decode cL_cell 2 = .ok (.arraylength, 1) := by decide +kernel
theorem dL_cell_3 : decode cL_cell 3 = .ok (.if_icmp .ge 9, 3) := by decide +kernel
theorem dL_cell_6 : decode cL_cell 6 = .ok (.aload_n 0, 1) := by decide +kernel
theorem dL_cell_7 : decode cL_cell 7 = .ok (.iload_n 1, 1) := by decide +kernel
theorem dL_cell_8 : decode cL_cell 8 = .ok (.iaload, 1) := by decide +kernel
theorem dL_cell_9 : decode cL_cell 9 = .ok (.goto 11, 3) := by decide +kernel
theorem dL_cell_12 : decode cL_cell 12 = .ok (.ldc 8, 2) := by decide +kernel
theorem dL_cell_14 : decode cL_cell 14 = .ok (.iload_n 1, 1) := by decide +kernel
theorem dL_cell_15 : decode cL_cell 15 = .ok (.imul, 1) := by decide +kernel
theorem dL_cell_16 : decode cL_cell 16 = .ok (.sipush 977, 3) := by decide +kernel
theorem dL_cell_19 : decode cL_cell 19 = .ok (.iadd, 1) := by decide +kernel
theorem dL_cell_20 : decode cL_cell 20 = .ok (.ireturn, 1) := by decide +kernel
theorem dL_cue_0 : decode cL_cue 0 = .ok (.aload_n 0, 1) := by decide +kernel
theorem dL_cue_1 : decode cL_cue 1 = .ok (.iload_n 1, 1) := by decide +kernel
theorem dL_cue_2 : decode cL_cue 2 = .ok (.iload_n 2, 1) := by decide +kernel
theorem dL_cue_3 : decode cL_cue 3 = .ok (.iload_n 3, 1) := by decide +kernel
theorem dL_cue_4 : decode cL_cue 4 = .ok (.invokevirtual 9, 3) := by decide +kernel
theorem dL_cue_7 : decode cL_cue 7 = .ok (.ireturn, 1) := by decide +kernel
theorem dL_cue_8 : decode cL_cue 8 = .ok (.astore 4, 2) := by decide +kernel
theorem dL_cue_10 : decode cL_cue 10 = .ok (.bipush (-3), 2) := by decide +kernel
theorem dL_cue_12 : decode cL_cue 12 = .ok (.ireturn, 1) := by decide +kernel
theorem dL_undo_0 : decode cL_undo 0 = .ok (.aload_n 0, 1) := by decide +kernel
theorem dL_undo_1 : decode cL_undo 1 = .ok (.invokevirtual 17, 3) := by decide +kernel
theorem dL_undo_4 : decode cL_undo 4 = .ok (.ireturn, 1) := by decide +kernel
theorem dL_undo_5 : decode cL_undo 5 = .ok (.astore_n 1, 1) := by decide +kernel
theorem dL_undo_6 : decode cL_undo 6 = .ok (.bipush (-3), 2) := by decide +kernel
theorem dL_undo_8 : decode cL_undo 8 = .ok (.ireturn, 1) := by decide +kernel
theorem dL_drop_0 : decode cL_drop 0 = .ok (.aload_n 0, 1) := by decide +kernel
theorem dL_drop_1 : decode cL_drop 1 = .ok (.iload_n 1, 1) := by decide +kernel
theorem dL_drop_2 : decode cL_drop 2 = .ok (.invokevirtual 21, 3) := by decide +kernel
theorem dL_drop_5 : decode cL_drop 5 = .ok (.ireturn, 1) := by decide +kernel
theorem dL_drop_6 : decode cL_drop 6 = .ok (.astore_n 2, 1) := by decide +kernel
theorem dL_drop_7 : decode cL_drop 7 = .ok (.iconst (-1), 1) := by decide +kernel
theorem dL_drop_8 : decode cL_drop 8 = .ok (.ireturn, 1) := by decide +kernel
theorem dL_fill_0 : decode cL_fill 0 = .ok (.aload_n 0, 1) := by decide +kernel
theorem dL_fill_1 : decode cL_fill 1 = .ok (.iload_n 1, 1) := by decide +kernel
theorem dL_fill_2 : decode cL_fill 2 = .ok (.invokevirtual 27, 3) := by decide +kernel
theorem dL_fill_5 : decode cL_fill 5 = .ok (.ireturn, 1) := by decide +kernel
theorem dL_fill_6 : decode cL_fill 6 = .ok (.astore_n 2, 1) := by decide +kernel
theorem dL_fill_7 : decode cL_fill 7 = .ok (.bipush (-3), 2) := by decide +kernel
theorem dL_fill_9 : decode cL_fill 9 = .ok (.ireturn, 1) := by decide +kernel
theorem dL_fountain_0 : decode cL_fountain 0 = .ok (.iconst 0, 1) := by decide +kernel
theorem dL_fountain_1 : decode cL_fountain 1 = .ok (.istore_n 1, 1) := by decide +kernel
theorem dL_fountain_2 : decode cL_fountain 2 = .ok (.aload_n 0, 1) := by decide +kernel
theorem dL_fountain_3 : decode cL_fountain 3 = .ok (.iconst 1, 1) := by decide +kernel
theorem dL_fountain_4 : decode cL_fountain 4 = .ok (.invokevirtual 30, 3) := by decide +kernel
theorem dL_fountain_7 : decode cL_fountain 7 = .ok (.bipush 16, 2) := by decide +kernel
theorem dL_fountain_9 : decode cL_fountain 9 = .ok (.if_icmp .gt 36, 3) := by decide +kernel
theorem dL_fountain_12 : decode cL_fountain 12 = .ok (.aload_n 0, 1) := by decide +kernel
theorem dL_fountain_13 : decode cL_fountain 13 = .ok (.iconst 3, 1) := by decide +kernel
theorem dL_fountain_14 : decode cL_fountain 14 = .ok (.invokevirtual 30, 3) := by decide +kernel
theorem dL_fountain_17 : decode cL_fountain 17 = .ok (.ifCond .lt 28, 3) := by decide +kernel
theorem dL_fountain_20 : decode cL_fountain 20 = .ok (.aload_n 0, 1) := by decide +kernel
theorem dL_fountain_21 : decode cL_fountain 21 = .ok (.iconst 3, 1) := by decide +kernel
theorem dL_fountain_22 : decode cL_fountain 22 = .ok (.invokevirtual 30, 3) := by decide +kernel
theorem dL_fountain_25 : decode cL_fountain 25 = .ok (.ldc 33, 2) := by decide +kernel
theorem dL_fountain_27 : decode cL_fountain 27 = .ok (.if_icmp .gt 18, 3) := by decide +kernel
theorem dL_fountain_30 : decode cL_fountain 30 = .ok (.aload_n 0, 1) := by decide +kernel
theorem dL_fountain_31 : decode cL_fountain 31 = .ok (.bipush 8, 2) := by decide +kernel
theorem dL_fountain_33 : decode cL_fountain 33 = .ok (.invokevirtual 30, 3) := by decide +kernel
theorem dL_fountain_36 : decode cL_fountain 36 = .ok (.bipush 10, 2) := by decide +kernel
theorem dL_fountain_38 : decode cL_fountain 38 = .ok (.if_icmp .gt 7, 3) := by decide +kernel
theorem dL_fountain_41 : decode cL_fountain 41 = .ok (.iconst 1, 1) := by decide +kernel
theorem dL_fountain_42 : decode cL_fountain 42 = .ok (.goto 4, 3) := by decide +kernel
theorem dL_fountain_45 : decode cL_fountain 45 = .ok (.iconst 0, 1) := by decide +kernel
theorem dL_fountain_46 : decode cL_fountain 46 = .ok (.istore_n 2, 1) := by decide +kernel
theorem dL_fountain_47 : decode cL_fountain 47 = .ok (.bipush 10, 2) := by decide +kernel
theorem dL_fountain_49 : decode cL_fountain 49 = .ok (.aload_n 0, 1) := by decide +kernel
theorem dL_fountain_50 : decode cL_fountain 50 = .ok (.iconst 0, 1) := by decide +kernel
theorem dL_fountain_51 : decode cL_fountain 51 = .ok (.invokevirtual 34, 3) := by decide +kernel
theorem dL_fountain_54 : decode cL_fountain 54 = .ok (.iadd, 1) := by decide +kernel
theorem dL_fountain_55 : decode cL_fountain 55 = .ok (.aload_n 0, 1) := by decide +kernel
theorem dL_fountain_56 : decode cL_fountain 56 = .ok (.iconst 2, 1) := by decide +kernel
theorem dL_fountain_57 : decode cL_fountain 57 = .ok (.invokevirtual 30, 3) := by decide +kernel
theorem dL_fountain_60 : decode cL_fountain 60 = .ok (.isub, 1) := by decide +kernel
theorem dL_fountain_61 : decode cL_fountain 61 = .ok (.istore_n 3, 1) := by decide +kernel
theorem dL_fountain_62 : decode cL_fountain 62 = .ok (.iconst 0, 1) := by decide +kernel
theorem dL_fountain_63 : decode cL_fountain 63 = .ok (.istore 4, 2) := by decide +kernel
theorem dL_fountain_65 : decode cL_fountain 65 = .ok (.iload 4, 2) := by decide +kernel
theorem dL_fountain_67 : decode cL_fountain 67 = .ok (.iconst 2, 1) := by decide +kernel
theorem dL_fountain_68 : decode cL_fountain 68 = .ok (.if_icmp .ge 278, 3) := by decide +kernel
theorem dL_fountain_71 : decode cL_fountain 71 = .ok (.iload_n 2, 1) := by decide +kernel
theorem dL_fountain_72 : decode cL_fountain 72 = .ok (.ifCond .eq 274, 3) := by decide +kernel
theorem dL_fountain_75 : decode cL_fountain 75 = .ok (.iconst 0, 1) := by decide +kernel
theorem dL_fountain_76 : decode cL_fountain 76 = .ok (.istore 5, 2) := by decide +kernel
theorem dL_fountain_78 : decode cL_fountain 78 = .ok (.iconst 0, 1) := by decide +kernel
theorem dL_fountain_79 : decode cL_fountain 79 = .ok (.istore 6, 2) := by decide +kernel
theorem dL_fountain_81 : decode cL_fountain 81 = .ok (.iconst 4, 1) := by decide +kernel
theorem dL_fountain_82 : decode cL_fountain 82 = .ok (.iload 4, 2) := by decide +kernel
theorem dL_fountain_84 : decode cL_fountain 84 = .ok (.imul, 1) := by decide +kernel
theorem dL_fountain_85 : decode cL_fountain 85 = .ok (.istore 7, 2) := by decide +kernel
theorem dL_fountain_87 : decode cL_fountain 87 = .ok (.iload 7, 2) := by decide +kernel
theorem dL_fountain_89 : decode cL_fountain 89 = .ok (.iconst 4, 1) := by decide +kernel
theorem dL_fountain_90 : decode cL_fountain 90 = .ok (.iload 4, 2) := by decide +kernel
theorem dL_fountain_92 : decode cL_fountain 92 = .ok (.imul, 1) := by decide +kernel
theorem dL_fountain_93 : decode cL_fountain 93 = .ok (.iconst 4, 1) := by decide +kernel
theorem dL_fountain_94 : decode cL_fountain 94 = .ok (.iadd, 1) := by decide +kernel
theorem dL_fountain_95 : decode cL_fountain 95 = .ok (.if_icmp .ge 199, 3) := by decide +kernel
theorem dL_fountain_98 : decode cL_fountain 98 = .ok (.iload_n 2, 1) := by decide +kernel
theorem dL_fountain_99 : decode cL_fountain 99 = .ok (.ifCond .eq 195, 3) := by decide +kernel
theorem dL_fountain_102 : decode cL_fountain 102 = .ok (.iload 5, 2) := by decide +kernel
theorem dL_fountain_104 : decode cL_fountain 104 = .ok (.aload_n 0, 1) := by decide +kernel
theorem dL_fountain_105 : decode cL_fountain 105 = .ok (.iload 7, 2) := by decide +kernel
theorem dL_fountain_107 : decode cL_fountain 107 = .ok (.iconst 4, 1) := by decide +kernel
theorem dL_fountain_108 : decode cL_fountain 108 = .ok (.invokevirtual 37, 3) := by decide +kernel
theorem dL_fountain_111 : decode cL_fountain 111 = .ok (.iadd, 1) := by decide +kernel
theorem dL_fountain_112 : decode cL_fountain 112 = .ok (.istore 5, 2) := by decide +kernel
theorem dL_fountain_114 : decode cL_fountain 114 = .ok (.iload 6, 2) := by decide +kernel
theorem dL_fountain_116 : decode cL_fountain 116 = .ok (.aload_n 0, 1) := by decide +kernel
theorem dL_fountain_117 : decode cL_fountain 117 = .ok (.iload 7, 2) := by decide +kernel
theorem dL_fountain_119 : decode cL_fountain 119 = .ok (.iconst 5, 1) := by decide +kernel
theorem dL_fountain_120 : decode cL_fountain 120 = .ok (.invokevirtual 37, 3) := by decide +kernel
theorem dL_fountain_123 : decode cL_fountain 123 = .ok (.iadd, 1) := by decide +kernel
theorem dL_fountain_124 : decode cL_fountain 124 = .ok (.istore 6, 2) := by decide +kernel
theorem dL_fountain_126 : decode cL_fountain 126 = .ok (.iload_n 1, 1) := by decide +kernel
theorem dL_fountain_127 : decode cL_fountain 127 = .ok (.aload_n 0, 1) := by decide +kernel
theorem dL_fountain_128 : decode cL_fountain 128 = .ok (.iload 7, 2) := by decide +kernel
theorem dL_fountain_130 : decode cL_fountain 130 = .ok (.bipush 6, 2) := by decide +kernel
theorem dL_fountain_132 : decode cL_fountain 132 = .ok (.invokevirtual 37, 3) := by decide +kernel
theorem dL_fountain_135 : decode cL_fountain 135 = .ok (.ifCond .le 7, 3) := by decide +kernel
theorem dL_fountain_138 : decode cL_fountain 138 = .ok (.iconst 1, 1) := by decide +kernel
theorem dL_fountain_139 : decode cL_fountain 139 = .ok (.goto 4, 3) := by decide +kernel
theorem dL_fountain_142 : decode cL_fountain 142 = .ok (.iconst 0, 1) := by decide +kernel
theorem dL_fountain_143 : decode cL_fountain 143 = .ok (.iadd, 1) := by decide +kernel
theorem dL_fountain_144 : decode cL_fountain 144 = .ok (.istore_n 1, 1) := by decide +kernel
theorem dL_fountain_145 : decode cL_fountain 145 = .ok (.aload_n 0, 1) := by decide +kernel
theorem dL_fountain_146 : decode cL_fountain 146 = .ok (.iload 7, 2) := by decide +kernel
theorem dL_fountain_148 : decode cL_fountain 148 = .ok (.iconst 5, 1) := by decide +kernel
theorem dL_fountain_149 : decode cL_fountain 149 = .ok (.invokevirtual 37, 3) := by decide +kernel
theorem dL_fountain_152 : decode cL_fountain 152 = .ok (.aload_n 0, 1) := by decide +kernel
theorem dL_fountain_153 : decode cL_fountain 153 = .ok (.iload 7, 2) := by decide +kernel
theorem dL_fountain_155 : decode cL_fountain 155 = .ok (.iconst 4, 1) := by decide +kernel
theorem dL_fountain_156 : decode cL_fountain 156 = .ok (.invokevirtual 37, 3) := by decide +kernel
theorem dL_fountain_159 : decode cL_fountain 159 = .ok (.if_icmp .gt 127, 3) := by decide +kernel
theorem dL_fountain_162 : decode cL_fountain 162 = .ok (.aload_n 0, 1) := by decide +kernel
theorem dL_fountain_163 : decode cL_fountain 163 = .ok (.iload 7, 2) := by decide +kernel
theorem dL_fountain_165 : decode cL_fountain 165 = .ok (.iconst 5, 1) := by decide +kernel
theorem dL_fountain_166 : decode cL_fountain 166 = .ok (.invokevirtual 37, 3) := by decide +kernel
theorem dL_fountain_169 : decode cL_fountain 169 = .ok (.ifCond .lt 117, 3) := by decide +kernel
theorem dL_fountain_172 : decode cL_fountain 172 = .ok (.aload_n 0, 1) := by decide +kernel
theorem dL_fountain_173 : decode cL_fountain 173 = .ok (.iload 7, 2) := by decide +kernel
theorem dL_fountain_175 : decode cL_fountain 175 = .ok (.bipush 6, 2) := by decide +kernel
theorem dL_fountain_177 : decode cL_fountain 177 = .ok (.invokevirtual 37, 3) := by decide +kernel
theorem dL_fountain_180 : decode cL_fountain 180 = .ok (.aload_n 0, 1) := by decide +kernel
theorem dL_fountain_181 : decode cL_fountain 181 = .ok (.iload 7, 2) := by decide +kernel
theorem dL_fountain_183 : decode cL_fountain 183 = .ok (.iconst 5, 1) := by decide +kernel
theorem dL_fountain_184 : decode cL_fountain 184 = .ok (.invokevirtual 37, 3) := by decide +kernel
theorem dL_fountain_187 : decode cL_fountain 187 = .ok (.aload_n 0, 1) := by decide +kernel
theorem dL_fountain_188 : decode cL_fountain 188 = .ok (.iload 7, 2) := by decide +kernel
theorem dL_fountain_190 : decode cL_fountain 190 = .ok (.iconst 0, 1) := by decide +kernel
theorem dL_fountain_191 : decode cL_fountain 191 = .ok (.invokevirtual 37, 3) := by decide +kernel
theorem dL_fountain_194 : decode cL_fountain 194 = .ok (.idiv, 1) := by decide +kernel
theorem dL_fountain_195 : decode cL_fountain 195 = .ok (.if_icmp .ne 91, 3) := by decide +kernel
theorem dL_fountain_198 : decode cL_fountain 198 = .ok (.aload_n 0, 1) := by decide +kernel
theorem dL_fountain_199 : decode cL_fountain 199 = .ok (.iload 7, 2) := by decide +kernel
theorem dL_fountain_201 : decode cL_fountain 201 = .ok (.bipush 6, 2) := by decide +kernel
theorem dL_fountain_203 : decode cL_fountain 203 = .ok (.invokevirtual 37, 3) := by decide +kernel
theorem dL_fountain_206 : decode cL_fountain 206 = .ok (.bipush 10, 2) := by decide +kernel
theorem dL_fountain_208 : decode cL_fountain 208 = .ok (.if_icmp .gt 78, 3) := by decide +kernel
theorem dL_fountain_211 : decode cL_fountain 211 = .ok (.aload_n 0, 1) := by decide +kernel
theorem dL_fountain_212 : decode cL_fountain 212 = .ok (.iload 7, 2) := by decide +kernel
theorem dL_fountain_214 : decode cL_fountain 214 = .ok (.iconst 2, 1) := by decide +kernel
theorem dL_fountain_215 : decode cL_fountain 215 = .ok (.invokevirtual 37, 3) := by decide +kernel
theorem dL_fountain_218 : decode cL_fountain 218 = .ok (.ifCond .lt 68, 3) := by decide +kernel
theorem dL_fountain_221 : decode cL_fountain 221 = .ok (.aload_n 0, 1) := by decide +kernel
theorem dL_fountain_222 : decode cL_fountain 222 = .ok (.iload 7, 2) := by decide +kernel
theorem dL_fountain_224 : decode cL_fountain 224 = .ok (.iconst 2, 1) := by decide +kernel
theorem dL_fountain_225 : decode cL_fountain 225 = .ok (.invokevirtual 37, 3) := by decide +kernel
theorem dL_fountain_228 : decode cL_fountain 228 = .ok (.bipush 10, 2) := by decide +kernel
theorem dL_fountain_230 : decode cL_fountain 230 = .ok (.if_icmp .gt 56, 3) := by decide +kernel
theorem dL_fountain_233 : decode cL_fountain 233 = .ok (.aload_n 0, 1) := by decide +kernel
theorem dL_fountain_234 : decode cL_fountain 234 = .ok (.iconst 2, 1) := by decide +kernel
theorem dL_fountain_235 : decode cL_fountain 235 = .ok (.invokevirtual 30, 3) := by decide +kernel
theorem dL_fountain_238 : decode cL_fountain 238 = .ok (.aload_n 0, 1) := by decide +kernel
theorem dL_fountain_239 : decode cL_fountain 239 = .ok (.iconst 0, 1) := by decide +kernel
theorem dL_fountain_240 : decode cL_fountain 240 = .ok (.invokevirtual 34, 3) := by decide +kernel
theorem dL_fountain_243 : decode cL_fountain 243 = .ok (.if_icmp .le 23, 3) := by decide +kernel
theorem dL_fountain_246 : decode cL_fountain 246 = .ok (.aload_n 0, 1) := by decide +kernel
theorem dL_fountain_247 : decode cL_fountain 247 = .ok (.iload 7, 2) := by decide +kernel
theorem dL_fountain_249 : decode cL_fountain 249 = .ok (.bipush 6, 2) := by decide +kernel
theorem dL_fountain_251 : decode cL_fountain 251 = .ok (.invokevirtual 37, 3) := by decide +kernel
theorem dL_fountain_254 : decode cL_fountain 254 = .ok (.iload_n 3, 1) := by decide +kernel
theorem dL_fountain_255 : decode cL_fountain 255 = .ok (.ifCond .ge 7, 3) := by decide +kernel
theorem dL_fountain_258 : decode cL_fountain 258 = .ok (.iconst 0, 1) := by decide +kernel
theorem dL_fountain_259 : decode cL_fountain 259 = .ok (.goto 4, 3) := by decide +kernel
theorem dL_fountain_262 : decode cL_fountain 262 = .ok (.iload_n 3, 1) := by decide +kernel
theorem dL_fountain_263 : decode cL_fountain 263 = .ok (.if_icmp .gt 23, 3) := by decide +kernel
theorem dL_fountain_266 : decode cL_fountain 266 = .ok (.aload_n 0, 1) := by decide +kernel
theorem dL_fountain_267 : decode cL_fountain 267 = .ok (.iload 7, 2) := by decide +kernel
theorem dL_fountain_269 : decode cL_fountain 269 = .ok (.bipush 7, 2) := by decide +kernel
theorem dL_fountain_271 : decode cL_fountain 271 = .ok (.invokevirtual 37, 3) := by decide +kernel
theorem dL_fountain_274 : decode cL_fountain 274 = .ok (.aload_n 0, 1) := by decide +kernel
theorem dL_fountain_275 : decode cL_fountain 275 = .ok (.iconst 0, 1) := by decide +kernel
theorem dL_fountain_276 : decode cL_fountain 276 = .ok (.invokevirtual 30, 3) := by decide +kernel
theorem dL_fountain_279 : decode cL_fountain 279 = .ok (.if_icmp .gt 7, 3) := by decide +kernel
theorem dL_fountain_282 : decode cL_fountain 282 = .ok (.iconst 1, 1) := by decide +kernel
theorem dL_fountain_283 : decode cL_fountain 283 = .ok (.goto 4, 3) := by decide +kernel
theorem dL_fountain_286 : decode cL_fountain 286 = .ok (.iconst 0, 1) := by decide +kernel
theorem dL_fountain_287 : decode cL_fountain 287 = .ok (.istore_n 2, 1) := by decide +kernel
theorem dL_fountain_288 : decode cL_fountain 288 = .ok (.iinc 7 1, 3) := by decide +kernel
theorem dL_fountain_291 : decode cL_fountain 291 = .ok (.goto (-204), 3) := by decide +kernel
theorem dL_fountain_294 : decode cL_fountain 294 = .ok (.iload_n 2, 1) := by decide +kernel
theorem dL_fountain_295 : decode cL_fountain 295 = .ok (.ifCond .eq 43, 3) := by decide +kernel
theorem dL_fountain_298 : decode cL_fountain 298 = .ok (.aload_n 0, 1) := by decide +kernel
theorem dL_fountain_299 : decode cL_fountain 299 = .ok (.iload 4, 2) := by decide +kernel
theorem dL_fountain_301 : decode cL_fountain 301 = .ok (.iconst 1, 1) := by decide +kernel
theorem dL_fountain_302 : decode cL_fountain 302 = .ok (.invokevirtual 41, 3) := by decide +kernel
theorem dL_fountain_305 : decode cL_fountain 305 = .ok (.iload 5, 2) := by decide +kernel
theorem dL_fountain_307 : decode cL_fountain 307 = .ok (.if_icmp .ne 31, 3) := by decide +kernel
theorem dL_fountain_310 : decode cL_fountain 310 = .ok (.aload_n 0, 1) := by decide +kernel
theorem dL_fountain_311 : decode cL_fountain 311 = .ok (.iload 4, 2) := by decide +kernel
theorem dL_fountain_313 : decode cL_fountain 313 = .ok (.iconst 2, 1) := by decide +kernel
theorem dL_fountain_314 : decode cL_fountain 314 = .ok (.invokevirtual 41, 3) := by decide +kernel
theorem dL_fountain_317 : decode cL_fountain 317 = .ok (.iload 6, 2) := by decide +kernel
theorem dL_fountain_319 : decode cL_fountain 319 = .ok (.if_icmp .ne 19, 3) := by decide +kernel
theorem dL_fountain_322 : decode cL_fountain 322 = .ok (.iload 6, 2) := by decide +kernel
theorem dL_fountain_324 : decode cL_fountain 324 = .ok (.aload_n 0, 1) := by decide +kernel
theorem dL_fountain_325 : decode cL_fountain 325 = .ok (.iload 4, 2) := by decide +kernel
theorem dL_fountain_327 : decode cL_fountain 327 = .ok (.iconst 0, 1) := by decide +kernel
theorem dL_fountain_328 : decode cL_fountain 328 = .ok (.invokevirtual 41, 3) := by decide +kernel
theorem dL_fountain_331 : decode cL_fountain 331 = .ok (.if_icmp .gt 7, 3) := by decide +kernel
theorem dL_fountain_334 : decode cL_fountain 334 = .ok (.iconst 1, 1) := by decide +kernel
theorem dL_fountain_335 : decode cL_fountain 335 = .ok (.goto 4, 3) := by decide +kernel
theorem dL_fountain_338 : decode cL_fountain 338 = .ok (.iconst 0, 1) := by decide +kernel
theorem dL_fountain_339 : decode cL_fountain 339 = .ok (.istore_n 2, 1) := by decide +kernel
theorem dL_fountain_340 : decode cL_fountain 340 = .ok (.iinc 4 1, 3) := by decide +kernel
theorem dL_fountain_343 : decode cL_fountain 343 = .ok (.goto (-278), 3) := by decide +kernel
theorem dL_fountain_346 : decode cL_fountain 346 = .ok (.iconst 0, 1) := by decide +kernel
theorem dL_fountain_347 : decode cL_fountain 347 = .ok (.istore 4, 2) := by decide +kernel
theorem dL_fountain_349 : decode cL_fountain 349 = .ok (.iload 4, 2) := by decide +kernel
theorem dL_fountain_351 : decode cL_fountain 351 = .ok (.aload_n 0, 1) := by decide +kernel
theorem dL_fountain_352 : decode cL_fountain 352 = .ok (.iconst 1, 1) := by decide +kernel
theorem dL_fountain_353 : decode cL_fountain 353 = .ok (.invokevirtual 30, 3) := by decide +kernel
theorem dL_fountain_356 : decode cL_fountain 356 = .ok (.if_icmp .ge 156, 3) := by decide +kernel
theorem dL_fountain_359 : decode cL_fountain 359 = .ok (.iload_n 2, 1) := by decide +kernel
theorem dL_fountain_360 : decode cL_fountain 360 = .ok (.ifCond .eq 152, 3) := by decide +kernel
theorem dL_fountain_363 : decode cL_fountain 363 = .ok (.aload_n 0, 1) := by decide +kernel
theorem dL_fountain_364 : decode cL_fountain 364 = .ok (.iload 4, 2) := by decide +kernel
theorem dL_fountain_366 : decode cL_fountain 366 = .ok (.iconst 1, 1) := by decide +kernel
theorem dL_fountain_367 : decode cL_fountain 367 = .ok (.invokevirtual 44, 3) := by decide +kernel
theorem dL_fountain_370 : decode cL_fountain 370 = .ok (.aload_n 0, 1) := by decide +kernel
theorem dL_fountain_371 : decode cL_fountain 371 = .ok (.iconst 0, 1) := by decide +kernel
theorem dL_fountain_372 : decode cL_fountain 372 = .ok (.invokevirtual 30, 3) := by decide +kernel
theorem dL_fountain_375 : decode cL_fountain 375 = .ok (.if_icmp .lt 69, 3) := by decide +kernel
theorem dL_fountain_378 : decode cL_fountain 378 = .ok (.iload 4, 2) := by decide +kernel
theorem dL_fountain_380 : decode cL_fountain 380 = .ok (.ifCond .eq 60, 3) := by decide +kernel
theorem dL_fountain_383 : decode cL_fountain 383 = .ok (.aload_n 0, 1) := by decide +kernel
theorem dL_fountain_384 : decode cL_fountain 384 = .ok (.iload 4, 2) := by decide +kernel
theorem dL_fountain_386 : decode cL_fountain 386 = .ok (.iconst 1, 1) := by decide +kernel
theorem dL_fountain_387 : decode cL_fountain 387 = .ok (.isub, 1) := by decide +kernel
theorem dL_fountain_388 : decode cL_fountain 388 = .ok (.iconst 1, 1) := by decide +kernel
theorem dL_fountain_389 : decode cL_fountain 389 = .ok (.invokevirtual 44, 3) := by decide +kernel
theorem dL_fountain_392 : decode cL_fountain 392 = .ok (.aload_n 0, 1) := by decide +kernel
theorem dL_fountain_393 : decode cL_fountain 393 = .ok (.iload 4, 2) := by decide +kernel
theorem dL_fountain_395 : decode cL_fountain 395 = .ok (.iconst 1, 1) := by decide +kernel
theorem dL_fountain_396 : decode cL_fountain 396 = .ok (.invokevirtual 44, 3) := by decide +kernel
theorem dL_fountain_399 : decode cL_fountain 399 = .ok (.if_icmp .lt 41, 3) := by decide +kernel
theorem dL_fountain_402 : decode cL_fountain 402 = .ok (.aload_n 0, 1) := by decide +kernel
theorem dL_fountain_403 : decode cL_fountain 403 = .ok (.iload 4, 2) := by decide +kernel
theorem dL_fountain_405 : decode cL_fountain 405 = .ok (.iconst 1, 1) := by decide +kernel
theorem dL_fountain_406 : decode cL_fountain 406 = .ok (.isub, 1) := by decide +kernel
theorem dL_fountain_407 : decode cL_fountain 407 = .ok (.iconst 1, 1) := by decide +kernel
theorem dL_fountain_408 : decode cL_fountain 408 = .ok (.invokevirtual 44, 3) := by decide +kernel
theorem dL_fountain_411 : decode cL_fountain 411 = .ok (.aload_n 0, 1) := by decide +kernel
theorem dL_fountain_412 : decode cL_fountain 412 = .ok (.iload 4, 2) := by decide +kernel
theorem dL_fountain_414 : decode cL_fountain 414 = .ok (.iconst 1, 1) := by decide +kernel
theorem dL_fountain_415 : decode cL_fountain 415 = .ok (.invokevirtual 44, 3) := by decide +kernel
theorem dL_fountain_418 : decode cL_fountain 418 = .ok (.if_icmp .ne 26, 3) := by decide +kernel
theorem dL_fountain_421 : decode cL_fountain 421 = .ok (.aload_n 0, 1) := by decide +kernel
theorem dL_fountain_422 : decode cL_fountain 422 = .ok (.iload 4, 2) := by decide +kernel
theorem dL_fountain_424 : decode cL_fountain 424 = .ok (.iconst 1, 1) := by decide +kernel
theorem dL_fountain_425 : decode cL_fountain 425 = .ok (.isub, 1) := by decide +kernel
theorem dL_fountain_426 : decode cL_fountain 426 = .ok (.iconst 0, 1) := by decide +kernel
theorem dL_fountain_427 : decode cL_fountain 427 = .ok (.invokevirtual 44, 3) := by decide +kernel
theorem dL_fountain_430 : decode cL_fountain 430 = .ok (.aload_n 0, 1) := by decide +kernel
theorem dL_fountain_431 : decode cL_fountain 431 = .ok (.iload 4, 2) := by decide +kernel
theorem dL_fountain_433 : decode cL_fountain 433 = .ok (.iconst 0, 1) := by decide +kernel
theorem dL_fountain_434 : decode cL_fountain 434 = .ok (.invokevirtual 44, 3) := by decide +kernel
theorem dL_fountain_437 : decode cL_fountain 437 = .ok (.if_icmp .ge 7, 3) := by decide +kernel
theorem dL_fountain_440 : decode cL_fountain 440 = .ok (.iconst 1, 1) := by decide +kernel
theorem dL_fountain_441 : decode cL_fountain 441 = .ok (.goto 4, 3) := by decide +kernel
theorem dL_fountain_444 : decode cL_fountain 444 = .ok (.iconst 0, 1) := by decide +kernel
theorem dL_fountain_445 : decode cL_fountain 445 = .ok (.istore_n 2, 1) := by decide +kernel
theorem dL_fountain_446 : decode cL_fountain 446 = .ok (.iconst 0, 1) := by decide +kernel
theorem dL_fountain_447 : decode cL_fountain 447 = .ok (.istore 5, 2) := by decide +kernel
theorem dL_fountain_449 : decode cL_fountain 449 = .ok (.iload 5, 2) := by decide +kernel
theorem dL_fountain_451 : decode cL_fountain 451 = .ok (.iload 4, 2) := by decide +kernel
theorem dL_fountain_453 : decode cL_fountain 453 = .ok (.if_icmp .ge 53, 3) := by decide +kernel
theorem dL_fountain_456 : decode cL_fountain 456 = .ok (.iload_n 2, 1) := by decide +kernel
theorem dL_fountain_457 : decode cL_fountain 457 = .ok (.ifCond .eq 49, 3) := by decide +kernel
theorem dL_fountain_460 : decode cL_fountain 460 = .ok (.aload_n 0, 1) := by decide +kernel
theorem dL_fountain_461 : decode cL_fountain 461 = .ok (.iload 4, 2) := by decide +kernel
theorem dL_fountain_463 : decode cL_fountain 463 = .ok (.iconst 1, 1) := by decide +kernel
theorem dL_fountain_464 : decode cL_fountain 464 = .ok (.invokevirtual 44, 3) := by decide +kernel
theorem dL_fountain_467 : decode cL_fountain 467 = .ok (.aload_n 0, 1) := by decide +kernel
theorem dL_fountain_468 : decode cL_fountain 468 = .ok (.iload 5, 2) := by decide +kernel
theorem dL_fountain_470 : decode cL_fountain 470 = .ok (.iconst 1, 1) := by decide +kernel
theorem dL_fountain_471 : decode cL_fountain 471 = .ok (.invokevirtual 44, 3) := by decide +kernel
theorem dL_fountain_474 : decode cL_fountain 474 = .ok (.if_icmp .ne 20, 3) := by decide +kernel
theorem dL_fountain_477 : decode cL_fountain 477 = .ok (.aload_n 0, 1) := by decide +kernel
theorem dL_fountain_478 : decode cL_fountain 478 = .ok (.iload 4, 2) := by decide +kernel
theorem dL_fountain_480 : decode cL_fountain 480 = .ok (.iconst 2, 1) := by decide +kernel
theorem dL_fountain_481 : decode cL_fountain 481 = .ok (.invokevirtual 44, 3) := by decide +kernel
theorem dL_fountain_484 : decode cL_fountain 484 = .ok (.aload_n 0, 1) := by decide +kernel
theorem dL_fountain_485 : decode cL_fountain 485 = .ok (.iload 5, 2) := by decide +kernel
theorem dL_fountain_487 : decode cL_fountain 487 = .ok (.iconst 2, 1) := by decide +kernel
theorem dL_fountain_488 : decode cL_fountain 488 = .ok (.invokevirtual 44, 3) := by decide +kernel
theorem dL_fountain_491 : decode cL_fountain 491 = .ok (.if_icmp .eq 7, 3) := by decide +kernel
theorem dL_fountain_494 : decode cL_fountain 494 = .ok (.iconst 1, 1) := by decide +kernel
theorem dL_fountain_495 : decode cL_fountain 495 = .ok (.goto 4, 3) := by decide +kernel
theorem dL_fountain_498 : decode cL_fountain 498 = .ok (.iconst 0, 1) := by decide +kernel
theorem dL_fountain_499 : decode cL_fountain 499 = .ok (.istore_n 2, 1) := by decide +kernel
theorem dL_fountain_500 : decode cL_fountain 500 = .ok (.iinc 5 1, 3) := by decide +kernel
theorem dL_fountain_503 : decode cL_fountain 503 = .ok (.goto (-54), 3) := by decide +kernel
theorem dL_fountain_506 : decode cL_fountain 506 = .ok (.iinc 4 1, 3) := by decide +kernel
theorem dL_fountain_509 : decode cL_fountain 509 = .ok (.goto (-160), 3) := by decide +kernel
theorem dL_fountain_512 : decode cL_fountain 512 = .ok (.iload_n 2, 1) := by decide +kernel
theorem dL_fountain_513 : decode cL_fountain 513 = .ok (.ifCond .eq 49, 3) := by decide +kernel
theorem dL_fountain_516 : decode cL_fountain 516 = .ok (.iload_n 1, 1) := by decide +kernel
theorem dL_fountain_517 : decode cL_fountain 517 = .ok (.aload_n 0, 1) := by decide +kernel
theorem dL_fountain_518 : decode cL_fountain 518 = .ok (.bipush 6, 2) := by decide +kernel
theorem dL_fountain_520 : decode cL_fountain 520 = .ok (.invokevirtual 30, 3) := by decide +kernel
theorem dL_fountain_523 : decode cL_fountain 523 = .ok (.if_icmp .ne 39, 3) := by decide +kernel
theorem dL_fountain_526 : decode cL_fountain 526 = .ok (.aload_n 0, 1) := by decide +kernel
theorem dL_fountain_527 : decode cL_fountain 527 = .ok (.aload_n 0, 1) := by decide +kernel
theorem dL_fountain_528 : decode cL_fountain 528 = .ok (.iconst 1, 1) := by decide +kernel
theorem dL_fountain_529 : decode cL_fountain 529 = .ok (.invokevirtual 30, 3) := by decide +kernel
theorem dL_fountain_532 : decode cL_fountain 532 = .ok (.iconst 0, 1) := by decide +kernel
theorem dL_fountain_533 : decode cL_fountain 533 = .ok (.invokevirtual 44, 3) := by decide +kernel
theorem dL_fountain_536 : decode cL_fountain 536 = .ok (.iconst (-1), 1) := by decide +kernel
theorem dL_fountain_537 : decode cL_fountain 537 = .ok (.if_icmp .ne 25, 3) := by decide +kernel
theorem dL_fountain_540 : decode cL_fountain 540 = .ok (.aload_n 0, 1) := by decide +kernel
theorem dL_fountain_541 : decode cL_fountain 541 = .ok (.invokevirtual 47, 3) := by decide +kernel
theorem dL_fountain_544 : decode cL_fountain 544 = .ok (.dconst 0, 1) := by decide +kernel
theorem dL_fountain_545 : decode cL_fountain 545 = .ok (.dcmp .l, 1) := by decide +kernel
theorem dL_fountain_546 : decode cL_fountain 546 = .ok (.ifCond .lt 16, 3) := by decide +kernel
theorem dL_fountain_549 : decode cL_fountain 549 = .ok (.aload_n 0, 1) := by decide +kernel
theorem dL_fountain_550 : decode cL_fountain 550 = .ok (.invokevirtual 47, 3) := by decide +kernel
theorem dL_fountain_553 : decode cL_fountain 553 = .ok (.dconst 1, 1) := by decide +kernel
theorem dL_fountain_554 : decode cL_fountain 554 = .ok (.dcmp .g, 1) := by decide +kernel
theorem dL_fountain_555 : decode cL_fountain 555 = .ok (.ifCond .gt 7, 3) := by decide +kernel
theorem dL_fountain_558 : decode cL_fountain 558 = .ok (.iconst 1, 1) := by decide +kernel
theorem dL_fountain_559 : decode cL_fountain 559 = .ok (.goto 4, 3) := by decide +kernel
theorem dL_fountain_562 : decode cL_fountain 562 = .ok (.iconst 0, 1) := by decide +kernel
theorem dL_fountain_563 : decode cL_fountain 563 = .ok (.ireturn, 1) := by decide +kernel
theorem dL_act_0 : decode cL_act 0 = .ok (.aload_n 1, 1) := by decide +kernel
theorem dL_act_1 : decode cL_act 1 = .ok (.iload_n 2, 1) := by decide +kernel
theorem dL_act_2 : decode cL_act 2 = .ok (.iconst 1, 1) := by decide +kernel
theorem dL_act_3 : decode cL_act 3 = .ok (.iadd, 1) := by decide +kernel
theorem dL_act_4 : decode cL_act 4 = .ok (.invokestatic 51, 3) := by decide +kernel
theorem dL_act_7 : decode cL_act 7 = .ok (.istore_n 3, 1) := by decide +kernel
theorem dL_act_8 : decode cL_act 8 = .ok (.aload_n 1, 1) := by decide +kernel
theorem dL_act_9 : decode cL_act 9 = .ok (.iload_n 2, 1) := by decide +kernel
theorem dL_act_10 : decode cL_act 10 = .ok (.iconst 2, 1) := by decide +kernel
theorem dL_act_11 : decode cL_act 11 = .ok (.iadd, 1) := by decide +kernel
theorem dL_act_12 : decode cL_act 12 = .ok (.invokestatic 51, 3) := by decide +kernel
theorem dL_act_15 : decode cL_act 15 = .ok (.istore 4, 2) := by decide +kernel
theorem dL_act_17 : decode cL_act 17 = .ok (.aload_n 0, 1) := by decide +kernel
theorem dL_act_18 : decode cL_act 18 = .ok (.iconst 0, 1) := by decide +kernel
theorem dL_act_19 : decode cL_act 19 = .ok (.invokevirtual 30, 3) := by decide +kernel
theorem dL_act_22 : decode cL_act 22 = .ok (.iload_n 3, 1) := by decide +kernel
theorem dL_act_23 : decode cL_act 23 = .ok (.iconst 4, 1) := by decide +kernel
theorem dL_act_24 : decode cL_act 24 = .ok (.ishr, 1) := by decide +kernel
theorem dL_act_25 : decode cL_act 25 = .ok (.bipush 12, 2) := by decide +kernel
theorem dL_act_27 : decode cL_act 27 = .ok (.invokestatic 57, 3) := by decide +kernel
theorem dL_act_30 : decode cL_act 30 = .ok (.iadd, 1) := by decide +kernel
theorem dL_act_31 : decode cL_act 31 = .ok (.istore 5, 2) := by decide +kernel
theorem dL_act_33 : decode cL_act 33 = .ok (.aload_n 1, 1) := by decide +kernel
theorem dL_act_34 : decode cL_act 34 = .ok (.iload_n 2, 1) := by decide +kernel
theorem dL_act_35 : decode cL_act 35 = .ok (.invokestatic 51, 3) := by decide +kernel
theorem dL_act_38 : decode cL_act 38 = .ok (.bipush 20, 2) := by decide +kernel
theorem dL_act_40 : decode cL_act 40 = .ok (.invokestatic 57, 3) := by decide +kernel
theorem dL_act_43 : decode cL_act 43 = .ok (.tableswitch 262 0 18 #[89, 89, 89, 89, 89, 89, 89, 109, 120, 120, 120, 120, 120, 133, 161, 179, 197, 209, 247], 89) := by decide +kernel
theorem dL_act_132 : decode cL_act 132 = .ok (.aload_n 0, 1) := by decide +kernel
theorem dL_act_133 : decode cL_act 133 = .ok (.iload 5, 2) := by decide +kernel
theorem dL_act_135 : decode cL_act 135 = .ok (.iload_n 3, 1) := by decide +kernel
theorem dL_act_136 : decode cL_act 136 = .ok (.bipush 8, 2) := by decide +kernel
theorem dL_act_138 : decode cL_act 138 = .ok (.invokestatic 57, 3) := by decide +kernel
theorem dL_act_141 : decode cL_act 141 = .ok (.iload 4, 2) := by decide +kernel
theorem dL_act_143 : decode cL_act 143 = .ok (.bipush 11, 2) := by decide +kernel
theorem dL_act_145 : decode cL_act 145 = .ok (.invokestatic 57, 3) := by decide +kernel
theorem dL_act_148 : decode cL_act 148 = .ok (.invokestatic 60, 3) := by decide +kernel
theorem dL_act_151 : decode cL_act 151 = .ok (.ireturn, 1) := by decide +kernel
theorem dL_act_152 : decode cL_act 152 = .ok (.aload_n 0, 1) := by decide +kernel
theorem dL_act_153 : decode cL_act 153 = .ok (.iload_n 3, 1) := by decide +kernel
theorem dL_act_154 : decode cL_act 154 = .ok (.bipush 30, 2) := by decide +kernel
theorem dL_act_156 : decode cL_act 156 = .ok (.invokestatic 57, 3) := by decide +kernel
theorem dL_act_159 : decode cL_act 159 = .ok (.invokestatic 63, 3) := by decide +kernel
theorem dL_act_162 : decode cL_act 162 = .ok (.ireturn, 1) := by decide +kernel
theorem dL_act_163 : decode cL_act 163 = .ok (.aload_n 0, 1) := by decide +kernel
theorem dL_act_164 : decode cL_act 164 = .ok (.iconst 1, 1) := by decide +kernel
theorem dL_act_165 : decode cL_act 165 = .ok (.iload_n 3, 1) := by decide +kernel
theorem dL_act_166 : decode cL_act 166 = .ok (.bipush 9, 2) := by decide +kernel
theorem dL_act_168 : decode cL_act 168 = .ok (.invokestatic 57, 3) := by decide +kernel
theorem dL_act_171 : decode cL_act 171 = .ok (.iadd, 1) := by decide +kernel
theorem dL_act_172 : decode cL_act 172 = .ok (.invokevirtual 66, 3) := by decide +kernel
theorem dL_act_175 : decode cL_act 175 = .ok (.ireturn, 1) := by decide +kernel
theorem dL_act_176 : decode cL_act 176 = .ok (.aload_n 0, 1) := by decide +kernel
theorem dL_act_177 : decode cL_act 177 = .ok (.iload_n 3, 1) := by decide +kernel
theorem dL_act_178 : decode cL_act 178 = .ok (.bipush 8, 2) := by decide +kernel
theorem dL_act_180 : decode cL_act 180 = .ok (.invokestatic 57, 3) := by decide +kernel
theorem dL_act_183 : decode cL_act 183 = .ok (.iconst 1, 1) := by decide +kernel
theorem dL_act_184 : decode cL_act 184 = .ok (.iload 4, 2) := by decide +kernel
theorem dL_act_186 : decode cL_act 186 = .ok (.bipush 20, 2) := by decide +kernel
theorem dL_act_188 : decode cL_act 188 = .ok (.invokestatic 57, 3) := by decide +kernel
theorem dL_act_191 : decode cL_act 191 = .ok (.iadd, 1) := by decide +kernel
theorem dL_act_192 : decode cL_act 192 = .ok (.iload_n 3, 1) := by decide +kernel
theorem dL_act_193 : decode cL_act 193 = .ok (.iload 4, 2) := by decide +kernel
theorem dL_act_195 : decode cL_act 195 = .ok (.iadd, 1) := by decide +kernel
theorem dL_act_196 : decode cL_act 196 = .ok (.iconst 4, 1) := by decide +kernel
theorem dL_act_197 : decode cL_act 197 = .ok (.invokestatic 57, 3) := by decide +kernel
theorem dL_act_200 : decode cL_act 200 = .ok (.invokevirtual 69, 3) := by decide +kernel
theorem dL_act_203 : decode cL_act 203 = .ok (.ireturn, 1) := by decide +kernel
theorem dL_act_204 : decode cL_act 204 = .ok (.aload_n 0, 1) := by decide +kernel
theorem dL_act_205 : decode cL_act 205 = .ok (.iload_n 3, 1) := by decide +kernel
theorem dL_act_206 : decode cL_act 206 = .ok (.bipush 8, 2) := by decide +kernel
theorem dL_act_208 : decode cL_act 208 = .ok (.invokestatic 57, 3) := by decide +kernel
theorem dL_act_211 : decode cL_act 211 = .ok (.iload 4, 2) := by decide +kernel
theorem dL_act_213 : decode cL_act 213 = .ok (.bipush 11, 2) := by decide +kernel
theorem dL_act_215 : decode cL_act 215 = .ok (.invokestatic 57, 3) := by decide +kernel
theorem dL_act_218 : decode cL_act 218 = .ok (.invokevirtual 72, 3) := by decide +kernel
theorem dL_act_221 : decode cL_act 221 = .ok (.ireturn, 1) := by decide +kernel
theorem dL_act_222 : decode cL_act 222 = .ok (.aload_n 0, 1) := by decide +kernel
theorem dL_act_223 : decode cL_act 223 = .ok (.iload_n 3, 1) := by decide +kernel
theorem dL_act_224 : decode cL_act 224 = .ok (.iconst 2, 1) := by decide +kernel
theorem dL_act_225 : decode cL_act 225 = .ok (.invokestatic 57, 3) := by decide +kernel
theorem dL_act_228 : decode cL_act 228 = .ok (.iload 4, 2) := by decide +kernel
theorem dL_act_230 : decode cL_act 230 = .ok (.sipush 900, 3) := by decide +kernel
theorem dL_act_233 : decode cL_act 233 = .ok (.invokestatic 57, 3) := by decide +kernel
theorem dL_act_236 : decode cL_act 236 = .ok (.invokevirtual 75, 3) := by decide +kernel
theorem dL_act_239 : decode cL_act 239 = .ok (.ireturn, 1) := by decide +kernel
theorem dL_act_240 : decode cL_act 240 = .ok (.aload_n 0, 1) := by decide +kernel
theorem dL_act_241 : decode cL_act 241 = .ok (.iload 4, 2) := by decide +kernel
theorem dL_act_243 : decode cL_act 243 = .ok (.bipush 21, 2) := by decide +kernel
theorem dL_act_245 : decode cL_act 245 = .ok (.invokestatic 57, 3) := by decide +kernel
theorem dL_act_248 : decode cL_act 248 = .ok (.invokevirtual 78, 3) := by decide +kernel
theorem dL_act_251 : decode cL_act 251 = .ok (.ireturn, 1) := by decide +kernel
theorem dL_act_252 : decode cL_act 252 = .ok (.iload_n 3, 1) := by decide +kernel
theorem dL_act_253 : decode cL_act 253 = .ok (.iconst 2, 1) := by decide +kernel
theorem dL_act_254 : decode cL_act 254 = .ok (.invokestatic 57, 3) := by decide +kernel
theorem dL_act_257 : decode cL_act 257 = .ok (.ifCond .ne 18, 3) := by decide +kernel
theorem dL_act_260 : decode cL_act 260 = .ok (.aload_n 0, 1) := by decide +kernel
theorem dL_act_261 : decode cL_act 261 = .ok (.iconst 1, 1) := by decide +kernel
theorem dL_act_262 : decode cL_act 262 = .ok (.iload 4, 2) := by decide +kernel
theorem dL_act_264 : decode cL_act 264 = .ok (.bipush 51, 2) := by decide +kernel
theorem dL_act_266 : decode cL_act 266 = .ok (.invokestatic 57, 3) := by decide +kernel
theorem dL_act_269 : decode cL_act 269 = .ok (.invokevirtual 81, 3) := by decide +kernel
theorem dL_act_272 : decode cL_act 272 = .ok (.goto 17, 3) := by decide +kernel
theorem dL_act_275 : decode cL_act 275 = .ok (.aload_n 0, 1) := by decide +kernel
theorem dL_act_276 : decode cL_act 276 = .ok (.iconst 2, 1) := by decide +kernel
theorem dL_act_277 : decode cL_act 277 = .ok (.iconst 1, 1) := by decide +kernel
theorem dL_act_278 : decode cL_act 278 = .ok (.iload 4, 2) := by decide +kernel
theorem dL_act_280 : decode cL_act 280 = .ok (.bipush 10, 2) := by decide +kernel
theorem dL_act_282 : decode cL_act 282 = .ok (.invokestatic 57, 3) := by decide +kernel
theorem dL_act_285 : decode cL_act 285 = .ok (.iadd, 1) := by decide +kernel
theorem dL_act_286 : decode cL_act 286 = .ok (.invokevirtual 81, 3) := by decide +kernel
theorem dL_act_289 : decode cL_act 289 = .ok (.ireturn, 1) := by decide +kernel
theorem dL_act_290 : decode cL_act 290 = .ok (.aload_n 0, 1) := by decide +kernel
theorem dL_act_291 : decode cL_act 291 = .ok (.iconst 1, 1) := by decide +kernel
theorem dL_act_292 : decode cL_act 292 = .ok (.iload 4, 2) := by decide +kernel
theorem dL_act_294 : decode cL_act 294 = .ok (.sipush 9999, 3) := by decide +kernel
theorem dL_act_297 : decode cL_act 297 = .ok (.invokestatic 57, 3) := by decide +kernel
theorem dL_act_300 : decode cL_act 300 = .ok (.iadd, 1) := by decide +kernel
theorem dL_act_301 : decode cL_act 301 = .ok (.invokestatic 84, 3) := by decide +kernel
theorem dL_act_304 : decode cL_act 304 = .ok (.ireturn, 1) := by decide +kernel
theorem dL_act_305 : decode cL_act 305 = .ok (.aload_n 0, 1) := by decide +kernel
theorem dL_act_306 : decode cL_act 306 = .ok (.invokestatic 86, 3) := by decide +kernel
theorem dL_act_309 : decode cL_act 309 = .ok (.ireturn, 1) := by decide +kernel
theorem dL_law_0 : decode cL_law 0 = .ok (.new 10, 3) := by decide +kernel
theorem dL_law_3 : decode cL_law 3 = .ok (.dup, 1) := by decide +kernel
theorem dL_law_4 : decode cL_law 4 = .ok (.invokespecial 89, 3) := by decide +kernel
theorem dL_law_7 : decode cL_law 7 = .ok (.astore_n 1, 1) := by decide +kernel
theorem dL_law_8 : decode cL_law 8 = .ok (.iconst 1, 1) := by decide +kernel
theorem dL_law_9 : decode cL_law 9 = .ok (.istore_n 2, 1) := by decide +kernel
theorem dL_law_10 : decode cL_law 10 = .ok (.aload_n 0, 1) := by decide +kernel
theorem dL_law_11 : decode cL_law 11 = .ok (.arraylength, 1) := by decide +kernel
theorem dL_law_12 : decode cL_law 12 = .ok (.iconst 3, 1) := by decide +kernel
theorem dL_law_13 : decode cL_law 13 = .ok (.idiv, 1) := by decide +kernel
theorem dL_law_14 : decode cL_law 14 = .ok (.bipush 44, 2) := by decide +kernel
theorem dL_law_16 : decode cL_law 16 = .ok (.if_icmp .le 8, 3) := by decide +kernel
theorem dL_law_19 : decode cL_law 19 = .ok (.bipush 44, 2) := by decide +kernel
theorem dL_law_21 : decode cL_law 21 = .ok (.goto 7, 3) := by decide +kernel
theorem dL_law_24 : decode cL_law 24 = .ok (.aload_n 0, 1) := by decide +kernel
theorem dL_law_25 : decode cL_law 25 = .ok (.arraylength, 1) := by decide +kernel
theorem dL_law_26 : decode cL_law 26 = .ok (.iconst 3, 1) := by decide +kernel
theorem dL_law_27 : decode cL_law 27 = .ok (.idiv, 1) := by decide +kernel
theorem dL_law_28 : decode cL_law 28 = .ok (.istore_n 3, 1) := by decide +kernel
theorem dL_law_29 : decode cL_law 29 = .ok (.iconst 0, 1) := by decide +kernel
theorem dL_law_30 : decode cL_law 30 = .ok (.istore 4, 2) := by decide +kernel
theorem dL_law_32 : decode cL_law 32 = .ok (.iload 4, 2) := by decide +kernel
theorem dL_law_34 : decode cL_law 34 = .ok (.iload_n 3, 1) := by decide +kernel
theorem dL_law_35 : decode cL_law 35 = .ok (.if_icmp .ge 363, 3) := by decide +kernel
theorem dL_law_38 : decode cL_law 38 = .ok (.iload_n 2, 1) := by decide +kernel
theorem dL_law_39 : decode cL_law 39 = .ok (.ifCond .eq 359, 3) := by decide +kernel
theorem dL_law_42 : decode cL_law 42 = .ok (.aload_n 1, 1) := by decide +kernel
theorem dL_law_43 : decode cL_law 43 = .ok (.bipush 9, 2) := by decide +kernel
theorem dL_law_45 : decode cL_law 45 = .ok (.invokevirtual 30, 3) := by decide +kernel
theorem dL_law_48 : decode cL_law 48 = .ok (.istore 5, 2) := by decide +kernel
theorem dL_law_50 : decode cL_law 50 = .ok (.aload_n 1, 1) := by decide +kernel
theorem dL_law_51 : decode cL_law 51 = .ok (.iconst 1, 1) := by decide +kernel
theorem dL_law_52 : decode cL_law 52 = .ok (.invokevirtual 30, 3) := by decide +kernel
theorem dL_law_55 : decode cL_law 55 = .ok (.istore 6, 2) := by decide +kernel
theorem dL_law_57 : decode cL_law 57 = .ok (.aload_n 1, 1) := by decide +kernel
theorem dL_law_58 : decode cL_law 58 = .ok (.iconst 0, 1) := by decide +kernel
theorem dL_law_59 : decode cL_law 59 = .ok (.invokevirtual 30, 3) := by decide +kernel
theorem dL_law_62 : decode cL_law 62 = .ok (.istore 7, 2) := by decide +kernel
theorem dL_law_64 : decode cL_law 64 = .ok (.aload_n 1, 1) := by decide +kernel
theorem dL_law_65 : decode cL_law 65 = .ok (.iconst 3, 1) := by decide +kernel
theorem dL_law_66 : decode cL_law 66 = .ok (.invokevirtual 30, 3) := by decide +kernel
theorem dL_law_69 : decode cL_law 69 = .ok (.istore 8, 2) := by decide +kernel
theorem dL_law_71 : decode cL_law 71 = .ok (.aload_n 1, 1) := by decide +kernel
theorem dL_law_72 : decode cL_law 72 = .ok (.iconst 4, 1) := by decide +kernel
theorem dL_law_73 : decode cL_law 73 = .ok (.invokevirtual 30, 3) := by decide +kernel
theorem dL_law_76 : decode cL_law 76 = .ok (.istore 9, 2) := by decide +kernel
theorem dL_law_78 : decode cL_law 78 = .ok (.aload_n 1, 1) := by decide +kernel
theorem dL_law_79 : decode cL_law 79 = .ok (.bipush 7, 2) := by decide +kernel
theorem dL_law_81 : decode cL_law 81 = .ok (.invokevirtual 30, 3) := by decide +kernel
theorem dL_law_84 : decode cL_law 84 = .ok (.istore 10, 2) := by decide +kernel
theorem dL_law_86 : decode cL_law 86 = .ok (.aload_n 1, 1) := by decide +kernel
theorem dL_law_87 : decode cL_law 87 = .ok (.iconst 5, 1) := by decide +kernel
theorem dL_law_88 : decode cL_law 88 = .ok (.invokevirtual 30, 3) := by decide +kernel
theorem dL_law_91 : decode cL_law 91 = .ok (.istore 11, 2) := by decide +kernel
theorem dL_law_93 : decode cL_law 93 = .ok (.aload_n 0, 1) := by decide +kernel
theorem dL_law_94 : decode cL_law 94 = .ok (.iconst 3, 1) := by decide +kernel
theorem dL_law_95 : decode cL_law 95 = .ok (.iload 4, 2) := by decide +kernel
theorem dL_law_97 : decode cL_law 97 = .ok (.imul, 1) := by decide +kernel
theorem dL_law_98 : decode cL_law 98 = .ok (.invokestatic 51, 3) := by decide +kernel
theorem dL_law_101 : decode cL_law 101 = .ok (.bipush 20, 2) := by decide +kernel
theorem dL_law_103 : decode cL_law 103 = .ok (.invokestatic 57, 3) := by decide +kernel
theorem dL_law_106 : decode cL_law 106 = .ok (.istore 12, 2) := by decide +kernel
theorem dL_law_108 : decode cL_law 108 = .ok (.aload_n 0, 1) := by decide +kernel
theorem dL_law_109 : decode cL_law 109 = .ok (.iconst 3, 1) := by decide +kernel
theorem dL_law_110 : decode cL_law 110 = .ok (.iload 4, 2) := by decide +kernel
theorem dL_law_112 : decode cL_law 112 = .ok (.imul, 1) := by decide +kernel
theorem dL_law_113 : decode cL_law 113 = .ok (.iconst 1, 1) := by decide +kernel
theorem dL_law_114 : decode cL_law 114 = .ok (.iadd, 1) := by decide +kernel
theorem dL_law_115 : decode cL_law 115 = .ok (.invokestatic 51, 3) := by decide +kernel
theorem dL_law_118 : decode cL_law 118 = .ok (.istore 13, 2) := by decide +kernel
theorem dL_law_120 : decode cL_law 120 = .ok (.iconst 1, 1) := by decide +kernel
theorem dL_law_121 : decode cL_law 121 = .ok (.iload 13, 2) := by decide +kernel
theorem dL_law_123 : decode cL_law 123 = .ok (.bipush 9, 2) := by decide +kernel
theorem dL_law_125 : decode cL_law 125 = .ok (.invokestatic 57, 3) := by decide +kernel
theorem dL_law_128 : decode cL_law 128 = .ok (.iadd, 1) := by decide +kernel
theorem dL_law_129 : decode cL_law 129 = .ok (.istore 14, 2) := by decide +kernel
theorem dL_law_131 : decode cL_law 131 = .ok (.aload_n 1, 1) := by decide +kernel
theorem dL_law_132 : decode cL_law 132 = .ok (.iload 14, 2) := by decide +kernel
theorem dL_law_134 : decode cL_law 134 = .ok (.iconst 0, 1) := by decide +kernel
theorem dL_law_135 : decode cL_law 135 = .ok (.invokevirtual 90, 3) := by decide +kernel
theorem dL_law_138 : decode cL_law 138 = .ok (.istore 15, 2) := by decide +kernel
theorem dL_law_140 : decode cL_law 140 = .ok (.aload_n 1, 1) := by decide +kernel
theorem dL_law_141 : decode cL_law 141 = .ok (.iload 14, 2) := by decide +kernel
theorem dL_law_143 : decode cL_law 143 = .ok (.iconst 1, 1) := by decide +kernel
theorem dL_law_144 : decode cL_law 144 = .ok (.invokevirtual 90, 3) := by decide +kernel
theorem dL_law_147 : decode cL_law 147 = .ok (.istore 16, 2) := by decide +kernel
theorem dL_law_149 : decode cL_law 149 = .ok (.aload_n 1, 1) := by decide +kernel
theorem dL_law_150 : decode cL_law 150 = .ok (.iload 7, 2) := by decide +kernel
theorem dL_law_152 : decode cL_law 152 = .ok (.iload 13, 2) := by decide +kernel
theorem dL_law_154 : decode cL_law 154 = .ok (.iconst 4, 1) := by decide +kernel
theorem dL_law_155 : decode cL_law 155 = .ok (.ishr, 1) := by decide +kernel
theorem dL_law_156 : decode cL_law 156 = .ok (.bipush 12, 2) := by decide +kernel
theorem dL_law_158 : decode cL_law 158 = .ok (.invokestatic 57, 3) := by decide +kernel
theorem dL_law_161 : decode cL_law 161 = .ok (.iadd, 1) := by decide +kernel
theorem dL_law_162 : decode cL_law 162 = .ok (.iload 13, 2) := by decide +kernel
theorem dL_law_164 : decode cL_law 164 = .ok (.bipush 8, 2) := by decide +kernel
theorem dL_law_166 : decode cL_law 166 = .ok (.invokestatic 57, 3) := by decide +kernel
theorem dL_law_169 : decode cL_law 169 = .ok (.aload_n 0, 1) := by decide +kernel
theorem dL_law_170 : decode cL_law 170 = .ok (.iconst 3, 1) := by decide +kernel
theorem dL_law_171 : decode cL_law 171 = .ok (.iload 4, 2) := by decide +kernel
theorem dL_law_173 : decode cL_law 173 = .ok (.imul, 1) := by decide +kernel
theorem dL_law_174 : decode cL_law 174 = .ok (.iconst 2, 1) := by decide +kernel
theorem dL_law_175 : decode cL_law 175 = .ok (.iadd, 1) := by decide +kernel
theorem dL_law_176 : decode cL_law 176 = .ok (.invokestatic 51, 3) := by decide +kernel
theorem dL_law_179 : decode cL_law 179 = .ok (.bipush 11, 2) := by decide +kernel
theorem dL_law_181 : decode cL_law 181 = .ok (.invokestatic 57, 3) := by decide +kernel
theorem dL_law_184 : decode cL_law 184 = .ok (.invokevirtual 93, 3) := by decide +kernel
theorem dL_law_187 : decode cL_law 187 = .ok (.istore 17, 2) := by decide +kernel
theorem dL_law_189 : decode cL_law 189 = .ok (.aload_n 1, 1) := by decide +kernel
theorem dL_law_190 : decode cL_law 190 = .ok (.aload_n 0, 1) := by decide +kernel
theorem dL_law_191 : decode cL_law 191 = .ok (.iconst 3, 1) := by decide +kernel
theorem dL_law_192 : decode cL_law 192 = .ok (.iload 4, 2) := by decide +kernel
theorem dL_law_194 : decode cL_law 194 = .ok (.imul, 1) := by decide +kernel
theorem dL_law_195 : decode cL_law 195 = .ok (.invokestatic 96, 3) := by decide +kernel
theorem dL_law_198 : decode cL_law 198 = .ok (.istore 18, 2) := by decide +kernel
theorem dL_law_200 : decode cL_law 200 = .ok (.iload 18, 2) := by decide +kernel
theorem dL_law_202 : decode cL_law 202 = .ok (.ifCond .ge 44, 3) := by decide +kernel
theorem dL_law_205 : decode cL_law 205 = .ok (.aload_n 1, 1) := by decide +kernel
theorem dL_law_206 : decode cL_law 206 = .ok (.bipush 9, 2) := by decide +kernel
theorem dL_law_208 : decode cL_law 208 = .ok (.invokevirtual 30, 3) := by decide +kernel
theorem dL_law_211 : decode cL_law 211 = .ok (.iload 5, 2) := by decide +kernel
theorem dL_law_213 : decode cL_law 213 = .ok (.if_icmp .ne 37, 3) := by decide +kernel
theorem dL_law_216 : decode cL_law 216 = .ok (.aload_n 1, 1) := by decide +kernel
theorem dL_law_217 : decode cL_law 217 = .ok (.iconst 1, 1) := by decide +kernel
theorem dL_law_218 : decode cL_law 218 = .ok (.invokevirtual 30, 3) := by decide +kernel
theorem dL_law_221 : decode cL_law 221 = .ok (.iload 6, 2) := by decide +kernel
theorem dL_law_223 : decode cL_law 223 = .ok (.if_icmp .ne 27, 3) := by decide +kernel
theorem dL_law_226 : decode cL_law 226 = .ok (.aload_n 1, 1) := by decide +kernel
theorem dL_law_227 : decode cL_law 227 = .ok (.iconst 0, 1) := by decide +kernel
theorem dL_law_228 : decode cL_law 228 = .ok (.invokevirtual 30, 3) := by decide +kernel
theorem dL_law_231 : decode cL_law 231 = .ok (.iload 7, 2) := by decide +kernel
theorem dL_law_233 : decode cL_law 233 = .ok (.if_icmp .ne 17, 3) := by decide +kernel
theorem dL_law_236 : decode cL_law 236 = .ok (.aload_n 1, 1) := by decide +kernel
theorem dL_law_237 : decode cL_law 237 = .ok (.iconst 3, 1) := by decide +kernel
theorem dL_law_238 : decode cL_law 238 = .ok (.invokevirtual 30, 3) := by decide +kernel
theorem dL_law_241 : decode cL_law 241 = .ok (.iload 8, 2) := by decide +kernel
theorem dL_law_243 : decode cL_law 243 = .ok (.if_icmp .ne 7, 3) := by decide +kernel
theorem dL_law_246 : decode cL_law 246 = .ok (.iconst 1, 1) := by decide +kernel
theorem dL_law_247 : decode cL_law 247 = .ok (.goto 4, 3) := by decide +kernel
theorem dL_law_250 : decode cL_law 250 = .ok (.iconst 0, 1) := by decide +kernel
theorem dL_law_251 : decode cL_law 251 = .ok (.istore_n 2, 1) := by decide +kernel
theorem dL_law_252 : decode cL_law 252 = .ok (.iload_n 2, 1) := by decide +kernel
theorem dL_law_253 : decode cL_law 253 = .ok (.ifCond .eq 137, 3) := by decide +kernel
theorem dL_law_256 : decode cL_law 256 = .ok (.iload 12, 2) := by decide +kernel
theorem dL_law_258 : decode cL_law 258 = .ok (.bipush 8, 2) := by decide +kernel
theorem dL_law_260 : decode cL_law 260 = .ok (.if_icmp .lt 89, 3) := by decide +kernel
theorem dL_law_263 : decode cL_law 263 = .ok (.iload 12, 2) := by decide +kernel
theorem dL_law_265 : decode cL_law 265 = .ok (.bipush 12, 2) := by decide +kernel
theorem dL_law_267 : decode cL_law 267 = .ok (.if_icmp .gt 82, 3) := by decide +kernel
theorem dL_law_270 : decode cL_law 270 = .ok (.iload 18, 2) := by decide +kernel
theorem dL_law_272 : decode cL_law 272 = .ok (.iload 15, 2) := by decide +kernel
theorem dL_law_274 : decode cL_law 274 = .ok (.if_icmp .ne 116, 3) := by decide +kernel
theorem dL_law_277 : decode cL_law 277 = .ok (.aload_n 1, 1) := by decide +kernel
theorem dL_law_278 : decode cL_law 278 = .ok (.iconst 3, 1) := by decide +kernel
theorem dL_law_279 : decode cL_law 279 = .ok (.invokevirtual 30, 3) := by decide +kernel
theorem dL_law_282 : decode cL_law 282 = .ok (.iload 8, 2) := by decide +kernel
theorem dL_law_284 : decode cL_law 284 = .ok (.iload 18, 2) := by decide +kernel
theorem dL_law_286 : decode cL_law 286 = .ok (.isub, 1) := by decide +kernel
theorem dL_law_287 : decode cL_law 287 = .ok (.if_icmp .ne 103, 3) := by decide +kernel
theorem dL_law_290 : decode cL_law 290 = .ok (.aload_n 1, 1) := by decide +kernel
theorem dL_law_291 : decode cL_law 291 = .ok (.iconst 4, 1) := by decide +kernel
theorem dL_law_292 : decode cL_law 292 = .ok (.invokevirtual 30, 3) := by decide +kernel
theorem dL_law_295 : decode cL_law 295 = .ok (.iload 9, 2) := by decide +kernel
theorem dL_law_297 : decode cL_law 297 = .ok (.iload 18, 2) := by decide +kernel
theorem dL_law_299 : decode cL_law 299 = .ok (.iadd, 1) := by decide +kernel
theorem dL_law_300 : decode cL_law 300 = .ok (.if_icmp .ne 90, 3) := by decide +kernel
theorem dL_law_303 : decode cL_law 303 = .ok (.aload_n 1, 1) := by decide +kernel
theorem dL_law_304 : decode cL_law 304 = .ok (.iconst 0, 1) := by decide +kernel
theorem dL_law_305 : decode cL_law 305 = .ok (.invokevirtual 30, 3) := by decide +kernel
theorem dL_law_308 : decode cL_law 308 = .ok (.iload 7, 2) := by decide +kernel
theorem dL_law_310 : decode cL_law 310 = .ok (.iload 14, 2) := by decide +kernel
theorem dL_law_312 : decode cL_law 312 = .ok (.iadd, 1) := by decide +kernel
theorem dL_law_313 : decode cL_law 313 = .ok (.if_icmp .ne 77, 3) := by decide +kernel
theorem dL_law_316 : decode cL_law 316 = .ok (.aload_n 1, 1) := by decide +kernel
theorem dL_law_317 : decode cL_law 317 = .ok (.iconst 5, 1) := by decide +kernel
theorem dL_law_318 : decode cL_law 318 = .ok (.invokevirtual 30, 3) := by decide +kernel
theorem dL_law_321 : decode cL_law 321 = .ok (.iload 11, 2) := by decide +kernel
theorem dL_law_323 : decode cL_law 323 = .ok (.iload 16, 2) := by decide +kernel
theorem dL_law_325 : decode cL_law 325 = .ok (.iadd, 1) := by decide +kernel
theorem dL_law_326 : decode cL_law 326 = .ok (.if_icmp .ne 64, 3) := by decide +kernel
theorem dL_law_329 : decode cL_law 329 = .ok (.aload_n 1, 1) := by decide +kernel
theorem dL_law_330 : decode cL_law 330 = .ok (.bipush 7, 2) := by decide +kernel
theorem dL_law_332 : decode cL_law 332 = .ok (.invokevirtual 30, 3) := by decide +kernel
theorem dL_law_335 : decode cL_law 335 = .ok (.aload_n 1, 1) := by decide +kernel
theorem dL_law_336 : decode cL_law 336 = .ok (.iconst 1, 1) := by decide +kernel
theorem dL_law_337 : decode cL_law 337 = .ok (.invokevirtual 30, 3) := by decide +kernel
theorem dL_law_340 : decode cL_law 340 = .ok (.iadd, 1) := by decide +kernel
theorem dL_law_341 : decode cL_law 341 = .ok (.iload 10, 2) := by decide +kernel
theorem dL_law_343 : decode cL_law 343 = .ok (.iload 6, 2) := by decide +kernel
theorem dL_law_345 : decode cL_law 345 = .ok (.iadd, 1) := by decide +kernel
theorem dL_law_346 : decode cL_law 346 = .ok (.if_icmp .ne 44, 3) := by decide +kernel
theorem dL_law_349 : decode cL_law 349 = .ok (.iload 12, 2) := by decide +kernel
theorem dL_law_351 : decode cL_law 351 = .ok (.bipush 6, 2) := by decide +kernel
theorem dL_law_353 : decode cL_law 353 = .ok (.if_icmp .gt 26, 3) := by decide +kernel
theorem dL_law_356 : decode cL_law 356 = .ok (.iload 17, 2) := by decide +kernel
theorem dL_law_358 : decode cL_law 358 = .ok (.ifCond .ne 7, 3) := by decide +kernel
theorem dL_law_361 : decode cL_law 361 = .ok (.iconst 1, 1) := by decide +kernel
theorem dL_law_362 : decode cL_law 362 = .ok (.goto 4, 3) := by decide +kernel
theorem dL_law_365 : decode cL_law 365 = .ok (.iconst 0, 1) := by decide +kernel
theorem dL_law_366 : decode cL_law 366 = .ok (.iload 18, 2) := by decide +kernel
theorem dL_law_368 : decode cL_law 368 = .ok (.ifCond .lt 7, 3) := by decide +kernel
theorem dL_law_371 : decode cL_law 371 = .ok (.iconst 1, 1) := by decide +kernel
theorem dL_law_372 : decode cL_law 372 = .ok (.goto 4, 3) := by decide +kernel
theorem dL_law_375 : decode cL_law 375 = .ok (.iconst 0, 1) := by decide +kernel
theorem dL_law_376 : decode cL_law 376 = .ok (.if_icmp .ne 14, 3) := by decide +kernel
theorem dL_law_379 : decode cL_law 379 = .ok (.aload_n 1, 1) := by decide +kernel
theorem dL_law_380 : decode cL_law 380 = .ok (.invokestatic 100, 3) := by decide +kernel
theorem dL_law_383 : decode cL_law 383 = .ok (.ifCond .eq 7, 3) := by decide +kernel
theorem dL_law_386 : decode cL_law 386 = .ok (.iconst 1, 1) := by decide +kernel
theorem dL_law_387 : decode cL_law 387 = .ok (.goto 4, 3) := by decide +kernel
theorem dL_law_390 : decode cL_law 390 = .ok (.iconst 0, 1) := by decide +kernel
theorem dL_law_391 : decode cL_law 391 = .ok (.istore_n 2, 1) := by decide +kernel
theorem dL_law_392 : decode cL_law 392 = .ok (.iinc 4 1, 3) := by decide +kernel
theorem dL_law_395 : decode cL_law 395 = .ok (.goto (-363), 3) := by decide +kernel
theorem dL_law_398 : decode cL_law 398 = .ok (.iload_n 2, 1) := by decide +kernel
theorem dL_law_399 : decode cL_law 399 = .ok (.ireturn, 1) := by decide +kernel
