theorem dX12_mileBy_0 : decode cX12_mileBy 0 = .ok (.aload_n 0, 1) := by decide +kernel
theorem dX12_mileBy_1 : decode cX12_mileBy 1 = .ok (.getfield 9, 3) := by decide +kernel
theorem dX12_mileBy_4 : decode cX12_mileBy 4 = .ok (.bipush 6, 2) := by decide +kernel
theorem dX12_mileBy_6 : decode cX12_mileBy 6 = .ok (.dup2, 1) := by decide +kernel
theorem dX12_mileBy_7 : decode cX12_mileBy 7 = .ok (.iaload, 1) := by decide +kernel
theorem dX12_mileBy_8 : decode cX12_mileBy 8 = .ok (.iconst 1, 1) := by decide +kernel
theorem dX12_mileBy_9 : decode cX12_mileBy 9 = .ok (.iadd, 1) := by decide +kernel
theorem dX12_mileBy_10 : decode cX12_mileBy 10 = .ok (.iastore, 1) := by decide +kernel
theorem dX12_mileBy_11 : decode cX12_mileBy 11 = .ok (.iconst 0, 1) := by decide +kernel
theorem dX12_mileBy_12 : decode cX12_mileBy 12 = .ok (.istore_n 2, 1) := by decide +kernel
theorem dX12_mileBy_13 : decode cX12_mileBy 13 = .ok (.iload_n 2, 1) := by decide +kernel
theorem dX12_mileBy_14 : decode cX12_mileBy 14 = .ok (.aload_n 0, 1) := by decide +kernel
theorem dX12_mileBy_15 : decode cX12_mileBy 15 = .ok (.getfield 9, 3) := by decide +kernel
theorem dX12_mileBy_18 : decode cX12_mileBy 18 = .ok (.iconst 3, 1) := by decide +kernel
theorem dX12_mileBy_19 : decode cX12_mileBy 19 = .ok (.iaload, 1) := by decide +kernel
theorem dX12_mileBy_20 : decode cX12_mileBy 20 = .ok (.if_icmp .ge 56, 3) := by decide +kernel
theorem dX12_mileBy_23 : decode cX12_mileBy 23 = .ok (.aload_n 0, 1) := by decide +kernel
theorem dX12_mileBy_24 : decode cX12_mileBy 24 = .ok (.getfield 34, 3) := by decide +kernel
theorem dX12_mileBy_27 : decode cX12_mileBy 27 = .ok (.iload_n 2, 1) := by decide +kernel
theorem dX12_mileBy_28 : decode cX12_mileBy 28 = .ok (.iaload, 1) := by decide +kernel
theorem dX12_mileBy_29 : decode cX12_mileBy 29 = .ok (.ifCond .ne 41, 3) := by decide +kernel
theorem dX12_mileBy_32 : decode cX12_mileBy 32 = .ok (.aload_n 0, 1) := by decide +kernel
theorem dX12_mileBy_33 : decode cX12_mileBy 33 = .ok (.getfield 28, 3) := by decide +kernel
theorem dX12_mileBy_36 : decode cX12_mileBy 36 = .ok (.iload_n 2, 1) := by decide +kernel
theorem dX12_mileBy_37 : decode cX12_mileBy 37 = .ok (.aload_n 0, 1) := by decide +kernel
theorem dX12_mileBy_38 : decode cX12_mileBy 38 = .ok (.getfield 28, 3) := by decide +kernel
theorem dX12_mileBy_41 : decode cX12_mileBy 41 = .ok (.iload_n 2, 1) := by decide +kernel
theorem dX12_mileBy_42 : decode cX12_mileBy 42 = .ok (.iaload, 1) := by decide +kernel
theorem dX12_mileBy_43 : decode cX12_mileBy 43 = .ok (.aload_n 0, 1) := by decide +kernel
theorem dX12_mileBy_44 : decode cX12_mileBy 44 = .ok (.getfield 31, 3) := by decide +kernel
theorem dX12_mileBy_47 : decode cX12_mileBy 47 = .ok (.iload_n 2, 1) := by decide +kernel
theorem dX12_mileBy_48 : decode cX12_mileBy 48 = .ok (.iaload, 1) := by decide +kernel
theorem dX12_mileBy_49 : decode cX12_mileBy 49 = .ok (.if_icmp .le 19, 3) := by decide +kernel
theorem dX12_mileBy_52 : decode cX12_mileBy 52 = .ok (.aload_n 0, 1) := by decide +kernel
theorem dX12_mileBy_53 : decode cX12_mileBy 53 = .ok (.getfield 28, 3) := by decide +kernel
theorem dX12_mileBy_56 : decode cX12_mileBy 56 = .ok (.iload_n 2, 1) := by decide +kernel
theorem dX12_mileBy_57 : decode cX12_mileBy 57 = .ok (.iaload, 1) := by decide +kernel
theorem dX12_mileBy_58 : decode cX12_mileBy 58 = .ok (.aload_n 0, 1) := by decide +kernel
theorem dX12_mileBy_59 : decode cX12_mileBy 59 = .ok (.getfield 31, 3) := by decide +kernel
theorem dX12_mileBy_62 : decode cX12_mileBy 62 = .ok (.iload_n 2, 1) := by decide +kernel
theorem dX12_mileBy_63 : decode cX12_mileBy 63 = .ok (.iaload, 1) := by decide +kernel
theorem dX12_mileBy_64 : decode cX12_mileBy 64 = .ok (.isub, 1) := by decide +kernel
theorem dX12_mileBy_65 : decode cX12_mileBy 65 = .ok (.goto 4, 3) := by decide +kernel
theorem dX12_mileBy_68 : decode cX12_mileBy 68 = .ok (.iconst 0, 1) := by decide +kernel
theorem dX12_mileBy_69 : decode cX12_mileBy 69 = .ok (.iastore, 1) := by decide +kernel
theorem dX12_mileBy_70 : decode cX12_mileBy 70 = .ok (.iinc 2 1, 3) := by decide +kernel
theorem dX12_mileBy_73 : decode cX12_mileBy 73 = .ok (.goto (-60), 3) := by decide +kernel
theorem dX12_mileBy_76 : decode cX12_mileBy 76 = .ok (.aload_n 0, 1) := by decide +kernel
theorem dX12_mileBy_77 : decode cX12_mileBy 77 = .ok (.iconst 0, 1) := by decide +kernel
theorem dX12_mileBy_78 : decode cX12_mileBy 78 = .ok (.putfield 447, 3) := by decide +kernel
theorem dX12_mileBy_81 : decode cX12_mileBy 81 = .ok (.aload_n 0, 1) := by decide +kernel
theorem dX12_mileBy_82 : decode cX12_mileBy 82 = .ok (.getfield 9, 3) := by decide +kernel
theorem dX12_mileBy_85 : decode cX12_mileBy 85 = .ok (.iconst 4, 1) := by decide +kernel
theorem dX12_mileBy_86 : decode cX12_mileBy 86 = .ok (.iaload, 1) := by decide +kernel
theorem dX12_mileBy_87 : decode cX12_mileBy 87 = .ok (.iconst 1, 1) := by decide +kernel
theorem dX12_mileBy_88 : decode cX12_mileBy 88 = .ok (.isub, 1) := by decide +kernel
theorem dX12_mileBy_89 : decode cX12_mileBy 89 = .ok (.istore_n 2, 1) := by decide +kernel
theorem dX12_mileBy_90 : decode cX12_mileBy 90 = .ok (.iload_n 2, 1) := by decide +kernel
theorem dX12_mileBy_91 : decode cX12_mileBy 91 = .ok (.ifCond .lt 34, 3) := by decide +kernel
theorem dX12_mileBy_94 : decode cX12_mileBy 94 = .ok (.aload_n 0, 1) := by decide +kernel
theorem dX12_mileBy_95 : decode cX12_mileBy 95 = .ok (.getfield 46, 3) := by decide +kernel
theorem dX12_mileBy_98 : decode cX12_mileBy 98 = .ok (.iload_n 2, 1) := by decide +kernel
theorem dX12_mileBy_99 : decode cX12_mileBy 99 = .ok (.iaload, 1) := by decide +kernel
theorem dX12_mileBy_100 : decode cX12_mileBy 100 = .ok (.iload_n 1, 1) := by decide +kernel
theorem dX12_mileBy_101 : decode cX12_mileBy 101 = .ok (.if_icmp .ge 18, 3) := by decide +kernel
theorem dX12_mileBy_104 : decode cX12_mileBy 104 = .ok (.aload_n 0, 1) := by decide +kernel
theorem dX12_mileBy_105 : decode cX12_mileBy 105 = .ok (.iload_n 2, 1) := by decide +kernel
theorem dX12_mileBy_106 : decode cX12_mileBy 106 = .ok (.invokevirtual 439, 3) := by decide +kernel
theorem dX12_mileBy_109 : decode cX12_mileBy 109 = .ok (.aload_n 0, 1) := by decide +kernel
theorem dX12_mileBy_110 : decode cX12_mileBy 110 = .ok (.dup, 1) := by decide +kernel
theorem dX12_mileBy_111 : decode cX12_mileBy 111 = .ok (.getfield 447, 3) := by decide +kernel
theorem dX12_mileBy_114 : decode cX12_mileBy 114 = .ok (.iconst 1, 1) := by decide +kernel
theorem dX12_mileBy_115 : decode cX12_mileBy 115 = .ok (.iadd, 1) := by decide +kernel
theorem dX12_mileBy_116 : decode cX12_mileBy 116 = .ok (.putfield 447, 3) := by decide +kernel
theorem dX12_mileBy_119 : decode cX12_mileBy 119 = .ok (.iinc 2 (-1), 3) := by decide +kernel
theorem dX12_mileBy_122 : decode cX12_mileBy 122 = .ok (.goto (-32), 3) := by decide +kernel
theorem dX12_mileBy_125 : decode cX12_mileBy 125 = .ok (.aload_n 0, 1) := by decide +kernel
theorem dX12_mileBy_126 : decode cX12_mileBy 126 = .ok (.invokevirtual 450, 3) := by decide +kernel
theorem dX12_mileBy_129 : decode cX12_mileBy 129 = .ok (.aload_n 0, 1) := by decide +kernel
theorem dX12_mileBy_130 : decode cX12_mileBy 130 = .ok (.aload_n 0, 1) := by decide +kernel
theorem dX12_mileBy_131 : decode cX12_mileBy 131 = .ok (.invokevirtual 396, 3) := by decide +kernel
theorem dX12_mileBy_134 : decode cX12_mileBy 134 = .ok (.invokevirtual 453, 3) := by decide +kernel
theorem dX12_mileBy_137 : decode cX12_mileBy 137 = .ok (.istore_n 2, 1) := by decide +kernel
theorem dX12_mileBy_138 : decode cX12_mileBy 138 = .ok (.iconst 0, 1) := by decide +kernel
theorem dX12_mileBy_139 : decode cX12_mileBy 139 = .ok (.istore_n 3, 1) := by decide +kernel
theorem dX12_mileBy_140 : decode cX12_mileBy 140 = .ok (.iconst 0, 1) := by decide +kernel
theorem dX12_mileBy_141 : decode cX12_mileBy 141 = .ok (.istore 4, 2) := by decide +kernel
theorem dX12_mileBy_143 : decode cX12_mileBy 143 = .ok (.iload 4, 2) := by decide +kernel
theorem dX12_mileBy_145 : decode cX12_mileBy 145 = .ok (.aload_n 0, 1) := by decide +kernel
theorem dX12_mileBy_146 : decode cX12_mileBy 146 = .ok (.getfield 9, 3) := by decide +kernel
theorem dX12_mileBy_149 : decode cX12_mileBy 149 = .ok (.iconst 2, 1) := by decide +kernel
theorem dX12_mileBy_150 : decode cX12_mileBy 150 = .ok (.iaload, 1) := by decide +kernel
theorem dX12_mileBy_151 : decode cX12_mileBy 151 = .ok (.if_icmp .ge 35, 3) := by decide +kernel
theorem dX12_mileBy_154 : decode cX12_mileBy 154 = .ok (.iload_n 3, 1) := by decide +kernel
theorem dX12_mileBy_155 : decode cX12_mileBy 155 = .ok (.aload_n 0, 1) := by decide +kernel
theorem dX12_mileBy_156 : decode cX12_mileBy 156 = .ok (.iload 4, 2) := by decide +kernel
theorem dX12_mileBy_158 : decode cX12_mileBy 158 = .ok (.aload_n 0, 1) := by decide +kernel
theorem dX12_mileBy_159 : decode cX12_mileBy 159 = .ok (.invokevirtual 396, 3) := by decide +kernel
theorem dX12_mileBy_162 : decode cX12_mileBy 162 = .ok (.invokevirtual 403, 3) := by decide +kernel
theorem dX12_mileBy_165 : decode cX12_mileBy 165 = .ok (.iload_n 2, 1) := by decide +kernel
theorem dX12_mileBy_166 : decode cX12_mileBy 166 = .ok (.iand, 1) := by decide +kernel
theorem dX12_mileBy_167 : decode cX12_mileBy 167 = .ok (.ifCond .eq 10, 3) := by decide +kernel
theorem dX12_mileBy_170 : decode cX12_mileBy 170 = .ok (.iconst 1, 1) := by decide +kernel
theorem dX12_mileBy_171 : decode cX12_mileBy 171 = .ok (.iload 4, 2) := by decide +kernel
theorem dX12_mileBy_173 : decode cX12_mileBy 173 = .ok (.ishl, 1) := by decide +kernel
theorem dX12_mileBy_174 : decode cX12_mileBy 174 = .ok (.goto 4, 3) := by decide +kernel
theorem dX12_mileBy_177 : decode cX12_mileBy 177 = .ok (.iconst 0, 1) := by decide +kernel
theorem dX12_mileBy_178 : decode cX12_mileBy 178 = .ok (.ior, 1) := by decide +kernel
theorem dX12_mileBy_179 : decode cX12_mileBy 179 = .ok (.istore_n 3, 1) := by decide +kernel
theorem dX12_mileBy_180 : decode cX12_mileBy 180 = .ok (.iinc 4 1, 3) := by decide +kernel
theorem dX12_mileBy_183 : decode cX12_mileBy 183 = .ok (.goto (-40), 3) := by decide +kernel
theorem dX12_mileBy_186 : decode cX12_mileBy 186 = .ok (.iconst 0, 1) := by decide +kernel
theorem dX12_mileBy_187 : decode cX12_mileBy 187 = .ok (.istore 4, 2) := by decide +kernel
theorem dX12_mileBy_189 : decode cX12_mileBy 189 = .ok (.iload 4, 2) := by decide +kernel
theorem dX12_mileBy_191 : decode cX12_mileBy 191 = .ok (.aload_n 0, 1) := by decide +kernel
theorem dX12_mileBy_192 : decode cX12_mileBy 192 = .ok (.getfield 9, 3) := by decide +kernel
theorem dX12_mileBy_195 : decode cX12_mileBy 195 = .ok (.iconst 2, 1) := by decide +kernel
theorem dX12_mileBy_196 : decode cX12_mileBy 196 = .ok (.iaload, 1) := by decide +kernel
theorem dX12_mileBy_197 : decode cX12_mileBy 197 = .ok (.if_icmp .ge 36, 3) := by decide +kernel
theorem dX12_mileBy_200 : decode cX12_mileBy 200 = .ok (.aload_n 0, 1) := by decide +kernel
theorem dX12_mileBy_201 : decode cX12_mileBy 201 = .ok (.getfield 19, 3) := by decide +kernel
theorem dX12_mileBy_204 : decode cX12_mileBy 204 = .ok (.iload 4, 2) := by decide +kernel
theorem dX12_mileBy_206 : decode cX12_mileBy 206 = .ok (.iload_n 3, 1) := by decide +kernel
theorem dX12_mileBy_207 : decode cX12_mileBy 207 = .ok (.iload 4, 2) := by decide +kernel
theorem dX12_mileBy_209 : decode cX12_mileBy 209 = .ok (.invokestatic 390, 3) := by decide +kernel
theorem dX12_mileBy_212 : decode cX12_mileBy 212 = .ok (.ifCond .eq 7, 3) := by decide +kernel
theorem dX12_mileBy_215 : decode cX12_mileBy 215 = .ok (.iconst 2, 1) := by decide +kernel
theorem dX12_mileBy_216 : decode cX12_mileBy 216 = .ok (.goto 10, 3) := by decide +kernel
theorem dX12_mileBy_219 : decode cX12_mileBy 219 = .ok (.aload_n 0, 1) := by decide +kernel
theorem dX12_mileBy_220 : decode cX12_mileBy 220 = .ok (.getfield 19, 3) := by decide +kernel
theorem dX12_mileBy_223 : decode cX12_mileBy 223 = .ok (.iload 4, 2) := by decide +kernel
theorem dX12_mileBy_225 : decode cX12_mileBy 225 = .ok (.iaload, 1) := by decide +kernel
theorem dX12_mileBy_226 : decode cX12_mileBy 226 = .ok (.iastore, 1) := by decide +kernel
theorem dX12_mileBy_227 : decode cX12_mileBy 227 = .ok (.iinc 4 1, 3) := by decide +kernel
theorem dX12_mileBy_230 : decode cX12_mileBy 230 = .ok (.goto (-41), 3) := by decide +kernel
theorem dX12_mileBy_233 : decode cX12_mileBy 233 = .ok (.aload_n 0, 1) := by decide +kernel
theorem dX12_mileBy_234 : decode cX12_mileBy 234 = .ok (.iload_n 2, 1) := by decide +kernel
theorem dX12_mileBy_235 : decode cX12_mileBy 235 = .ok (.iconst 0, 1) := by decide +kernel
theorem dX12_mileBy_236 : decode cX12_mileBy 236 = .ok (.invokevirtual 456, 3) := by decide +kernel
theorem dX12_mileBy_239 : decode cX12_mileBy 239 = .ok (.pop, 1) := by decide +kernel
theorem dX12_mileBy_240 : decode cX12_mileBy 240 = .ok (.iconst 0, 1) := by decide +kernel
theorem dX12_mileBy_241 : decode cX12_mileBy 241 = .ok (.istore 4, 2) := by decide +kernel
theorem dX12_mileBy_243 : decode cX12_mileBy 243 = .ok (.iload 4, 2) := by decide +kernel
theorem dX12_mileBy_245 : decode cX12_mileBy 245 = .ok (.aload_n 0, 1) := by decide +kernel
theorem dX12_mileBy_246 : decode cX12_mileBy 246 = .ok (.getfield 9, 3) := by decide +kernel
theorem dX12_mileBy_249 : decode cX12_mileBy 249 = .ok (.iconst 3, 1) := by decide +kernel
theorem dX12_mileBy_250 : decode cX12_mileBy 250 = .ok (.iaload, 1) := by decide +kernel
theorem dX12_mileBy_251 : decode cX12_mileBy 251 = .ok (.if_icmp .ge 40, 3) := by decide +kernel
theorem dX12_mileBy_254 : decode cX12_mileBy 254 = .ok (.iload_n 2, 1) := by decide +kernel
theorem dX12_mileBy_255 : decode cX12_mileBy 255 = .ok (.iload 4, 2) := by decide +kernel
theorem dX12_mileBy_257 : decode cX12_mileBy 257 = .ok (.invokestatic 390, 3) := by decide +kernel
theorem dX12_mileBy_260 : decode cX12_mileBy 260 = .ok (.ifCond .eq 25, 3) := by decide +kernel
theorem dX12_mileBy_263 : decode cX12_mileBy 263 = .ok (.aload_n 0, 1) := by decide +kernel
theorem dX12_mileBy_264 : decode cX12_mileBy 264 = .ok (.getfield 34, 3) := by decide +kernel
theorem dX12_mileBy_267 : decode cX12_mileBy 267 = .ok (.iload 4, 2) := by decide +kernel
theorem dX12_mileBy_269 : decode cX12_mileBy 269 = .ok (.iconst 2, 1) := by decide +kernel
theorem dX12_mileBy_270 : decode cX12_mileBy 270 = .ok (.iastore, 1) := by decide +kernel
theorem dX12_mileBy_271 : decode cX12_mileBy 271 = .ok (.aload_n 0, 1) := by decide +kernel
theorem dX12_mileBy_272 : decode cX12_mileBy 272 = .ok (.getfield 37, 3) := by decide +kernel
theorem dX12_mileBy_275 : decode cX12_mileBy 275 = .ok (.iload 4, 2) := by decide +kernel
theorem dX12_mileBy_277 : decode cX12_mileBy 277 = .ok (.aload_n 0, 1) := by decide +kernel
theorem dX12_mileBy_278 : decode cX12_mileBy 278 = .ok (.getfield 9, 3) := by decide +kernel
theorem dX12_mileBy_281 : decode cX12_mileBy 281 = .ok (.bipush 6, 2) := by decide +kernel
theorem dX12_mileBy_283 : decode cX12_mileBy 283 = .ok (.iaload, 1) := by decide +kernel
theorem dX12_mileBy_284 : decode cX12_mileBy 284 = .ok (.iastore, 1) := by decide +kernel
theorem dX12_mileBy_285 : decode cX12_mileBy 285 = .ok (.iinc 4 1, 3) := by decide +kernel
theorem dX12_mileBy_288 : decode cX12_mileBy 288 = .ok (.goto (-45), 3) := by decide +kernel
theorem dX12_mileBy_291 : decode cX12_mileBy 291 = .ok (.iload_n 2, 1) := by decide +kernel
theorem dX12_mileBy_292 : decode cX12_mileBy 292 = .ok (.invokestatic 460, 3) := by decide +kernel
theorem dX12_mileBy_295 : decode cX12_mileBy 295 = .ok (.ireturn, 1) := by decide +kernel
theorem dX12_lands_0 : decode cX12_lands 0 = .ok (.iconst 0, 1) := by decide +kernel
theorem dX12_lands_1 : decode cX12_lands 1 = .ok (.istore_n 1, 1) := by decide +kernel
theorem dX12_lands_2 : decode cX12_lands 2 = .ok (.iconst 0, 1) := by decide +kernel
theorem dX12_lands_3 : decode cX12_lands 3 = .ok (.istore_n 2, 1) := by decide +kernel
theorem dX12_lands_4 : decode cX12_lands 4 = .ok (.iload_n 2, 1) := by decide +kernel
theorem dX12_lands_5 : decode cX12_lands 5 = .ok (.aload_n 0, 1) := by decide +kernel
theorem dX12_lands_6 : decode cX12_lands 6 = .ok (.getfield 9, 3) := by decide +kernel
theorem dX12_lands_9 : decode cX12_lands 9 = .ok (.iconst 2, 1) := by decide +kernel
theorem dX12_lands_10 : decode cX12_lands 10 = .ok (.iaload, 1) := by decide +kernel
theorem dX12_lands_11 : decode cX12_lands 11 = .ok (.if_icmp .ge 88, 3) := by decide +kernel
theorem dX12_lands_14 : decode cX12_lands 14 = .ok (.aload_n 0, 1) := by decide +kernel
theorem dX12_lands_15 : decode cX12_lands 15 = .ok (.getfield 19, 3) := by decide +kernel
theorem dX12_lands_18 : decode cX12_lands 18 = .ok (.iload_n 2, 1) := by decide +kernel
theorem dX12_lands_19 : decode cX12_lands 19 = .ok (.iaload, 1) := by decide +kernel
theorem dX12_lands_20 : decode cX12_lands 20 = .ok (.ifCond .ne 73, 3) := by decide +kernel
theorem dX12_lands_23 : decode cX12_lands 23 = .ok (.aload_n 0, 1) := by decide +kernel
theorem dX12_lands_24 : decode cX12_lands 24 = .ok (.getfield 13, 3) := by decide +kernel
theorem dX12_lands_27 : decode cX12_lands 27 = .ok (.iload_n 2, 1) := by decide +kernel
theorem dX12_lands_28 : decode cX12_lands 28 = .ok (.iaload, 1) := by decide +kernel
theorem dX12_lands_29 : decode cX12_lands 29 = .ok (.aload_n 0, 1) := by decide +kernel
theorem dX12_lands_30 : decode cX12_lands 30 = .ok (.getfield 9, 3) := by decide +kernel
theorem dX12_lands_33 : decode cX12_lands 33 = .ok (.bipush 6, 2) := by decide +kernel
theorem dX12_lands_35 : decode cX12_lands 35 = .ok (.iaload, 1) := by decide +kernel
theorem dX12_lands_36 : decode cX12_lands 36 = .ok (.if_icmp .ne 57, 3) := by decide +kernel
theorem dX12_lands_39 : decode cX12_lands 39 = .ok (.aload_n 0, 1) := by decide +kernel
theorem dX12_lands_40 : decode cX12_lands 40 = .ok (.getfield 19, 3) := by decide +kernel
theorem dX12_lands_43 : decode cX12_lands 43 = .ok (.iload_n 2, 1) := by decide +kernel
theorem dX12_lands_44 : decode cX12_lands 44 = .ok (.iconst 1, 1) := by decide +kernel
theorem dX12_lands_45 : decode cX12_lands 45 = .ok (.iastore, 1) := by decide +kernel
theorem dX12_lands_46 : decode cX12_lands 46 = .ok (.iconst 0, 1) := by decide +kernel
theorem dX12_lands_47 : decode cX12_lands 47 = .ok (.istore_n 3, 1) := by decide +kernel
theorem dX12_lands_48 : decode cX12_lands 48 = .ok (.iload_n 3, 1) := by decide +kernel
theorem dX12_lands_49 : decode cX12_lands 49 = .ok (.aload_n 0, 1) := by decide +kernel
theorem dX12_lands_50 : decode cX12_lands 50 = .ok (.getfield 9, 3) := by decide +kernel
theorem dX12_lands_53 : decode cX12_lands 53 = .ok (.iconst 3, 1) := by decide +kernel
theorem dX12_lands_54 : decode cX12_lands 54 = .ok (.iaload, 1) := by decide +kernel
theorem dX12_lands_55 : decode cX12_lands 55 = .ok (.if_icmp .ge 38, 3) := by decide +kernel
theorem dX12_lands_58 : decode cX12_lands 58 = .ok (.iload_n 1, 1) := by decide +kernel
theorem dX12_lands_59 : decode cX12_lands 59 = .ok (.aload_n 0, 1) := by decide +kernel
theorem dX12_lands_60 : decode cX12_lands 60 = .ok (.getfield 34, 3) := by decide +kernel
theorem dX12_lands_63 : decode cX12_lands 63 = .ok (.iload_n 3, 1) := by decide +kernel
theorem dX12_lands_64 : decode cX12_lands 64 = .ok (.iaload, 1) := by decide +kernel
theorem dX12_lands_65 : decode cX12_lands 65 = .ok (.ifCond .ne 19, 3) := by decide +kernel
theorem dX12_lands_68 : decode cX12_lands 68 = .ok (.aload_n 0, 1) := by decide +kernel
theorem dX12_lands_69 : decode cX12_lands 69 = .ok (.getfield 22, 3) := by decide +kernel
theorem dX12_lands_72 : decode cX12_lands 72 = .ok (.iload_n 3, 1) := by decide +kernel
theorem dX12_lands_73 : decode cX12_lands 73 = .ok (.iaload, 1) := by decide +kernel
theorem dX12_lands_74 : decode cX12_lands 74 = .ok (.iload_n 2, 1) := by decide +kernel
theorem dX12_lands_75 : decode cX12_lands 75 = .ok (.if_icmp .ne 9, 3) := by decide +kernel
theorem dX12_lands_78 : decode cX12_lands 78 = .ok (.iconst 1, 1) := by decide +kernel
theorem dX12_lands_79 : decode cX12_lands 79 = .ok (.iload_n 3, 1) := by decide +kernel
theorem dX12_lands_80 : decode cX12_lands 80 = .ok (.ishl, 1) := by decide +kernel
theorem dX12_lands_81 : decode cX12_lands 81 = .ok (.goto 4, 3) := by decide +kernel
theorem dX12_lands_84 : decode cX12_lands 84 = .ok (.iconst 0, 1) := by decide +kernel
theorem dX12_lands_85 : decode cX12_lands 85 = .ok (.ior, 1) := by decide +kernel
theorem dX12_lands_86 : decode cX12_lands 86 = .ok (.istore_n 1, 1) := by decide +kernel
theorem dX12_lands_87 : decode cX12_lands 87 = .ok (.iinc 3 1, 3) := by decide +kernel
theorem dX12_lands_90 : decode cX12_lands 90 = .ok (.goto (-42), 3) := by decide +kernel
theorem dX12_lands_93 : decode cX12_lands 93 = .ok (.iinc 2 1, 3) := by decide +kernel
theorem dX12_lands_96 : decode cX12_lands 96 = .ok (.goto (-92), 3) := by decide +kernel
theorem dX12_lands_99 : decode cX12_lands 99 = .ok (.aload_n 0, 1) := by decide +kernel
theorem dX12_lands_100 : decode cX12_lands 100 = .ok (.iload_n 1, 1) := by decide +kernel
theorem dX12_lands_101 : decode cX12_lands 101 = .ok (.iconst 1, 1) := by decide +kernel
theorem dX12_lands_102 : decode cX12_lands 102 = .ok (.invokevirtual 456, 3) := by decide +kernel
theorem dX12_lands_105 : decode cX12_lands 105 = .ok (.pop, 1) := by decide +kernel
theorem dX12_lands_106 : decode cX12_lands 106 = .ok (.iconst 0, 1) := by decide +kernel
theorem dX12_lands_107 : decode cX12_lands 107 = .ok (.istore_n 2, 1) := by decide +kernel
theorem dX12_lands_108 : decode cX12_lands 108 = .ok (.iload_n 2, 1) := by decide +kernel
theorem dX12_lands_109 : decode cX12_lands 109 = .ok (.aload_n 0, 1) := by decide +kernel
theorem dX12_lands_110 : decode cX12_lands 110 = .ok (.getfield 9, 3) := by decide +kernel
theorem dX12_lands_113 : decode cX12_lands 113 = .ok (.iconst 3, 1) := by decide +kernel
theorem dX12_lands_114 : decode cX12_lands 114 = .ok (.iaload, 1) := by decide +kernel
theorem dX12_lands_115 : decode cX12_lands 115 = .ok (.if_icmp .ge 33, 3) := by decide +kernel
theorem dX12_lands_118 : decode cX12_lands 118 = .ok (.aload_n 0, 1) := by decide +kernel
theorem dX12_lands_119 : decode cX12_lands 119 = .ok (.getfield 34, 3) := by decide +kernel
theorem dX12_lands_122 : decode cX12_lands 122 = .ok (.iload_n 2, 1) := by decide +kernel
theorem dX12_lands_123 : decode cX12_lands 123 = .ok (.iload_n 1, 1) := by decide +kernel
theorem dX12_lands_124 : decode cX12_lands 124 = .ok (.iload_n 2, 1) := by decide +kernel
theorem dX12_lands_125 : decode cX12_lands 125 = .ok (.invokestatic 390, 3) := by decide +kernel
theorem dX12_lands_128 : decode cX12_lands 128 = .ok (.ifCond .eq 7, 3) := by decide +kernel
theorem dX12_lands_131 : decode cX12_lands 131 = .ok (.iconst 1, 1) := by decide +kernel
theorem dX12_lands_132 : decode cX12_lands 132 = .ok (.goto 9, 3) := by decide +kernel
theorem dX12_lands_135 : decode cX12_lands 135 = .ok (.aload_n 0, 1) := by decide +kernel
theorem dX12_lands_136 : decode cX12_lands 136 = .ok (.getfield 34, 3) := by decide +kernel
theorem dX12_lands_139 : decode cX12_lands 139 = .ok (.iload_n 2, 1) := by decide +kernel
theorem dX12_lands_140 : decode cX12_lands 140 = .ok (.iaload, 1) := by decide +kernel
theorem dX12_lands_141 : decode cX12_lands 141 = .ok (.iastore, 1) := by decide +kernel
theorem dX12_lands_142 : decode cX12_lands 142 = .ok (.iinc 2 1, 3) := by decide +kernel
theorem dX12_lands_145 : decode cX12_lands 145 = .ok (.goto (-37), 3) := by decide +kernel
theorem dX12_lands_148 : decode cX12_lands 148 = .ok (.aload_n 0, 1) := by decide +kernel
theorem dX12_lands_149 : decode cX12_lands 149 = .ok (.iload_n 1, 1) := by decide +kernel
theorem dX12_lands_150 : decode cX12_lands 150 = .ok (.invokestatic 460, 3) := by decide +kernel
theorem dX12_lands_153 : decode cX12_lands 153 = .ok (.putfield 463, 3) := by decide +kernel
theorem dX12_lands_156 : decode cX12_lands 156 = .ok (.return_, 1) := by decide +kernel
theorem dX12_goesMile_0 : decode cX12_goesMile 0 = .ok (.aload_n 0, 1) := by decide +kernel
theorem dX12_goesMile_1 : decode cX12_goesMile 1 = .ok (.aload_n 0, 1) := by decide +kernel
theorem dX12_goesMile_2 : decode cX12_goesMile 2 = .ok (.aload_n 0, 1) := by decide +kernel
theorem dX12_goesMile_3 : decode cX12_goesMile 3 = .ok (.getfield 9, 3) := by decide +kernel
theorem dX12_goesMile_6 : decode cX12_goesMile 6 = .ok (.bipush 6, 2) := by decide +kernel
theorem dX12_goesMile_8 : decode cX12_goesMile 8 = .ok (.iaload, 1) := by decide +kernel
theorem dX12_goesMile_9 : decode cX12_goesMile 9 = .ok (.iconst 1, 1) := by decide +kernel
theorem dX12_goesMile_10 : decode cX12_goesMile 10 = .ok (.iadd, 1) := by decide +kernel
theorem dX12_goesMile_11 : decode cX12_goesMile 11 = .ok (.invokevirtual 433, 3) := by decide +kernel
theorem dX12_goesMile_14 : decode cX12_goesMile 14 = .ok (.invokevirtual 466, 3) := by decide +kernel
theorem dX12_goesMile_17 : decode cX12_goesMile 17 = .ok (.ireturn, 1) := by decide +kernel
theorem dX12_moves_0 : decode cX12_moves 0 = .ok (.aload_n 0, 1) := by decide +kernel
theorem dX12_moves_1 : decode cX12_moves 1 = .ok (.getfield 469, 3) := by decide +kernel
theorem dX12_moves_4 : decode cX12_moves 4 = .ok (.ifCond .eq 15, 3) := by decide +kernel
theorem dX12_moves_7 : decode cX12_moves 7 = .ok (.aload_n 0, 1) := by decide +kernel
theorem dX12_moves_8 : decode cX12_moves 8 = .ok (.getfield 136, 3) := by decide +kernel
theorem dX12_moves_11 : decode cX12_moves 11 = .ok (.aload_n 0, 1) := by decide +kernel
theorem dX12_moves_12 : decode cX12_moves 12 = .ok (.getfield 473, 3) := by decide +kernel
theorem dX12_moves_15 : decode cX12_moves 15 = .ok (.iaload, 1) := by decide +kernel
theorem dX12_moves_16 : decode cX12_moves 16 = .ok (.goto 4, 3) := by decide +kernel
theorem dX12_moves_19 : decode cX12_moves 19 = .ok (.iload_n 1, 1) := by decide +kernel
theorem dX12_moves_20 : decode cX12_moves 20 = .ok (.istore_n 2, 1) := by decide +kernel
theorem dX12_moves_21 : decode cX12_moves 21 = .ok (.aload_n 0, 1) := by decide +kernel
theorem dX12_moves_22 : decode cX12_moves 22 = .ok (.getfield 136, 3) := by decide +kernel
theorem dX12_moves_25 : decode cX12_moves 25 = .ok (.aload_n 0, 1) := by decide +kernel
theorem dX12_moves_26 : decode cX12_moves 26 = .ok (.getfield 473, 3) := by decide +kernel
theorem dX12_moves_29 : decode cX12_moves 29 = .ok (.iload_n 2, 1) := by decide +kernel
theorem dX12_moves_30 : decode cX12_moves 30 = .ok (.iastore, 1) := by decide +kernel
theorem dX12_moves_31 : decode cX12_moves 31 = .ok (.aload_n 0, 1) := by decide +kernel
theorem dX12_moves_32 : decode cX12_moves 32 = .ok (.dup, 1) := by decide +kernel
theorem dX12_moves_33 : decode cX12_moves 33 = .ok (.getfield 473, 3) := by decide +kernel
theorem dX12_moves_36 : decode cX12_moves 36 = .ok (.iconst 1, 1) := by decide +kernel
theorem dX12_moves_37 : decode cX12_moves 37 = .ok (.iadd, 1) := by decide +kernel
theorem dX12_moves_38 : decode cX12_moves 38 = .ok (.putfield 473, 3) := by decide +kernel
theorem dX12_moves_41 : decode cX12_moves 41 = .ok (.iload_n 2, 1) := by decide +kernel
theorem dX12_moves_42 : decode cX12_moves 42 = .ok (.ireturn, 1) := by decide +kernel
theorem dX12_movesRow_0 : decode cX12_movesRow 0 = .ok (.iconst 0, 1) := by decide +kernel
theorem dX12_movesRow_1 : decode cX12_movesRow 1 = .ok (.istore_n 2, 1) := by decide +kernel
theorem dX12_movesRow_2 : decode cX12_movesRow 2 = .ok (.iload_n 2, 1) := by decide +kernel
theorem dX12_movesRow_3 : decode cX12_movesRow 3 = .ok (.aload_n 1, 1) := by decide +kernel
theorem dX12_movesRow_4 : decode cX12_movesRow 4 = .ok (.arraylength, 1) := by decide +kernel
theorem dX12_movesRow_5 : decode cX12_movesRow 5 = .ok (.if_icmp .ge 19, 3) := by decide +kernel
theorem dX12_movesRow_8 : decode cX12_movesRow 8 = .ok (.aload_n 1, 1) := by decide +kernel
theorem dX12_movesRow_9 : decode cX12_movesRow 9 = .ok (.iload_n 2, 1) := by decide +kernel
theorem dX12_movesRow_10 : decode cX12_movesRow 10 = .ok (.aload_n 0, 1) := by decide +kernel
theorem dX12_movesRow_11 : decode cX12_movesRow 11 = .ok (.aload_n 1, 1) := by decide +kernel
theorem dX12_movesRow_12 : decode cX12_movesRow 12 = .ok (.iload_n 2, 1) := by decide +kernel
theorem dX12_movesRow_13 : decode cX12_movesRow 13 = .ok (.iaload, 1) := by decide +kernel
theorem dX12_movesRow_14 : decode cX12_movesRow 14 = .ok (.invokevirtual 476, 3) := by decide +kernel
theorem dX12_movesRow_17 : decode cX12_movesRow 17 = .ok (.iastore, 1) := by decide +kernel
theorem dX12_movesRow_18 : decode cX12_movesRow 18 = .ok (.iinc 2 1, 3) := by decide +kernel
theorem dX12_movesRow_21 : decode cX12_movesRow 21 = .ok (.goto (-19), 3) := by decide +kernel
theorem dX12_movesRow_24 : decode cX12_movesRow 24 = .ok (.return_, 1) := by decide +kernel
theorem dX12_movesAll_0 : decode cX12_movesAll 0 = .ok (.aload_n 0, 1) := by decide +kernel
theorem dX12_movesAll_1 : decode cX12_movesAll 1 = .ok (.bipush 77, 2) := by decide +kernel
theorem dX12_movesAll_3 : decode cX12_movesAll 3 = .ok (.iload_n 1, 1) := by decide +kernel
theorem dX12_movesAll_4 : decode cX12_movesAll 4 = .ok (.imul, 1) := by decide +kernel
theorem dX12_movesAll_5 : decode cX12_movesAll 5 = .ok (.putfield 473, 3) := by decide +kernel
theorem dX12_movesAll_8 : decode cX12_movesAll 8 = .ok (.aload_n 0, 1) := by decide +kernel
theorem dX12_movesAll_9 : decode cX12_movesAll 9 = .ok (.iload_n 2, 1) := by decide +kernel
theorem dX12_movesAll_10 : decode cX12_movesAll 10 = .ok (.putfield 469, 3) := by decide +kernel
theorem dX12_movesAll_13 : decode cX12_movesAll 13 = .ok (.aload_n 0, 1) := by decide +kernel
theorem dX12_movesAll_14 : decode cX12_movesAll 14 = .ok (.getfield 9, 3) := by decide +kernel
theorem dX12_movesAll_17 : decode cX12_movesAll 17 = .ok (.bipush 6, 2) := by decide +kernel
theorem dX12_movesAll_19 : decode cX12_movesAll 19 = .ok (.aload_n 0, 1) := by decide +kernel
theorem dX12_movesAll_20 : decode cX12_movesAll 20 = .ok (.aload_n 0, 1) := by decide +kernel
theorem dX12_movesAll_21 : decode cX12_movesAll 21 = .ok (.getfield 9, 3) := by decide +kernel
theorem dX12_movesAll_24 : decode cX12_movesAll 24 = .ok (.bipush 6, 2) := by decide +kernel
theorem dX12_movesAll_26 : decode cX12_movesAll 26 = .ok (.iaload, 1) := by decide +kernel
theorem dX12_movesAll_27 : decode cX12_movesAll 27 = .ok (.invokevirtual 476, 3) := by decide +kernel
theorem dX12_movesAll_30 : decode cX12_movesAll 30 = .ok (.iastore, 1) := by decide +kernel
theorem dX12_movesAll_31 : decode cX12_movesAll 31 = .ok (.aload_n 0, 1) := by decide +kernel
theorem dX12_movesAll_32 : decode cX12_movesAll 32 = .ok (.getfield 9, 3) := by decide +kernel
theorem dX12_movesAll_35 : decode cX12_movesAll 35 = .ok (.iconst 1, 1) := by decide +kernel
theorem dX12_movesAll_36 : decode cX12_movesAll 36 = .ok (.aload_n 0, 1) := by decide +kernel
theorem dX12_movesAll_37 : decode cX12_movesAll 37 = .ok (.aload_n 0, 1) := by decide +kernel
theorem dX12_movesAll_38 : decode cX12_movesAll 38 = .ok (.getfield 9, 3) := by decide +kernel
theorem dX12_movesAll_41 : decode cX12_movesAll 41 = .ok (.iconst 1, 1) := by decide +kernel
theorem dX12_movesAll_42 : decode cX12_movesAll 42 = .ok (.iaload, 1) := by decide +kernel
theorem dX12_movesAll_43 : decode cX12_movesAll 43 = .ok (.invokevirtual 476, 3) := by decide +kernel
theorem dX12_movesAll_46 : decode cX12_movesAll 46 = .ok (.iastore, 1) := by decide +kernel
theorem dX12_movesAll_47 : decode cX12_movesAll 47 = .ok (.aload_n 0, 1) := by decide +kernel
theorem dX12_movesAll_48 : decode cX12_movesAll 48 = .ok (.getfield 9, 3) := by decide +kernel
theorem dX12_movesAll_51 : decode cX12_movesAll 51 = .ok (.iconst 4, 1) := by decide +kernel
theorem dX12_movesAll_52 : decode cX12_movesAll 52 = .ok (.aload_n 0, 1) := by decide +kernel
theorem dX12_movesAll_53 : decode cX12_movesAll 53 = .ok (.aload_n 0, 1) := by decide +kernel
theorem dX12_movesAll_54 : decode cX12_movesAll 54 = .ok (.getfield 9, 3) := by decide +kernel
theorem dX12_movesAll_57 : decode cX12_movesAll 57 = .ok (.iconst 4, 1) := by decide +kernel
theorem dX12_movesAll_58 : decode cX12_movesAll 58 = .ok (.iaload, 1) := by decide +kernel
theorem dX12_movesAll_59 : decode cX12_movesAll 59 = .ok (.invokevirtual 476, 3) := by decide +kernel
theorem dX12_movesAll_62 : decode cX12_movesAll 62 = .ok (.iastore, 1) := by decide +kernel
theorem dX12_movesAll_63 : decode cX12_movesAll 63 = .ok (.aload_n 0, 1) := by decide +kernel
theorem dX12_movesAll_64 : decode cX12_movesAll 64 = .ok (.aload_n 0, 1) := by decide +kernel
theorem dX12_movesAll_65 : decode cX12_movesAll 65 = .ok (.getfield 19, 3) := by decide +kernel
theorem dX12_movesAll_68 : decode cX12_movesAll 68 = .ok (.invokevirtual 479, 3) := by decide +kernel
theorem dX12_movesAll_71 : decode cX12_movesAll 71 = .ok (.aload_n 0, 1) := by decide +kernel
theorem dX12_movesAll_72 : decode cX12_movesAll 72 = .ok (.aload_n 0, 1) := by decide +kernel
theorem dX12_movesAll_73 : decode cX12_movesAll 73 = .ok (.getfield 22, 3) := by decide +kernel
theorem dX12_movesAll_76 : decode cX12_movesAll 76 = .ok (.invokevirtual 479, 3) := by decide +kernel
theorem dX12_movesAll_79 : decode cX12_movesAll 79 = .ok (.aload_n 0, 1) := by decide +kernel
theorem dX12_movesAll_80 : decode cX12_movesAll 80 = .ok (.aload_n 0, 1) := by decide +kernel
theorem dX12_movesAll_81 : decode cX12_movesAll 81 = .ok (.getfield 28, 3) := by decide +kernel
theorem dX12_movesAll_84 : decode cX12_movesAll 84 = .ok (.invokevirtual 479, 3) := by decide +kernel
theorem dX12_movesAll_87 : decode cX12_movesAll 87 = .ok (.aload_n 0, 1) := by decide +kernel
theorem dX12_movesAll_88 : decode cX12_movesAll 88 = .ok (.aload_n 0, 1) := by decide +kernel
theorem dX12_movesAll_89 : decode cX12_movesAll 89 = .ok (.getfield 34, 3) := by decide +kernel
theorem dX12_movesAll_92 : decode cX12_movesAll 92 = .ok (.invokevirtual 479, 3) := by decide +kernel
theorem dX12_movesAll_95 : decode cX12_movesAll 95 = .ok (.aload_n 0, 1) := by decide +kernel
theorem dX12_movesAll_96 : decode cX12_movesAll 96 = .ok (.aload_n 0, 1) := by decide +kernel
theorem dX12_movesAll_97 : decode cX12_movesAll 97 = .ok (.getfield 37, 3) := by decide +kernel
theorem dX12_movesAll_100 : decode cX12_movesAll 100 = .ok (.invokevirtual 479, 3) := by decide +kernel
theorem dX12_movesAll_103 : decode cX12_movesAll 103 = .ok (.aload_n 0, 1) := by decide +kernel
theorem dX12_movesAll_104 : decode cX12_movesAll 104 = .ok (.aload_n 0, 1) := by decide +kernel
theorem dX12_movesAll_105 : decode cX12_movesAll 105 = .ok (.getfield 40, 3) := by decide +kernel
theorem dX12_movesAll_108 : decode cX12_movesAll 108 = .ok (.invokevirtual 479, 3) := by decide +kernel
theorem dX12_movesAll_111 : decode cX12_movesAll 111 = .ok (.aload_n 0, 1) := by decide +kernel
theorem dX12_movesAll_112 : decode cX12_movesAll 112 = .ok (.aload_n 0, 1) := by decide +kernel
theorem dX12_movesAll_113 : decode cX12_movesAll 113 = .ok (.getfield 43, 3) := by decide +kernel
theorem dX12_movesAll_116 : decode cX12_movesAll 116 = .ok (.invokevirtual 479, 3) := by decide +kernel
theorem dX12_movesAll_119 : decode cX12_movesAll 119 = .ok (.aload_n 0, 1) := by decide +kernel
theorem dX12_movesAll_120 : decode cX12_movesAll 120 = .ok (.aload_n 0, 1) := by decide +kernel
theorem dX12_movesAll_121 : decode cX12_movesAll 121 = .ok (.getfield 46, 3) := by decide +kernel
theorem dX12_movesAll_124 : decode cX12_movesAll 124 = .ok (.invokevirtual 479, 3) := by decide +kernel
theorem dX12_movesAll_127 : decode cX12_movesAll 127 = .ok (.return_, 1) := by decide +kernel
theorem dX12_keepsAct_0 : decode cX12_keepsAct 0 = .ok (.aload_n 0, 1) := by decide +kernel
theorem dX12_keepsAct_1 : decode cX12_keepsAct 1 = .ok (.getfield 359, 3) := by decide +kernel
theorem dX12_keepsAct_4 : decode cX12_keepsAct 4 = .ok (.bipush 20, 2) := by decide +kernel
theorem dX12_keepsAct_6 : decode cX12_keepsAct 6 = .ok (.if_icmp .ne 44, 3) := by decide +kernel
theorem dX12_keepsAct_9 : decode cX12_keepsAct 9 = .ok (.bipush 77, 2) := by decide +kernel
theorem dX12_keepsAct_11 : decode cX12_keepsAct 11 = .ok (.istore_n 1, 1) := by decide +kernel
theorem dX12_keepsAct_12 : decode cX12_keepsAct 12 = .ok (.iload_n 1, 1) := by decide +kernel
theorem dX12_keepsAct_13 : decode cX12_keepsAct 13 = .ok (.sipush 1540, 3) := by decide +kernel
theorem dX12_keepsAct_16 : decode cX12_keepsAct 16 = .ok (.if_icmp .ge 24, 3) := by decide +kernel
theorem dX12_keepsAct_19 : decode cX12_keepsAct 19 = .ok (.aload_n 0, 1) := by decide +kernel
theorem dX12_keepsAct_20 : decode cX12_keepsAct 20 = .ok (.getfield 136, 3) := by decide +kernel
theorem dX12_keepsAct_23 : decode cX12_keepsAct 23 = .ok (.iload_n 1, 1) := by decide +kernel
theorem dX12_keepsAct_24 : decode cX12_keepsAct 24 = .ok (.bipush 77, 2) := by decide +kernel
theorem dX12_keepsAct_26 : decode cX12_keepsAct 26 = .ok (.isub, 1) := by decide +kernel
theorem dX12_keepsAct_27 : decode cX12_keepsAct 27 = .ok (.aload_n 0, 1) := by decide +kernel
theorem dX12_keepsAct_28 : decode cX12_keepsAct 28 = .ok (.getfield 136, 3) := by decide +kernel
theorem dX12_keepsAct_31 : decode cX12_keepsAct 31 = .ok (.iload_n 1, 1) := by decide +kernel
theorem dX12_keepsAct_32 : decode cX12_keepsAct 32 = .ok (.iaload, 1) := by decide +kernel
theorem dX12_keepsAct_33 : decode cX12_keepsAct 33 = .ok (.iastore, 1) := by decide +kernel
theorem dX12_keepsAct_34 : decode cX12_keepsAct 34 = .ok (.iinc 1 1, 3) := by decide +kernel
theorem dX12_keepsAct_37 : decode cX12_keepsAct 37 = .ok (.goto (-25), 3) := by decide +kernel
theorem dX12_keepsAct_40 : decode cX12_keepsAct 40 = .ok (.aload_n 0, 1) := by decide +kernel
theorem dX12_keepsAct_41 : decode cX12_keepsAct 41 = .ok (.dup, 1) := by decide +kernel
theorem dX12_keepsAct_42 : decode cX12_keepsAct 42 = .ok (.getfield 359, 3) := by decide +kernel
theorem dX12_keepsAct_45 : decode cX12_keepsAct 45 = .ok (.iconst 1, 1) := by decide +kernel
theorem dX12_keepsAct_46 : decode cX12_keepsAct 46 = .ok (.isub, 1) := by decide +kernel
theorem dX12_keepsAct_47 : decode cX12_keepsAct 47 = .ok (.putfield 359, 3) := by decide +kernel
theorem dX12_keepsAct_50 : decode cX12_keepsAct 50 = .ok (.aload_n 0, 1) := by decide +kernel
theorem dX12_keepsAct_51 : decode cX12_keepsAct 51 = .ok (.aload_n 0, 1) := by decide +kernel
theorem dX12_keepsAct_52 : decode cX12_keepsAct 52 = .ok (.getfield 359, 3) := by decide +kernel
theorem dX12_keepsAct_55 : decode cX12_keepsAct 55 = .ok (.iconst 0, 1) := by decide +kernel
theorem dX12_keepsAct_56 : decode cX12_keepsAct 56 = .ok (.invokevirtual 483, 3) := by decide +kernel
theorem dX12_keepsAct_59 : decode cX12_keepsAct 59 = .ok (.aload_n 0, 1) := by decide +kernel
theorem dX12_keepsAct_60 : decode cX12_keepsAct 60 = .ok (.dup, 1) := by decide +kernel
theorem dX12_keepsAct_61 : decode cX12_keepsAct 61 = .ok (.getfield 359, 3) := by decide +kernel
theorem dX12_keepsAct_64 : decode cX12_keepsAct 64 = .ok (.iconst 1, 1) := by decide +kernel
theorem dX12_keepsAct_65 : decode cX12_keepsAct 65 = .ok (.iadd, 1) := by decide +kernel
theorem dX12_keepsAct_66 : decode cX12_keepsAct 66 = .ok (.putfield 359, 3) := by decide +kernel
theorem dX12_keepsAct_69 : decode cX12_keepsAct 69 = .ok (.return_, 1) := by decide +kernel
theorem dX12_undo_0 : decode cX12_undo 0 = .ok (.aload_n 0, 1) := by decide +kernel
theorem dX12_undo_1 : decode cX12_undo 1 = .ok (.getfield 359, 3) := by decide +kernel
theorem dX12_undo_4 : decode cX12_undo 4 = .ok (.ifCond .ne 6, 3) := by decide +kernel
theorem dX12_undo_7 : decode cX12_undo 7 = .ok (.bipush (-2), 2) := by decide +kernel
theorem dX12_undo_9 : decode cX12_undo 9 = .ok (.ireturn, 1) := by decide +kernel
theorem dX12_undo_10 : decode cX12_undo 10 = .ok (.aload_n 0, 1) := by decide +kernel
theorem dX12_undo_11 : decode cX12_undo 11 = .ok (.dup, 1) := by decide +kernel
theorem dX12_undo_12 : decode cX12_undo 12 = .ok (.getfield 359, 3) := by decide +kernel
theorem dX12_undo_15 : decode cX12_undo 15 = .ok (.iconst 1, 1) := by decide +kernel
theorem dX12_undo_16 : decode cX12_undo 16 = .ok (.isub, 1) := by decide +kernel
theorem dX12_undo_17 : decode cX12_undo 17 = .ok (.putfield 359, 3) := by decide +kernel
theorem dX12_undo_20 : decode cX12_undo 20 = .ok (.aload_n 0, 1) := by decide +kernel
theorem dX12_undo_21 : decode cX12_undo 21 = .ok (.aload_n 0, 1) := by decide +kernel
theorem dX12_undo_22 : decode cX12_undo 22 = .ok (.getfield 359, 3) := by decide +kernel
theorem dX12_undo_25 : decode cX12_undo 25 = .ok (.iconst 1, 1) := by decide +kernel
theorem dX12_undo_26 : decode cX12_undo 26 = .ok (.invokevirtual 483, 3) := by decide +kernel
theorem dX12_undo_29 : decode cX12_undo 29 = .ok (.aload_n 0, 1) := by decide +kernel
theorem dX12_undo_30 : decode cX12_undo 30 = .ok (.getfield 359, 3) := by decide +kernel
theorem dX12_undo_33 : decode cX12_undo 33 = .ok (.ireturn, 1) := by decide +kernel
theorem dX12_mile_0 : decode cX12_mile 0 = .ok (.aload_n 0, 1) := by decide +kernel
theorem dX12_mile_1 : decode cX12_mile 1 = .ok (.invokevirtual 430, 3) := by decide +kernel
theorem dX12_mile_4 : decode cX12_mile 4 = .ok (.ifCond .eq 10, 3) := by decide +kernel
theorem dX12_mile_7 : decode cX12_mile 7 = .ok (.aload_n 0, 1) := by decide +kernel
theorem dX12_mile_8 : decode cX12_mile 8 = .ok (.invokevirtual 487, 3) := by decide +kernel
theorem dX12_mile_11 : decode cX12_mile 11 = .ok (.ifCond .ne 5, 3) := by decide +kernel
theorem dX12_mile_14 : decode cX12_mile 14 = .ok (.iconst (-1), 1) := by decide +kernel
theorem dX12_mile_15 : decode cX12_mile 15 = .ok (.ireturn, 1) := by decide +kernel
theorem dX12_mile_16 : decode cX12_mile 16 = .ok (.aload_n 0, 1) := by decide +kernel
theorem dX12_mile_17 : decode cX12_mile 17 = .ok (.invokevirtual 490, 3) := by decide +kernel
theorem dX12_mile_20 : decode cX12_mile 20 = .ok (.aload_n 0, 1) := by decide +kernel
theorem dX12_mile_21 : decode cX12_mile 21 = .ok (.invokevirtual 493, 3) := by decide +kernel
theorem dX12_mile_24 : decode cX12_mile 24 = .ok (.ireturn, 1) := by decide +kernel
theorem dX12_bind_0 : decode cX12_bind 0 = .ok (.aload_n 0, 1) := by decide +kernel
theorem dX12_bind_1 : decode cX12_bind 1 = .ok (.iload_n 1, 1) := by decide +kernel
theorem dX12_bind_2 : decode cX12_bind 2 = .ok (.iload_n 2, 1) := by decide +kernel
theorem dX12_bind_3 : decode cX12_bind 3 = .ok (.iload_n 3, 1) := by decide +kernel
theorem dX12_bind_4 : decode cX12_bind 4 = .ok (.invokevirtual 496, 3) := by decide +kernel
theorem dX12_bind_7 : decode cX12_bind 7 = .ok (.ifCond .ne 5, 3) := by decide +kernel
theorem dX12_bind_10 : decode cX12_bind 10 = .ok (.iconst (-1), 1) := by decide +kernel
theorem dX12_bind_11 : decode cX12_bind 11 = .ok (.ireturn, 1) := by decide +kernel
theorem dX12_bind_12 : decode cX12_bind 12 = .ok (.aload_n 0, 1) := by decide +kernel
theorem dX12_bind_13 : decode cX12_bind 13 = .ok (.invokevirtual 490, 3) := by decide +kernel
theorem dX12_bind_16 : decode cX12_bind 16 = .ok (.aload_n 0, 1) := by decide +kernel
theorem dX12_bind_17 : decode cX12_bind 17 = .ok (.iload_n 1, 1) := by decide +kernel
theorem dX12_bind_18 : decode cX12_bind 18 = .ok (.iload_n 2, 1) := by decide +kernel
theorem dX12_bind_19 : decode cX12_bind 19 = .ok (.iload_n 3, 1) := by decide +kernel
theorem dX12_bind_20 : decode cX12_bind 20 = .ok (.invokevirtual 500, 3) := by decide +kernel
theorem dX12_bind_23 : decode cX12_bind 23 = .ok (.ireturn, 1) := by decide +kernel
theorem dX12_cut_0 : decode cX12_cut 0 = .ok (.aload_n 0, 1) := by decide +kernel
theorem dX12_cut_1 : decode cX12_cut 1 = .ok (.iload_n 1, 1) := by decide +kernel
theorem dX12_cut_2 : decode cX12_cut 2 = .ok (.invokevirtual 427, 3) := by decide +kernel
theorem dX12_cut_5 : decode cX12_cut 5 = .ok (.ifCond .ne 5, 3) := by decide +kernel
theorem dX12_cut_8 : decode cX12_cut 8 = .ok (.iconst (-1), 1) := by decide +kernel
theorem dX12_cut_9 : decode cX12_cut 9 = .ok (.ireturn, 1) := by decide +kernel
theorem dX12_cut_10 : decode cX12_cut 10 = .ok (.aload_n 0, 1) := by decide +kernel
theorem dX12_cut_11 : decode cX12_cut 11 = .ok (.invokevirtual 490, 3) := by decide +kernel
theorem dX12_cut_14 : decode cX12_cut 14 = .ok (.aload_n 0, 1) := by decide +kernel
theorem dX12_cut_15 : decode cX12_cut 15 = .ok (.getfield 9, 3) := by decide +kernel
theorem dX12_cut_18 : decode cX12_cut 18 = .ok (.iconst 1, 1) := by decide +kernel
theorem dX12_cut_19 : decode cX12_cut 19 = .ok (.dup2, 1) := by decide +kernel
theorem dX12_cut_20 : decode cX12_cut 20 = .ok (.iaload, 1) := by decide +kernel
theorem dX12_cut_21 : decode cX12_cut 21 = .ok (.aload_n 0, 1) := by decide +kernel
theorem dX12_cut_22 : decode cX12_cut 22 = .ok (.getfield 46, 3) := by decide +kernel
theorem dX12_cut_25 : decode cX12_cut 25 = .ok (.iload_n 1, 1) := by decide +kernel
theorem dX12_cut_26 : decode cX12_cut 26 = .ok (.iaload, 1) := by decide +kernel
theorem dX12_cut_27 : decode cX12_cut 27 = .ok (.iadd, 1) := by decide +kernel
theorem dX12_cut_28 : decode cX12_cut 28 = .ok (.iastore, 1) := by decide +kernel
theorem dX12_cut_29 : decode cX12_cut 29 = .ok (.aload_n 0, 1) := by decide +kernel
theorem dX12_cut_30 : decode cX12_cut 30 = .ok (.iload_n 1, 1) := by decide +kernel
theorem dX12_cut_31 : decode cX12_cut 31 = .ok (.invokevirtual 439, 3) := by decide +kernel
theorem dX12_cut_34 : decode cX12_cut 34 = .ok (.aload_n 0, 1) := by decide +kernel
theorem dX12_cut_35 : decode cX12_cut 35 = .ok (.getfield 9, 3) := by decide +kernel
theorem dX12_cut_38 : decode cX12_cut 38 = .ok (.iconst 1, 1) := by decide +kernel
theorem dX12_cut_39 : decode cX12_cut 39 = .ok (.iaload, 1) := by decide +kernel
theorem dX12_cut_40 : decode cX12_cut 40 = .ok (.ireturn, 1) := by decide +kernel
theorem dX12_saw_0 : decode cX12_saw 0 = .ok (.aload_n 0, 1) := by decide +kernel
theorem dX12_saw_1 : decode cX12_saw 1 = .ok (.iload_n 1, 1) := by decide +kernel
theorem dX12_saw_2 : decode cX12_saw 2 = .ok (.invokevirtual 436, 3) := by decide +kernel
theorem dX12_saw_5 : decode cX12_saw 5 = .ok (.ifCond .ne 5, 3) := by decide +kernel
theorem dX12_saw_8 : decode cX12_saw 8 = .ok (.iconst (-1), 1) := by decide +kernel
theorem dX12_saw_9 : decode cX12_saw 9 = .ok (.ireturn, 1) := by decide +kernel
theorem dX12_saw_10 : decode cX12_saw 10 = .ok (.aload_n 0, 1) := by decide +kernel
theorem dX12_saw_11 : decode cX12_saw 11 = .ok (.invokevirtual 490, 3) := by decide +kernel
theorem dX12_saw_14 : decode cX12_saw 14 = .ok (.aload_n 0, 1) := by decide +kernel
theorem dX12_saw_15 : decode cX12_saw 15 = .ok (.iconst 1, 1) := by decide +kernel
theorem dX12_saw_16 : decode cX12_saw 16 = .ok (.iload_n 1, 1) := by decide +kernel
theorem dX12_saw_17 : decode cX12_saw 17 = .ok (.ishl, 1) := by decide +kernel
theorem dX12_saw_18 : decode cX12_saw 18 = .ok (.iconst 0, 1) := by decide +kernel
theorem dX12_saw_19 : decode cX12_saw 19 = .ok (.invokevirtual 456, 3) := by decide +kernel
theorem dX12_saw_22 : decode cX12_saw 22 = .ok (.ireturn, 1) := by decide +kernel
theorem dX12_push_0 : decode cX12_push 0 = .ok (.aload_n 0, 1) := by decide +kernel
theorem dX12_push_1 : decode cX12_push 1 = .ok (.iload_n 1, 1) := by decide +kernel
theorem dX12_push_2 : decode cX12_push 2 = .ok (.invokevirtual 436, 3) := by decide +kernel
theorem dX12_push_5 : decode cX12_push 5 = .ok (.ifCond .eq 21, 3) := by decide +kernel
theorem dX12_push_8 : decode cX12_push 8 = .ok (.aload_n 0, 1) := by decide +kernel
theorem dX12_push_9 : decode cX12_push 9 = .ok (.iload_n 2, 1) := by decide +kernel
theorem dX12_push_10 : decode cX12_push 10 = .ok (.invokevirtual 418, 3) := by decide +kernel
theorem dX12_push_13 : decode cX12_push 13 = .ok (.ifCond .eq 13, 3) := by decide +kernel
theorem dX12_push_16 : decode cX12_push 16 = .ok (.aload_n 0, 1) := by decide +kernel
theorem dX12_push_17 : decode cX12_push 17 = .ok (.getfield 22, 3) := by decide +kernel
theorem dX12_push_20 : decode cX12_push 20 = .ok (.iload_n 1, 1) := by decide +kernel
theorem dX12_push_21 : decode cX12_push 21 = .ok (.iaload, 1) := by decide +kernel
theorem dX12_push_22 : decode cX12_push 22 = .ok (.iload_n 2, 1) := by decide +kernel
theorem dX12_push_23 : decode cX12_push 23 = .ok (.if_icmp .ne 5, 3) := by decide +kernel
theorem dX12_push_26 : decode cX12_push 26 = .ok (.iconst (-1), 1) := by decide +kernel
theorem dX12_push_27 : decode cX12_push 27 = .ok (.ireturn, 1) := by decide +kernel
theorem dX12_push_28 : decode cX12_push 28 = .ok (.aload_n 0, 1) := by decide +kernel
theorem dX12_push_29 : decode cX12_push 29 = .ok (.invokevirtual 490, 3) := by decide +kernel
theorem dX12_push_32 : decode cX12_push 32 = .ok (.aload_n 0, 1) := by decide +kernel
theorem dX12_push_33 : decode cX12_push 33 = .ok (.getfield 22, 3) := by decide +kernel
theorem dX12_push_36 : decode cX12_push 36 = .ok (.iload_n 1, 1) := by decide +kernel
theorem dX12_push_37 : decode cX12_push 37 = .ok (.iaload, 1) := by decide +kernel
theorem dX12_push_38 : decode cX12_push 38 = .ok (.istore_n 3, 1) := by decide +kernel
theorem dX12_push_39 : decode cX12_push 39 = .ok (.aload_n 0, 1) := by decide +kernel
theorem dX12_push_40 : decode cX12_push 40 = .ok (.getfield 22, 3) := by decide +kernel
theorem dX12_push_43 : decode cX12_push 43 = .ok (.iload_n 1, 1) := by decide +kernel
theorem dX12_push_44 : decode cX12_push 44 = .ok (.iload_n 2, 1) := by decide +kernel
theorem dX12_push_45 : decode cX12_push 45 = .ok (.iastore, 1) := by decide +kernel
theorem dX12_push_46 : decode cX12_push 46 = .ok (.iload_n 3, 1) := by decide +kernel
theorem dX12_push_47 : decode cX12_push 47 = .ok (.ireturn, 1) := by decide +kernel
theorem dX12_asks_0 : decode cX12_asks 0 = .ok (.iconst 0, 1) := by decide +kernel
theorem dX12_asks_1 : decode cX12_asks 1 = .ok (.istore_n 3, 1) := by decide +kernel
theorem dX12_asks_2 : decode cX12_asks 2 = .ok (.iconst 0, 1) := by decide +kernel
theorem dX12_asks_3 : decode cX12_asks 3 = .ok (.istore 4, 2) := by decide +kernel
theorem dX12_asks_5 : decode cX12_asks 5 = .ok (.iload 4, 2) := by decide +kernel
theorem dX12_asks_7 : decode cX12_asks 7 = .ok (.aload_n 0, 1) := by decide +kernel
theorem dX12_asks_8 : decode cX12_asks 8 = .ok (.getfield 9, 3) := by decide +kernel
theorem dX12_asks_11 : decode cX12_asks 11 = .ok (.iconst 4, 1) := by decide +kernel
theorem dX12_asks_12 : decode cX12_asks 12 = .ok (.iaload, 1) := by decide +kernel
theorem dX12_asks_13 : decode cX12_asks 13 = .ok (.if_icmp .ge 61, 3) := by decide +kernel
theorem dX12_asks_16 : decode cX12_asks 16 = .ok (.iload_n 3, 1) := by decide +kernel
theorem dX12_asks_17 : decode cX12_asks 17 = .ok (.aload_n 0, 1) := by decide +kernel
theorem dX12_asks_18 : decode cX12_asks 18 = .ok (.getfield 40, 3) := by decide +kernel
theorem dX12_asks_21 : decode cX12_asks 21 = .ok (.iload 4, 2) := by decide +kernel
theorem dX12_asks_23 : decode cX12_asks 23 = .ok (.iaload, 1) := by decide +kernel
theorem dX12_asks_24 : decode cX12_asks 24 = .ok (.iload_n 1, 1) := by decide +kernel
theorem dX12_asks_25 : decode cX12_asks 25 = .ok (.if_icmp .eq 36, 3) := by decide +kernel
theorem dX12_asks_28 : decode cX12_asks 28 = .ok (.aload_n 0, 1) := by decide +kernel
theorem dX12_asks_29 : decode cX12_asks 29 = .ok (.getfield 43, 3) := by decide +kernel
theorem dX12_asks_32 : decode cX12_asks 32 = .ok (.iload 4, 2) := by decide +kernel
theorem dX12_asks_34 : decode cX12_asks 34 = .ok (.iaload, 1) := by decide +kernel
theorem dX12_asks_35 : decode cX12_asks 35 = .ok (.iload_n 1, 1) := by decide +kernel
theorem dX12_asks_36 : decode cX12_asks 36 = .ok (.if_icmp .eq 25, 3) := by decide +kernel
theorem dX12_asks_39 : decode cX12_asks 39 = .ok (.aload_n 0, 1) := by decide +kernel
theorem dX12_asks_40 : decode cX12_asks 40 = .ok (.getfield 40, 3) := by decide +kernel
theorem dX12_asks_43 : decode cX12_asks 43 = .ok (.iload 4, 2) := by decide +kernel
theorem dX12_asks_45 : decode cX12_asks 45 = .ok (.iaload, 1) := by decide +kernel
theorem dX12_asks_46 : decode cX12_asks 46 = .ok (.iload_n 2, 1) := by decide +kernel
theorem dX12_asks_47 : decode cX12_asks 47 = .ok (.if_icmp .eq 14, 3) := by decide +kernel
theorem dX12_asks_50 : decode cX12_asks 50 = .ok (.aload_n 0, 1) := by decide +kernel
theorem dX12_asks_51 : decode cX12_asks 51 = .ok (.getfield 43, 3) := by decide +kernel
theorem dX12_asks_54 : decode cX12_asks 54 = .ok (.iload 4, 2) := by decide +kernel
theorem dX12_asks_56 : decode cX12_asks 56 = .ok (.iaload, 1) := by decide +kernel
theorem dX12_asks_57 : decode cX12_asks 57 = .ok (.iload_n 2, 1) := by decide +kernel
theorem dX12_asks_58 : decode cX12_asks 58 = .ok (.if_icmp .ne 7, 3) := by decide +kernel
theorem dX12_asks_61 : decode cX12_asks 61 = .ok (.iconst 1, 1) := by decide +kernel
theorem dX12_asks_62 : decode cX12_asks 62 = .ok (.goto 4, 3) := by decide +kernel
theorem dX12_asks_65 : decode cX12_asks 65 = .ok (.iconst 0, 1) := by decide +kernel
theorem dX12_asks_66 : decode cX12_asks 66 = .ok (.iadd, 1) := by decide +kernel
theorem dX12_asks_67 : decode cX12_asks 67 = .ok (.istore_n 3, 1) := by decide +kernel
theorem dX12_asks_68 : decode cX12_asks 68 = .ok (.iinc 4 1, 3) := by decide +kernel
theorem dX12_asks_71 : decode cX12_asks 71 = .ok (.goto (-66), 3) := by decide +kernel
theorem dX12_asks_74 : decode cX12_asks 74 = .ok (.aload_n 0, 1) := by decide +kernel
theorem dX12_asks_75 : decode cX12_asks 75 = .ok (.getfield 129, 3) := by decide +kernel
theorem dX12_asks_78 : decode cX12_asks 78 = .ok (.iconst 0, 1) := by decide +kernel
theorem dX12_asks_79 : decode cX12_asks 79 = .ok (.iload_n 1, 1) := by decide +kernel
theorem dX12_asks_80 : decode cX12_asks 80 = .ok (.i2l, 1) := by decide +kernel
theorem dX12_asks_81 : decode cX12_asks 81 = .ok (.lastore, 1) := by decide +kernel
theorem dX12_asks_82 : decode cX12_asks 82 = .ok (.aload_n 0, 1) := by decide +kernel
theorem dX12_asks_83 : decode cX12_asks 83 = .ok (.getfield 129, 3) := by decide +kernel
theorem dX12_asks_86 : decode cX12_asks 86 = .ok (.iconst 1, 1) := by decide +kernel
theorem dX12_asks_87 : decode cX12_asks 87 = .ok (.iload_n 2, 1) := by decide +kernel
theorem dX12_asks_88 : decode cX12_asks 88 = .ok (.i2l, 1) := by decide +kernel
theorem dX12_asks_89 : decode cX12_asks 89 = .ok (.lastore, 1) := by decide +kernel
theorem dX12_asks_90 : decode cX12_asks 90 = .ok (.aload_n 0, 1) := by decide +kernel
theorem dX12_asks_91 : decode cX12_asks 91 = .ok (.getfield 129, 3) := by decide +kernel
theorem dX12_asks_94 : decode cX12_asks 94 = .ok (.iconst 2, 1) := by decide +kernel
theorem dX12_asks_95 : decode cX12_asks 95 = .ok (.aload_n 0, 1) := by decide +kernel
theorem dX12_asks_96 : decode cX12_asks 96 = .ok (.getfield 28, 3) := by decide +kernel
theorem dX12_asks_99 : decode cX12_asks 99 = .ok (.iload_n 1, 1) := by decide +kernel
theorem dX12_asks_100 : decode cX12_asks 100 = .ok (.iaload, 1) := by decide +kernel
theorem dX12_asks_101 : decode cX12_asks 101 = .ok (.aload_n 0, 1) := by decide +kernel
theorem dX12_asks_102 : decode cX12_asks 102 = .ok (.getfield 28, 3) := by decide +kernel
theorem dX12_asks_105 : decode cX12_asks 105 = .ok (.iload_n 2, 1) := by decide +kernel
theorem dX12_asks_106 : decode cX12_asks 106 = .ok (.iaload, 1) := by decide +kernel
theorem dX12_asks_107 : decode cX12_asks 107 = .ok (.iadd, 1) := by decide +kernel
theorem dX12_asks_108 : decode cX12_asks 108 = .ok (.i2l, 1) := by decide +kernel
theorem dX12_asks_109 : decode cX12_asks 109 = .ok (.lastore, 1) := by decide +kernel
theorem dX12_asks_110 : decode cX12_asks 110 = .ok (.aload_n 0, 1) := by decide +kernel
theorem dX12_asks_111 : decode cX12_asks 111 = .ok (.getfield 129, 3) := by decide +kernel
theorem dX12_asks_114 : decode cX12_asks 114 = .ok (.iconst 3, 1) := by decide +kernel
theorem dX12_asks_115 : decode cX12_asks 115 = .ok (.aload_n 0, 1) := by decide +kernel
theorem dX12_asks_116 : decode cX12_asks 116 = .ok (.getfield 25, 3) := by decide +kernel
theorem dX12_asks_119 : decode cX12_asks 119 = .ok (.iload_n 1, 1) := by decide +kernel
theorem dX12_asks_120 : decode cX12_asks 120 = .ok (.iaload, 1) := by decide +kernel
theorem dX12_asks_121 : decode cX12_asks 121 = .ok (.aload_n 0, 1) := by decide +kernel
theorem dX12_asks_122 : decode cX12_asks 122 = .ok (.getfield 25, 3) := by decide +kernel
theorem dX12_asks_125 : decode cX12_asks 125 = .ok (.iload_n 2, 1) := by decide +kernel
theorem dX12_asks_126 : decode cX12_asks 126 = .ok (.iaload, 1) := by decide +kernel
theorem dX12_asks_127 : decode cX12_asks 127 = .ok (.iadd, 1) := by decide +kernel
theorem dX12_asks_128 : decode cX12_asks 128 = .ok (.i2l, 1) := by decide +kernel
theorem dX12_asks_129 : decode cX12_asks 129 = .ok (.lastore, 1) := by decide +kernel
theorem dX12_asks_130 : decode cX12_asks 130 = .ok (.aload_n 0, 1) := by decide +kernel
theorem dX12_asks_131 : decode cX12_asks 131 = .ok (.getfield 129, 3) := by decide +kernel
theorem dX12_asks_134 : decode cX12_asks 134 = .ok (.iconst 4, 1) := by decide +kernel
theorem dX12_asks_135 : decode cX12_asks 135 = .ok (.aload_n 0, 1) := by decide +kernel
theorem dX12_asks_136 : decode cX12_asks 136 = .ok (.getfield 31, 3) := by decide +kernel
theorem dX12_asks_139 : decode cX12_asks 139 = .ok (.iload_n 1, 1) := by decide +kernel
theorem dX12_asks_140 : decode cX12_asks 140 = .ok (.iaload, 1) := by decide +kernel
theorem dX12_asks_141 : decode cX12_asks 141 = .ok (.aload_n 0, 1) := by decide +kernel
theorem dX12_asks_142 : decode cX12_asks 142 = .ok (.getfield 31, 3) := by decide +kernel
theorem dX12_asks_145 : decode cX12_asks 145 = .ok (.iload_n 2, 1) := by decide +kernel
theorem dX12_asks_146 : decode cX12_asks 146 = .ok (.iaload, 1) := by decide +kernel
theorem dX12_asks_147 : decode cX12_asks 147 = .ok (.iadd, 1) := by decide +kernel
theorem dX12_asks_148 : decode cX12_asks 148 = .ok (.i2l, 1) := by decide +kernel
theorem dX12_asks_149 : decode cX12_asks 149 = .ok (.lastore, 1) := by decide +kernel
theorem dX12_asks_150 : decode cX12_asks 150 = .ok (.aload_n 0, 1) := by decide +kernel
theorem dX12_asks_151 : decode cX12_asks 151 = .ok (.getfield 129, 3) := by decide +kernel
theorem dX12_asks_154 : decode cX12_asks 154 = .ok (.iconst 5, 1) := by decide +kernel
theorem dX12_asks_155 : decode cX12_asks 155 = .ok (.aload_n 0, 1) := by decide +kernel
theorem dX12_asks_156 : decode cX12_asks 156 = .ok (.getfield 22, 3) := by decide +kernel
theorem dX12_asks_159 : decode cX12_asks 159 = .ok (.iload_n 1, 1) := by decide +kernel
theorem dX12_asks_160 : decode cX12_asks 160 = .ok (.iaload, 1) := by decide +kernel
theorem dX12_asks_161 : decode cX12_asks 161 = .ok (.aload_n 0, 1) := by decide +kernel
theorem dX12_asks_162 : decode cX12_asks 162 = .ok (.getfield 22, 3) := by decide +kernel
theorem dX12_asks_165 : decode cX12_asks 165 = .ok (.iload_n 2, 1) := by decide +kernel
theorem dX12_asks_166 : decode cX12_asks 166 = .ok (.iaload, 1) := by decide +kernel
theorem dX12_asks_167 : decode cX12_asks 167 = .ok (.if_icmp .ne 7, 3) := by decide +kernel
theorem dX12_asks_170 : decode cX12_asks 170 = .ok (.lconst 1, 1) := by decide +kernel
theorem dX12_asks_171 : decode cX12_asks 171 = .ok (.goto 4, 3) := by decide +kernel
theorem dX12_asks_174 : decode cX12_asks 174 = .ok (.lconst 0, 1) := by decide +kernel
theorem dX12_asks_175 : decode cX12_asks 175 = .ok (.lastore, 1) := by decide +kernel
theorem dX12_asks_176 : decode cX12_asks 176 = .ok (.aload_n 0, 1) := by decide +kernel
theorem dX12_asks_177 : decode cX12_asks 177 = .ok (.getfield 129, 3) := by decide +kernel
theorem dX12_asks_180 : decode cX12_asks 180 = .ok (.bipush 6, 2) := by decide +kernel
theorem dX12_asks_182 : decode cX12_asks 182 = .ok (.aload_n 0, 1) := by decide +kernel
theorem dX12_asks_183 : decode cX12_asks 183 = .ok (.iload_n 1, 1) := by decide +kernel
theorem dX12_asks_184 : decode cX12_asks 184 = .ok (.invokevirtual 424, 3) := by decide +kernel
theorem dX12_asks_187 : decode cX12_asks 187 = .ok (.iload_n 2, 1) := by decide +kernel
theorem dX12_asks_188 : decode cX12_asks 188 = .ok (.invokestatic 390, 3) := by decide +kernel
theorem dX12_asks_191 : decode cX12_asks 191 = .ok (.ifCond .eq 7, 3) := by decide +kernel
theorem dX12_asks_194 : decode cX12_asks 194 = .ok (.lconst 0, 1) := by decide +kernel
theorem dX12_asks_195 : decode cX12_asks 195 = .ok (.goto 4, 3) := by decide +kernel
theorem dX12_asks_198 : decode cX12_asks 198 = .ok (.lconst 1, 1) := by decide +kernel
theorem dX12_asks_199 : decode cX12_asks 199 = .ok (.lastore, 1) := by decide +kernel
theorem dX12_asks_200 : decode cX12_asks 200 = .ok (.aload_n 0, 1) := by decide +kernel
theorem dX12_asks_201 : decode cX12_asks 201 = .ok (.getfield 129, 3) := by decide +kernel
theorem dX12_asks_204 : decode cX12_asks 204 = .ok (.bipush 7, 2) := by decide +kernel
theorem dX12_asks_206 : decode cX12_asks 206 = .ok (.iload_n 3, 1) := by decide +kernel
theorem dX12_asks_207 : decode cX12_asks 207 = .ok (.i2l, 1) := by decide +kernel
theorem dX12_asks_208 : decode cX12_asks 208 = .ok (.lastore, 1) := by decide +kernel
theorem dX12_asks_209 : decode cX12_asks 209 = .ok (.aload_n 0, 1) := by decide +kernel
theorem dX12_asks_210 : decode cX12_asks 210 = .ok (.getfield 129, 3) := by decide +kernel
theorem dX12_asks_213 : decode cX12_asks 213 = .ok (.bipush 8, 2) := by decide +kernel
theorem dX12_asks_215 : decode cX12_asks 215 = .ok (.aload_n 0, 1) := by decide +kernel
theorem dX12_asks_216 : decode cX12_asks 216 = .ok (.getfield 9, 3) := by decide +kernel
theorem dX12_asks_219 : decode cX12_asks 219 = .ok (.iconst 1, 1) := by decide +kernel
theorem dX12_asks_220 : decode cX12_asks 220 = .ok (.iaload, 1) := by decide +kernel
theorem dX12_asks_221 : decode cX12_asks 221 = .ok (.i2l, 1) := by decide +kernel
theorem dX12_asks_222 : decode cX12_asks 222 = .ok (.lastore, 1) := by decide +kernel
theorem dX12_asks_223 : decode cX12_asks 223 = .ok (.aload_n 0, 1) := by decide +kernel
theorem dX12_asks_224 : decode cX12_asks 224 = .ok (.getfield 129, 3) := by decide +kernel
theorem dX12_asks_227 : decode cX12_asks 227 = .ok (.bipush 9, 2) := by decide +kernel
theorem dX12_asks_229 : decode cX12_asks 229 = .ok (.aload_n 0, 1) := by decide +kernel
theorem dX12_asks_230 : decode cX12_asks 230 = .ok (.getfield 9, 3) := by decide +kernel
theorem dX12_asks_233 : decode cX12_asks 233 = .ok (.bipush 6, 2) := by decide +kernel
theorem dX12_asks_235 : decode cX12_asks 235 = .ok (.iaload, 1) := by decide +kernel
theorem dX12_asks_236 : decode cX12_asks 236 = .ok (.i2l, 1) := by decide +kernel
theorem dX12_asks_237 : decode cX12_asks 237 = .ok (.lastore, 1) := by decide +kernel
theorem dX12_asks_238 : decode cX12_asks 238 = .ok (.aload_n 0, 1) := by decide +kernel
theorem dX12_asks_239 : decode cX12_asks 239 = .ok (.getfield 129, 3) := by decide +kernel
theorem dX12_asks_242 : decode cX12_asks 242 = .ok (.bipush 10, 2) := by decide +kernel
theorem dX12_asks_244 : decode cX12_asks 244 = .ok (.aload_n 0, 1) := by decide +kernel
theorem dX12_asks_245 : decode cX12_asks 245 = .ok (.getfield 13, 3) := by decide +kernel
theorem dX12_asks_248 : decode cX12_asks 248 = .ok (.aload_n 0, 1) := by decide +kernel
theorem dX12_asks_249 : decode cX12_asks 249 = .ok (.getfield 22, 3) := by decide +kernel
theorem dX12_asks_252 : decode cX12_asks 252 = .ok (.iload_n 1, 1) := by decide +kernel
theorem dX12_asks_253 : decode cX12_asks 253 = .ok (.iaload, 1) := by decide +kernel
theorem dX12_asks_254 : decode cX12_asks 254 = .ok (.iaload, 1) := by decide +kernel
theorem dX12_asks_255 : decode cX12_asks 255 = .ok (.aload_n 0, 1) := by decide +kernel
theorem dX12_asks_256 : decode cX12_asks 256 = .ok (.getfield 13, 3) := by decide +kernel
theorem dX12_asks_259 : decode cX12_asks 259 = .ok (.aload_n 0, 1) := by decide +kernel
theorem dX12_asks_260 : decode cX12_asks 260 = .ok (.getfield 22, 3) := by decide +kernel
theorem dX12_asks_263 : decode cX12_asks 263 = .ok (.iload_n 2, 1) := by decide +kernel
theorem dX12_asks_264 : decode cX12_asks 264 = .ok (.iaload, 1) := by decide +kernel
theorem dX12_asks_265 : decode cX12_asks 265 = .ok (.iaload, 1) := by decide +kernel
theorem dX12_asks_266 : decode cX12_asks 266 = .ok (.if_icmp .ge 18, 3) := by decide +kernel
theorem dX12_asks_269 : decode cX12_asks 269 = .ok (.aload_n 0, 1) := by decide +kernel
theorem dX12_asks_270 : decode cX12_asks 270 = .ok (.getfield 13, 3) := by decide +kernel
theorem dX12_asks_273 : decode cX12_asks 273 = .ok (.aload_n 0, 1) := by decide +kernel
theorem dX12_asks_274 : decode cX12_asks 274 = .ok (.getfield 22, 3) := by decide +kernel
theorem dX12_asks_277 : decode cX12_asks 277 = .ok (.iload_n 1, 1) := by decide +kernel
theorem dX12_asks_278 : decode cX12_asks 278 = .ok (.iaload, 1) := by decide +kernel
theorem dX12_asks_279 : decode cX12_asks 279 = .ok (.iaload, 1) := by decide +kernel
theorem dX12_asks_280 : decode cX12_asks 280 = .ok (.i2l, 1) := by decide +kernel
theorem dX12_asks_281 : decode cX12_asks 281 = .ok (.goto 15, 3) := by decide +kernel
theorem dX12_asks_284 : decode cX12_asks 284 = .ok (.aload_n 0, 1) := by decide +kernel
theorem dX12_asks_285 : decode cX12_asks 285 = .ok (.getfield 13, 3) := by decide +kernel
theorem dX12_asks_288 : decode cX12_asks 288 = .ok (.aload_n 0, 1) := by decide +kernel
theorem dX12_asks_289 : decode cX12_asks 289 = .ok (.getfield 22, 3) := by decide +kernel
theorem dX12_asks_292 : decode cX12_asks 292 = .ok (.iload_n 2, 1) := by decide +kernel
theorem dX12_asks_293 : decode cX12_asks 293 = .ok (.iaload, 1) := by decide +kernel
theorem dX12_asks_294 : decode cX12_asks 294 = .ok (.iaload, 1) := by decide +kernel
theorem dX12_asks_295 : decode cX12_asks 295 = .ok (.i2l, 1) := by decide +kernel
theorem dX12_asks_296 : decode cX12_asks 296 = .ok (.lastore, 1) := by decide +kernel
theorem dX12_asks_297 : decode cX12_asks 297 = .ok (.aload_n 0, 1) := by decide +kernel
theorem dX12_asks_298 : decode cX12_asks 298 = .ok (.getfield 129, 3) := by decide +kernel
theorem dX12_asks_301 : decode cX12_asks 301 = .ok (.bipush 11, 2) := by decide +kernel
theorem dX12_asks_303 : decode cX12_asks 303 = .ok (.aload_n 0, 1) := by decide +kernel
theorem dX12_asks_304 : decode cX12_asks 304 = .ok (.invokevirtual 393, 3) := by decide +kernel
theorem dX12_asks_307 : decode cX12_asks 307 = .ok (.invokestatic 460, 3) := by decide +kernel
theorem dX12_asks_310 : decode cX12_asks 310 = .ok (.i2l, 1) := by decide +kernel
theorem dX12_asks_311 : decode cX12_asks 311 = .ok (.lastore, 1) := by decide +kernel
theorem dX12_asks_312 : decode cX12_asks 312 = .ok (.return_, 1) := by decide +kernel
theorem dX12_tiesBy_0 : decode cX12_tiesBy 0 = .ok (.iconst (-1), 1) := by decide +kernel
theorem dX12_tiesBy_1 : decode cX12_tiesBy 1 = .ok (.istore_n 3, 1) := by decide +kernel
theorem dX12_tiesBy_2 : decode cX12_tiesBy 2 = .ok (.iconst (-1), 1) := by decide +kernel
theorem dX12_tiesBy_3 : decode cX12_tiesBy 3 = .ok (.istore 4, 2) := by decide +kernel
theorem dX12_tiesBy_5 : decode cX12_tiesBy 5 = .ok (.lconst 0, 1) := by decide +kernel
theorem dX12_tiesBy_6 : decode cX12_tiesBy 6 = .ok (.lstore 5, 2) := by decide +kernel
theorem dX12_tiesBy_8 : decode cX12_tiesBy 8 = .ok (.iconst 0, 1) := by decide +kernel
theorem dX12_tiesBy_9 : decode cX12_tiesBy 9 = .ok (.istore 7, 2) := by decide +kernel
theorem dX12_tiesBy_11 : decode cX12_tiesBy 11 = .ok (.iload 7, 2) := by decide +kernel
theorem dX12_tiesBy_13 : decode cX12_tiesBy 13 = .ok (.aload_n 0, 1) := by decide +kernel
theorem dX12_tiesBy_14 : decode cX12_tiesBy 14 = .ok (.getfield 9, 3) := by decide +kernel
theorem dX12_tiesBy_17 : decode cX12_tiesBy 17 = .ok (.iconst 3, 1) := by decide +kernel
theorem dX12_tiesBy_18 : decode cX12_tiesBy 18 = .ok (.iaload, 1) := by decide +kernel
theorem dX12_tiesBy_19 : decode cX12_tiesBy 19 = .ok (.if_icmp .ge 78, 3) := by decide +kernel
theorem dX12_tiesBy_22 : decode cX12_tiesBy 22 = .ok (.iload 7, 2) := by decide +kernel
theorem dX12_tiesBy_24 : decode cX12_tiesBy 24 = .ok (.iconst 1, 1) := by decide +kernel
theorem dX12_tiesBy_25 : decode cX12_tiesBy 25 = .ok (.iadd, 1) := by decide +kernel
theorem dX12_tiesBy_26 : decode cX12_tiesBy 26 = .ok (.istore 8, 2) := by decide +kernel
theorem dX12_tiesBy_28 : decode cX12_tiesBy 28 = .ok (.iload 8, 2) := by decide +kernel
theorem dX12_tiesBy_30 : decode cX12_tiesBy 30 = .ok (.aload_n 0, 1) := by decide +kernel
theorem dX12_tiesBy_31 : decode cX12_tiesBy 31 = .ok (.getfield 9, 3) := by decide +kernel
theorem dX12_tiesBy_34 : decode cX12_tiesBy 34 = .ok (.iconst 3, 1) := by decide +kernel
theorem dX12_tiesBy_35 : decode cX12_tiesBy 35 = .ok (.iaload, 1) := by decide +kernel
theorem dX12_tiesBy_36 : decode cX12_tiesBy 36 = .ok (.if_icmp .ge 55, 3) := by decide +kernel
theorem dX12_tiesBy_39 : decode cX12_tiesBy 39 = .ok (.aload_n 0, 1) := by decide +kernel
theorem dX12_tiesBy_40 : decode cX12_tiesBy 40 = .ok (.iload 7, 2) := by decide +kernel
theorem dX12_tiesBy_42 : decode cX12_tiesBy 42 = .ok (.iload 8, 2) := by decide +kernel
theorem dX12_tiesBy_44 : decode cX12_tiesBy 44 = .ok (.iload_n 2, 1) := by decide +kernel
theorem dX12_tiesBy_45 : decode cX12_tiesBy 45 = .ok (.invokevirtual 496, 3) := by decide +kernel
theorem dX12_tiesBy_48 : decode cX12_tiesBy 48 = .ok (.ifCond .eq 37, 3) := by decide +kernel
theorem dX12_tiesBy_51 : decode cX12_tiesBy 51 = .ok (.aload_n 0, 1) := by decide +kernel
theorem dX12_tiesBy_52 : decode cX12_tiesBy 52 = .ok (.iload 7, 2) := by decide +kernel
theorem dX12_tiesBy_54 : decode cX12_tiesBy 54 = .ok (.iload 8, 2) := by decide +kernel
theorem dX12_tiesBy_56 : decode cX12_tiesBy 56 = .ok (.invokevirtual 503, 3) := by decide +kernel
theorem dX12_tiesBy_59 : decode cX12_tiesBy 59 = .ok (.aload_n 0, 1) := by decide +kernel
theorem dX12_tiesBy_60 : decode cX12_tiesBy 60 = .ok (.iload_n 1, 1) := by decide +kernel
theorem dX12_tiesBy_61 : decode cX12_tiesBy 61 = .ok (.invokevirtual 506, 3) := by decide +kernel
theorem dX12_tiesBy_64 : decode cX12_tiesBy 64 = .ok (.lstore 9, 2) := by decide +kernel
theorem dX12_tiesBy_66 : decode cX12_tiesBy 66 = .ok (.lload 9, 2) := by decide +kernel
theorem dX12_tiesBy_68 : decode cX12_tiesBy 68 = .ok (.lload 5, 2) := by decide +kernel
theorem dX12_tiesBy_70 : decode cX12_tiesBy 70 = .ok (.lcmp, 1) := by decide +kernel
theorem dX12_tiesBy_71 : decode cX12_tiesBy 71 = .ok (.ifCond .le 14, 3) := by decide +kernel
theorem dX12_tiesBy_74 : decode cX12_tiesBy 74 = .ok (.lload 9, 2) := by decide +kernel
theorem dX12_tiesBy_76 : decode cX12_tiesBy 76 = .ok (.lstore 5, 2) := by decide +kernel
theorem dX12_tiesBy_78 : decode cX12_tiesBy 78 = .ok (.iload 7, 2) := by decide +kernel
theorem dX12_tiesBy_80 : decode cX12_tiesBy 80 = .ok (.istore_n 3, 1) := by decide +kernel
theorem dX12_tiesBy_81 : decode cX12_tiesBy 81 = .ok (.iload 8, 2) := by decide +kernel
theorem dX12_tiesBy_83 : decode cX12_tiesBy 83 = .ok (.istore 4, 2) := by decide +kernel
theorem dX12_tiesBy_85 : decode cX12_tiesBy 85 = .ok (.iinc 8 1, 3) := by decide +kernel
theorem dX12_tiesBy_88 : decode cX12_tiesBy 88 = .ok (.goto (-60), 3) := by decide +kernel
theorem dX12_tiesBy_91 : decode cX12_tiesBy 91 = .ok (.iinc 7 1, 3) := by decide +kernel
theorem dX12_tiesBy_94 : decode cX12_tiesBy 94 = .ok (.goto (-83), 3) := by decide +kernel
theorem dX12_tiesBy_97 : decode cX12_tiesBy 97 = .ok (.iload_n 3, 1) := by decide +kernel
theorem dX12_tiesBy_98 : decode cX12_tiesBy 98 = .ok (.iconst (-1), 1) := by decide +kernel
theorem dX12_tiesBy_99 : decode cX12_tiesBy 99 = .ok (.if_icmp .eq 12, 3) := by decide +kernel
theorem dX12_tiesBy_102 : decode cX12_tiesBy 102 = .ok (.aload_n 0, 1) := by decide +kernel
theorem dX12_tiesBy_103 : decode cX12_tiesBy 103 = .ok (.iload_n 3, 1) := by decide +kernel
theorem dX12_tiesBy_104 : decode cX12_tiesBy 104 = .ok (.iload 4, 2) := by decide +kernel
theorem dX12_tiesBy_106 : decode cX12_tiesBy 106 = .ok (.iload_n 2, 1) := by decide +kernel
theorem dX12_tiesBy_107 : decode cX12_tiesBy 107 = .ok (.invokevirtual 500, 3) := by decide +kernel
theorem dX12_tiesBy_110 : decode cX12_tiesBy 110 = .ok (.pop, 1) := by decide +kernel
theorem dX12_tiesBy_111 : decode cX12_tiesBy 111 = .ok (.return_, 1) := by decide +kernel
theorem dX12_run_0 : decode cX12_run 0 = .ok (.aload_n 0, 1) := by decide +kernel
theorem dX12_run_1 : decode cX12_run 1 = .ok (.invokevirtual 430, 3) := by decide +kernel
theorem dX12_run_4 : decode cX12_run 4 = .ok (.ifCond .eq 37, 3) := by decide +kernel
theorem dX12_run_7 : decode cX12_run 7 = .ok (.aload_n 0, 1) := by decide +kernel
theorem dX12_run_8 : decode cX12_run 8 = .ok (.iload_n 1, 1) := by decide +kernel
theorem dX12_run_9 : decode cX12_run 9 = .ok (.invokevirtual 510, 3) := by decide +kernel
theorem dX12_run_12 : decode cX12_run 12 = .ok (.ifCond .eq 29, 3) := by decide +kernel
theorem dX12_run_15 : decode cX12_run 15 = .ok (.iload_n 2, 1) := by decide +kernel
theorem dX12_run_16 : decode cX12_run 16 = .ok (.i2l, 1) := by decide +kernel
theorem dX12_run_17 : decode cX12_run 17 = .ok (.lconst 1, 1) := by decide +kernel
theorem dX12_run_18 : decode cX12_run 18 = .ok (.aload_n 0, 1) := by decide +kernel
theorem dX12_run_19 : decode cX12_run 19 = .ok (.invokevirtual 487, 3) := by decide +kernel
theorem dX12_run_22 : decode cX12_run 22 = .ok (.i2l, 1) := by decide +kernel
theorem dX12_run_23 : decode cX12_run 23 = .ok (.invokestatic 176, 3) := by decide +kernel
theorem dX12_run_26 : decode cX12_run 26 = .ok (.ifCond .eq 15, 3) := by decide +kernel
theorem dX12_run_29 : decode cX12_run 29 = .ok (.iload_n 3, 1) := by decide +kernel
theorem dX12_run_30 : decode cX12_run 30 = .ok (.i2l, 1) := by decide +kernel
theorem dX12_run_31 : decode cX12_run 31 = .ok (.lconst 1, 1) := by decide +kernel
theorem dX12_run_32 : decode cX12_run 32 = .ok (.ldc2_w 442, 3) := by decide +kernel
theorem dX12_run_35 : decode cX12_run 35 = .ok (.invokestatic 176, 3) := by decide +kernel
theorem dX12_run_38 : decode cX12_run 38 = .ok (.ifCond .ne 5, 3) := by decide +kernel
theorem dX12_run_41 : decode cX12_run 41 = .ok (.iconst (-1), 1) := by decide +kernel
theorem dX12_run_42 : decode cX12_run 42 = .ok (.ireturn, 1) := by decide +kernel
theorem dX12_run_43 : decode cX12_run 43 = .ok (.aload_n 0, 1) := by decide +kernel
theorem dX12_run_44 : decode cX12_run 44 = .ok (.iconst 0, 1) := by decide +kernel
theorem dX12_run_45 : decode cX12_run 45 = .ok (.putfield 359, 3) := by decide +kernel
theorem dX12_run_48 : decode cX12_run 48 = .ok (.iconst 0, 1) := by decide +kernel
theorem dX12_run_49 : decode cX12_run 49 = .ok (.istore 4, 2) := by decide +kernel
theorem dX12_run_51 : decode cX12_run 51 = .ok (.iconst 0, 1) := by decide +kernel
theorem dX12_run_52 : decode cX12_run 52 = .ok (.istore 5, 2) := by decide +kernel
theorem dX12_run_54 : decode cX12_run 54 = .ok (.iload 5, 2) := by decide +kernel
theorem dX12_run_56 : decode cX12_run 56 = .ok (.iload_n 2, 1) := by decide +kernel
theorem dX12_run_57 : decode cX12_run 57 = .ok (.if_icmp .ge 24, 3) := by decide +kernel
theorem dX12_run_60 : decode cX12_run 60 = .ok (.aload_n 0, 1) := by decide +kernel
theorem dX12_run_61 : decode cX12_run 61 = .ok (.iload_n 1, 1) := by decide +kernel
theorem dX12_run_62 : decode cX12_run 62 = .ok (.iload_n 3, 1) := by decide +kernel
theorem dX12_run_63 : decode cX12_run 63 = .ok (.invokevirtual 513, 3) := by decide +kernel
theorem dX12_run_66 : decode cX12_run 66 = .ok (.iload 4, 2) := by decide +kernel
theorem dX12_run_68 : decode cX12_run 68 = .ok (.aload_n 0, 1) := by decide +kernel
theorem dX12_run_69 : decode cX12_run 69 = .ok (.invokevirtual 493, 3) := by decide +kernel
theorem dX12_run_72 : decode cX12_run 72 = .ok (.iadd, 1) := by decide +kernel
theorem dX12_run_73 : decode cX12_run 73 = .ok (.istore 4, 2) := by decide +kernel
theorem dX12_run_75 : decode cX12_run 75 = .ok (.iinc 5 1, 3) := by decide +kernel
theorem dX12_run_78 : decode cX12_run 78 = .ok (.goto (-24), 3) := by decide +kernel
theorem dX12_run_81 : decode cX12_run 81 = .ok (.iload 4, 2) := by decide +kernel
theorem dX12_run_83 : decode cX12_run 83 = .ok (.ireturn, 1) := by decide +kernel
theorem dX12_keepsAll_0 : decode cX12_keepsAll 0 = .ok (.aload_n 0, 1) := by decide +kernel
theorem dX12_keepsAll_1 : decode cX12_keepsAll 1 = .ok (.iconst 4, 1) := by decide +kernel
theorem dX12_keepsAll_2 : decode cX12_keepsAll 2 = .ok (.iconst 0, 1) := by decide +kernel
theorem dX12_keepsAll_3 : decode cX12_keepsAll 3 = .ok (.invokevirtual 516, 3) := by decide +kernel
theorem dX12_keepsAll_6 : decode cX12_keepsAll 6 = .ok (.return_, 1) := by decide +kernel
theorem dX12_laysBack_0 : decode cX12_laysBack 0 = .ok (.aload_n 0, 1) := by decide +kernel
theorem dX12_laysBack_1 : decode cX12_laysBack 1 = .ok (.iconst 4, 1) := by decide +kernel
theorem dX12_laysBack_2 : decode cX12_laysBack 2 = .ok (.iconst 1, 1) := by decide +kernel
theorem dX12_laysBack_3 : decode cX12_laysBack 3 = .ok (.invokevirtual 516, 3) := by decide +kernel
theorem dX12_laysBack_6 : decode cX12_laysBack 6 = .ok (.return_, 1) := by decide +kernel
theorem dX12_thingsAt_0 : decode cX12_thingsAt 0 = .ok (.iconst 0, 1) := by decide +kernel
theorem dX12_thingsAt_1 : decode cX12_thingsAt 1 = .ok (.istore_n 2, 1) := by decide +kernel
theorem dX12_thingsAt_2 : decode cX12_thingsAt 2 = .ok (.iconst 0, 1) := by decide +kernel
theorem dX12_thingsAt_3 : decode cX12_thingsAt 3 = .ok (.istore_n 3, 1) := by decide +kernel
theorem dX12_thingsAt_4 : decode cX12_thingsAt 4 = .ok (.iload_n 3, 1) := by decide +kernel
theorem dX12_thingsAt_5 : decode cX12_thingsAt 5 = .ok (.aload_n 0, 1) := by decide +kernel
theorem dX12_thingsAt_6 : decode cX12_thingsAt 6 = .ok (.getfield 9, 3) := by decide +kernel
theorem dX12_thingsAt_9 : decode cX12_thingsAt 9 = .ok (.iconst 3, 1) := by decide +kernel
theorem dX12_thingsAt_10 : decode cX12_thingsAt 10 = .ok (.iaload, 1) := by decide +kernel
theorem dX12_thingsAt_11 : decode cX12_thingsAt 11 = .ok (.if_icmp .ge 29, 3) := by decide +kernel
theorem dX12_thingsAt_14 : decode cX12_thingsAt 14 = .ok (.iload_n 2, 1) := by decide +kernel
theorem dX12_thingsAt_15 : decode cX12_thingsAt 15 = .ok (.aload_n 0, 1) := by decide +kernel
theorem dX12_thingsAt_16 : decode cX12_thingsAt 16 = .ok (.getfield 34, 3) := by decide +kernel
theorem dX12_thingsAt_19 : decode cX12_thingsAt 19 = .ok (.iload_n 3, 1) := by decide +kernel
theorem dX12_thingsAt_20 : decode cX12_thingsAt 20 = .ok (.iaload, 1) := by decide +kernel
theorem dX12_thingsAt_21 : decode cX12_thingsAt 21 = .ok (.iload_n 1, 1) := by decide +kernel
theorem dX12_thingsAt_22 : decode cX12_thingsAt 22 = .ok (.if_icmp .ne 9, 3) := by decide +kernel
theorem dX12_thingsAt_25 : decode cX12_thingsAt 25 = .ok (.iconst 1, 1) := by decide +kernel
theorem dX12_thingsAt_26 : decode cX12_thingsAt 26 = .ok (.iload_n 3, 1) := by decide +kernel
theorem dX12_thingsAt_27 : decode cX12_thingsAt 27 = .ok (.ishl, 1) := by decide +kernel
theorem dX12_thingsAt_28 : decode cX12_thingsAt 28 = .ok (.goto 4, 3) := by decide +kernel
theorem dX12_thingsAt_31 : decode cX12_thingsAt 31 = .ok (.iconst 0, 1) := by decide +kernel
theorem dX12_thingsAt_32 : decode cX12_thingsAt 32 = .ok (.ior, 1) := by decide +kernel
theorem dX12_thingsAt_33 : decode cX12_thingsAt 33 = .ok (.istore_n 2, 1) := by decide +kernel
theorem dX12_thingsAt_34 : decode cX12_thingsAt 34 = .ok (.iinc 3 1, 3) := by decide +kernel
theorem dX12_thingsAt_37 : decode cX12_thingsAt 37 = .ok (.goto (-33), 3) := by decide +kernel
theorem dX12_thingsAt_40 : decode cX12_thingsAt 40 = .ok (.iload_n 2, 1) := by decide +kernel
theorem dX12_thingsAt_41 : decode cX12_thingsAt 41 = .ok (.ireturn, 1) := by decide +kernel
theorem dX12_ahead_0 : decode cX12_ahead 0 = .ok (.aload_n 0, 1) := by decide +kernel
theorem dX12_ahead_1 : decode cX12_ahead 1 = .ok (.invokevirtual 430, 3) := by decide +kernel
theorem dX12_ahead_4 : decode cX12_ahead 4 = .ok (.ifCond .eq 29, 3) := by decide +kernel
theorem dX12_ahead_7 : decode cX12_ahead 7 = .ok (.iload_n 1, 1) := by decide +kernel
theorem dX12_ahead_8 : decode cX12_ahead 8 = .ok (.i2l, 1) := by decide +kernel
theorem dX12_ahead_9 : decode cX12_ahead 9 = .ok (.lconst 0, 1) := by decide +kernel
theorem dX12_ahead_10 : decode cX12_ahead 10 = .ok (.aload_n 0, 1) := by decide +kernel
theorem dX12_ahead_11 : decode cX12_ahead 11 = .ok (.invokevirtual 487, 3) := by decide +kernel
theorem dX12_ahead_14 : decode cX12_ahead 14 = .ok (.i2l, 1) := by decide +kernel
theorem dX12_ahead_15 : decode cX12_ahead 15 = .ok (.invokestatic 176, 3) := by decide +kernel
theorem dX12_ahead_18 : decode cX12_ahead 18 = .ok (.ifCond .eq 15, 3) := by decide +kernel
theorem dX12_ahead_21 : decode cX12_ahead 21 = .ok (.iload_n 2, 1) := by decide +kernel
theorem dX12_ahead_22 : decode cX12_ahead 22 = .ok (.i2l, 1) := by decide +kernel
theorem dX12_ahead_23 : decode cX12_ahead 23 = .ok (.lconst 0, 1) := by decide +kernel
theorem dX12_ahead_24 : decode cX12_ahead 24 = .ok (.ldc2_w 519, 3) := by decide +kernel
theorem dX12_ahead_27 : decode cX12_ahead 27 = .ok (.invokestatic 176, 3) := by decide +kernel
theorem dX12_ahead_30 : decode cX12_ahead 30 = .ok (.ifCond .ne 5, 3) := by decide +kernel
theorem dX12_ahead_33 : decode cX12_ahead 33 = .ok (.iconst (-1), 1) := by decide +kernel
theorem dX12_ahead_34 : decode cX12_ahead 34 = .ok (.ireturn, 1) := by decide +kernel
theorem dX12_ahead_35 : decode cX12_ahead 35 = .ok (.aload_n 0, 1) := by decide +kernel
theorem dX12_ahead_36 : decode cX12_ahead 36 = .ok (.invokevirtual 521, 3) := by decide +kernel
theorem dX12_ahead_39 : decode cX12_ahead 39 = .ok (.iconst 0, 1) := by decide +kernel
theorem dX12_ahead_40 : decode cX12_ahead 40 = .ok (.istore_n 3, 1) := by decide +kernel
theorem dX12_ahead_41 : decode cX12_ahead 41 = .ok (.iload_n 3, 1) := by decide +kernel
theorem dX12_ahead_42 : decode cX12_ahead 42 = .ok (.iload_n 1, 1) := by decide +kernel
theorem dX12_ahead_43 : decode cX12_ahead 43 = .ok (.if_icmp .ge 14, 3) := by decide +kernel
theorem dX12_ahead_46 : decode cX12_ahead 46 = .ok (.aload_n 0, 1) := by decide +kernel
theorem dX12_ahead_47 : decode cX12_ahead 47 = .ok (.invokevirtual 493, 3) := by decide +kernel
theorem dX12_ahead_50 : decode cX12_ahead 50 = .ok (.pop, 1) := by decide +kernel
theorem dX12_ahead_51 : decode cX12_ahead 51 = .ok (.iinc 3 1, 3) := by decide +kernel
theorem dX12_ahead_54 : decode cX12_ahead 54 = .ok (.goto (-13), 3) := by decide +kernel
theorem dX12_ahead_57 : decode cX12_ahead 57 = .ok (.iload_n 2, 1) := by decide +kernel
theorem dX12_ahead_58 : decode cX12_ahead 58 = .ok (.iconst 3, 1) := by decide +kernel
theorem dX12_ahead_59 : decode cX12_ahead 59 = .ok (.if_icmp .ge 11, 3) := by decide +kernel
theorem dX12_ahead_62 : decode cX12_ahead 62 = .ok (.aload_n 0, 1) := by decide +kernel
theorem dX12_ahead_63 : decode cX12_ahead 63 = .ok (.iload_n 2, 1) := by decide +kernel
theorem dX12_ahead_64 : decode cX12_ahead 64 = .ok (.invokevirtual 524, 3) := by decide +kernel
theorem dX12_ahead_67 : decode cX12_ahead 67 = .ok (.goto 4, 3) := by decide +kernel
theorem dX12_ahead_70 : decode cX12_ahead 70 = .ok (.iconst 0, 1) := by decide +kernel
theorem dX12_ahead_71 : decode cX12_ahead 71 = .ok (.istore_n 3, 1) := by decide +kernel
theorem dX12_ahead_72 : decode cX12_ahead 72 = .ok (.iconst 0, 1) := by decide +kernel
theorem dX12_ahead_73 : decode cX12_ahead 73 = .ok (.istore 4, 2) := by decide +kernel
theorem dX12_ahead_75 : decode cX12_ahead 75 = .ok (.iload 4, 2) := by decide +kernel
theorem dX12_ahead_77 : decode cX12_ahead 77 = .ok (.aload_n 0, 1) := by decide +kernel
theorem dX12_ahead_78 : decode cX12_ahead 78 = .ok (.getfield 9, 3) := by decide +kernel
theorem dX12_ahead_81 : decode cX12_ahead 81 = .ok (.iconst 2, 1) := by decide +kernel
theorem dX12_ahead_82 : decode cX12_ahead 82 = .ok (.iaload, 1) := by decide +kernel
theorem dX12_ahead_83 : decode cX12_ahead 83 = .ok (.if_icmp .ge 36, 3) := by decide +kernel
theorem dX12_ahead_86 : decode cX12_ahead 86 = .ok (.iload_n 2, 1) := by decide +kernel
theorem dX12_ahead_87 : decode cX12_ahead 87 = .ok (.iconst 3, 1) := by decide +kernel
theorem dX12_ahead_88 : decode cX12_ahead 88 = .ok (.if_icmp .ne 31, 3) := by decide +kernel
theorem dX12_ahead_91 : decode cX12_ahead 91 = .ok (.iload_n 3, 1) := by decide +kernel
theorem dX12_ahead_92 : decode cX12_ahead 92 = .ok (.aload_n 0, 1) := by decide +kernel
theorem dX12_ahead_93 : decode cX12_ahead 93 = .ok (.getfield 19, 3) := by decide +kernel
theorem dX12_ahead_96 : decode cX12_ahead 96 = .ok (.iload 4, 2) := by decide +kernel
theorem dX12_ahead_98 : decode cX12_ahead 98 = .ok (.iaload, 1) := by decide +kernel
theorem dX12_ahead_99 : decode cX12_ahead 99 = .ok (.iconst 2, 1) := by decide +kernel
theorem dX12_ahead_100 : decode cX12_ahead 100 = .ok (.if_icmp .ne 10, 3) := by decide +kernel
theorem dX12_ahead_103 : decode cX12_ahead 103 = .ok (.iconst 1, 1) := by decide +kernel
theorem dX12_ahead_104 : decode cX12_ahead 104 = .ok (.iload 4, 2) := by decide +kernel
theorem dX12_ahead_106 : decode cX12_ahead 106 = .ok (.ishl, 1) := by decide +kernel
theorem dX12_ahead_107 : decode cX12_ahead 107 = .ok (.goto 4, 3) := by decide +kernel
theorem dX12_ahead_110 : decode cX12_ahead 110 = .ok (.iconst 0, 1) := by decide +kernel
theorem dX12_ahead_111 : decode cX12_ahead 111 = .ok (.ior, 1) := by decide +kernel
theorem dX12_ahead_112 : decode cX12_ahead 112 = .ok (.istore_n 3, 1) := by decide +kernel
theorem dX12_ahead_113 : decode cX12_ahead 113 = .ok (.iinc 4 1, 3) := by decide +kernel
theorem dX12_ahead_116 : decode cX12_ahead 116 = .ok (.goto (-41), 3) := by decide +kernel
theorem dX12_ahead_119 : decode cX12_ahead 119 = .ok (.aload_n 0, 1) := by decide +kernel
theorem dX12_ahead_120 : decode cX12_ahead 120 = .ok (.invokevirtual 527, 3) := by decide +kernel
theorem dX12_ahead_123 : decode cX12_ahead 123 = .ok (.iload_n 3, 1) := by decide +kernel
theorem dX12_ahead_124 : decode cX12_ahead 124 = .ok (.ireturn, 1) := by decide +kernel
theorem dX12_sinks_0 : decode cX12_sinks 0 = .ok (.aload_n 0, 1) := by decide +kernel
theorem dX12_sinks_1 : decode cX12_sinks 1 = .ok (.iload_n 1, 1) := by decide +kernel
theorem dX12_sinks_2 : decode cX12_sinks 2 = .ok (.invokevirtual 180, 3) := by decide +kernel
theorem dX12_sinks_5 : decode cX12_sinks 5 = .ok (.ifCond .ne 5, 3) := by decide +kernel
theorem dX12_sinks_8 : decode cX12_sinks 8 = .ok (.iconst (-1), 1) := by decide +kernel
theorem dX12_sinks_9 : decode cX12_sinks 9 = .ok (.ireturn, 1) := by decide +kernel
theorem dX12_sinks_10 : decode cX12_sinks 10 = .ok (.aload_n 0, 1) := by decide +kernel
theorem dX12_sinks_11 : decode cX12_sinks 11 = .ok (.invokevirtual 521, 3) := by decide +kernel
theorem dX12_sinks_14 : decode cX12_sinks 14 = .ok (.aload_n 0, 1) := by decide +kernel
theorem dX12_sinks_15 : decode cX12_sinks 15 = .ok (.invokevirtual 487, 3) := by decide +kernel
theorem dX12_sinks_18 : decode cX12_sinks 18 = .ok (.ifCond .le 20, 3) := by decide +kernel
theorem dX12_sinks_21 : decode cX12_sinks 21 = .ok (.aload_n 0, 1) := by decide +kernel
theorem dX12_sinks_22 : decode cX12_sinks 22 = .ok (.getfield 34, 3) := by decide +kernel
theorem dX12_sinks_25 : decode cX12_sinks 25 = .ok (.iload_n 1, 1) := by decide +kernel
theorem dX12_sinks_26 : decode cX12_sinks 26 = .ok (.iaload, 1) := by decide +kernel
theorem dX12_sinks_27 : decode cX12_sinks 27 = .ok (.ifCond .ne 11, 3) := by decide +kernel
theorem dX12_sinks_30 : decode cX12_sinks 30 = .ok (.aload_n 0, 1) := by decide +kernel
theorem dX12_sinks_31 : decode cX12_sinks 31 = .ok (.invokevirtual 493, 3) := by decide +kernel
theorem dX12_sinks_34 : decode cX12_sinks 34 = .ok (.pop, 1) := by decide +kernel
theorem dX12_sinks_35 : decode cX12_sinks 35 = .ok (.goto (-21), 3) := by decide +kernel
theorem dX12_sinks_38 : decode cX12_sinks 38 = .ok (.aload_n 0, 1) := by decide +kernel
theorem dX12_sinks_39 : decode cX12_sinks 39 = .ok (.getfield 37, 3) := by decide +kernel
theorem dX12_sinks_42 : decode cX12_sinks 42 = .ok (.iload_n 1, 1) := by decide +kernel
theorem dX12_sinks_43 : decode cX12_sinks 43 = .ok (.iaload, 1) := by decide +kernel
theorem dX12_sinks_44 : decode cX12_sinks 44 = .ok (.istore_n 2, 1) := by decide +kernel
theorem dX12_sinks_45 : decode cX12_sinks 45 = .ok (.aload_n 0, 1) := by decide +kernel
theorem dX12_sinks_46 : decode cX12_sinks 46 = .ok (.invokevirtual 527, 3) := by decide +kernel
theorem dX12_sinks_49 : decode cX12_sinks 49 = .ok (.iload_n 2, 1) := by decide +kernel
theorem dX12_sinks_50 : decode cX12_sinks 50 = .ok (.ireturn, 1) := by decide +kernel
theorem dX12_isBorne_0 : decode cX12_isBorne 0 = .ok (.aload_n 0, 1) := by decide +kernel
theorem dX12_isBorne_1 : decode cX12_isBorne 1 = .ok (.iload_n 1, 1) := by decide +kernel
theorem dX12_isBorne_2 : decode cX12_isBorne 2 = .ok (.invokevirtual 406, 3) := by decide +kernel
theorem dX12_isBorne_5 : decode cX12_isBorne 5 = .ok (.aload_n 0, 1) := by decide +kernel
theorem dX12_isBorne_6 : decode cX12_isBorne 6 = .ok (.iload_n 1, 1) := by decide +kernel
theorem dX12_isBorne_7 : decode cX12_isBorne 7 = .ok (.invokevirtual 409, 3) := by decide +kernel
theorem dX12_isBorne_10 : decode cX12_isBorne 10 = .ok (.if_icmp .lt 7, 3) := by decide +kernel
theorem dX12_isBorne_13 : decode cX12_isBorne 13 = .ok (.iconst 1, 1) := by decide +kernel
theorem dX12_isBorne_14 : decode cX12_isBorne 14 = .ok (.goto 4, 3) := by decide +kernel
theorem dX12_isBorne_17 : decode cX12_isBorne 17 = .ok (.iconst 0, 1) := by decide +kernel
theorem dX12_isBorne_18 : decode cX12_isBorne 18 = .ok (.ireturn, 1) := by decide +kernel
theorem dX12_bearers_0 : decode cX12_bearers 0 = .ok (.aload_n 0, 1) := by decide +kernel
theorem dX12_bearers_1 : decode cX12_bearers 1 = .ok (.invokevirtual 430, 3) := by decide +kernel
theorem dX12_bearers_4 : decode cX12_bearers 4 = .ok (.ifCond .eq 28, 3) := by decide +kernel
theorem dX12_bearers_7 : decode cX12_bearers 7 = .ok (.iload_n 1, 1) := by decide +kernel
theorem dX12_bearers_8 : decode cX12_bearers 8 = .ok (.ifCond .lt 24, 3) := by decide +kernel
theorem dX12_bearers_11 : decode cX12_bearers 11 = .ok (.iload_n 1, 1) := by decide +kernel
theorem dX12_bearers_12 : decode cX12_bearers 12 = .ok (.aload_n 0, 1) := by decide +kernel
theorem dX12_bearers_13 : decode cX12_bearers 13 = .ok (.invokevirtual 393, 3) := by decide +kernel
theorem dX12_bearers_16 : decode cX12_bearers 16 = .ok (.iconst (-1), 1) := by decide +kernel
theorem dX12_bearers_17 : decode cX12_bearers 17 = .ok (.ixor, 1) := by decide +kernel
theorem dX12_bearers_18 : decode cX12_bearers 18 = .ok (.iand, 1) := by decide +kernel
theorem dX12_bearers_19 : decode cX12_bearers 19 = .ok (.ifCond .ne 13, 3) := by decide +kernel
theorem dX12_bearers_22 : decode cX12_bearers 22 = .ok (.iload_n 2, 1) := by decide +kernel
theorem dX12_bearers_23 : decode cX12_bearers 23 = .ok (.i2l, 1) := by decide +kernel
theorem dX12_bearers_24 : decode cX12_bearers 24 = .ok (.lconst 0, 1) := by decide +kernel
theorem dX12_bearers_25 : decode cX12_bearers 25 = .ok (.lconst 1, 1) := by decide +kernel
theorem dX12_bearers_26 : decode cX12_bearers 26 = .ok (.invokestatic 176, 3) := by decide +kernel
theorem dX12_bearers_29 : decode cX12_bearers 29 = .ok (.ifCond .ne 5, 3) := by decide +kernel
theorem dX12_bearers_32 : decode cX12_bearers 32 = .ok (.iconst (-1), 1) := by decide +kernel
theorem dX12_bearers_33 : decode cX12_bearers 33 = .ok (.ireturn, 1) := by decide +kernel
theorem dX12_bearers_34 : decode cX12_bearers 34 = .ok (.aload_n 0, 1) := by decide +kernel
theorem dX12_bearers_35 : decode cX12_bearers 35 = .ok (.invokevirtual 393, 3) := by decide +kernel
theorem dX12_bearers_38 : decode cX12_bearers 38 = .ok (.iload_n 1, 1) := by decide +kernel
theorem dX12_bearers_39 : decode cX12_bearers 39 = .ok (.iconst (-1), 1) := by decide +kernel
theorem dX12_bearers_40 : decode cX12_bearers 40 = .ok (.ixor, 1) := by decide +kernel
theorem dX12_bearers_41 : decode cX12_bearers 41 = .ok (.iand, 1) := by decide +kernel
theorem dX12_bearers_42 : decode cX12_bearers 42 = .ok (.istore_n 3, 1) := by decide +kernel
theorem dX12_bearers_43 : decode cX12_bearers 43 = .ok (.bipush (-2), 2) := by decide +kernel
theorem dX12_bearers_45 : decode cX12_bearers 45 = .ok (.istore 4, 2) := by decide +kernel
theorem dX12_bearers_47 : decode cX12_bearers 47 = .ok (.iconst 0, 1) := by decide +kernel
theorem dX12_bearers_48 : decode cX12_bearers 48 = .ok (.istore 5, 2) := by decide +kernel
theorem dX12_bearers_50 : decode cX12_bearers 50 = .ok (.iload 5, 2) := by decide +kernel
theorem dX12_bearers_52 : decode cX12_bearers 52 = .ok (.iload_n 3, 1) := by decide +kernel
theorem dX12_bearers_53 : decode cX12_bearers 53 = .ok (.if_icmp .gt 53, 3) := by decide +kernel
theorem dX12_bearers_56 : decode cX12_bearers 56 = .ok (.iload 5, 2) := by decide +kernel
theorem dX12_bearers_58 : decode cX12_bearers 58 = .ok (.iload_n 3, 1) := by decide +kernel
theorem dX12_bearers_59 : decode cX12_bearers 59 = .ok (.iconst (-1), 1) := by decide +kernel
theorem dX12_bearers_60 : decode cX12_bearers 60 = .ok (.ixor, 1) := by decide +kernel
theorem dX12_bearers_61 : decode cX12_bearers 61 = .ok (.iand, 1) := by decide +kernel
theorem dX12_bearers_62 : decode cX12_bearers 62 = .ok (.ifCond .ne 38, 3) := by decide +kernel
theorem dX12_bearers_65 : decode cX12_bearers 65 = .ok (.iload 4, 2) := by decide +kernel
theorem dX12_bearers_67 : decode cX12_bearers 67 = .ok (.bipush (-2), 2) := by decide +kernel
theorem dX12_bearers_69 : decode cX12_bearers 69 = .ok (.if_icmp .eq 16, 3) := by decide +kernel
theorem dX12_bearers_72 : decode cX12_bearers 72 = .ok (.iload 5, 2) := by decide +kernel
theorem dX12_bearers_74 : decode cX12_bearers 74 = .ok (.invokestatic 460, 3) := by decide +kernel
theorem dX12_bearers_77 : decode cX12_bearers 77 = .ok (.iload 4, 2) := by decide +kernel
theorem dX12_bearers_79 : decode cX12_bearers 79 = .ok (.invokestatic 460, 3) := by decide +kernel
theorem dX12_bearers_82 : decode cX12_bearers 82 = .ok (.if_icmp .ge 18, 3) := by decide +kernel
theorem dX12_bearers_85 : decode cX12_bearers 85 = .ok (.aload_n 0, 1) := by decide +kernel
theorem dX12_bearers_86 : decode cX12_bearers 86 = .ok (.iload_n 1, 1) := by decide +kernel
theorem dX12_bearers_87 : decode cX12_bearers 87 = .ok (.iload 5, 2) := by decide +kernel
theorem dX12_bearers_89 : decode cX12_bearers 89 = .ok (.ior, 1) := by decide +kernel
theorem dX12_bearers_90 : decode cX12_bearers 90 = .ok (.invokevirtual 530, 3) := by decide +kernel
theorem dX12_bearers_93 : decode cX12_bearers 93 = .ok (.ifCond .eq 7, 3) := by decide +kernel
theorem dX12_bearers_96 : decode cX12_bearers 96 = .ok (.iload 5, 2) := by decide +kernel
theorem dX12_bearers_98 : decode cX12_bearers 98 = .ok (.istore 4, 2) := by decide +kernel
theorem dX12_bearers_100 : decode cX12_bearers 100 = .ok (.iinc 5 1, 3) := by decide +kernel
theorem dX12_bearers_103 : decode cX12_bearers 103 = .ok (.goto (-53), 3) := by decide +kernel
theorem dX12_bearers_106 : decode cX12_bearers 106 = .ok (.iload 4, 2) := by decide +kernel
theorem dX12_bearers_108 : decode cX12_bearers 108 = .ok (.bipush (-2), 2) := by decide +kernel
theorem dX12_bearers_110 : decode cX12_bearers 110 = .ok (.if_icmp .eq 8, 3) := by decide +kernel
theorem dX12_bearers_113 : decode cX12_bearers 113 = .ok (.iload_n 2, 1) := by decide +kernel
theorem dX12_bearers_114 : decode cX12_bearers 114 = .ok (.iconst 1, 1) := by decide +kernel
theorem dX12_bearers_115 : decode cX12_bearers 115 = .ok (.if_icmp .ne 8, 3) := by decide +kernel
theorem dX12_bearers_118 : decode cX12_bearers 118 = .ok (.iload 4, 2) := by decide +kernel
theorem dX12_bearers_120 : decode cX12_bearers 120 = .ok (.goto 8, 3) := by decide +kernel
theorem dX12_bearers_123 : decode cX12_bearers 123 = .ok (.iload 4, 2) := by decide +kernel
theorem dX12_bearers_125 : decode cX12_bearers 125 = .ok (.invokestatic 460, 3) := by decide +kernel
theorem dX12_bearers_128 : decode cX12_bearers 128 = .ok (.ireturn, 1) := by decide +kernel
theorem dX12_laysLater_0 : decode cX12_laysLater 0 = .ok (.aload_n 0, 1) := by decide +kernel
theorem dX12_laysLater_1 : decode cX12_laysLater 1 = .ok (.iconst 0, 1) := by decide +kernel
theorem dX12_laysLater_2 : decode cX12_laysLater 2 = .ok (.putfield 533, 3) := by decide +kernel
theorem dX12_laysLater_5 : decode cX12_laysLater 5 = .ok (.aload_n 0, 1) := by decide +kernel
theorem dX12_laysLater_6 : decode cX12_laysLater 6 = .ok (.iload_n 1, 1) := by decide +kernel
theorem dX12_laysLater_7 : decode cX12_laysLater 7 = .ok (.invokevirtual 406, 3) := by decide +kernel
theorem dX12_laysLater_10 : decode cX12_laysLater 10 = .ok (.aload_n 0, 1) := by decide +kernel
theorem dX12_laysLater_11 : decode cX12_laysLater 11 = .ok (.iload_n 1, 1) := by decide +kernel
theorem dX12_laysLater_12 : decode cX12_laysLater 12 = .ok (.invokevirtual 409, 3) := by decide +kernel
theorem dX12_laysLater_15 : decode cX12_laysLater 15 = .ok (.if_icmp .lt 7, 3) := by decide +kernel
theorem dX12_laysLater_18 : decode cX12_laysLater 18 = .ok (.iconst 1, 1) := by decide +kernel
theorem dX12_laysLater_19 : decode cX12_laysLater 19 = .ok (.goto 4, 3) := by decide +kernel
theorem dX12_laysLater_22 : decode cX12_laysLater 22 = .ok (.iconst 0, 1) := by decide +kernel
theorem dX12_laysLater_23 : decode cX12_laysLater 23 = .ok (.istore_n 2, 1) := by decide +kernel
theorem dX12_laysLater_24 : decode cX12_laysLater 24 = .ok (.aload_n 0, 1) := by decide +kernel
theorem dX12_laysLater_25 : decode cX12_laysLater 25 = .ok (.getfield 9, 3) := by decide +kernel
theorem dX12_laysLater_28 : decode cX12_laysLater 28 = .ok (.bipush 6, 2) := by decide +kernel
theorem dX12_laysLater_30 : decode cX12_laysLater 30 = .ok (.iaload, 1) := by decide +kernel
theorem dX12_laysLater_31 : decode cX12_laysLater 31 = .ok (.iconst 1, 1) := by decide +kernel
theorem dX12_laysLater_32 : decode cX12_laysLater 32 = .ok (.iadd, 1) := by decide +kernel
theorem dX12_laysLater_33 : decode cX12_laysLater 33 = .ok (.istore_n 3, 1) := by decide +kernel
theorem dX12_laysLater_34 : decode cX12_laysLater 34 = .ok (.iload_n 3, 1) := by decide +kernel
theorem dX12_laysLater_35 : decode cX12_laysLater 35 = .ok (.aload_n 0, 1) := by decide +kernel
theorem dX12_laysLater_36 : decode cX12_laysLater 36 = .ok (.getfield 9, 3) := by decide +kernel
theorem dX12_laysLater_39 : decode cX12_laysLater 39 = .ok (.iconst 0, 1) := by decide +kernel
theorem dX12_laysLater_40 : decode cX12_laysLater 40 = .ok (.iaload, 1) := by decide +kernel
theorem dX12_laysLater_41 : decode cX12_laysLater 41 = .ok (.if_icmp .gt 224, 3) := by decide +kernel
theorem dX12_laysLater_44 : decode cX12_laysLater 44 = .ok (.iconst 0, 1) := by decide +kernel
theorem dX12_laysLater_45 : decode cX12_laysLater 45 = .ok (.istore 4, 2) := by decide +kernel
theorem dX12_laysLater_47 : decode cX12_laysLater 47 = .ok (.iconst 0, 1) := by decide +kernel
theorem dX12_laysLater_48 : decode cX12_laysLater 48 = .ok (.istore 5, 2) := by decide +kernel
theorem dX12_laysLater_50 : decode cX12_laysLater 50 = .ok (.iconst 0, 1) := by decide +kernel
theorem dX12_laysLater_51 : decode cX12_laysLater 51 = .ok (.istore 6, 2) := by decide +kernel
theorem dX12_laysLater_53 : decode cX12_laysLater 53 = .ok (.iload 6, 2) := by decide +kernel
theorem dX12_laysLater_55 : decode cX12_laysLater 55 = .ok (.aload_n 0, 1) := by decide +kernel
theorem dX12_laysLater_56 : decode cX12_laysLater 56 = .ok (.getfield 9, 3) := by decide +kernel
theorem dX12_laysLater_59 : decode cX12_laysLater 59 = .ok (.iconst 3, 1) := by decide +kernel
theorem dX12_laysLater_60 : decode cX12_laysLater 60 = .ok (.iaload, 1) := by decide +kernel
theorem dX12_laysLater_61 : decode cX12_laysLater 61 = .ok (.if_icmp .ge 75, 3) := by decide +kernel
theorem dX12_laysLater_64 : decode cX12_laysLater 64 = .ok (.iload_n 1, 1) := by decide +kernel
theorem dX12_laysLater_65 : decode cX12_laysLater 65 = .ok (.iload 6, 2) := by decide +kernel
theorem dX12_laysLater_67 : decode cX12_laysLater 67 = .ok (.invokestatic 390, 3) := by decide +kernel
theorem dX12_laysLater_70 : decode cX12_laysLater 70 = .ok (.ifCond .eq 60, 3) := by decide +kernel
theorem dX12_laysLater_73 : decode cX12_laysLater 73 = .ok (.iload 4, 2) := by decide +kernel
theorem dX12_laysLater_75 : decode cX12_laysLater 75 = .ok (.aload_n 0, 1) := by decide +kernel
theorem dX12_laysLater_76 : decode cX12_laysLater 76 = .ok (.getfield 13, 3) := by decide +kernel
theorem dX12_laysLater_79 : decode cX12_laysLater 79 = .ok (.aload_n 0, 1) := by decide +kernel
theorem dX12_laysLater_80 : decode cX12_laysLater 80 = .ok (.getfield 22, 3) := by decide +kernel
theorem dX12_laysLater_83 : decode cX12_laysLater 83 = .ok (.iload 6, 2) := by decide +kernel
theorem dX12_laysLater_85 : decode cX12_laysLater 85 = .ok (.iaload, 1) := by decide +kernel
theorem dX12_laysLater_86 : decode cX12_laysLater 86 = .ok (.iaload, 1) := by decide +kernel
theorem dX12_laysLater_87 : decode cX12_laysLater 87 = .ok (.iload_n 3, 1) := by decide +kernel
theorem dX12_laysLater_88 : decode cX12_laysLater 88 = .ok (.if_icmp .le 10, 3) := by decide +kernel
theorem dX12_laysLater_91 : decode cX12_laysLater 91 = .ok (.iconst 1, 1) := by decide +kernel
theorem dX12_laysLater_92 : decode cX12_laysLater 92 = .ok (.iload 6, 2) := by decide +kernel
theorem dX12_laysLater_94 : decode cX12_laysLater 94 = .ok (.ishl, 1) := by decide +kernel
theorem dX12_laysLater_95 : decode cX12_laysLater 95 = .ok (.goto 4, 3) := by decide +kernel
theorem dX12_laysLater_98 : decode cX12_laysLater 98 = .ok (.iconst 0, 1) := by decide +kernel
theorem dX12_laysLater_99 : decode cX12_laysLater 99 = .ok (.ior, 1) := by decide +kernel
theorem dX12_laysLater_100 : decode cX12_laysLater 100 = .ok (.istore 4, 2) := by decide +kernel
theorem dX12_laysLater_102 : decode cX12_laysLater 102 = .ok (.iload 5, 2) := by decide +kernel
theorem dX12_laysLater_104 : decode cX12_laysLater 104 = .ok (.ifCond .ne 19, 3) := by decide +kernel
theorem dX12_laysLater_107 : decode cX12_laysLater 107 = .ok (.aload_n 0, 1) := by decide +kernel
theorem dX12_laysLater_108 : decode cX12_laysLater 108 = .ok (.getfield 13, 3) := by decide +kernel
theorem dX12_laysLater_111 : decode cX12_laysLater 111 = .ok (.aload_n 0, 1) := by decide +kernel
theorem dX12_laysLater_112 : decode cX12_laysLater 112 = .ok (.getfield 22, 3) := by decide +kernel
theorem dX12_laysLater_115 : decode cX12_laysLater 115 = .ok (.iload 6, 2) := by decide +kernel
theorem dX12_laysLater_117 : decode cX12_laysLater 117 = .ok (.iaload, 1) := by decide +kernel
theorem dX12_laysLater_118 : decode cX12_laysLater 118 = .ok (.iaload, 1) := by decide +kernel
theorem dX12_laysLater_119 : decode cX12_laysLater 119 = .ok (.iload_n 3, 1) := by decide +kernel
theorem dX12_laysLater_120 : decode cX12_laysLater 120 = .ok (.if_icmp .ne 7, 3) := by decide +kernel
theorem dX12_laysLater_123 : decode cX12_laysLater 123 = .ok (.iconst 1, 1) := by decide +kernel
theorem dX12_laysLater_124 : decode cX12_laysLater 124 = .ok (.goto 4, 3) := by decide +kernel
theorem dX12_laysLater_127 : decode cX12_laysLater 127 = .ok (.iconst 0, 1) := by decide +kernel
theorem dX12_laysLater_128 : decode cX12_laysLater 128 = .ok (.istore 5, 2) := by decide +kernel
theorem dX12_laysLater_130 : decode cX12_laysLater 130 = .ok (.iinc 6 1, 3) := by decide +kernel
theorem dX12_laysLater_133 : decode cX12_laysLater 133 = .ok (.goto (-80), 3) := by decide +kernel
theorem dX12_laysLater_136 : decode cX12_laysLater 136 = .ok (.iload 5, 2) := by decide +kernel
theorem dX12_laysLater_138 : decode cX12_laysLater 138 = .ok (.ifCond .eq 121, 3) := by decide +kernel
theorem dX12_laysLater_141 : decode cX12_laysLater 141 = .ok (.aload_n 0, 1) := by decide +kernel
theorem dX12_laysLater_142 : decode cX12_laysLater 142 = .ok (.iload 4, 2) := by decide +kernel
theorem dX12_laysLater_144 : decode cX12_laysLater 144 = .ok (.invokevirtual 409, 3) := by decide +kernel
theorem dX12_laysLater_147 : decode cX12_laysLater 147 = .ok (.ineg, 1) := by decide +kernel
theorem dX12_laysLater_148 : decode cX12_laysLater 148 = .ok (.istore 6, 2) := by decide +kernel
theorem dX12_laysLater_150 : decode cX12_laysLater 150 = .ok (.iconst 0, 1) := by decide +kernel
theorem dX12_laysLater_151 : decode cX12_laysLater 151 = .ok (.istore 7, 2) := by decide +kernel
theorem dX12_laysLater_153 : decode cX12_laysLater 153 = .ok (.iload 7, 2) := by decide +kernel
theorem dX12_laysLater_155 : decode cX12_laysLater 155 = .ok (.aload_n 0, 1) := by decide +kernel
theorem dX12_laysLater_156 : decode cX12_laysLater 156 = .ok (.getfield 9, 3) := by decide +kernel
theorem dX12_laysLater_159 : decode cX12_laysLater 159 = .ok (.iconst 3, 1) := by decide +kernel
theorem dX12_laysLater_160 : decode cX12_laysLater 160 = .ok (.iaload, 1) := by decide +kernel
theorem dX12_laysLater_161 : decode cX12_laysLater 161 = .ok (.if_icmp .ge 62, 3) := by decide +kernel
theorem dX12_laysLater_164 : decode cX12_laysLater 164 = .ok (.aload_n 0, 1) := by decide +kernel
theorem dX12_laysLater_165 : decode cX12_laysLater 165 = .ok (.getfield 28, 3) := by decide +kernel
theorem dX12_laysLater_168 : decode cX12_laysLater 168 = .ok (.iload 7, 2) := by decide +kernel
theorem dX12_laysLater_170 : decode cX12_laysLater 170 = .ok (.iaload, 1) := by decide +kernel
theorem dX12_laysLater_171 : decode cX12_laysLater 171 = .ok (.aload_n 0, 1) := by decide +kernel
theorem dX12_laysLater_172 : decode cX12_laysLater 172 = .ok (.getfield 31, 3) := by decide +kernel
theorem dX12_laysLater_175 : decode cX12_laysLater 175 = .ok (.iload 7, 2) := by decide +kernel
theorem dX12_laysLater_177 : decode cX12_laysLater 177 = .ok (.iaload, 1) := by decide +kernel
theorem dX12_laysLater_178 : decode cX12_laysLater 178 = .ok (.iload_n 3, 1) := by decide +kernel
theorem dX12_laysLater_179 : decode cX12_laysLater 179 = .ok (.aload_n 0, 1) := by decide +kernel
theorem dX12_laysLater_180 : decode cX12_laysLater 180 = .ok (.getfield 9, 3) := by decide +kernel
theorem dX12_laysLater_183 : decode cX12_laysLater 183 = .ok (.bipush 6, 2) := by decide +kernel
theorem dX12_laysLater_185 : decode cX12_laysLater 185 = .ok (.iaload, 1) := by decide +kernel
theorem dX12_laysLater_186 : decode cX12_laysLater 186 = .ok (.isub, 1) := by decide +kernel
theorem dX12_laysLater_187 : decode cX12_laysLater 187 = .ok (.imul, 1) := by decide +kernel
theorem dX12_laysLater_188 : decode cX12_laysLater 188 = .ok (.isub, 1) := by decide +kernel
theorem dX12_laysLater_189 : decode cX12_laysLater 189 = .ok (.istore 8, 2) := by decide +kernel
theorem dX12_laysLater_191 : decode cX12_laysLater 191 = .ok (.iload 6, 2) := by decide +kernel
theorem dX12_laysLater_193 : decode cX12_laysLater 193 = .ok (.iload 4, 2) := by decide +kernel
theorem dX12_laysLater_195 : decode cX12_laysLater 195 = .ok (.iload 7, 2) := by decide +kernel
theorem dX12_laysLater_197 : decode cX12_laysLater 197 = .ok (.invokestatic 390, 3) := by decide +kernel
theorem dX12_laysLater_200 : decode cX12_laysLater 200 = .ok (.ifCond .eq 13, 3) := by decide +kernel
theorem dX12_laysLater_203 : decode cX12_laysLater 203 = .ok (.iload 8, 2) := by decide +kernel
theorem dX12_laysLater_205 : decode cX12_laysLater 205 = .ok (.ifCond .le 8, 3) := by decide +kernel
theorem dX12_laysLater_208 : decode cX12_laysLater 208 = .ok (.iload 8, 2) := by decide +kernel
theorem dX12_laysLater_210 : decode cX12_laysLater 210 = .ok (.goto 4, 3) := by decide +kernel
theorem dX12_laysLater_213 : decode cX12_laysLater 213 = .ok (.iconst 0, 1) := by decide +kernel
theorem dX12_laysLater_214 : decode cX12_laysLater 214 = .ok (.iadd, 1) := by decide +kernel
theorem dX12_laysLater_215 : decode cX12_laysLater 215 = .ok (.istore 6, 2) := by decide +kernel
theorem dX12_laysLater_217 : decode cX12_laysLater 217 = .ok (.iinc 7 1, 3) := by decide +kernel
theorem dX12_laysLater_220 : decode cX12_laysLater 220 = .ok (.goto (-67), 3) := by decide +kernel
theorem dX12_laysLater_223 : decode cX12_laysLater 223 = .ok (.iload_n 2, 1) := by decide +kernel
theorem dX12_laysLater_224 : decode cX12_laysLater 224 = .ok (.ifCond .eq 12, 3) := by decide +kernel
theorem dX12_laysLater_227 : decode cX12_laysLater 227 = .ok (.iload 6, 2) := by decide +kernel
theorem dX12_laysLater_229 : decode cX12_laysLater 229 = .ok (.ifCond .lt 7, 3) := by decide +kernel
theorem dX12_laysLater_232 : decode cX12_laysLater 232 = .ok (.iconst 1, 1) := by decide +kernel
theorem dX12_laysLater_233 : decode cX12_laysLater 233 = .ok (.goto 4, 3) := by decide +kernel
theorem dX12_laysLater_236 : decode cX12_laysLater 236 = .ok (.iconst 0, 1) := by decide +kernel
theorem dX12_laysLater_237 : decode cX12_laysLater 237 = .ok (.istore_n 2, 1) := by decide +kernel
theorem dX12_laysLater_238 : decode cX12_laysLater 238 = .ok (.aload_n 0, 1) := by decide +kernel
theorem dX12_laysLater_239 : decode cX12_laysLater 239 = .ok (.getfield 148, 3) := by decide +kernel
theorem dX12_laysLater_242 : decode cX12_laysLater 242 = .ok (.aload_n 0, 1) := by decide +kernel
theorem dX12_laysLater_243 : decode cX12_laysLater 243 = .ok (.getfield 533, 3) := by decide +kernel
theorem dX12_laysLater_246 : decode cX12_laysLater 246 = .ok (.iload 4, 2) := by decide +kernel
theorem dX12_laysLater_248 : decode cX12_laysLater 248 = .ok (.iastore, 1) := by decide +kernel
theorem dX12_laysLater_249 : decode cX12_laysLater 249 = .ok (.aload_n 0, 1) := by decide +kernel
theorem dX12_laysLater_250 : decode cX12_laysLater 250 = .ok (.dup, 1) := by decide +kernel
theorem dX12_laysLater_251 : decode cX12_laysLater 251 = .ok (.getfield 533, 3) := by decide +kernel
theorem dX12_laysLater_254 : decode cX12_laysLater 254 = .ok (.iconst 1, 1) := by decide +kernel
theorem dX12_laysLater_255 : decode cX12_laysLater 255 = .ok (.iadd, 1) := by decide +kernel
theorem dX12_laysLater_256 : decode cX12_laysLater 256 = .ok (.putfield 533, 3) := by decide +kernel
theorem dX12_laysLater_259 : decode cX12_laysLater 259 = .ok (.iinc 3 1, 3) := by decide +kernel
theorem dX12_laysLater_262 : decode cX12_laysLater 262 = .ok (.goto (-228), 3) := by decide +kernel
theorem dX12_laysLater_265 : decode cX12_laysLater 265 = .ok (.iload_n 2, 1) := by decide +kernel
theorem dX12_laysLater_266 : decode cX12_laysLater 266 = .ok (.ireturn, 1) := by decide +kernel
theorem dX12_areTogether_0 : decode cX12_areTogether 0 = .ok (.iconst 0, 1) := by decide +kernel
theorem dX12_areTogether_1 : decode cX12_areTogether 1 = .ok (.istore_n 2, 1) := by decide +kernel
theorem dX12_areTogether_2 : decode cX12_areTogether 2 = .ok (.iload_n 2, 1) := by decide +kernel
theorem dX12_areTogether_3 : decode cX12_areTogether 3 = .ok (.aload_n 0, 1) := by decide +kernel
theorem dX12_areTogether_4 : decode cX12_areTogether 4 = .ok (.getfield 533, 3) := by decide +kernel
theorem dX12_areTogether_7 : decode cX12_areTogether 7 = .ok (.if_icmp .ge 98, 3) := by decide +kernel
theorem dX12_areTogether_10 : decode cX12_areTogether 10 = .ok (.iconst 0, 1) := by decide +kernel
theorem dX12_areTogether_11 : decode cX12_areTogether 11 = .ok (.istore_n 3, 1) := by decide +kernel
theorem dX12_areTogether_12 : decode cX12_areTogether 12 = .ok (.iconst 0, 1) := by decide +kernel
theorem dX12_areTogether_13 : decode cX12_areTogether 13 = .ok (.istore 4, 2) := by decide +kernel
theorem dX12_areTogether_15 : decode cX12_areTogether 15 = .ok (.iload 4, 2) := by decide +kernel
theorem dX12_areTogether_17 : decode cX12_areTogether 17 = .ok (.iload_n 1, 1) := by decide +kernel
theorem dX12_areTogether_18 : decode cX12_areTogether 18 = .ok (.if_icmp .ge 74, 3) := by decide +kernel
theorem dX12_areTogether_21 : decode cX12_areTogether 21 = .ok (.iload 4, 2) := by decide +kernel
theorem dX12_areTogether_23 : decode cX12_areTogether 23 = .ok (.ifCond .le 28, 3) := by decide +kernel
theorem dX12_areTogether_26 : decode cX12_areTogether 26 = .ok (.aload_n 0, 1) := by decide +kernel
theorem dX12_areTogether_27 : decode cX12_areTogether 27 = .ok (.getfield 148, 3) := by decide +kernel
theorem dX12_areTogether_30 : decode cX12_areTogether 30 = .ok (.iload_n 2, 1) := by decide +kernel
theorem dX12_areTogether_31 : decode cX12_areTogether 31 = .ok (.iaload, 1) := by decide +kernel
theorem dX12_areTogether_32 : decode cX12_areTogether 32 = .ok (.aload_n 0, 1) := by decide +kernel
theorem dX12_areTogether_33 : decode cX12_areTogether 33 = .ok (.getfield 142, 3) := by decide +kernel
theorem dX12_areTogether_36 : decode cX12_areTogether 36 = .ok (.iload 4, 2) := by decide +kernel
theorem dX12_areTogether_38 : decode cX12_areTogether 38 = .ok (.iconst 1, 1) := by decide +kernel
theorem dX12_areTogether_39 : decode cX12_areTogether 39 = .ok (.isub, 1) := by decide +kernel
theorem dX12_areTogether_40 : decode cX12_areTogether 40 = .ok (.iaload, 1) := by decide +kernel
theorem dX12_areTogether_41 : decode cX12_areTogether 41 = .ok (.invokestatic 390, 3) := by decide +kernel
theorem dX12_areTogether_44 : decode cX12_areTogether 44 = .ok (.ifCond .eq 7, 3) := by decide +kernel
theorem dX12_areTogether_47 : decode cX12_areTogether 47 = .ok (.iconst 1, 1) := by decide +kernel
theorem dX12_areTogether_48 : decode cX12_areTogether 48 = .ok (.goto 4, 3) := by decide +kernel
theorem dX12_areTogether_51 : decode cX12_areTogether 51 = .ok (.iconst 0, 1) := by decide +kernel
theorem dX12_areTogether_52 : decode cX12_areTogether 52 = .ok (.istore 5, 2) := by decide +kernel
theorem dX12_areTogether_54 : decode cX12_areTogether 54 = .ok (.iload_n 3, 1) := by decide +kernel
theorem dX12_areTogether_55 : decode cX12_areTogether 55 = .ok (.aload_n 0, 1) := by decide +kernel
theorem dX12_areTogether_56 : decode cX12_areTogether 56 = .ok (.getfield 148, 3) := by decide +kernel
theorem dX12_areTogether_59 : decode cX12_areTogether 59 = .ok (.iload_n 2, 1) := by decide +kernel
theorem dX12_areTogether_60 : decode cX12_areTogether 60 = .ok (.iaload, 1) := by decide +kernel
theorem dX12_areTogether_61 : decode cX12_areTogether 61 = .ok (.aload_n 0, 1) := by decide +kernel
theorem dX12_areTogether_62 : decode cX12_areTogether 62 = .ok (.getfield 142, 3) := by decide +kernel
theorem dX12_areTogether_65 : decode cX12_areTogether 65 = .ok (.iload 4, 2) := by decide +kernel
theorem dX12_areTogether_67 : decode cX12_areTogether 67 = .ok (.iaload, 1) := by decide +kernel
theorem dX12_areTogether_68 : decode cX12_areTogether 68 = .ok (.invokestatic 390, 3) := by decide +kernel
theorem dX12_areTogether_71 : decode cX12_areTogether 71 = .ok (.ifCond .eq 12, 3) := by decide +kernel
theorem dX12_areTogether_74 : decode cX12_areTogether 74 = .ok (.iload 5, 2) := by decide +kernel
theorem dX12_areTogether_76 : decode cX12_areTogether 76 = .ok (.ifCond .ne 7, 3) := by decide +kernel
theorem dX12_areTogether_79 : decode cX12_areTogether 79 = .ok (.iconst 1, 1) := by decide +kernel
theorem dX12_areTogether_80 : decode cX12_areTogether 80 = .ok (.goto 4, 3) := by decide +kernel
theorem dX12_areTogether_83 : decode cX12_areTogether 83 = .ok (.iconst 0, 1) := by decide +kernel
theorem dX12_areTogether_84 : decode cX12_areTogether 84 = .ok (.iadd, 1) := by decide +kernel
theorem dX12_areTogether_85 : decode cX12_areTogether 85 = .ok (.istore_n 3, 1) := by decide +kernel
theorem dX12_areTogether_86 : decode cX12_areTogether 86 = .ok (.iinc 4 1, 3) := by decide +kernel
theorem dX12_areTogether_89 : decode cX12_areTogether 89 = .ok (.goto (-74), 3) := by decide +kernel
theorem dX12_areTogether_92 : decode cX12_areTogether 92 = .ok (.iload_n 3, 1) := by decide +kernel
theorem dX12_areTogether_93 : decode cX12_areTogether 93 = .ok (.iconst 1, 1) := by decide +kernel
theorem dX12_areTogether_94 : decode cX12_areTogether 94 = .ok (.if_icmp .le 5, 3) := by decide +kernel
theorem dX12_areTogether_97 : decode cX12_areTogether 97 = .ok (.iconst 0, 1) := by decide +kernel
theorem dX12_areTogether_98 : decode cX12_areTogether 98 = .ok (.ireturn, 1) := by decide +kernel
theorem dX12_areTogether_99 : decode cX12_areTogether 99 = .ok (.iinc 2 1, 3) := by decide +kernel
theorem dX12_areTogether_102 : decode cX12_areTogether 102 = .ok (.goto (-100), 3) := by decide +kernel
theorem dX12_areTogether_105 : decode cX12_areTogether 105 = .ok (.iconst 1, 1) := by decide +kernel
theorem dX12_areTogether_106 : decode cX12_areTogether 106 = .ok (.ireturn, 1) := by decide +kernel
theorem dX12_findsRows_0 : decode cX12_findsRows 0 = .ok (.aload_n 0, 1) := by decide +kernel
theorem dX12_findsRows_1 : decode cX12_findsRows 1 = .ok (.iconst 0, 1) := by decide +kernel
theorem dX12_findsRows_2 : decode cX12_findsRows 2 = .ok (.putfield 536, 3) := by decide +kernel
theorem dX12_findsRows_5 : decode cX12_findsRows 5 = .ok (.iload_n 1, 1) := by decide +kernel
theorem dX12_findsRows_6 : decode cX12_findsRows 6 = .ok (.invokestatic 460, 3) := by decide +kernel
theorem dX12_findsRows_9 : decode cX12_findsRows 9 = .ok (.istore_n 2, 1) := by decide +kernel
theorem dX12_findsRows_10 : decode cX12_findsRows 10 = .ok (.aload_n 0, 1) := by decide +kernel
theorem dX12_findsRows_11 : decode cX12_findsRows 11 = .ok (.iload_n 1, 1) := by decide +kernel
theorem dX12_findsRows_12 : decode cX12_findsRows 12 = .ok (.invokevirtual 539, 3) := by decide +kernel
theorem dX12_findsRows_15 : decode cX12_findsRows 15 = .ok (.ifCond .ne 4, 3) := by decide +kernel
theorem dX12_findsRows_18 : decode cX12_findsRows 18 = .ok (.return_, 1) := by decide +kernel
theorem dX12_findsRows_19 : decode cX12_findsRows 19 = .ok (.iload_n 2, 1) := by decide +kernel
theorem dX12_findsRows_20 : decode cX12_findsRows 20 = .ok (.ifCond .ne 9, 3) := by decide +kernel
theorem dX12_findsRows_23 : decode cX12_findsRows 23 = .ok (.aload_n 0, 1) := by decide +kernel
theorem dX12_findsRows_24 : decode cX12_findsRows 24 = .ok (.iconst 1, 1) := by decide +kernel
theorem dX12_findsRows_25 : decode cX12_findsRows 25 = .ok (.putfield 536, 3) := by decide +kernel
theorem dX12_findsRows_28 : decode cX12_findsRows 28 = .ok (.return_, 1) := by decide +kernel
theorem dX12_findsRows_29 : decode cX12_findsRows 29 = .ok (.iconst 0, 1) := by decide +kernel
theorem dX12_findsRows_30 : decode cX12_findsRows 30 = .ok (.istore_n 3, 1) := by decide +kernel
theorem dX12_findsRows_31 : decode cX12_findsRows 31 = .ok (.iconst 0, 1) := by decide +kernel
theorem dX12_findsRows_32 : decode cX12_findsRows 32 = .ok (.istore 4, 2) := by decide +kernel
theorem dX12_findsRows_34 : decode cX12_findsRows 34 = .ok (.aload_n 0, 1) := by decide +kernel
theorem dX12_findsRows_35 : decode cX12_findsRows 35 = .ok (.getfield 142, 3) := by decide +kernel
theorem dX12_findsRows_38 : decode cX12_findsRows 38 = .ok (.iconst 0, 1) := by decide +kernel
theorem dX12_findsRows_39 : decode cX12_findsRows 39 = .ok (.iconst (-1), 1) := by decide +kernel
theorem dX12_findsRows_40 : decode cX12_findsRows 40 = .ok (.iastore, 1) := by decide +kernel
theorem dX12_findsRows_41 : decode cX12_findsRows 41 = .ok (.iload_n 3, 1) := by decide +kernel
theorem dX12_findsRows_42 : decode cX12_findsRows 42 = .ok (.ifCond .lt 152, 3) := by decide +kernel
theorem dX12_findsRows_45 : decode cX12_findsRows 45 = .ok (.aload_n 0, 1) := by decide +kernel
theorem dX12_findsRows_46 : decode cX12_findsRows 46 = .ok (.getfield 142, 3) := by decide +kernel
theorem dX12_findsRows_49 : decode cX12_findsRows 49 = .ok (.iload_n 3, 1) := by decide +kernel
theorem dX12_findsRows_50 : decode cX12_findsRows 50 = .ok (.iaload, 1) := by decide +kernel
theorem dX12_findsRows_51 : decode cX12_findsRows 51 = .ok (.iconst (-1), 1) := by decide +kernel
theorem dX12_findsRows_52 : decode cX12_findsRows 52 = .ok (.if_icmp .ne 8, 3) := by decide +kernel
theorem dX12_findsRows_55 : decode cX12_findsRows 55 = .ok (.iload 4, 2) := by decide +kernel
theorem dX12_findsRows_57 : decode cX12_findsRows 57 = .ok (.goto 16, 3) := by decide +kernel
theorem dX12_findsRows_60 : decode cX12_findsRows 60 = .ok (.iload 4, 2) := by decide +kernel
theorem dX12_findsRows_62 : decode cX12_findsRows 62 = .ok (.iconst 1, 1) := by decide +kernel
theorem dX12_findsRows_63 : decode cX12_findsRows 63 = .ok (.aload_n 0, 1) := by decide +kernel
theorem dX12_findsRows_64 : decode cX12_findsRows 64 = .ok (.getfield 142, 3) := by decide +kernel
theorem dX12_findsRows_67 : decode cX12_findsRows 67 = .ok (.iload_n 3, 1) := by decide +kernel
theorem dX12_findsRows_68 : decode cX12_findsRows 68 = .ok (.iaload, 1) := by decide +kernel
theorem dX12_findsRows_69 : decode cX12_findsRows 69 = .ok (.ishl, 1) := by decide +kernel
theorem dX12_findsRows_70 : decode cX12_findsRows 70 = .ok (.iconst (-1), 1) := by decide +kernel
theorem dX12_findsRows_71 : decode cX12_findsRows 71 = .ok (.ixor, 1) := by decide +kernel
theorem dX12_findsRows_72 : decode cX12_findsRows 72 = .ok (.iand, 1) := by decide +kernel
theorem dX12_findsRows_73 : decode cX12_findsRows 73 = .ok (.istore 4, 2) := by decide +kernel
theorem dX12_findsRows_75 : decode cX12_findsRows 75 = .ok (.aload_n 0, 1) := by decide +kernel
theorem dX12_findsRows_76 : decode cX12_findsRows 76 = .ok (.getfield 142, 3) := by decide +kernel
theorem dX12_findsRows_79 : decode cX12_findsRows 79 = .ok (.iload_n 3, 1) := by decide +kernel
theorem dX12_findsRows_80 : decode cX12_findsRows 80 = .ok (.dup2, 1) := by decide +kernel
theorem dX12_findsRows_81 : decode cX12_findsRows 81 = .ok (.iaload, 1) := by decide +kernel
theorem dX12_findsRows_82 : decode cX12_findsRows 82 = .ok (.iconst 1, 1) := by decide +kernel
theorem dX12_findsRows_83 : decode cX12_findsRows 83 = .ok (.iadd, 1) := by decide +kernel
theorem dX12_findsRows_84 : decode cX12_findsRows 84 = .ok (.iastore, 1) := by decide +kernel
theorem dX12_findsRows_85 : decode cX12_findsRows 85 = .ok (.aload_n 0, 1) := by decide +kernel
theorem dX12_findsRows_86 : decode cX12_findsRows 86 = .ok (.getfield 142, 3) := by decide +kernel
theorem dX12_findsRows_89 : decode cX12_findsRows 89 = .ok (.iload_n 3, 1) := by decide +kernel
theorem dX12_findsRows_90 : decode cX12_findsRows 90 = .ok (.iaload, 1) := by decide +kernel
theorem dX12_findsRows_91 : decode cX12_findsRows 91 = .ok (.bipush 8, 2) := by decide +kernel
theorem dX12_findsRows_93 : decode cX12_findsRows 93 = .ok (.if_icmp .ge 43, 3) := by decide +kernel
theorem dX12_findsRows_96 : decode cX12_findsRows 96 = .ok (.iload_n 1, 1) := by decide +kernel
theorem dX12_findsRows_97 : decode cX12_findsRows 97 = .ok (.aload_n 0, 1) := by decide +kernel
theorem dX12_findsRows_98 : decode cX12_findsRows 98 = .ok (.getfield 142, 3) := by decide +kernel
theorem dX12_findsRows_101 : decode cX12_findsRows 101 = .ok (.iload_n 3, 1) := by decide +kernel
theorem dX12_findsRows_102 : decode cX12_findsRows 102 = .ok (.iaload, 1) := by decide +kernel
theorem dX12_findsRows_103 : decode cX12_findsRows 103 = .ok (.invokestatic 390, 3) := by decide +kernel
theorem dX12_findsRows_106 : decode cX12_findsRows 106 = .ok (.ifCond .eq 17, 3) := by decide +kernel
theorem dX12_findsRows_109 : decode cX12_findsRows 109 = .ok (.iload 4, 2) := by decide +kernel
theorem dX12_findsRows_111 : decode cX12_findsRows 111 = .ok (.aload_n 0, 1) := by decide +kernel
theorem dX12_findsRows_112 : decode cX12_findsRows 112 = .ok (.getfield 142, 3) := by decide +kernel
theorem dX12_findsRows_115 : decode cX12_findsRows 115 = .ok (.iload_n 3, 1) := by decide +kernel
theorem dX12_findsRows_116 : decode cX12_findsRows 116 = .ok (.iaload, 1) := by decide +kernel
theorem dX12_findsRows_117 : decode cX12_findsRows 117 = .ok (.invokestatic 390, 3) := by decide +kernel
theorem dX12_findsRows_120 : decode cX12_findsRows 120 = .ok (.ifCond .eq 16, 3) := by decide +kernel
theorem dX12_findsRows_123 : decode cX12_findsRows 123 = .ok (.aload_n 0, 1) := by decide +kernel
theorem dX12_findsRows_124 : decode cX12_findsRows 124 = .ok (.getfield 142, 3) := by decide +kernel
theorem dX12_findsRows_127 : decode cX12_findsRows 127 = .ok (.iload_n 3, 1) := by decide +kernel
theorem dX12_findsRows_128 : decode cX12_findsRows 128 = .ok (.dup2, 1) := by decide +kernel
theorem dX12_findsRows_129 : decode cX12_findsRows 129 = .ok (.iaload, 1) := by decide +kernel
theorem dX12_findsRows_130 : decode cX12_findsRows 130 = .ok (.iconst 1, 1) := by decide +kernel
theorem dX12_findsRows_131 : decode cX12_findsRows 131 = .ok (.iadd, 1) := by decide +kernel
theorem dX12_findsRows_132 : decode cX12_findsRows 132 = .ok (.iastore, 1) := by decide +kernel
theorem dX12_findsRows_133 : decode cX12_findsRows 133 = .ok (.goto (-48), 3) := by decide +kernel
theorem dX12_findsRows_136 : decode cX12_findsRows 136 = .ok (.aload_n 0, 1) := by decide +kernel
theorem dX12_findsRows_137 : decode cX12_findsRows 137 = .ok (.getfield 142, 3) := by decide +kernel
theorem dX12_findsRows_140 : decode cX12_findsRows 140 = .ok (.iload_n 3, 1) := by decide +kernel
theorem dX12_findsRows_141 : decode cX12_findsRows 141 = .ok (.iaload, 1) := by decide +kernel
theorem dX12_findsRows_142 : decode cX12_findsRows 142 = .ok (.bipush 8, 2) := by decide +kernel
theorem dX12_findsRows_144 : decode cX12_findsRows 144 = .ok (.if_icmp .ne 9, 3) := by decide +kernel
theorem dX12_findsRows_147 : decode cX12_findsRows 147 = .ok (.iinc 3 (-1), 3) := by decide +kernel
theorem dX12_findsRows_150 : decode cX12_findsRows 150 = .ok (.goto (-109), 3) := by decide +kernel
theorem dX12_findsRows_153 : decode cX12_findsRows 153 = .ok (.iload_n 3, 1) := by decide +kernel
theorem dX12_findsRows_154 : decode cX12_findsRows 154 = .ok (.iload_n 2, 1) := by decide +kernel
theorem dX12_findsRows_155 : decode cX12_findsRows 155 = .ok (.iconst 1, 1) := by decide +kernel
theorem dX12_findsRows_156 : decode cX12_findsRows 156 = .ok (.isub, 1) := by decide +kernel
theorem dX12_findsRows_157 : decode cX12_findsRows 157 = .ok (.if_icmp .ne 11, 3) := by decide +kernel
theorem dX12_findsRows_160 : decode cX12_findsRows 160 = .ok (.aload_n 0, 1) := by decide +kernel
theorem dX12_findsRows_161 : decode cX12_findsRows 161 = .ok (.iload_n 2, 1) := by decide +kernel
theorem dX12_findsRows_162 : decode cX12_findsRows 162 = .ok (.invokevirtual 542, 3) := by decide +kernel
theorem dX12_findsRows_165 : decode cX12_findsRows 165 = .ok (.goto (-124), 3) := by decide +kernel
theorem dX12_findsRows_168 : decode cX12_findsRows 168 = .ok (.iload 4, 2) := by decide +kernel
theorem dX12_findsRows_170 : decode cX12_findsRows 170 = .ok (.iconst 1, 1) := by decide +kernel
theorem dX12_findsRows_171 : decode cX12_findsRows 171 = .ok (.aload_n 0, 1) := by decide +kernel
theorem dX12_findsRows_172 : decode cX12_findsRows 172 = .ok (.getfield 142, 3) := by decide +kernel
theorem dX12_findsRows_175 : decode cX12_findsRows 175 = .ok (.iload_n 3, 1) := by decide +kernel
theorem dX12_findsRows_176 : decode cX12_findsRows 176 = .ok (.iaload, 1) := by decide +kernel
theorem dX12_findsRows_177 : decode cX12_findsRows 177 = .ok (.ishl, 1) := by decide +kernel
theorem dX12_findsRows_178 : decode cX12_findsRows 178 = .ok (.ior, 1) := by decide +kernel
theorem dX12_findsRows_179 : decode cX12_findsRows 179 = .ok (.istore 4, 2) := by decide +kernel
theorem dX12_findsRows_181 : decode cX12_findsRows 181 = .ok (.iinc 3 1, 3) := by decide +kernel
theorem dX12_findsRows_184 : decode cX12_findsRows 184 = .ok (.aload_n 0, 1) := by decide +kernel
theorem dX12_findsRows_185 : decode cX12_findsRows 185 = .ok (.getfield 142, 3) := by decide +kernel
theorem dX12_findsRows_188 : decode cX12_findsRows 188 = .ok (.iload_n 3, 1) := by decide +kernel
theorem dX12_findsRows_189 : decode cX12_findsRows 189 = .ok (.iconst (-1), 1) := by decide +kernel
theorem dX12_findsRows_190 : decode cX12_findsRows 190 = .ok (.iastore, 1) := by decide +kernel
theorem dX12_findsRows_191 : decode cX12_findsRows 191 = .ok (.goto (-150), 3) := by decide +kernel
theorem dX12_findsRows_194 : decode cX12_findsRows 194 = .ok (.return_, 1) := by decide +kernel
theorem dX12_takesRow_0 : decode cX12_takesRow 0 = .ok (.aload_n 0, 1) := by decide +kernel
theorem dX12_takesRow_1 : decode cX12_takesRow 1 = .ok (.iload_n 1, 1) := by decide +kernel
theorem dX12_takesRow_2 : decode cX12_takesRow 2 = .ok (.invokevirtual 545, 3) := by decide +kernel
theorem dX12_takesRow_5 : decode cX12_takesRow 5 = .ok (.ifCond .eq 45, 3) := by decide +kernel
theorem dX12_takesRow_8 : decode cX12_takesRow 8 = .ok (.iconst 0, 1) := by decide +kernel
theorem dX12_takesRow_9 : decode cX12_takesRow 9 = .ok (.istore_n 2, 1) := by decide +kernel
theorem dX12_takesRow_10 : decode cX12_takesRow 10 = .ok (.iload_n 2, 1) := by decide +kernel
theorem dX12_takesRow_11 : decode cX12_takesRow 11 = .ok (.iload_n 1, 1) := by decide +kernel
theorem dX12_takesRow_12 : decode cX12_takesRow 12 = .ok (.if_icmp .ge 28, 3) := by decide +kernel
theorem dX12_takesRow_15 : decode cX12_takesRow 15 = .ok (.aload_n 0, 1) := by decide +kernel
theorem dX12_takesRow_16 : decode cX12_takesRow 16 = .ok (.getfield 536, 3) := by decide +kernel
theorem dX12_takesRow_19 : decode cX12_takesRow 19 = .ok (.ifCond .ne 21, 3) := by decide +kernel
theorem dX12_takesRow_22 : decode cX12_takesRow 22 = .ok (.aload_n 0, 1) := by decide +kernel
theorem dX12_takesRow_23 : decode cX12_takesRow 23 = .ok (.getfield 145, 3) := by decide +kernel
theorem dX12_takesRow_26 : decode cX12_takesRow 26 = .ok (.iload_n 2, 1) := by decide +kernel
theorem dX12_takesRow_27 : decode cX12_takesRow 27 = .ok (.aload_n 0, 1) := by decide +kernel
theorem dX12_takesRow_28 : decode cX12_takesRow 28 = .ok (.getfield 142, 3) := by decide +kernel
theorem dX12_takesRow_31 : decode cX12_takesRow 31 = .ok (.iload_n 2, 1) := by decide +kernel
theorem dX12_takesRow_32 : decode cX12_takesRow 32 = .ok (.iaload, 1) := by decide +kernel
theorem dX12_takesRow_33 : decode cX12_takesRow 33 = .ok (.iastore, 1) := by decide +kernel
theorem dX12_takesRow_34 : decode cX12_takesRow 34 = .ok (.iinc 2 1, 3) := by decide +kernel
theorem dX12_takesRow_37 : decode cX12_takesRow 37 = .ok (.goto (-27), 3) := by decide +kernel
theorem dX12_takesRow_40 : decode cX12_takesRow 40 = .ok (.aload_n 0, 1) := by decide +kernel
theorem dX12_takesRow_41 : decode cX12_takesRow 41 = .ok (.dup, 1) := by decide +kernel
theorem dX12_takesRow_42 : decode cX12_takesRow 42 = .ok (.getfield 536, 3) := by decide +kernel
theorem dX12_takesRow_45 : decode cX12_takesRow 45 = .ok (.iconst 1, 1) := by decide +kernel
theorem dX12_takesRow_46 : decode cX12_takesRow 46 = .ok (.iadd, 1) := by decide +kernel
theorem dX12_takesRow_47 : decode cX12_takesRow 47 = .ok (.putfield 536, 3) := by decide +kernel
theorem dX12_takesRow_50 : decode cX12_takesRow 50 = .ok (.return_, 1) := by decide +kernel
theorem dX12_plan_0 : decode cX12_plan 0 = .ok (.aload_n 0, 1) := by decide +kernel
theorem dX12_plan_1 : decode cX12_plan 1 = .ok (.invokevirtual 430, 3) := by decide +kernel
theorem dX12_plan_4 : decode cX12_plan 4 = .ok (.ifCond .eq 17, 3) := by decide +kernel
theorem dX12_plan_7 : decode cX12_plan 7 = .ok (.iload_n 1, 1) := by decide +kernel
theorem dX12_plan_8 : decode cX12_plan 8 = .ok (.i2l, 1) := by decide +kernel
theorem dX12_plan_9 : decode cX12_plan 9 = .ok (.ldc2_w 548, 3) := by decide +kernel
theorem dX12_plan_12 : decode cX12_plan 12 = .ok (.ldc2_w 550, 3) := by decide +kernel
theorem dX12_plan_15 : decode cX12_plan 15 = .ok (.invokestatic 176, 3) := by decide +kernel
theorem dX12_plan_18 : decode cX12_plan 18 = .ok (.ifCond .ne 6, 3) := by decide +kernel
theorem dX12_plan_21 : decode cX12_plan 21 = .ok (.bipush (-4), 2) := by decide +kernel
theorem dX12_plan_23 : decode cX12_plan 23 = .ok (.ireturn, 1) := by decide +kernel
theorem dX12_plan_24 : decode cX12_plan 24 = .ok (.aload_n 0, 1) := by decide +kernel
theorem dX12_plan_25 : decode cX12_plan 25 = .ok (.invokevirtual 393, 3) := by decide +kernel
theorem dX12_plan_28 : decode cX12_plan 28 = .ok (.istore_n 2, 1) := by decide +kernel
theorem dX12_plan_29 : decode cX12_plan 29 = .ok (.iload_n 2, 1) := by decide +kernel
theorem dX12_plan_30 : decode cX12_plan 30 = .ok (.invokestatic 460, 3) := by decide +kernel
theorem dX12_plan_33 : decode cX12_plan 33 = .ok (.bipush 7, 2) := by decide +kernel
theorem dX12_plan_35 : decode cX12_plan 35 = .ok (.if_icmp .le 6, 3) := by decide +kernel
theorem dX12_plan_38 : decode cX12_plan 38 = .ok (.bipush (-3), 2) := by decide +kernel
theorem dX12_plan_40 : decode cX12_plan 40 = .ok (.ireturn, 1) := by decide +kernel
theorem dX12_plan_41 : decode cX12_plan 41 = .ok (.aload_n 0, 1) := by decide +kernel
theorem dX12_plan_42 : decode cX12_plan 42 = .ok (.iload_n 2, 1) := by decide +kernel
theorem dX12_plan_43 : decode cX12_plan 43 = .ok (.invokevirtual 552, 3) := by decide +kernel
theorem dX12_plan_46 : decode cX12_plan 46 = .ok (.iload_n 1, 1) := by decide +kernel
theorem dX12_plan_47 : decode cX12_plan 47 = .ok (.iconst (-1), 1) := by decide +kernel
theorem dX12_plan_48 : decode cX12_plan 48 = .ok (.if_icmp .ne 8, 3) := by decide +kernel
theorem dX12_plan_51 : decode cX12_plan 51 = .ok (.aload_n 0, 1) := by decide +kernel
theorem dX12_plan_52 : decode cX12_plan 52 = .ok (.getfield 536, 3) := by decide +kernel
theorem dX12_plan_55 : decode cX12_plan 55 = .ok (.ireturn, 1) := by decide +kernel
theorem dX12_plan_56 : decode cX12_plan 56 = .ok (.aload_n 0, 1) := by decide +kernel
theorem dX12_plan_57 : decode cX12_plan 57 = .ok (.getfield 536, 3) := by decide +kernel
theorem dX12_plan_60 : decode cX12_plan 60 = .ok (.ifCond .eq 11, 3) := by decide +kernel
theorem dX12_plan_63 : decode cX12_plan 63 = .ok (.iload_n 1, 1) := by decide +kernel
theorem dX12_plan_64 : decode cX12_plan 64 = .ok (.iload_n 2, 1) := by decide +kernel
theorem dX12_plan_65 : decode cX12_plan 65 = .ok (.invokestatic 460, 3) := by decide +kernel
theorem dX12_plan_68 : decode cX12_plan 68 = .ok (.if_icmp .lt 8, 3) := by decide +kernel
theorem dX12_plan_71 : decode cX12_plan 71 = .ok (.bipush (-2), 2) := by decide +kernel
theorem dX12_plan_73 : decode cX12_plan 73 = .ok (.goto 9, 3) := by decide +kernel
theorem dX12_plan_76 : decode cX12_plan 76 = .ok (.aload_n 0, 1) := by decide +kernel
theorem dX12_plan_77 : decode cX12_plan 77 = .ok (.getfield 145, 3) := by decide +kernel
theorem dX12_plan_80 : decode cX12_plan 80 = .ok (.iload_n 1, 1) := by decide +kernel
theorem dX12_plan_81 : decode cX12_plan 81 = .ok (.iaload, 1) := by decide +kernel
theorem dX12_plan_82 : decode cX12_plan 82 = .ok (.ireturn, 1) := by decide +kernel
theorem dX12_sawn_0 : decode cX12_sawn 0 = .ok (.aload_n 0, 1) := by decide +kernel
theorem dX12_sawn_1 : decode cX12_sawn 1 = .ok (.invokevirtual 430, 3) := by decide +kernel
theorem dX12_sawn_4 : decode cX12_sawn 4 = .ok (.ifCond .eq 30, 3) := by decide +kernel
theorem dX12_sawn_7 : decode cX12_sawn 7 = .ok (.iload_n 1, 1) := by decide +kernel
theorem dX12_sawn_8 : decode cX12_sawn 8 = .ok (.ifCond .lt 26, 3) := by decide +kernel
theorem dX12_sawn_11 : decode cX12_sawn 11 = .ok (.iload_n 1, 1) := by decide +kernel
theorem dX12_sawn_12 : decode cX12_sawn 12 = .ok (.aload_n 0, 1) := by decide +kernel
theorem dX12_sawn_13 : decode cX12_sawn 13 = .ok (.invokevirtual 393, 3) := by decide +kernel
theorem dX12_sawn_16 : decode cX12_sawn 16 = .ok (.iconst (-1), 1) := by decide +kernel
theorem dX12_sawn_17 : decode cX12_sawn 17 = .ok (.ixor, 1) := by decide +kernel
theorem dX12_sawn_18 : decode cX12_sawn 18 = .ok (.iand, 1) := by decide +kernel
theorem dX12_sawn_19 : decode cX12_sawn 19 = .ok (.ifCond .ne 15, 3) := by decide +kernel
theorem dX12_sawn_22 : decode cX12_sawn 22 = .ok (.iload_n 2, 1) := by decide +kernel
theorem dX12_sawn_23 : decode cX12_sawn 23 = .ok (.i2l, 1) := by decide +kernel
theorem dX12_sawn_24 : decode cX12_sawn 24 = .ok (.lconst 0, 1) := by decide +kernel
theorem dX12_sawn_25 : decode cX12_sawn 25 = .ok (.ldc2_w 555, 3) := by decide +kernel
theorem dX12_sawn_28 : decode cX12_sawn 28 = .ok (.invokestatic 176, 3) := by decide +kernel
theorem dX12_sawn_31 : decode cX12_sawn 31 = .ok (.ifCond .ne 5, 3) := by decide +kernel
theorem dX12_sawn_34 : decode cX12_sawn 34 = .ok (.iconst (-1), 1) := by decide +kernel
theorem dX12_sawn_35 : decode cX12_sawn 35 = .ok (.ireturn, 1) := by decide +kernel
theorem dX12_sawn_36 : decode cX12_sawn 36 = .ok (.iconst 0, 1) := by decide +kernel
theorem dX12_sawn_37 : decode cX12_sawn 37 = .ok (.istore_n 3, 1) := by decide +kernel
theorem dX12_sawn_38 : decode cX12_sawn 38 = .ok (.bipush (-2), 2) := by decide +kernel
theorem dX12_sawn_40 : decode cX12_sawn 40 = .ok (.istore 4, 2) := by decide +kernel
theorem dX12_sawn_42 : decode cX12_sawn 42 = .ok (.iconst 0, 1) := by decide +kernel
theorem dX12_sawn_43 : decode cX12_sawn 43 = .ok (.istore 5, 2) := by decide +kernel
theorem dX12_sawn_45 : decode cX12_sawn 45 = .ok (.iload 5, 2) := by decide +kernel
theorem dX12_sawn_47 : decode cX12_sawn 47 = .ok (.aload_n 0, 1) := by decide +kernel
theorem dX12_sawn_48 : decode cX12_sawn 48 = .ok (.invokevirtual 396, 3) := by decide +kernel
theorem dX12_sawn_51 : decode cX12_sawn 51 = .ok (.if_icmp .gt 58, 3) := by decide +kernel
theorem dX12_sawn_54 : decode cX12_sawn 54 = .ok (.aload_n 0, 1) := by decide +kernel
theorem dX12_sawn_55 : decode cX12_sawn 55 = .ok (.aload_n 0, 1) := by decide +kernel
theorem dX12_sawn_56 : decode cX12_sawn 56 = .ok (.invokevirtual 396, 3) := by decide +kernel
theorem dX12_sawn_59 : decode cX12_sawn 59 = .ok (.iload 5, 2) := by decide +kernel
theorem dX12_sawn_61 : decode cX12_sawn 61 = .ok (.iconst (-1), 1) := by decide +kernel
theorem dX12_sawn_62 : decode cX12_sawn 62 = .ok (.ixor, 1) := by decide +kernel
theorem dX12_sawn_63 : decode cX12_sawn 63 = .ok (.iand, 1) := by decide +kernel
theorem dX12_sawn_64 : decode cX12_sawn 64 = .ok (.invokevirtual 453, 3) := by decide +kernel
theorem dX12_sawn_67 : decode cX12_sawn 67 = .ok (.iload_n 1, 1) := by decide +kernel
theorem dX12_sawn_68 : decode cX12_sawn 68 = .ok (.if_icmp .ne 35, 3) := by decide +kernel
theorem dX12_sawn_71 : decode cX12_sawn 71 = .ok (.iinc 3 1, 3) := by decide +kernel
theorem dX12_sawn_74 : decode cX12_sawn 74 = .ok (.iload 4, 2) := by decide +kernel
theorem dX12_sawn_76 : decode cX12_sawn 76 = .ok (.bipush (-2), 2) := by decide +kernel
theorem dX12_sawn_78 : decode cX12_sawn 78 = .ok (.if_icmp .eq 16, 3) := by decide +kernel
theorem dX12_sawn_81 : decode cX12_sawn 81 = .ok (.iload 5, 2) := by decide +kernel
theorem dX12_sawn_83 : decode cX12_sawn 83 = .ok (.invokestatic 460, 3) := by decide +kernel
theorem dX12_sawn_86 : decode cX12_sawn 86 = .ok (.iload 4, 2) := by decide +kernel
theorem dX12_sawn_88 : decode cX12_sawn 88 = .ok (.invokestatic 460, 3) := by decide +kernel
theorem dX12_sawn_91 : decode cX12_sawn 91 = .ok (.if_icmp .ge 8, 3) := by decide +kernel
theorem dX12_sawn_94 : decode cX12_sawn 94 = .ok (.iload 5, 2) := by decide +kernel
theorem dX12_sawn_96 : decode cX12_sawn 96 = .ok (.goto 5, 3) := by decide +kernel
theorem dX12_sawn_99 : decode cX12_sawn 99 = .ok (.iload 4, 2) := by decide +kernel
theorem dX12_sawn_101 : decode cX12_sawn 101 = .ok (.istore 4, 2) := by decide +kernel
theorem dX12_sawn_103 : decode cX12_sawn 103 = .ok (.iinc 5 1, 3) := by decide +kernel
theorem dX12_sawn_106 : decode cX12_sawn 106 = .ok (.goto (-61), 3) := by decide +kernel
theorem dX12_sawn_109 : decode cX12_sawn 109 = .ok (.iload_n 2, 1) := by decide +kernel
theorem dX12_sawn_110 : decode cX12_sawn 110 = .ok (.iconst 2, 1) := by decide +kernel
theorem dX12_sawn_111 : decode cX12_sawn 111 = .ok (.if_icmp .ne 5, 3) := by decide +kernel
theorem dX12_sawn_114 : decode cX12_sawn 114 = .ok (.iload_n 3, 1) := by decide +kernel
theorem dX12_sawn_115 : decode cX12_sawn 115 = .ok (.ireturn, 1) := by decide +kernel
theorem dX12_sawn_116 : decode cX12_sawn 116 = .ok (.iload 4, 2) := by decide +kernel
theorem dX12_sawn_118 : decode cX12_sawn 118 = .ok (.bipush (-2), 2) := by decide +kernel
theorem dX12_sawn_120 : decode cX12_sawn 120 = .ok (.if_icmp .eq 8, 3) := by decide +kernel
theorem dX12_sawn_123 : decode cX12_sawn 123 = .ok (.iload_n 2, 1) := by decide +kernel
theorem dX12_sawn_124 : decode cX12_sawn 124 = .ok (.iconst 1, 1) := by decide +kernel
theorem dX12_sawn_125 : decode cX12_sawn 125 = .ok (.if_icmp .ne 8, 3) := by decide +kernel
theorem dX12_sawn_128 : decode cX12_sawn 128 = .ok (.iload 4, 2) := by decide +kernel
theorem dX12_sawn_130 : decode cX12_sawn 130 = .ok (.goto 8, 3) := by decide +kernel
theorem dX12_sawn_133 : decode cX12_sawn 133 = .ok (.iload 4, 2) := by decide +kernel
theorem dX12_sawn_135 : decode cX12_sawn 135 = .ok (.invokestatic 460, 3) := by decide +kernel
theorem dX12_sawn_138 : decode cX12_sawn 138 = .ok (.ireturn, 1) := by decide +kernel
theorem dX12_locksUsed_0 : decode cX12_locksUsed 0 = .ok (.iconst 0, 1) := by decide +kernel
theorem dX12_locksUsed_1 : decode cX12_locksUsed 1 = .ok (.istore_n 2, 1) := by decide +kernel
theorem dX12_locksUsed_2 : decode cX12_locksUsed 2 = .ok (.iconst 0, 1) := by decide +kernel
theorem dX12_locksUsed_3 : decode cX12_locksUsed 3 = .ok (.istore_n 3, 1) := by decide +kernel
theorem dX12_locksUsed_4 : decode cX12_locksUsed 4 = .ok (.iload_n 3, 1) := by decide +kernel
theorem dX12_locksUsed_5 : decode cX12_locksUsed 5 = .ok (.iload_n 1, 1) := by decide +kernel
theorem dX12_locksUsed_6 : decode cX12_locksUsed 6 = .ok (.if_icmp .ge 32, 3) := by decide +kernel
theorem dX12_locksUsed_9 : decode cX12_locksUsed 9 = .ok (.aload_n 0, 1) := by decide +kernel
theorem dX12_locksUsed_10 : decode cX12_locksUsed 10 = .ok (.getfield 151, 3) := by decide +kernel
theorem dX12_locksUsed_13 : decode cX12_locksUsed 13 = .ok (.iload_n 3, 1) := by decide +kernel
theorem dX12_locksUsed_14 : decode cX12_locksUsed 14 = .ok (.iaload, 1) := by decide +kernel
theorem dX12_locksUsed_15 : decode cX12_locksUsed 15 = .ok (.iload_n 2, 1) := by decide +kernel
theorem dX12_locksUsed_16 : decode cX12_locksUsed 16 = .ok (.if_icmp .lt 14, 3) := by decide +kernel
theorem dX12_locksUsed_19 : decode cX12_locksUsed 19 = .ok (.aload_n 0, 1) := by decide +kernel
theorem dX12_locksUsed_20 : decode cX12_locksUsed 20 = .ok (.getfield 151, 3) := by decide +kernel
theorem dX12_locksUsed_23 : decode cX12_locksUsed 23 = .ok (.iload_n 3, 1) := by decide +kernel
theorem dX12_locksUsed_24 : decode cX12_locksUsed 24 = .ok (.iaload, 1) := by decide +kernel
theorem dX12_locksUsed_25 : decode cX12_locksUsed 25 = .ok (.iconst 1, 1) := by decide +kernel
theorem dX12_locksUsed_26 : decode cX12_locksUsed 26 = .ok (.iadd, 1) := by decide +kernel
theorem dX12_locksUsed_27 : decode cX12_locksUsed 27 = .ok (.goto 4, 3) := by decide +kernel
theorem dX12_locksUsed_30 : decode cX12_locksUsed 30 = .ok (.iload_n 2, 1) := by decide +kernel
theorem dX12_locksUsed_31 : decode cX12_locksUsed 31 = .ok (.istore_n 2, 1) := by decide +kernel
theorem dX12_locksUsed_32 : decode cX12_locksUsed 32 = .ok (.iinc 3 1, 3) := by decide +kernel
theorem dX12_locksUsed_35 : decode cX12_locksUsed 35 = .ok (.goto (-31), 3) := by decide +kernel
theorem dX12_locksUsed_38 : decode cX12_locksUsed 38 = .ok (.iload_n 2, 1) := by decide +kernel
theorem dX12_locksUsed_39 : decode cX12_locksUsed 39 = .ok (.ireturn, 1) := by decide +kernel
theorem dX12_loadOf_0 : decode cX12_loadOf 0 = .ok (.iconst 0, 1) := by decide +kernel
theorem dX12_loadOf_1 : decode cX12_loadOf 1 = .ok (.istore_n 3, 1) := by decide +kernel
theorem dX12_loadOf_2 : decode cX12_loadOf 2 = .ok (.iconst 0, 1) := by decide +kernel
theorem dX12_loadOf_3 : decode cX12_loadOf 3 = .ok (.istore 4, 2) := by decide +kernel
theorem dX12_loadOf_5 : decode cX12_loadOf 5 = .ok (.iload 4, 2) := by decide +kernel
theorem dX12_loadOf_7 : decode cX12_loadOf 7 = .ok (.iload_n 2, 1) := by decide +kernel
theorem dX12_loadOf_8 : decode cX12_loadOf 8 = .ok (.if_icmp .ge 39, 3) := by decide +kernel
theorem dX12_loadOf_11 : decode cX12_loadOf 11 = .ok (.iload_n 3, 1) := by decide +kernel
theorem dX12_loadOf_12 : decode cX12_loadOf 12 = .ok (.aload_n 0, 1) := by decide +kernel
theorem dX12_loadOf_13 : decode cX12_loadOf 13 = .ok (.getfield 151, 3) := by decide +kernel
theorem dX12_loadOf_16 : decode cX12_loadOf 16 = .ok (.iload 4, 2) := by decide +kernel
theorem dX12_loadOf_18 : decode cX12_loadOf 18 = .ok (.iaload, 1) := by decide +kernel
theorem dX12_loadOf_19 : decode cX12_loadOf 19 = .ok (.iload_n 1, 1) := by decide +kernel
theorem dX12_loadOf_20 : decode cX12_loadOf 20 = .ok (.if_icmp .ne 18, 3) := by decide +kernel
theorem dX12_loadOf_23 : decode cX12_loadOf 23 = .ok (.aload_n 0, 1) := by decide +kernel
theorem dX12_loadOf_24 : decode cX12_loadOf 24 = .ok (.getfield 25, 3) := by decide +kernel
theorem dX12_loadOf_27 : decode cX12_loadOf 27 = .ok (.aload_n 0, 1) := by decide +kernel
theorem dX12_loadOf_28 : decode cX12_loadOf 28 = .ok (.getfield 157, 3) := by decide +kernel
theorem dX12_loadOf_31 : decode cX12_loadOf 31 = .ok (.iload 4, 2) := by decide +kernel
theorem dX12_loadOf_33 : decode cX12_loadOf 33 = .ok (.iaload, 1) := by decide +kernel
theorem dX12_loadOf_34 : decode cX12_loadOf 34 = .ok (.iaload, 1) := by decide +kernel
theorem dX12_loadOf_35 : decode cX12_loadOf 35 = .ok (.goto 4, 3) := by decide +kernel
theorem dX12_loadOf_38 : decode cX12_loadOf 38 = .ok (.iconst 0, 1) := by decide +kernel
theorem dX12_loadOf_39 : decode cX12_loadOf 39 = .ok (.iadd, 1) := by decide +kernel
theorem dX12_loadOf_40 : decode cX12_loadOf 40 = .ok (.istore_n 3, 1) := by decide +kernel
theorem dX12_loadOf_41 : decode cX12_loadOf 41 = .ok (.iinc 4 1, 3) := by decide +kernel
theorem dX12_loadOf_44 : decode cX12_loadOf 44 = .ok (.goto (-39), 3) := by decide +kernel
theorem dX12_loadOf_47 : decode cX12_loadOf 47 = .ok (.iload_n 3, 1) := by decide +kernel
theorem dX12_loadOf_48 : decode cX12_loadOf 48 = .ok (.ireturn, 1) := by decide +kernel
theorem dX12_findsLocks_0 : decode cX12_findsLocks 0 = .ok (.iconst 0, 1) := by decide +kernel
theorem dX12_findsLocks_1 : decode cX12_findsLocks 1 = .ok (.istore_n 2, 1) := by decide +kernel
theorem dX12_findsLocks_2 : decode cX12_findsLocks 2 = .ok (.iconst 0, 1) := by decide +kernel
theorem dX12_findsLocks_3 : decode cX12_findsLocks 3 = .ok (.istore_n 3, 1) := by decide +kernel
theorem dX12_findsLocks_4 : decode cX12_findsLocks 4 = .ok (.iload_n 3, 1) := by decide +kernel
theorem dX12_findsLocks_5 : decode cX12_findsLocks 5 = .ok (.aload_n 0, 1) := by decide +kernel
theorem dX12_findsLocks_6 : decode cX12_findsLocks 6 = .ok (.getfield 9, 3) := by decide +kernel
theorem dX12_findsLocks_9 : decode cX12_findsLocks 9 = .ok (.iconst 3, 1) := by decide +kernel
theorem dX12_findsLocks_10 : decode cX12_findsLocks 10 = .ok (.iaload, 1) := by decide +kernel
theorem dX12_findsLocks_11 : decode cX12_findsLocks 11 = .ok (.if_icmp .ge 28, 3) := by decide +kernel
theorem dX12_findsLocks_14 : decode cX12_findsLocks 14 = .ok (.aload_n 0, 1) := by decide +kernel
theorem dX12_findsLocks_15 : decode cX12_findsLocks 15 = .ok (.getfield 34, 3) := by decide +kernel
theorem dX12_findsLocks_18 : decode cX12_findsLocks 18 = .ok (.iload_n 3, 1) := by decide +kernel
theorem dX12_findsLocks_19 : decode cX12_findsLocks 19 = .ok (.iaload, 1) := by decide +kernel
theorem dX12_findsLocks_20 : decode cX12_findsLocks 20 = .ok (.ifCond .ne 13, 3) := by decide +kernel
theorem dX12_findsLocks_23 : decode cX12_findsLocks 23 = .ok (.aload_n 0, 1) := by decide +kernel
theorem dX12_findsLocks_24 : decode cX12_findsLocks 24 = .ok (.getfield 157, 3) := by decide +kernel
theorem dX12_findsLocks_27 : decode cX12_findsLocks 27 = .ok (.iload_n 2, 1) := by decide +kernel
theorem dX12_findsLocks_28 : decode cX12_findsLocks 28 = .ok (.iload_n 3, 1) := by decide +kernel
theorem dX12_findsLocks_29 : decode cX12_findsLocks 29 = .ok (.iastore, 1) := by decide +kernel
theorem dX12_findsLocks_30 : decode cX12_findsLocks 30 = .ok (.iinc 2 1, 3) := by decide +kernel
theorem dX12_findsLocks_33 : decode cX12_findsLocks 33 = .ok (.iinc 3 1, 3) := by decide +kernel
theorem dX12_findsLocks_36 : decode cX12_findsLocks 36 = .ok (.goto (-32), 3) := by decide +kernel
theorem dX12_findsLocks_39 : decode cX12_findsLocks 39 = .ok (.aload_n 0, 1) := by decide +kernel
theorem dX12_findsLocks_40 : decode cX12_findsLocks 40 = .ok (.iload_n 2, 1) := by decide +kernel
theorem dX12_findsLocks_41 : decode cX12_findsLocks 41 = .ok (.ifCond .ne 7, 3) := by decide +kernel
theorem dX12_findsLocks_44 : decode cX12_findsLocks 44 = .ok (.iconst 0, 1) := by decide +kernel
theorem dX12_findsLocks_45 : decode cX12_findsLocks 45 = .ok (.goto 4, 3) := by decide +kernel
theorem dX12_findsLocks_48 : decode cX12_findsLocks 48 = .ok (.iconst (-1), 1) := by decide +kernel
theorem dX12_findsLocks_49 : decode cX12_findsLocks 49 = .ok (.putfield 557, 3) := by decide +kernel
theorem dX12_findsLocks_52 : decode cX12_findsLocks 52 = .ok (.iconst 0, 1) := by decide +kernel
theorem dX12_findsLocks_53 : decode cX12_findsLocks 53 = .ok (.istore_n 3, 1) := by decide +kernel
theorem dX12_findsLocks_54 : decode cX12_findsLocks 54 = .ok (.aload_n 0, 1) := by decide +kernel
theorem dX12_findsLocks_55 : decode cX12_findsLocks 55 = .ok (.getfield 151, 3) := by decide +kernel
theorem dX12_findsLocks_58 : decode cX12_findsLocks 58 = .ok (.iconst 0, 1) := by decide +kernel
theorem dX12_findsLocks_59 : decode cX12_findsLocks 59 = .ok (.iconst (-1), 1) := by decide +kernel
theorem dX12_findsLocks_60 : decode cX12_findsLocks 60 = .ok (.iastore, 1) := by decide +kernel
theorem dX12_findsLocks_61 : decode cX12_findsLocks 61 = .ok (.iload_n 3, 1) := by decide +kernel
theorem dX12_findsLocks_62 : decode cX12_findsLocks 62 = .ok (.ifCond .lt 187, 3) := by decide +kernel
theorem dX12_findsLocks_65 : decode cX12_findsLocks 65 = .ok (.iload_n 2, 1) := by decide +kernel
theorem dX12_findsLocks_66 : decode cX12_findsLocks 66 = .ok (.ifCond .le 183, 3) := by decide +kernel
theorem dX12_findsLocks_69 : decode cX12_findsLocks 69 = .ok (.aload_n 0, 1) := by decide +kernel
theorem dX12_findsLocks_70 : decode cX12_findsLocks 70 = .ok (.getfield 151, 3) := by decide +kernel
theorem dX12_findsLocks_73 : decode cX12_findsLocks 73 = .ok (.iload_n 3, 1) := by decide +kernel
theorem dX12_findsLocks_74 : decode cX12_findsLocks 74 = .ok (.dup2, 1) := by decide +kernel
theorem dX12_findsLocks_75 : decode cX12_findsLocks 75 = .ok (.iaload, 1) := by decide +kernel
theorem dX12_findsLocks_76 : decode cX12_findsLocks 76 = .ok (.iconst 1, 1) := by decide +kernel
theorem dX12_findsLocks_77 : decode cX12_findsLocks 77 = .ok (.iadd, 1) := by decide +kernel
theorem dX12_findsLocks_78 : decode cX12_findsLocks 78 = .ok (.iastore, 1) := by decide +kernel
theorem dX12_findsLocks_79 : decode cX12_findsLocks 79 = .ok (.aload_n 0, 1) := by decide +kernel
theorem dX12_findsLocks_80 : decode cX12_findsLocks 80 = .ok (.iload_n 3, 1) := by decide +kernel
theorem dX12_findsLocks_81 : decode cX12_findsLocks 81 = .ok (.invokevirtual 560, 3) := by decide +kernel
theorem dX12_findsLocks_84 : decode cX12_findsLocks 84 = .ok (.istore 4, 2) := by decide +kernel
theorem dX12_findsLocks_86 : decode cX12_findsLocks 86 = .ok (.aload_n 0, 1) := by decide +kernel
theorem dX12_findsLocks_87 : decode cX12_findsLocks 87 = .ok (.getfield 151, 3) := by decide +kernel
theorem dX12_findsLocks_90 : decode cX12_findsLocks 90 = .ok (.iload_n 3, 1) := by decide +kernel
theorem dX12_findsLocks_91 : decode cX12_findsLocks 91 = .ok (.iaload, 1) := by decide +kernel
theorem dX12_findsLocks_92 : decode cX12_findsLocks 92 = .ok (.iload 4, 2) := by decide +kernel
theorem dX12_findsLocks_94 : decode cX12_findsLocks 94 = .ok (.if_icmp .gt 43, 3) := by decide +kernel
theorem dX12_findsLocks_97 : decode cX12_findsLocks 97 = .ok (.aload_n 0, 1) := by decide +kernel
theorem dX12_findsLocks_98 : decode cX12_findsLocks 98 = .ok (.aload_n 0, 1) := by decide +kernel
theorem dX12_findsLocks_99 : decode cX12_findsLocks 99 = .ok (.getfield 151, 3) := by decide +kernel
theorem dX12_findsLocks_102 : decode cX12_findsLocks 102 = .ok (.iload_n 3, 1) := by decide +kernel
theorem dX12_findsLocks_103 : decode cX12_findsLocks 103 = .ok (.iaload, 1) := by decide +kernel
theorem dX12_findsLocks_104 : decode cX12_findsLocks 104 = .ok (.iload_n 3, 1) := by decide +kernel
theorem dX12_findsLocks_105 : decode cX12_findsLocks 105 = .ok (.invokevirtual 563, 3) := by decide +kernel
theorem dX12_findsLocks_108 : decode cX12_findsLocks 108 = .ok (.aload_n 0, 1) := by decide +kernel
theorem dX12_findsLocks_109 : decode cX12_findsLocks 109 = .ok (.getfield 25, 3) := by decide +kernel
theorem dX12_findsLocks_112 : decode cX12_findsLocks 112 = .ok (.aload_n 0, 1) := by decide +kernel
theorem dX12_findsLocks_113 : decode cX12_findsLocks 113 = .ok (.getfield 157, 3) := by decide +kernel
theorem dX12_findsLocks_116 : decode cX12_findsLocks 116 = .ok (.iload_n 3, 1) := by decide +kernel
theorem dX12_findsLocks_117 : decode cX12_findsLocks 117 = .ok (.iaload, 1) := by decide +kernel
theorem dX12_findsLocks_118 : decode cX12_findsLocks 118 = .ok (.iaload, 1) := by decide +kernel
theorem dX12_findsLocks_119 : decode cX12_findsLocks 119 = .ok (.iadd, 1) := by decide +kernel
theorem dX12_findsLocks_120 : decode cX12_findsLocks 120 = .ok (.iload_n 1, 1) := by decide +kernel
theorem dX12_findsLocks_121 : decode cX12_findsLocks 121 = .ok (.if_icmp .le 16, 3) := by decide +kernel
theorem dX12_findsLocks_124 : decode cX12_findsLocks 124 = .ok (.aload_n 0, 1) := by decide +kernel
theorem dX12_findsLocks_125 : decode cX12_findsLocks 125 = .ok (.getfield 151, 3) := by decide +kernel
theorem dX12_findsLocks_128 : decode cX12_findsLocks 128 = .ok (.iload_n 3, 1) := by decide +kernel
theorem dX12_findsLocks_129 : decode cX12_findsLocks 129 = .ok (.dup2, 1) := by decide +kernel
theorem dX12_findsLocks_130 : decode cX12_findsLocks 130 = .ok (.iaload, 1) := by decide +kernel
theorem dX12_findsLocks_131 : decode cX12_findsLocks 131 = .ok (.iconst 1, 1) := by decide +kernel
theorem dX12_findsLocks_132 : decode cX12_findsLocks 132 = .ok (.iadd, 1) := by decide +kernel
theorem dX12_findsLocks_133 : decode cX12_findsLocks 133 = .ok (.iastore, 1) := by decide +kernel
theorem dX12_findsLocks_134 : decode cX12_findsLocks 134 = .ok (.goto (-48), 3) := by decide +kernel
theorem dX12_findsLocks_137 : decode cX12_findsLocks 137 = .ok (.aload_n 0, 1) := by decide +kernel
theorem dX12_findsLocks_138 : decode cX12_findsLocks 138 = .ok (.getfield 557, 3) := by decide +kernel
theorem dX12_findsLocks_141 : decode cX12_findsLocks 141 = .ok (.iconst (-1), 1) := by decide +kernel
theorem dX12_findsLocks_142 : decode cX12_findsLocks 142 = .ok (.if_icmp .eq 21, 3) := by decide +kernel
theorem dX12_findsLocks_145 : decode cX12_findsLocks 145 = .ok (.aload_n 0, 1) := by decide +kernel
theorem dX12_findsLocks_146 : decode cX12_findsLocks 146 = .ok (.iload_n 3, 1) := by decide +kernel
theorem dX12_findsLocks_147 : decode cX12_findsLocks 147 = .ok (.iconst 1, 1) := by decide +kernel
theorem dX12_findsLocks_148 : decode cX12_findsLocks 148 = .ok (.iadd, 1) := by decide +kernel
theorem dX12_findsLocks_149 : decode cX12_findsLocks 149 = .ok (.invokevirtual 560, 3) := by decide +kernel
theorem dX12_findsLocks_152 : decode cX12_findsLocks 152 = .ok (.aload_n 0, 1) := by decide +kernel
theorem dX12_findsLocks_153 : decode cX12_findsLocks 153 = .ok (.getfield 557, 3) := by decide +kernel
theorem dX12_findsLocks_156 : decode cX12_findsLocks 156 = .ok (.if_icmp .lt 7, 3) := by decide +kernel
theorem dX12_findsLocks_159 : decode cX12_findsLocks 159 = .ok (.iconst 1, 1) := by decide +kernel
theorem dX12_findsLocks_160 : decode cX12_findsLocks 160 = .ok (.goto 4, 3) := by decide +kernel
theorem dX12_findsLocks_163 : decode cX12_findsLocks 163 = .ok (.iconst 0, 1) := by decide +kernel
theorem dX12_findsLocks_164 : decode cX12_findsLocks 164 = .ok (.istore 5, 2) := by decide +kernel
theorem dX12_findsLocks_166 : decode cX12_findsLocks 166 = .ok (.aload_n 0, 1) := by decide +kernel
theorem dX12_findsLocks_167 : decode cX12_findsLocks 167 = .ok (.getfield 151, 3) := by decide +kernel
theorem dX12_findsLocks_170 : decode cX12_findsLocks 170 = .ok (.iload_n 3, 1) := by decide +kernel
theorem dX12_findsLocks_171 : decode cX12_findsLocks 171 = .ok (.iaload, 1) := by decide +kernel
theorem dX12_findsLocks_172 : decode cX12_findsLocks 172 = .ok (.iload 4, 2) := by decide +kernel
theorem dX12_findsLocks_174 : decode cX12_findsLocks 174 = .ok (.if_icmp .gt 8, 3) := by decide +kernel
theorem dX12_findsLocks_177 : decode cX12_findsLocks 177 = .ok (.iload 5, 2) := by decide +kernel
theorem dX12_findsLocks_179 : decode cX12_findsLocks 179 = .ok (.ifCond .eq 9, 3) := by decide +kernel
theorem dX12_findsLocks_182 : decode cX12_findsLocks 182 = .ok (.iinc 3 (-1), 3) := by decide +kernel
theorem dX12_findsLocks_185 : decode cX12_findsLocks 185 = .ok (.goto 61, 3) := by decide +kernel
theorem dX12_findsLocks_188 : decode cX12_findsLocks 188 = .ok (.iload_n 3, 1) := by decide +kernel
theorem dX12_findsLocks_189 : decode cX12_findsLocks 189 = .ok (.iload_n 2, 1) := by decide +kernel
theorem dX12_findsLocks_190 : decode cX12_findsLocks 190 = .ok (.iconst 1, 1) := by decide +kernel
theorem dX12_findsLocks_191 : decode cX12_findsLocks 191 = .ok (.isub, 1) := by decide +kernel
theorem dX12_findsLocks_192 : decode cX12_findsLocks 192 = .ok (.if_icmp .ne 44, 3) := by decide +kernel
theorem dX12_findsLocks_195 : decode cX12_findsLocks 195 = .ok (.aload_n 0, 1) := by decide +kernel
theorem dX12_findsLocks_196 : decode cX12_findsLocks 196 = .ok (.aload_n 0, 1) := by decide +kernel
theorem dX12_findsLocks_197 : decode cX12_findsLocks 197 = .ok (.iload_n 2, 1) := by decide +kernel
theorem dX12_findsLocks_198 : decode cX12_findsLocks 198 = .ok (.invokevirtual 560, 3) := by decide +kernel
theorem dX12_findsLocks_201 : decode cX12_findsLocks 201 = .ok (.putfield 557, 3) := by decide +kernel
theorem dX12_findsLocks_204 : decode cX12_findsLocks 204 = .ok (.iconst 0, 1) := by decide +kernel
theorem dX12_findsLocks_205 : decode cX12_findsLocks 205 = .ok (.istore 6, 2) := by decide +kernel
theorem dX12_findsLocks_207 : decode cX12_findsLocks 207 = .ok (.iload 6, 2) := by decide +kernel
theorem dX12_findsLocks_209 : decode cX12_findsLocks 209 = .ok (.iload_n 2, 1) := by decide +kernel
theorem dX12_findsLocks_210 : decode cX12_findsLocks 210 = .ok (.if_icmp .ge 23, 3) := by decide +kernel
theorem dX12_findsLocks_213 : decode cX12_findsLocks 213 = .ok (.aload_n 0, 1) := by decide +kernel
theorem dX12_findsLocks_214 : decode cX12_findsLocks 214 = .ok (.getfield 154, 3) := by decide +kernel
theorem dX12_findsLocks_217 : decode cX12_findsLocks 217 = .ok (.iload 6, 2) := by decide +kernel
theorem dX12_findsLocks_219 : decode cX12_findsLocks 219 = .ok (.aload_n 0, 1) := by decide +kernel
theorem dX12_findsLocks_220 : decode cX12_findsLocks 220 = .ok (.getfield 151, 3) := by decide +kernel
theorem dX12_findsLocks_223 : decode cX12_findsLocks 223 = .ok (.iload 6, 2) := by decide +kernel
theorem dX12_findsLocks_225 : decode cX12_findsLocks 225 = .ok (.iaload, 1) := by decide +kernel
theorem dX12_findsLocks_226 : decode cX12_findsLocks 226 = .ok (.iastore, 1) := by decide +kernel
theorem dX12_findsLocks_227 : decode cX12_findsLocks 227 = .ok (.iinc 6 1, 3) := by decide +kernel
theorem dX12_findsLocks_230 : decode cX12_findsLocks 230 = .ok (.goto (-23), 3) := by decide +kernel
theorem dX12_findsLocks_233 : decode cX12_findsLocks 233 = .ok (.goto 13, 3) := by decide +kernel
theorem dX12_findsLocks_236 : decode cX12_findsLocks 236 = .ok (.iinc 3 1, 3) := by decide +kernel
theorem dX12_findsLocks_239 : decode cX12_findsLocks 239 = .ok (.aload_n 0, 1) := by decide +kernel
theorem dX12_findsLocks_240 : decode cX12_findsLocks 240 = .ok (.getfield 151, 3) := by decide +kernel
theorem dX12_findsLocks_243 : decode cX12_findsLocks 243 = .ok (.iload_n 3, 1) := by decide +kernel
theorem dX12_findsLocks_244 : decode cX12_findsLocks 244 = .ok (.iconst (-1), 1) := by decide +kernel
theorem dX12_findsLocks_245 : decode cX12_findsLocks 245 = .ok (.iastore, 1) := by decide +kernel
theorem dX12_findsLocks_246 : decode cX12_findsLocks 246 = .ok (.goto (-185), 3) := by decide +kernel
theorem dX12_findsLocks_249 : decode cX12_findsLocks 249 = .ok (.return_, 1) := by decide +kernel
theorem dX12_locks_0 : decode cX12_locks 0 = .ok (.aload_n 0, 1) := by decide +kernel
theorem dX12_locks_1 : decode cX12_locks 1 = .ok (.invokevirtual 430, 3) := by decide +kernel
theorem dX12_locks_4 : decode cX12_locks 4 = .ok (.ifCond .eq 27, 3) := by decide +kernel
theorem dX12_locks_7 : decode cX12_locks 7 = .ok (.iload_n 1, 1) := by decide +kernel
theorem dX12_locks_8 : decode cX12_locks 8 = .ok (.i2l, 1) := by decide +kernel
theorem dX12_locks_9 : decode cX12_locks 9 = .ok (.lconst 1, 1) := by decide +kernel
theorem dX12_locks_10 : decode cX12_locks 10 = .ok (.ldc2_w 566, 3) := by decide +kernel
theorem dX12_locks_13 : decode cX12_locks 13 = .ok (.invokestatic 176, 3) := by decide +kernel
theorem dX12_locks_16 : decode cX12_locks 16 = .ok (.ifCond .eq 15, 3) := by decide +kernel
theorem dX12_locks_19 : decode cX12_locks 19 = .ok (.iload_n 2, 1) := by decide +kernel
theorem dX12_locks_20 : decode cX12_locks 20 = .ok (.i2l, 1) := by decide +kernel
theorem dX12_locks_21 : decode cX12_locks 21 = .ok (.lconst 0, 1) := by decide +kernel
theorem dX12_locks_22 : decode cX12_locks 22 = .ok (.ldc2_w 568, 3) := by decide +kernel
theorem dX12_locks_25 : decode cX12_locks 25 = .ok (.invokestatic 176, 3) := by decide +kernel
theorem dX12_locks_28 : decode cX12_locks 28 = .ok (.ifCond .ne 5, 3) := by decide +kernel
theorem dX12_locks_31 : decode cX12_locks 31 = .ok (.iconst (-1), 1) := by decide +kernel
theorem dX12_locks_32 : decode cX12_locks 32 = .ok (.ireturn, 1) := by decide +kernel
theorem dX12_locks_33 : decode cX12_locks 33 = .ok (.iconst 0, 1) := by decide +kernel
theorem dX12_locks_34 : decode cX12_locks 34 = .ok (.istore_n 3, 1) := by decide +kernel
theorem dX12_locks_35 : decode cX12_locks 35 = .ok (.iload_n 3, 1) := by decide +kernel
theorem dX12_locks_36 : decode cX12_locks 36 = .ok (.aload_n 0, 1) := by decide +kernel
theorem dX12_locks_37 : decode cX12_locks 37 = .ok (.getfield 9, 3) := by decide +kernel
theorem dX12_locks_40 : decode cX12_locks 40 = .ok (.iconst 3, 1) := by decide +kernel
theorem dX12_locks_41 : decode cX12_locks 41 = .ok (.iaload, 1) := by decide +kernel
theorem dX12_locks_42 : decode cX12_locks 42 = .ok (.if_icmp .ge 31, 3) := by decide +kernel
theorem dX12_locks_45 : decode cX12_locks 45 = .ok (.aload_n 0, 1) := by decide +kernel
theorem dX12_locks_46 : decode cX12_locks 46 = .ok (.getfield 34, 3) := by decide +kernel
theorem dX12_locks_49 : decode cX12_locks 49 = .ok (.iload_n 3, 1) := by decide +kernel
theorem dX12_locks_50 : decode cX12_locks 50 = .ok (.iaload, 1) := by decide +kernel
theorem dX12_locks_51 : decode cX12_locks 51 = .ok (.ifCond .ne 16, 3) := by decide +kernel
theorem dX12_locks_54 : decode cX12_locks 54 = .ok (.aload_n 0, 1) := by decide +kernel
theorem dX12_locks_55 : decode cX12_locks 55 = .ok (.getfield 25, 3) := by decide +kernel
theorem dX12_locks_58 : decode cX12_locks 58 = .ok (.iload_n 3, 1) := by decide +kernel
theorem dX12_locks_59 : decode cX12_locks 59 = .ok (.iaload, 1) := by decide +kernel
theorem dX12_locks_60 : decode cX12_locks 60 = .ok (.iload_n 1, 1) := by decide +kernel
theorem dX12_locks_61 : decode cX12_locks 61 = .ok (.if_icmp .le 6, 3) := by decide +kernel
theorem dX12_locks_64 : decode cX12_locks 64 = .ok (.bipush (-2), 2) := by decide +kernel
theorem dX12_locks_66 : decode cX12_locks 66 = .ok (.ireturn, 1) := by decide +kernel
theorem dX12_locks_67 : decode cX12_locks 67 = .ok (.iinc 3 1, 3) := by decide +kernel
theorem dX12_locks_70 : decode cX12_locks 70 = .ok (.goto (-35), 3) := by decide +kernel
theorem dX12_locks_73 : decode cX12_locks 73 = .ok (.aload_n 0, 1) := by decide +kernel
theorem dX12_locks_74 : decode cX12_locks 74 = .ok (.iload_n 1, 1) := by decide +kernel
theorem dX12_locks_75 : decode cX12_locks 75 = .ok (.invokevirtual 570, 3) := by decide +kernel
theorem dX12_locks_78 : decode cX12_locks 78 = .ok (.iload_n 2, 1) := by decide +kernel
theorem dX12_locks_79 : decode cX12_locks 79 = .ok (.ifCond .ne 8, 3) := by decide +kernel
theorem dX12_locks_82 : decode cX12_locks 82 = .ok (.aload_n 0, 1) := by decide +kernel
theorem dX12_locks_83 : decode cX12_locks 83 = .ok (.getfield 557, 3) := by decide +kernel
theorem dX12_locks_86 : decode cX12_locks 86 = .ok (.ireturn, 1) := by decide +kernel
theorem dX12_locks_87 : decode cX12_locks 87 = .ok (.iconst 0, 1) := by decide +kernel
theorem dX12_locks_88 : decode cX12_locks 88 = .ok (.istore_n 3, 1) := by decide +kernel
theorem dX12_locks_89 : decode cX12_locks 89 = .ok (.iconst 0, 1) := by decide +kernel
theorem dX12_locks_90 : decode cX12_locks 90 = .ok (.istore 4, 2) := by decide +kernel
theorem dX12_locks_92 : decode cX12_locks 92 = .ok (.iload 4, 2) := by decide +kernel
theorem dX12_locks_94 : decode cX12_locks 94 = .ok (.iload_n 2, 1) := by decide +kernel
theorem dX12_locks_95 : decode cX12_locks 95 = .ok (.iconst 1, 1) := by decide +kernel
theorem dX12_locks_96 : decode cX12_locks 96 = .ok (.isub, 1) := by decide +kernel
theorem dX12_locks_97 : decode cX12_locks 97 = .ok (.if_icmp .ge 26, 3) := by decide +kernel
theorem dX12_locks_100 : decode cX12_locks 100 = .ok (.iload_n 3, 1) := by decide +kernel
theorem dX12_locks_101 : decode cX12_locks 101 = .ok (.aload_n 0, 1) := by decide +kernel
theorem dX12_locks_102 : decode cX12_locks 102 = .ok (.iload 4, 2) := by decide +kernel
theorem dX12_locks_104 : decode cX12_locks 104 = .ok (.invokevirtual 436, 3) := by decide +kernel
theorem dX12_locks_107 : decode cX12_locks 107 = .ok (.ifCond .eq 7, 3) := by decide +kernel
theorem dX12_locks_110 : decode cX12_locks 110 = .ok (.iconst 1, 1) := by decide +kernel
theorem dX12_locks_111 : decode cX12_locks 111 = .ok (.goto 4, 3) := by decide +kernel
theorem dX12_locks_114 : decode cX12_locks 114 = .ok (.iconst 0, 1) := by decide +kernel
theorem dX12_locks_115 : decode cX12_locks 115 = .ok (.iadd, 1) := by decide +kernel
theorem dX12_locks_116 : decode cX12_locks 116 = .ok (.istore_n 3, 1) := by decide +kernel
theorem dX12_locks_117 : decode cX12_locks 117 = .ok (.iinc 4 1, 3) := by decide +kernel
theorem dX12_locks_120 : decode cX12_locks 120 = .ok (.goto (-28), 3) := by decide +kernel
theorem dX12_locks_123 : decode cX12_locks 123 = .ok (.aload_n 0, 1) := by decide +kernel
theorem dX12_locks_124 : decode cX12_locks 124 = .ok (.iload_n 2, 1) := by decide +kernel
theorem dX12_locks_125 : decode cX12_locks 125 = .ok (.iconst 1, 1) := by decide +kernel
theorem dX12_locks_126 : decode cX12_locks 126 = .ok (.isub, 1) := by decide +kernel
theorem dX12_locks_127 : decode cX12_locks 127 = .ok (.invokevirtual 436, 3) := by decide +kernel
theorem dX12_locks_130 : decode cX12_locks 130 = .ok (.ifCond .eq 12, 3) := by decide +kernel
theorem dX12_locks_133 : decode cX12_locks 133 = .ok (.aload_n 0, 1) := by decide +kernel
theorem dX12_locks_134 : decode cX12_locks 134 = .ok (.getfield 154, 3) := by decide +kernel
theorem dX12_locks_137 : decode cX12_locks 137 = .ok (.iload_n 3, 1) := by decide +kernel
theorem dX12_locks_138 : decode cX12_locks 138 = .ok (.iaload, 1) := by decide +kernel
theorem dX12_locks_139 : decode cX12_locks 139 = .ok (.goto 4, 3) := by decide +kernel
theorem dX12_locks_142 : decode cX12_locks 142 = .ok (.iconst (-1), 1) := by decide +kernel
theorem dX12_locks_143 : decode cX12_locks 143 = .ok (.ireturn, 1) := by decide +kernel
theorem dX12_ropeBetween_0 : decode cX12_ropeBetween 0 = .ok (.aload_n 0, 1) := by decide +kernel
theorem dX12_ropeBetween_1 : decode cX12_ropeBetween 1 = .ok (.getfield 25, 3) := by decide +kernel
theorem dX12_ropeBetween_4 : decode cX12_ropeBetween 4 = .ok (.iload_n 1, 1) := by decide +kernel
theorem dX12_ropeBetween_5 : decode cX12_ropeBetween 5 = .ok (.iaload, 1) := by decide +kernel
theorem dX12_ropeBetween_6 : decode cX12_ropeBetween 6 = .ok (.aload_n 0, 1) := by decide +kernel
theorem dX12_ropeBetween_7 : decode cX12_ropeBetween 7 = .ok (.getfield 25, 3) := by decide +kernel
theorem dX12_ropeBetween_10 : decode cX12_ropeBetween 10 = .ok (.iload_n 2, 1) := by decide +kernel
theorem dX12_ropeBetween_11 : decode cX12_ropeBetween 11 = .ok (.iaload, 1) := by decide +kernel
theorem dX12_ropeBetween_12 : decode cX12_ropeBetween 12 = .ok (.if_icmp .ge 19, 3) := by decide +kernel
theorem dX12_ropeBetween_15 : decode cX12_ropeBetween 15 = .ok (.aload_n 0, 1) := by decide +kernel
theorem dX12_ropeBetween_16 : decode cX12_ropeBetween 16 = .ok (.getfield 25, 3) := by decide +kernel
theorem dX12_ropeBetween_19 : decode cX12_ropeBetween 19 = .ok (.iload_n 2, 1) := by decide +kernel
theorem dX12_ropeBetween_20 : decode cX12_ropeBetween 20 = .ok (.iaload, 1) := by decide +kernel
theorem dX12_ropeBetween_21 : decode cX12_ropeBetween 21 = .ok (.aload_n 0, 1) := by decide +kernel
theorem dX12_ropeBetween_22 : decode cX12_ropeBetween 22 = .ok (.getfield 25, 3) := by decide +kernel
theorem dX12_ropeBetween_25 : decode cX12_ropeBetween 25 = .ok (.iload_n 1, 1) := by decide +kernel
theorem dX12_ropeBetween_26 : decode cX12_ropeBetween 26 = .ok (.iaload, 1) := by decide +kernel
theorem dX12_ropeBetween_27 : decode cX12_ropeBetween 27 = .ok (.isub, 1) := by decide +kernel
theorem dX12_ropeBetween_28 : decode cX12_ropeBetween 28 = .ok (.goto 16, 3) := by decide +kernel
theorem dX12_ropeBetween_31 : decode cX12_ropeBetween 31 = .ok (.aload_n 0, 1) := by decide +kernel
theorem dX12_ropeBetween_32 : decode cX12_ropeBetween 32 = .ok (.getfield 25, 3) := by decide +kernel
theorem dX12_ropeBetween_35 : decode cX12_ropeBetween 35 = .ok (.iload_n 1, 1) := by decide +kernel
theorem dX12_ropeBetween_36 : decode cX12_ropeBetween 36 = .ok (.iaload, 1) := by decide +kernel
theorem dX12_ropeBetween_37 : decode cX12_ropeBetween 37 = .ok (.aload_n 0, 1) := by decide +kernel
theorem dX12_ropeBetween_38 : decode cX12_ropeBetween 38 = .ok (.getfield 25, 3) := by decide +kernel
theorem dX12_ropeBetween_41 : decode cX12_ropeBetween 41 = .ok (.iload_n 2, 1) := by decide +kernel
theorem dX12_ropeBetween_42 : decode cX12_ropeBetween 42 = .ok (.iaload, 1) := by decide +kernel
theorem dX12_ropeBetween_43 : decode cX12_ropeBetween 43 = .ok (.isub, 1) := by decide +kernel
theorem dX12_ropeBetween_44 : decode cX12_ropeBetween 44 = .ok (.istore_n 3, 1) := by decide +kernel
theorem dX12_ropeBetween_45 : decode cX12_ropeBetween 45 = .ok (.iconst 1, 1) := by decide +kernel
theorem dX12_ropeBetween_46 : decode cX12_ropeBetween 46 = .ok (.iload_n 3, 1) := by decide +kernel
theorem dX12_ropeBetween_47 : decode cX12_ropeBetween 47 = .ok (.iconst 5, 1) := by decide +kernel
theorem dX12_ropeBetween_48 : decode cX12_ropeBetween 48 = .ok (.idiv, 1) := by decide +kernel
theorem dX12_ropeBetween_49 : decode cX12_ropeBetween 49 = .ok (.iadd, 1) := by decide +kernel
theorem dX12_ropeBetween_50 : decode cX12_ropeBetween 50 = .ok (.ireturn, 1) := by decide +kernel
theorem dX12_delta_0 : decode cX12_delta 0 = .ok (.aload_n 0, 1) := by decide +kernel
theorem dX12_delta_1 : decode cX12_delta 1 = .ok (.invokevirtual 430, 3) := by decide +kernel
theorem dX12_delta_4 : decode cX12_delta 4 = .ok (.ifCond .eq 13, 3) := by decide +kernel
theorem dX12_delta_7 : decode cX12_delta 7 = .ok (.iload_n 1, 1) := by decide +kernel
theorem dX12_delta_8 : decode cX12_delta 8 = .ok (.i2l, 1) := by decide +kernel
theorem dX12_delta_9 : decode cX12_delta 9 = .ok (.lconst 0, 1) := by decide +kernel
theorem dX12_delta_10 : decode cX12_delta 10 = .ok (.lconst 1, 1) := by decide +kernel
theorem dX12_delta_11 : decode cX12_delta 11 = .ok (.invokestatic 176, 3) := by decide +kernel
theorem dX12_delta_14 : decode cX12_delta 14 = .ok (.ifCond .ne 5, 3) := by decide +kernel
theorem dX12_delta_17 : decode cX12_delta 17 = .ok (.iconst (-1), 1) := by decide +kernel
theorem dX12_delta_18 : decode cX12_delta 18 = .ok (.ireturn, 1) := by decide +kernel
theorem dX12_delta_19 : decode cX12_delta 19 = .ok (.iconst 0, 1) := by decide +kernel
theorem dX12_delta_20 : decode cX12_delta 20 = .ok (.istore_n 2, 1) := by decide +kernel
theorem dX12_delta_21 : decode cX12_delta 21 = .ok (.iload_n 2, 1) := by decide +kernel
theorem dX12_delta_22 : decode cX12_delta 22 = .ok (.aload_n 0, 1) := by decide +kernel
theorem dX12_delta_23 : decode cX12_delta 23 = .ok (.getfield 9, 3) := by decide +kernel
theorem dX12_delta_26 : decode cX12_delta 26 = .ok (.iconst 3, 1) := by decide +kernel
theorem dX12_delta_27 : decode cX12_delta 27 = .ok (.iaload, 1) := by decide +kernel
theorem dX12_delta_28 : decode cX12_delta 28 = .ok (.if_icmp .ge 36, 3) := by decide +kernel
theorem dX12_delta_31 : decode cX12_delta 31 = .ok (.aload_n 0, 1) := by decide +kernel
theorem dX12_delta_32 : decode cX12_delta 32 = .ok (.getfield 160, 3) := by decide +kernel
theorem dX12_delta_35 : decode cX12_delta 35 = .ok (.iload_n 2, 1) := by decide +kernel
theorem dX12_delta_36 : decode cX12_delta 36 = .ok (.aload_n 0, 1) := by decide +kernel
theorem dX12_delta_37 : decode cX12_delta 37 = .ok (.getfield 34, 3) := by decide +kernel
theorem dX12_delta_40 : decode cX12_delta 40 = .ok (.iload_n 2, 1) := by decide +kernel
theorem dX12_delta_41 : decode cX12_delta 41 = .ok (.iaload, 1) := by decide +kernel
theorem dX12_delta_42 : decode cX12_delta 42 = .ok (.ifCond .ne 14, 3) := by decide +kernel
theorem dX12_delta_45 : decode cX12_delta 45 = .ok (.aload_n 0, 1) := by decide +kernel
theorem dX12_delta_46 : decode cX12_delta 46 = .ok (.iload_n 2, 1) := by decide +kernel
theorem dX12_delta_47 : decode cX12_delta 47 = .ok (.invokevirtual 424, 3) := by decide +kernel
theorem dX12_delta_50 : decode cX12_delta 50 = .ok (.invokestatic 421, 3) := by decide +kernel
theorem dX12_delta_53 : decode cX12_delta 53 = .ok (.goto 4, 3) := by decide +kernel
theorem dX12_delta_56 : decode cX12_delta 56 = .ok (.iconst (-1), 1) := by decide +kernel
theorem dX12_delta_57 : decode cX12_delta 57 = .ok (.iastore, 1) := by decide +kernel
theorem dX12_delta_58 : decode cX12_delta 58 = .ok (.iinc 2 1, 3) := by decide +kernel
theorem dX12_delta_61 : decode cX12_delta 61 = .ok (.goto (-40), 3) := by decide +kernel
theorem dX12_delta_64 : decode cX12_delta 64 = .ok (.iconst 0, 1) := by decide +kernel
theorem dX12_delta_65 : decode cX12_delta 65 = .ok (.istore_n 2, 1) := by decide +kernel
theorem dX12_delta_66 : decode cX12_delta 66 = .ok (.iconst 0, 1) := by decide +kernel
theorem dX12_delta_67 : decode cX12_delta 67 = .ok (.istore_n 3, 1) := by decide +kernel
theorem dX12_delta_68 : decode cX12_delta 68 = .ok (.iconst 1, 1) := by decide +kernel
theorem dX12_delta_69 : decode cX12_delta 69 = .ok (.istore 4, 2) := by decide +kernel
theorem dX12_delta_71 : decode cX12_delta 71 = .ok (.iload 4, 2) := by decide +kernel
theorem dX12_delta_73 : decode cX12_delta 73 = .ok (.ifCond .eq 240, 3) := by decide +kernel
theorem dX12_delta_76 : decode cX12_delta 76 = .ok (.iconst (-1), 1) := by decide +kernel
theorem dX12_delta_77 : decode cX12_delta 77 = .ok (.istore 5, 2) := by decide +kernel
theorem dX12_delta_79 : decode cX12_delta 79 = .ok (.iconst (-1), 1) := by decide +kernel
theorem dX12_delta_80 : decode cX12_delta 80 = .ok (.istore 6, 2) := by decide +kernel
theorem dX12_delta_82 : decode cX12_delta 82 = .ok (.iconst 0, 1) := by decide +kernel
theorem dX12_delta_83 : decode cX12_delta 83 = .ok (.istore 7, 2) := by decide +kernel
theorem dX12_delta_85 : decode cX12_delta 85 = .ok (.iload 7, 2) := by decide +kernel
theorem dX12_delta_87 : decode cX12_delta 87 = .ok (.aload_n 0, 1) := by decide +kernel
theorem dX12_delta_88 : decode cX12_delta 88 = .ok (.getfield 9, 3) := by decide +kernel
theorem dX12_delta_91 : decode cX12_delta 91 = .ok (.iconst 3, 1) := by decide +kernel
theorem dX12_delta_92 : decode cX12_delta 92 = .ok (.iaload, 1) := by decide +kernel
theorem dX12_delta_93 : decode cX12_delta 93 = .ok (.if_icmp .ge 116, 3) := by decide +kernel
theorem dX12_delta_96 : decode cX12_delta 96 = .ok (.iload 7, 2) := by decide +kernel
theorem dX12_delta_98 : decode cX12_delta 98 = .ok (.iconst 1, 1) := by decide +kernel
theorem dX12_delta_99 : decode cX12_delta 99 = .ok (.iadd, 1) := by decide +kernel
theorem dX12_delta_100 : decode cX12_delta 100 = .ok (.istore 8, 2) := by decide +kernel
theorem dX12_delta_102 : decode cX12_delta 102 = .ok (.iload 8, 2) := by decide +kernel
theorem dX12_delta_104 : decode cX12_delta 104 = .ok (.aload_n 0, 1) := by decide +kernel
theorem dX12_delta_105 : decode cX12_delta 105 = .ok (.getfield 9, 3) := by decide +kernel
theorem dX12_delta_108 : decode cX12_delta 108 = .ok (.iconst 3, 1) := by decide +kernel
theorem dX12_delta_109 : decode cX12_delta 109 = .ok (.iaload, 1) := by decide +kernel
theorem dX12_delta_110 : decode cX12_delta 110 = .ok (.if_icmp .ge 93, 3) := by decide +kernel
theorem dX12_delta_113 : decode cX12_delta 113 = .ok (.aload_n 0, 1) := by decide +kernel
theorem dX12_delta_114 : decode cX12_delta 114 = .ok (.getfield 160, 3) := by decide +kernel
theorem dX12_delta_117 : decode cX12_delta 117 = .ok (.iload 7, 2) := by decide +kernel
theorem dX12_delta_119 : decode cX12_delta 119 = .ok (.iaload, 1) := by decide +kernel
theorem dX12_delta_120 : decode cX12_delta 120 = .ok (.iconst (-1), 1) := by decide +kernel
theorem dX12_delta_121 : decode cX12_delta 121 = .ok (.if_icmp .eq 35, 3) := by decide +kernel
theorem dX12_delta_124 : decode cX12_delta 124 = .ok (.aload_n 0, 1) := by decide +kernel
theorem dX12_delta_125 : decode cX12_delta 125 = .ok (.getfield 160, 3) := by decide +kernel
theorem dX12_delta_128 : decode cX12_delta 128 = .ok (.iload 8, 2) := by decide +kernel
theorem dX12_delta_130 : decode cX12_delta 130 = .ok (.iaload, 1) := by decide +kernel
theorem dX12_delta_131 : decode cX12_delta 131 = .ok (.iconst (-1), 1) := by decide +kernel
theorem dX12_delta_132 : decode cX12_delta 132 = .ok (.if_icmp .eq 24, 3) := by decide +kernel
theorem dX12_delta_135 : decode cX12_delta 135 = .ok (.aload_n 0, 1) := by decide +kernel
theorem dX12_delta_136 : decode cX12_delta 136 = .ok (.getfield 160, 3) := by decide +kernel
theorem dX12_delta_139 : decode cX12_delta 139 = .ok (.iload 7, 2) := by decide +kernel
theorem dX12_delta_141 : decode cX12_delta 141 = .ok (.iaload, 1) := by decide +kernel
theorem dX12_delta_142 : decode cX12_delta 142 = .ok (.aload_n 0, 1) := by decide +kernel
theorem dX12_delta_143 : decode cX12_delta 143 = .ok (.getfield 160, 3) := by decide +kernel
theorem dX12_delta_146 : decode cX12_delta 146 = .ok (.iload 8, 2) := by decide +kernel
theorem dX12_delta_148 : decode cX12_delta 148 = .ok (.iaload, 1) := by decide +kernel
theorem dX12_delta_149 : decode cX12_delta 149 = .ok (.if_icmp .eq 7, 3) := by decide +kernel
theorem dX12_delta_152 : decode cX12_delta 152 = .ok (.iconst 1, 1) := by decide +kernel
theorem dX12_delta_153 : decode cX12_delta 153 = .ok (.goto 4, 3) := by decide +kernel
theorem dX12_delta_156 : decode cX12_delta 156 = .ok (.iconst 0, 1) := by decide +kernel
theorem dX12_delta_157 : decode cX12_delta 157 = .ok (.istore 9, 2) := by decide +kernel
theorem dX12_delta_159 : decode cX12_delta 159 = .ok (.iload 9, 2) := by decide +kernel
theorem dX12_delta_161 : decode cX12_delta 161 = .ok (.ifCond .eq 36, 3) := by decide +kernel
theorem dX12_delta_164 : decode cX12_delta 164 = .ok (.iload 5, 2) := by decide +kernel
theorem dX12_delta_166 : decode cX12_delta 166 = .ok (.iconst (-1), 1) := by decide +kernel
theorem dX12_delta_167 : decode cX12_delta 167 = .ok (.if_icmp .eq 22, 3) := by decide +kernel
theorem dX12_delta_170 : decode cX12_delta 170 = .ok (.aload_n 0, 1) := by decide +kernel
theorem dX12_delta_171 : decode cX12_delta 171 = .ok (.iload 7, 2) := by decide +kernel
theorem dX12_delta_173 : decode cX12_delta 173 = .ok (.iload 8, 2) := by decide +kernel
theorem dX12_delta_175 : decode cX12_delta 175 = .ok (.invokevirtual 573, 3) := by decide +kernel
theorem dX12_delta_178 : decode cX12_delta 178 = .ok (.aload_n 0, 1) := by decide +kernel
theorem dX12_delta_179 : decode cX12_delta 179 = .ok (.iload 5, 2) := by decide +kernel
theorem dX12_delta_181 : decode cX12_delta 181 = .ok (.iload 6, 2) := by decide +kernel
theorem dX12_delta_183 : decode cX12_delta 183 = .ok (.invokevirtual 573, 3) := by decide +kernel
theorem dX12_delta_186 : decode cX12_delta 186 = .ok (.if_icmp .ge 11, 3) := by decide +kernel
theorem dX12_delta_189 : decode cX12_delta 189 = .ok (.iload 7, 2) := by decide +kernel
theorem dX12_delta_191 : decode cX12_delta 191 = .ok (.istore 5, 2) := by decide +kernel
theorem dX12_delta_193 : decode cX12_delta 193 = .ok (.iload 8, 2) := by decide +kernel
theorem dX12_delta_195 : decode cX12_delta 195 = .ok (.istore 6, 2) := by decide +kernel
theorem dX12_delta_197 : decode cX12_delta 197 = .ok (.iinc 8 1, 3) := by decide +kernel
theorem dX12_delta_200 : decode cX12_delta 200 = .ok (.goto (-98), 3) := by decide +kernel
theorem dX12_delta_203 : decode cX12_delta 203 = .ok (.iinc 7 1, 3) := by decide +kernel
theorem dX12_delta_206 : decode cX12_delta 206 = .ok (.goto (-121), 3) := by decide +kernel
theorem dX12_delta_209 : decode cX12_delta 209 = .ok (.iload 5, 2) := by decide +kernel
theorem dX12_delta_211 : decode cX12_delta 211 = .ok (.iconst (-1), 1) := by decide +kernel
theorem dX12_delta_212 : decode cX12_delta 212 = .ok (.if_icmp .eq 7, 3) := by decide +kernel
theorem dX12_delta_215 : decode cX12_delta 215 = .ok (.iconst 1, 1) := by decide +kernel
theorem dX12_delta_216 : decode cX12_delta 216 = .ok (.goto 4, 3) := by decide +kernel
theorem dX12_delta_219 : decode cX12_delta 219 = .ok (.iconst 0, 1) := by decide +kernel
theorem dX12_delta_220 : decode cX12_delta 220 = .ok (.istore 4, 2) := by decide +kernel
theorem dX12_delta_222 : decode cX12_delta 222 = .ok (.iload 4, 2) := by decide +kernel
theorem dX12_delta_224 : decode cX12_delta 224 = .ok (.ifCond .eq 86, 3) := by decide +kernel
theorem dX12_delta_227 : decode cX12_delta 227 = .ok (.iload_n 2, 1) := by decide +kernel
theorem dX12_delta_228 : decode cX12_delta 228 = .ok (.aload_n 0, 1) := by decide +kernel
theorem dX12_delta_229 : decode cX12_delta 229 = .ok (.iload 5, 2) := by decide +kernel
theorem dX12_delta_231 : decode cX12_delta 231 = .ok (.iload 6, 2) := by decide +kernel
theorem dX12_delta_233 : decode cX12_delta 233 = .ok (.invokevirtual 573, 3) := by decide +kernel
theorem dX12_delta_236 : decode cX12_delta 236 = .ok (.iadd, 1) := by decide +kernel
theorem dX12_delta_237 : decode cX12_delta 237 = .ok (.istore_n 2, 1) := by decide +kernel
theorem dX12_delta_238 : decode cX12_delta 238 = .ok (.iinc 3 1, 3) := by decide +kernel
theorem dX12_delta_241 : decode cX12_delta 241 = .ok (.aload_n 0, 1) := by decide +kernel
theorem dX12_delta_242 : decode cX12_delta 242 = .ok (.getfield 160, 3) := by decide +kernel
theorem dX12_delta_245 : decode cX12_delta 245 = .ok (.iload 6, 2) := by decide +kernel
theorem dX12_delta_247 : decode cX12_delta 247 = .ok (.iaload, 1) := by decide +kernel
theorem dX12_delta_248 : decode cX12_delta 248 = .ok (.istore 7, 2) := by decide +kernel
theorem dX12_delta_250 : decode cX12_delta 250 = .ok (.aload_n 0, 1) := by decide +kernel
theorem dX12_delta_251 : decode cX12_delta 251 = .ok (.getfield 160, 3) := by decide +kernel
theorem dX12_delta_254 : decode cX12_delta 254 = .ok (.iload 5, 2) := by decide +kernel
theorem dX12_delta_256 : decode cX12_delta 256 = .ok (.iaload, 1) := by decide +kernel
theorem dX12_delta_257 : decode cX12_delta 257 = .ok (.istore 8, 2) := by decide +kernel
theorem dX12_delta_259 : decode cX12_delta 259 = .ok (.iconst 0, 1) := by decide +kernel
theorem dX12_delta_260 : decode cX12_delta 260 = .ok (.istore 9, 2) := by decide +kernel
theorem dX12_delta_262 : decode cX12_delta 262 = .ok (.iload 9, 2) := by decide +kernel
theorem dX12_delta_264 : decode cX12_delta 264 = .ok (.aload_n 0, 1) := by decide +kernel
theorem dX12_delta_265 : decode cX12_delta 265 = .ok (.getfield 9, 3) := by decide +kernel
theorem dX12_delta_268 : decode cX12_delta 268 = .ok (.iconst 3, 1) := by decide +kernel
theorem dX12_delta_269 : decode cX12_delta 269 = .ok (.iaload, 1) := by decide +kernel
theorem dX12_delta_270 : decode cX12_delta 270 = .ok (.if_icmp .ge 40, 3) := by decide +kernel
theorem dX12_delta_273 : decode cX12_delta 273 = .ok (.aload_n 0, 1) := by decide +kernel
theorem dX12_delta_274 : decode cX12_delta 274 = .ok (.getfield 160, 3) := by decide +kernel
theorem dX12_delta_277 : decode cX12_delta 277 = .ok (.iload 9, 2) := by decide +kernel
theorem dX12_delta_279 : decode cX12_delta 279 = .ok (.aload_n 0, 1) := by decide +kernel
theorem dX12_delta_280 : decode cX12_delta 280 = .ok (.getfield 160, 3) := by decide +kernel
theorem dX12_delta_283 : decode cX12_delta 283 = .ok (.iload 9, 2) := by decide +kernel
theorem dX12_delta_285 : decode cX12_delta 285 = .ok (.iaload, 1) := by decide +kernel
theorem dX12_delta_286 : decode cX12_delta 286 = .ok (.iload 7, 2) := by decide +kernel
theorem dX12_delta_288 : decode cX12_delta 288 = .ok (.if_icmp .ne 8, 3) := by decide +kernel
theorem dX12_delta_291 : decode cX12_delta 291 = .ok (.iload 8, 2) := by decide +kernel
theorem dX12_delta_293 : decode cX12_delta 293 = .ok (.goto 10, 3) := by decide +kernel
theorem dX12_delta_296 : decode cX12_delta 296 = .ok (.aload_n 0, 1) := by decide +kernel
theorem dX12_delta_297 : decode cX12_delta 297 = .ok (.getfield 160, 3) := by decide +kernel
theorem dX12_delta_300 : decode cX12_delta 300 = .ok (.iload 9, 2) := by decide +kernel
theorem dX12_delta_302 : decode cX12_delta 302 = .ok (.iaload, 1) := by decide +kernel
theorem dX12_delta_303 : decode cX12_delta 303 = .ok (.iastore, 1) := by decide +kernel
theorem dX12_delta_304 : decode cX12_delta 304 = .ok (.iinc 9 1, 3) := by decide +kernel
theorem dX12_delta_307 : decode cX12_delta 307 = .ok (.goto (-45), 3) := by decide +kernel
theorem dX12_delta_310 : decode cX12_delta 310 = .ok (.goto (-239), 3) := by decide +kernel
theorem dX12_delta_313 : decode cX12_delta 313 = .ok (.iload_n 1, 1) := by decide +kernel
theorem dX12_delta_314 : decode cX12_delta 314 = .ok (.ifCond .ne 7, 3) := by decide +kernel
theorem dX12_delta_317 : decode cX12_delta 317 = .ok (.iload_n 2, 1) := by decide +kernel
theorem dX12_delta_318 : decode cX12_delta 318 = .ok (.goto 4, 3) := by decide +kernel
theorem dX12_delta_321 : decode cX12_delta 321 = .ok (.iload_n 3, 1) := by decide +kernel
theorem dX12_delta_322 : decode cX12_delta 322 = .ok (.ireturn, 1) := by decide +kernel
theorem dX12_isWeakThing_0 : decode cX12_isWeakThing 0 = .ok (.aload_n 0, 1) := by decide +kernel
theorem dX12_isWeakThing_1 : decode cX12_isWeakThing 1 = .ok (.iload_n 1, 1) := by decide +kernel
theorem dX12_isWeakThing_2 : decode cX12_isWeakThing 2 = .ok (.invokevirtual 424, 3) := by decide +kernel
theorem dX12_isWeakThing_5 : decode cX12_isWeakThing 5 = .ok (.iconst 1, 1) := by decide +kernel
theorem dX12_isWeakThing_6 : decode cX12_isWeakThing 6 = .ok (.iload_n 1, 1) := by decide +kernel
theorem dX12_isWeakThing_7 : decode cX12_isWeakThing 7 = .ok (.ishl, 1) := by decide +kernel
theorem dX12_isWeakThing_8 : decode cX12_isWeakThing 8 = .ok (.iconst (-1), 1) := by decide +kernel
theorem dX12_isWeakThing_9 : decode cX12_isWeakThing 9 = .ok (.ixor, 1) := by decide +kernel
theorem dX12_isWeakThing_10 : decode cX12_isWeakThing 10 = .ok (.iand, 1) := by decide +kernel
theorem dX12_isWeakThing_11 : decode cX12_isWeakThing 11 = .ok (.istore_n 2, 1) := by decide +kernel
theorem dX12_isWeakThing_12 : decode cX12_isWeakThing 12 = .ok (.iload_n 2, 1) := by decide +kernel
theorem dX12_isWeakThing_13 : decode cX12_isWeakThing 13 = .ok (.ifCond .eq 24, 3) := by decide +kernel
theorem dX12_isWeakThing_16 : decode cX12_isWeakThing 16 = .ok (.aload_n 0, 1) := by decide +kernel
theorem dX12_isWeakThing_17 : decode cX12_isWeakThing 17 = .ok (.iload_n 2, 1) := by decide +kernel
theorem dX12_isWeakThing_18 : decode cX12_isWeakThing 18 = .ok (.invokestatic 421, 3) := by decide +kernel
theorem dX12_isWeakThing_21 : decode cX12_isWeakThing 21 = .ok (.iload_n 2, 1) := by decide +kernel
theorem dX12_isWeakThing_22 : decode cX12_isWeakThing 22 = .ok (.aload_n 0, 1) := by decide +kernel
theorem dX12_isWeakThing_23 : decode cX12_isWeakThing 23 = .ok (.invokevirtual 396, 3) := by decide +kernel
theorem dX12_isWeakThing_26 : decode cX12_isWeakThing 26 = .ok (.invokevirtual 399, 3) := by decide +kernel
theorem dX12_isWeakThing_29 : decode cX12_isWeakThing 29 = .ok (.iload_n 2, 1) := by decide +kernel
theorem dX12_isWeakThing_30 : decode cX12_isWeakThing 30 = .ok (.if_icmp .eq 7, 3) := by decide +kernel
theorem dX12_isWeakThing_33 : decode cX12_isWeakThing 33 = .ok (.iconst 1, 1) := by decide +kernel
theorem dX12_isWeakThing_34 : decode cX12_isWeakThing 34 = .ok (.goto 4, 3) := by decide +kernel
theorem dX12_isWeakThing_37 : decode cX12_isWeakThing 37 = .ok (.iconst 0, 1) := by decide +kernel
theorem dX12_isWeakThing_38 : decode cX12_isWeakThing 38 = .ok (.ireturn, 1) := by decide +kernel
