theorem dX5_spread_28 : decode cX5_spread 28 = .ok (.aload_n 0, 1) := by decide +kernel
theorem dX5_spread_29 : decode cX5_spread 29 = .ok (.getfield 31, 3) := by decide +kernel
theorem dX5_spread_32 : decode cX5_spread 32 = .ok (.iload_n 1, 1) := by decide +kernel
theorem dX5_spread_33 : decode cX5_spread 33 = .ok (.iaload, 1) := by decide +kernel
theorem dX5_spread_34 : decode cX5_spread 34 = .ok (.isub, 1) := by decide +kernel
theorem dX5_spread_35 : decode cX5_spread 35 = .ok (.istore_n 3, 1) := by decide +kernel
theorem dX5_spread_36 : decode cX5_spread 36 = .ok (.iconst 0, 1) := by decide +kernel
theorem dX5_spread_37 : decode cX5_spread 37 = .ok (.istore 4, 2) := by decide +kernel
theorem dX5_spread_39 : decode cX5_spread 39 = .ok (.iconst 0, 1) := by decide +kernel
theorem dX5_spread_40 : decode cX5_spread 40 = .ok (.istore 5, 2) := by decide +kernel
theorem dX5_spread_42 : decode cX5_spread 42 = .ok (.iconst 0, 1) := by decide +kernel
theorem dX5_spread_43 : decode cX5_spread 43 = .ok (.istore 6, 2) := by decide +kernel
theorem dX5_spread_45 : decode cX5_spread 45 = .ok (.iconst 0, 1) := by decide +kernel
theorem dX5_spread_46 : decode cX5_spread 46 = .ok (.istore 7, 2) := by decide +kernel
theorem dX5_spread_48 : decode cX5_spread 48 = .ok (.iload 7, 2) := by decide +kernel
theorem dX5_spread_50 : decode cX5_spread 50 = .ok (.aload_n 0, 1) := by decide +kernel
theorem dX5_spread_51 : decode cX5_spread 51 = .ok (.iload_n 1, 1) := by decide +kernel
theorem dX5_spread_52 : decode cX5_spread 52 = .ok (.invokevirtual 62, 3) := by decide +kernel
theorem dX5_spread_55 : decode cX5_spread 55 = .ok (.if_icmp .ge 31, 3) := by decide +kernel
theorem dX5_spread_58 : decode cX5_spread 58 = .ok (.aload_n 0, 1) := by decide +kernel
theorem dX5_spread_59 : decode cX5_spread 59 = .ok (.iload_n 1, 1) := by decide +kernel
theorem dX5_spread_60 : decode cX5_spread 60 = .ok (.iload 7, 2) := by decide +kernel
theorem dX5_spread_62 : decode cX5_spread 62 = .ok (.invokevirtual 111, 3) := by decide +kernel
theorem dX5_spread_65 : decode cX5_spread 65 = .ok (.ifCond .eq 15, 3) := by decide +kernel
theorem dX5_spread_68 : decode cX5_spread 68 = .ok (.iload 6, 2) := by decide +kernel
theorem dX5_spread_70 : decode cX5_spread 70 = .ok (.iconst 1, 1) := by decide +kernel
theorem dX5_spread_71 : decode cX5_spread 71 = .ok (.iload 7, 2) := by decide +kernel
theorem dX5_spread_73 : decode cX5_spread 73 = .ok (.ishl, 1) := by decide +kernel
theorem dX5_spread_74 : decode cX5_spread 74 = .ok (.ior, 1) := by decide +kernel
theorem dX5_spread_75 : decode cX5_spread 75 = .ok (.istore 6, 2) := by decide +kernel
theorem dX5_spread_77 : decode cX5_spread 77 = .ok (.iinc 4 1, 3) := by decide +kernel
theorem dX5_spread_80 : decode cX5_spread 80 = .ok (.iinc 7 1, 3) := by decide +kernel
theorem dX5_spread_83 : decode cX5_spread 83 = .ok (.goto (-35), 3) := by decide +kernel
theorem dX5_spread_86 : decode cX5_spread 86 = .ok (.iload 4, 2) := by decide +kernel
theorem dX5_spread_88 : decode cX5_spread 88 = .ok (.ifCond .eq 7, 3) := by decide +kernel
theorem dX5_spread_91 : decode cX5_spread 91 = .ok (.iload_n 3, 1) := by decide +kernel
theorem dX5_spread_92 : decode cX5_spread 92 = .ok (.ifCond .gt 6, 3) := by decide +kernel
theorem dX5_spread_95 : decode cX5_spread 95 = .ok (.bipush (-5), 2) := by decide +kernel
theorem dX5_spread_97 : decode cX5_spread 97 = .ok (.ireturn, 1) := by decide +kernel
theorem dX5_spread_98 : decode cX5_spread 98 = .ok (.iload_n 3, 1) := by decide +kernel
theorem dX5_spread_99 : decode cX5_spread 99 = .ok (.iload 4, 2) := by decide +kernel
theorem dX5_spread_101 : decode cX5_spread 101 = .ok (.irem, 1) := by decide +kernel
theorem dX5_spread_102 : decode cX5_spread 102 = .ok (.istore 7, 2) := by decide +kernel
theorem dX5_spread_104 : decode cX5_spread 104 = .ok (.iconst 0, 1) := by decide +kernel
theorem dX5_spread_105 : decode cX5_spread 105 = .ok (.istore 8, 2) := by decide +kernel
theorem dX5_spread_107 : decode cX5_spread 107 = .ok (.iload 8, 2) := by decide +kernel
theorem dX5_spread_109 : decode cX5_spread 109 = .ok (.aload_n 0, 1) := by decide +kernel
theorem dX5_spread_110 : decode cX5_spread 110 = .ok (.iload_n 1, 1) := by decide +kernel
theorem dX5_spread_111 : decode cX5_spread 111 = .ok (.invokevirtual 62, 3) := by decide +kernel
theorem dX5_spread_114 : decode cX5_spread 114 = .ok (.if_icmp .ge 69, 3) := by decide +kernel
theorem dX5_spread_117 : decode cX5_spread 117 = .ok (.iload 6, 2) := by decide +kernel
theorem dX5_spread_119 : decode cX5_spread 119 = .ok (.iload 8, 2) := by decide +kernel
theorem dX5_spread_121 : decode cX5_spread 121 = .ok (.ishr, 1) := by decide +kernel
theorem dX5_spread_122 : decode cX5_spread 122 = .ok (.iconst 1, 1) := by decide +kernel
theorem dX5_spread_123 : decode cX5_spread 123 = .ok (.iand, 1) := by decide +kernel
theorem dX5_spread_124 : decode cX5_spread 124 = .ok (.iconst 1, 1) := by decide +kernel
theorem dX5_spread_125 : decode cX5_spread 125 = .ok (.if_icmp .ne 52, 3) := by decide +kernel
theorem dX5_spread_128 : decode cX5_spread 128 = .ok (.iload_n 3, 1) := by decide +kernel
theorem dX5_spread_129 : decode cX5_spread 129 = .ok (.iload 4, 2) := by decide +kernel
theorem dX5_spread_131 : decode cX5_spread 131 = .ok (.idiv, 1) := by decide +kernel
theorem dX5_spread_132 : decode cX5_spread 132 = .ok (.iload 7, 2) := by decide +kernel
theorem dX5_spread_134 : decode cX5_spread 134 = .ok (.ifCond .le 7, 3) := by decide +kernel
theorem dX5_spread_137 : decode cX5_spread 137 = .ok (.iconst 1, 1) := by decide +kernel
theorem dX5_spread_138 : decode cX5_spread 138 = .ok (.goto 4, 3) := by decide +kernel
theorem dX5_spread_141 : decode cX5_spread 141 = .ok (.iconst 0, 1) := by decide +kernel
theorem dX5_spread_142 : decode cX5_spread 142 = .ok (.iadd, 1) := by decide +kernel
theorem dX5_spread_143 : decode cX5_spread 143 = .ok (.istore 9, 2) := by decide +kernel
theorem dX5_spread_145 : decode cX5_spread 145 = .ok (.iinc 7 (-1), 3) := by decide +kernel
theorem dX5_spread_148 : decode cX5_spread 148 = .ok (.iload 5, 2) := by decide +kernel
theorem dX5_spread_150 : decode cX5_spread 150 = .ok (.iload 9, 2) := by decide +kernel
theorem dX5_spread_152 : decode cX5_spread 152 = .ok (.ifCond .le 21, 3) := by decide +kernel
theorem dX5_spread_155 : decode cX5_spread 155 = .ok (.aload_n 0, 1) := by decide +kernel
theorem dX5_spread_156 : decode cX5_spread 156 = .ok (.iload_n 1, 1) := by decide +kernel
theorem dX5_spread_157 : decode cX5_spread 157 = .ok (.iload 8, 2) := by decide +kernel
theorem dX5_spread_159 : decode cX5_spread 159 = .ok (.iconst 5, 1) := by decide +kernel
theorem dX5_spread_160 : decode cX5_spread 160 = .ok (.invokevirtual 66, 3) := by decide +kernel
theorem dX5_spread_163 : decode cX5_spread 163 = .ok (.sipush 3000, 3) := by decide +kernel
theorem dX5_spread_166 : decode cX5_spread 166 = .ok (.if_icmp .ge 7, 3) := by decide +kernel
theorem dX5_spread_169 : decode cX5_spread 169 = .ok (.iconst 1, 1) := by decide +kernel
theorem dX5_spread_170 : decode cX5_spread 170 = .ok (.goto 4, 3) := by decide +kernel
theorem dX5_spread_173 : decode cX5_spread 173 = .ok (.iconst 0, 1) := by decide +kernel
theorem dX5_spread_174 : decode cX5_spread 174 = .ok (.ior, 1) := by decide +kernel
theorem dX5_spread_175 : decode cX5_spread 175 = .ok (.istore 5, 2) := by decide +kernel
theorem dX5_spread_177 : decode cX5_spread 177 = .ok (.iinc 8 1, 3) := by decide +kernel
theorem dX5_spread_180 : decode cX5_spread 180 = .ok (.goto (-73), 3) := by decide +kernel
theorem dX5_spread_183 : decode cX5_spread 183 = .ok (.iload 5, 2) := by decide +kernel
theorem dX5_spread_185 : decode cX5_spread 185 = .ok (.ifCond .ne 6, 3) := by decide +kernel
theorem dX5_spread_188 : decode cX5_spread 188 = .ok (.bipush (-5), 2) := by decide +kernel
theorem dX5_spread_190 : decode cX5_spread 190 = .ok (.ireturn, 1) := by decide +kernel
theorem dX5_spread_191 : decode cX5_spread 191 = .ok (.aload_n 0, 1) := by decide +kernel
theorem dX5_spread_192 : decode cX5_spread 192 = .ok (.invokevirtual 88, 3) := by decide +kernel
theorem dX5_spread_195 : decode cX5_spread 195 = .ok (.iload_n 3, 1) := by decide +kernel
theorem dX5_spread_196 : decode cX5_spread 196 = .ok (.iload 4, 2) := by decide +kernel
theorem dX5_spread_198 : decode cX5_spread 198 = .ok (.irem, 1) := by decide +kernel
theorem dX5_spread_199 : decode cX5_spread 199 = .ok (.istore 7, 2) := by decide +kernel
theorem dX5_spread_201 : decode cX5_spread 201 = .ok (.iconst 0, 1) := by decide +kernel
theorem dX5_spread_202 : decode cX5_spread 202 = .ok (.istore 8, 2) := by decide +kernel
theorem dX5_spread_204 : decode cX5_spread 204 = .ok (.iload 8, 2) := by decide +kernel
theorem dX5_spread_206 : decode cX5_spread 206 = .ok (.aload_n 0, 1) := by decide +kernel
theorem dX5_spread_207 : decode cX5_spread 207 = .ok (.iload_n 1, 1) := by decide +kernel
theorem dX5_spread_208 : decode cX5_spread 208 = .ok (.invokevirtual 62, 3) := by decide +kernel
theorem dX5_spread_211 : decode cX5_spread 211 = .ok (.if_icmp .ge 78, 3) := by decide +kernel
theorem dX5_spread_214 : decode cX5_spread 214 = .ok (.iload 6, 2) := by decide +kernel
theorem dX5_spread_216 : decode cX5_spread 216 = .ok (.iload 8, 2) := by decide +kernel
theorem dX5_spread_218 : decode cX5_spread 218 = .ok (.ishr, 1) := by decide +kernel
theorem dX5_spread_219 : decode cX5_spread 219 = .ok (.iconst 1, 1) := by decide +kernel
theorem dX5_spread_220 : decode cX5_spread 220 = .ok (.iand, 1) := by decide +kernel
theorem dX5_spread_221 : decode cX5_spread 221 = .ok (.iconst 1, 1) := by decide +kernel
theorem dX5_spread_222 : decode cX5_spread 222 = .ok (.if_icmp .ne 61, 3) := by decide +kernel
theorem dX5_spread_225 : decode cX5_spread 225 = .ok (.aload_n 0, 1) := by decide +kernel
theorem dX5_spread_226 : decode cX5_spread 226 = .ok (.iload_n 1, 1) := by decide +kernel
theorem dX5_spread_227 : decode cX5_spread 227 = .ok (.iload 8, 2) := by decide +kernel
theorem dX5_spread_229 : decode cX5_spread 229 = .ok (.iconst 5, 1) := by decide +kernel
theorem dX5_spread_230 : decode cX5_spread 230 = .ok (.invokevirtual 66, 3) := by decide +kernel
theorem dX5_spread_233 : decode cX5_spread 233 = .ok (.iload_n 3, 1) := by decide +kernel
theorem dX5_spread_234 : decode cX5_spread 234 = .ok (.iload 4, 2) := by decide +kernel
theorem dX5_spread_236 : decode cX5_spread 236 = .ok (.idiv, 1) := by decide +kernel
theorem dX5_spread_237 : decode cX5_spread 237 = .ok (.iadd, 1) := by decide +kernel
theorem dX5_spread_238 : decode cX5_spread 238 = .ok (.iload 7, 2) := by decide +kernel
theorem dX5_spread_240 : decode cX5_spread 240 = .ok (.ifCond .le 7, 3) := by decide +kernel
theorem dX5_spread_243 : decode cX5_spread 243 = .ok (.iconst 1, 1) := by decide +kernel
theorem dX5_spread_244 : decode cX5_spread 244 = .ok (.goto 4, 3) := by decide +kernel
theorem dX5_spread_247 : decode cX5_spread 247 = .ok (.iconst 0, 1) := by decide +kernel
theorem dX5_spread_248 : decode cX5_spread 248 = .ok (.iadd, 1) := by decide +kernel
theorem dX5_spread_249 : decode cX5_spread 249 = .ok (.istore 9, 2) := by decide +kernel
theorem dX5_spread_251 : decode cX5_spread 251 = .ok (.iinc 7 (-1), 3) := by decide +kernel
theorem dX5_spread_254 : decode cX5_spread 254 = .ok (.aload_n 0, 1) := by decide +kernel
theorem dX5_spread_255 : decode cX5_spread 255 = .ok (.getfield 7, 3) := by decide +kernel
theorem dX5_spread_258 : decode cX5_spread 258 = .ok (.aload_n 0, 1) := by decide +kernel
theorem dX5_spread_259 : decode cX5_spread 259 = .ok (.iload_n 1, 1) := by decide +kernel
theorem dX5_spread_260 : decode cX5_spread 260 = .ok (.iload 8, 2) := by decide +kernel
theorem dX5_spread_262 : decode cX5_spread 262 = .ok (.iconst 5, 1) := by decide +kernel
theorem dX5_spread_263 : decode cX5_spread 263 = .ok (.invokevirtual 54, 3) := by decide +kernel
theorem dX5_spread_266 : decode cX5_spread 266 = .ok (.iload 9, 2) := by decide +kernel
theorem dX5_spread_268 : decode cX5_spread 268 = .ok (.sipush 3000, 3) := by decide +kernel
theorem dX5_spread_271 : decode cX5_spread 271 = .ok (.if_icmp .le 9, 3) := by decide +kernel
theorem dX5_spread_274 : decode cX5_spread 274 = .ok (.sipush 3000, 3) := by decide +kernel
theorem dX5_spread_277 : decode cX5_spread 277 = .ok (.goto 5, 3) := by decide +kernel
theorem dX5_spread_280 : decode cX5_spread 280 = .ok (.iload 9, 2) := by decide +kernel
theorem dX5_spread_282 : decode cX5_spread 282 = .ok (.iastore, 1) := by decide +kernel
theorem dX5_spread_283 : decode cX5_spread 283 = .ok (.iinc 8 1, 3) := by decide +kernel
theorem dX5_spread_286 : decode cX5_spread 286 = .ok (.goto (-82), 3) := by decide +kernel
theorem dX5_spread_289 : decode cX5_spread 289 = .ok (.aload_n 0, 1) := by decide +kernel
theorem dX5_spread_290 : decode cX5_spread 290 = .ok (.invokevirtual 102, 3) := by decide +kernel
theorem dX5_spread_293 : decode cX5_spread 293 = .ok (.aload_n 0, 1) := by decide +kernel
theorem dX5_spread_294 : decode cX5_spread 294 = .ok (.getfield 31, 3) := by decide +kernel
theorem dX5_spread_297 : decode cX5_spread 297 = .ok (.iload_n 1, 1) := by decide +kernel
theorem dX5_spread_298 : decode cX5_spread 298 = .ok (.iaload, 1) := by decide +kernel
theorem dX5_spread_299 : decode cX5_spread 299 = .ok (.ireturn, 1) := by decide +kernel
theorem dX5_stands_0 : decode cX5_stands 0 = .ok (.aload_n 0, 1) := by decide +kernel
theorem dX5_stands_1 : decode cX5_stands 1 = .ok (.getfield 114, 3) := by decide +kernel
theorem dX5_stands_4 : decode cX5_stands 4 = .ok (.aload_n 0, 1) := by decide +kernel
theorem dX5_stands_5 : decode cX5_stands 5 = .ok (.getfield 117, 3) := by decide +kernel
theorem dX5_stands_8 : decode cX5_stands 8 = .ok (.if_icmp .ge 20, 3) := by decide +kernel
theorem dX5_stands_11 : decode cX5_stands 11 = .ok (.aload_n 0, 1) := by decide +kernel
theorem dX5_stands_12 : decode cX5_stands 12 = .ok (.getfield 19, 3) := by decide +kernel
theorem dX5_stands_15 : decode cX5_stands 15 = .ok (.aload_n 0, 1) := by decide +kernel
theorem dX5_stands_16 : decode cX5_stands 16 = .ok (.getfield 114, 3) := by decide +kernel
theorem dX5_stands_19 : decode cX5_stands 19 = .ok (.iaload, 1) := by decide +kernel
theorem dX5_stands_20 : decode cX5_stands 20 = .ok (.iload_n 1, 1) := by decide +kernel
theorem dX5_stands_21 : decode cX5_stands 21 = .ok (.if_icmp .ne 7, 3) := by decide +kernel
theorem dX5_stands_24 : decode cX5_stands 24 = .ok (.iconst 1, 1) := by decide +kernel
theorem dX5_stands_25 : decode cX5_stands 25 = .ok (.goto 4, 3) := by decide +kernel
theorem dX5_stands_28 : decode cX5_stands 28 = .ok (.iconst 0, 1) := by decide +kernel
theorem dX5_stands_29 : decode cX5_stands 29 = .ok (.istore_n 2, 1) := by decide +kernel
theorem dX5_stands_30 : decode cX5_stands 30 = .ok (.aload_n 0, 1) := by decide +kernel
theorem dX5_stands_31 : decode cX5_stands 31 = .ok (.dup, 1) := by decide +kernel
theorem dX5_stands_32 : decode cX5_stands 32 = .ok (.getfield 114, 3) := by decide +kernel
theorem dX5_stands_35 : decode cX5_stands 35 = .ok (.iload_n 2, 1) := by decide +kernel
theorem dX5_stands_36 : decode cX5_stands 36 = .ok (.ifCond .eq 7, 3) := by decide +kernel
theorem dX5_stands_39 : decode cX5_stands 39 = .ok (.iconst 1, 1) := by decide +kernel
theorem dX5_stands_40 : decode cX5_stands 40 = .ok (.goto 4, 3) := by decide +kernel
theorem dX5_stands_43 : decode cX5_stands 43 = .ok (.iconst 0, 1) := by decide +kernel
theorem dX5_stands_44 : decode cX5_stands 44 = .ok (.iadd, 1) := by decide +kernel
theorem dX5_stands_45 : decode cX5_stands 45 = .ok (.putfield 114, 3) := by decide +kernel
theorem dX5_stands_48 : decode cX5_stands 48 = .ok (.iload_n 2, 1) := by decide +kernel
theorem dX5_stands_49 : decode cX5_stands 49 = .ok (.ireturn, 1) := by decide +kernel
set_option maxRecDepth 20000 in
theorem ggX5_number_X5_in : GoodIn wsX5_number wsX5_in := goodIn_r _ [7] (by decide +kernel) (by decide +kernel)
set_option maxRecDepth 20000 in
theorem gX5_number_X5_in : GoodIn wsX5_number (va_wsS RX5 46 yX5_in wsX5_in) := goodIn_app (goodIn_of _ (by decide +kernel)) ggX5_number_X5_in
theorem dX5_number_0 : decode cX5_number 0 = .ok (.aload_n 0, 1) := by decide +kernel
theorem dX5_number_1 : decode cX5_number 1 = .ok (.getfield 114, 3) := by decide +kernel
theorem dX5_number_4 : decode cX5_number 4 = .ok (.aload_n 0, 1) := by decide +kernel
theorem dX5_number_5 : decode cX5_number 5 = .ok (.getfield 117, 3) := by decide +kernel
theorem dX5_number_8 : decode cX5_number 8 = .ok (.if_icmp .eq 22, 3) := by decide +kernel
theorem dX5_number_11 : decode cX5_number 11 = .ok (.aload_n 0, 1) := by decide +kernel
theorem dX5_number_12 : decode cX5_number 12 = .ok (.getfield 19, 3) := by decide +kernel
theorem dX5_number_15 : decode cX5_number 15 = .ok (.aload_n 0, 1) := by decide +kernel
theorem dX5_number_16 : decode cX5_number 16 = .ok (.getfield 114, 3) := by decide +kernel
theorem dX5_number_19 : decode cX5_number 19 = .ok (.iaload, 1) := by decide +kernel
theorem dX5_number_20 : decode cX5_number 20 = .ok (.bipush 49, 2) := by decide +kernel
theorem dX5_number_22 : decode cX5_number 22 = .ok (.bipush 57, 2) := by decide +kernel
theorem dX5_number_24 : decode cX5_number 24 = .ok (.invokestatic 46, 3) := by decide +kernel
theorem dX5_number_27 : decode cX5_number 27 = .ok (.ifCond .ne 5, 3) := by decide +kernel
theorem dX5_number_30 : decode cX5_number 30 = .ok (.iconst (-1), 1) := by decide +kernel
theorem dX5_number_31 : decode cX5_number 31 = .ok (.ireturn, 1) := by decide +kernel
theorem dX5_number_32 : decode cX5_number 32 = .ok (.aload_n 0, 1) := by decide +kernel
theorem dX5_number_33 : decode cX5_number 33 = .ok (.getfield 19, 3) := by decide +kernel
theorem dX5_number_36 : decode cX5_number 36 = .ok (.aload_n 0, 1) := by decide +kernel
theorem dX5_number_37 : decode cX5_number 37 = .ok (.getfield 114, 3) := by decide +kernel
theorem dX5_number_40 : decode cX5_number 40 = .ok (.iaload, 1) := by decide +kernel
theorem dX5_number_41 : decode cX5_number 41 = .ok (.bipush 48, 2) := by decide +kernel
theorem dX5_number_43 : decode cX5_number 43 = .ok (.isub, 1) := by decide +kernel
theorem dX5_number_44 : decode cX5_number 44 = .ok (.istore_n 2, 1) := by decide +kernel
theorem dX5_number_45 : decode cX5_number 45 = .ok (.aload_n 0, 1) := by decide +kernel
theorem dX5_number_46 : decode cX5_number 46 = .ok (.dup, 1) := by decide +kernel
theorem dX5_number_47 : decode cX5_number 47 = .ok (.getfield 114, 3) := by decide +kernel
theorem dX5_number_50 : decode cX5_number 50 = .ok (.iconst 1, 1) := by decide +kernel
theorem dX5_number_51 : decode cX5_number 51 = .ok (.iadd, 1) := by decide +kernel
theorem dX5_number_52 : decode cX5_number 52 = .ok (.putfield 114, 3) := by decide +kernel
theorem dX5_number_55 : decode cX5_number 55 = .ok (.aload_n 0, 1) := by decide +kernel
theorem dX5_number_56 : decode cX5_number 56 = .ok (.getfield 114, 3) := by decide +kernel
theorem dX5_number_59 : decode cX5_number 59 = .ok (.aload_n 0, 1) := by decide +kernel
theorem dX5_number_60 : decode cX5_number 60 = .ok (.getfield 117, 3) := by decide +kernel
theorem dX5_number_63 : decode cX5_number 63 = .ok (.if_icmp .ge 74, 3) := by decide +kernel
theorem dX5_number_66 : decode cX5_number 66 = .ok (.aload_n 0, 1) := by decide +kernel
theorem dX5_number_67 : decode cX5_number 67 = .ok (.getfield 19, 3) := by decide +kernel
theorem dX5_number_70 : decode cX5_number 70 = .ok (.aload_n 0, 1) := by decide +kernel
theorem dX5_number_71 : decode cX5_number 71 = .ok (.getfield 114, 3) := by decide +kernel
theorem dX5_number_74 : decode cX5_number 74 = .ok (.iaload, 1) := by decide +kernel
theorem dX5_number_75 : decode cX5_number 75 = .ok (.bipush 48, 2) := by decide +kernel
theorem dX5_number_77 : decode cX5_number 77 = .ok (.bipush 57, 2) := by decide +kernel
theorem dX5_number_79 : decode cX5_number 79 = .ok (.invokestatic 46, 3) := by decide +kernel
theorem dX5_number_82 : decode cX5_number 82 = .ok (.ifCond .eq 55, 3) := by decide +kernel
theorem dX5_number_85 : decode cX5_number 85 = .ok (.bipush 10, 2) := by decide +kernel
theorem dX5_number_87 : decode cX5_number 87 = .ok (.iload_n 2, 1) := by decide +kernel
theorem dX5_number_88 : decode cX5_number 88 = .ok (.imul, 1) := by decide +kernel
theorem dX5_number_89 : decode cX5_number 89 = .ok (.aload_n 0, 1) := by decide +kernel
theorem dX5_number_90 : decode cX5_number 90 = .ok (.getfield 19, 3) := by decide +kernel
theorem dX5_number_93 : decode cX5_number 93 = .ok (.aload_n 0, 1) := by decide +kernel
theorem dX5_number_94 : decode cX5_number 94 = .ok (.getfield 114, 3) := by decide +kernel
theorem dX5_number_97 : decode cX5_number 97 = .ok (.iaload, 1) := by decide +kernel
theorem dX5_number_98 : decode cX5_number 98 = .ok (.iadd, 1) := by decide +kernel
theorem dX5_number_99 : decode cX5_number 99 = .ok (.bipush 48, 2) := by decide +kernel
theorem dX5_number_101 : decode cX5_number 101 = .ok (.isub, 1) := by decide +kernel
theorem dX5_number_102 : decode cX5_number 102 = .ok (.iload_n 1, 1) := by decide +kernel
theorem dX5_number_103 : decode cX5_number 103 = .ok (.if_icmp .gt 34, 3) := by decide +kernel
theorem dX5_number_106 : decode cX5_number 106 = .ok (.bipush 10, 2) := by decide +kernel
theorem dX5_number_108 : decode cX5_number 108 = .ok (.iload_n 2, 1) := by decide +kernel
theorem dX5_number_109 : decode cX5_number 109 = .ok (.imul, 1) := by decide +kernel
theorem dX5_number_110 : decode cX5_number 110 = .ok (.aload_n 0, 1) := by decide +kernel
theorem dX5_number_111 : decode cX5_number 111 = .ok (.getfield 19, 3) := by decide +kernel
theorem dX5_number_114 : decode cX5_number 114 = .ok (.aload_n 0, 1) := by decide +kernel
theorem dX5_number_115 : decode cX5_number 115 = .ok (.getfield 114, 3) := by decide +kernel
theorem dX5_number_118 : decode cX5_number 118 = .ok (.iaload, 1) := by decide +kernel
theorem dX5_number_119 : decode cX5_number 119 = .ok (.iadd, 1) := by decide +kernel
theorem dX5_number_120 : decode cX5_number 120 = .ok (.bipush 48, 2) := by decide +kernel
theorem dX5_number_122 : decode cX5_number 122 = .ok (.isub, 1) := by decide +kernel
theorem dX5_number_123 : decode cX5_number 123 = .ok (.istore_n 2, 1) := by decide +kernel
theorem dX5_number_124 : decode cX5_number 124 = .ok (.aload_n 0, 1) := by decide +kernel
theorem dX5_number_125 : decode cX5_number 125 = .ok (.dup, 1) := by decide +kernel
theorem dX5_number_126 : decode cX5_number 126 = .ok (.getfield 114, 3) := by decide +kernel
theorem dX5_number_129 : decode cX5_number 129 = .ok (.iconst 1, 1) := by decide +kernel
theorem dX5_number_130 : decode cX5_number 130 = .ok (.iadd, 1) := by decide +kernel
theorem dX5_number_131 : decode cX5_number 131 = .ok (.putfield 114, 3) := by decide +kernel
theorem dX5_number_134 : decode cX5_number 134 = .ok (.goto (-79), 3) := by decide +kernel
theorem dX5_number_137 : decode cX5_number 137 = .ok (.iload_n 2, 1) := by decide +kernel
theorem dX5_number_138 : decode cX5_number 138 = .ok (.ireturn, 1) := by decide +kernel
set_option maxRecDepth 20000 in
theorem ggX5_reads_X5_stands : GoodIn wsX5_reads wsX5_stands := goodIn_r _ [5, 6, 7, 8, 29, 30, 31, 32, 33, 34, 35, 36, 37, 38, 39, 40, 41, 42, 43, 44] (by decide +kernel) (by decide +kernel)
set_option maxRecDepth 20000 in
theorem gX5_reads_X5_stands : GoodIn wsX5_reads (wsV RX5 120 RX5 yX5_stands wsX5_stands) := goodIn_app (goodIn_of _ (by decide +kernel)) ggX5_reads_X5_stands
set_option maxRecDepth 20000 in
theorem ggX5_reads_X5_number : GoodIn wsX5_reads wsX5_number := goodIn_r _ [12, 6, 7, 8, 13, 14, 4, 15, 29, 30, 31, 32, 33, 34, 35, 36, 37, 38, 39, 40, 41, 42, 43, 44] (by decide +kernel) (by decide +kernel)
set_option maxRecDepth 20000 in
theorem gX5_reads_X5_number : GoodIn wsX5_reads (wsV RX5 123 RX5 yX5_number wsX5_number) := goodIn_app (goodIn_of _ (by decide +kernel)) ggX5_reads_X5_number
set_option maxRecDepth 20000 in
theorem ggX5_reads_X5_puts : GoodIn wsX5_reads wsX5_puts := goodIn_r _ [19, 20, 21, 22, 23, 4, 24, 25, 26, 27, 28, 29, 30, 31, 32, 33, 34, 35, 36, 37, 38, 39, 40, 41, 42, 43, 44] (by decide +kernel) (by decide +kernel)
set_option maxRecDepth 20000 in
theorem gX5_reads_X5_puts : GoodIn wsX5_reads (wsV RX5 91 RX5 yX5_puts wsX5_puts) := goodIn_app (goodIn_of _ (by decide +kernel)) ggX5_reads_X5_puts
theorem dX5_reads_0 : decode cX5_reads 0 = .ok (.aload_n 0, 1) := by decide +kernel
theorem dX5_reads_1 : decode cX5_reads 1 = .ok (.bipush 105, 2) := by decide +kernel
theorem dX5_reads_3 : decode cX5_reads 3 = .ok (.invokevirtual 120, 3) := by decide +kernel
theorem dX5_reads_6 : decode cX5_reads 6 = .ok (.istore_n 3, 1) := by decide +kernel
theorem dX5_reads_7 : decode cX5_reads 7 = .ok (.iload_n 3, 1) := by decide +kernel
theorem dX5_reads_8 : decode cX5_reads 8 = .ok (.ifCond .ne 12, 3) := by decide +kernel
theorem dX5_reads_11 : decode cX5_reads 11 = .ok (.aload_n 0, 1) := by decide +kernel
theorem dX5_reads_12 : decode cX5_reads 12 = .ok (.bipush 115, 2) := by decide +kernel
theorem dX5_reads_14 : decode cX5_reads 14 = .ok (.invokevirtual 120, 3) := by decide +kernel
theorem dX5_reads_17 : decode cX5_reads 17 = .ok (.ifCond .eq 59, 3) := by decide +kernel
theorem dX5_reads_20 : decode cX5_reads 20 = .ok (.aload_n 0, 1) := by decide +kernel
theorem dX5_reads_21 : decode cX5_reads 21 = .ok (.sipush 3000, 3) := by decide +kernel
theorem dX5_reads_24 : decode cX5_reads 24 = .ok (.invokevirtual 123, 3) := by decide +kernel
theorem dX5_reads_27 : decode cX5_reads 27 = .ok (.istore 4, 2) := by decide +kernel
theorem dX5_reads_29 : decode cX5_reads 29 = .ok (.iload 4, 2) := by decide +kernel
theorem dX5_reads_31 : decode cX5_reads 31 = .ok (.ifCond .le 30, 3) := by decide +kernel
theorem dX5_reads_34 : decode cX5_reads 34 = .ok (.iload_n 2, 1) := by decide +kernel
theorem dX5_reads_35 : decode cX5_reads 35 = .ok (.ifCond .eq 26, 3) := by decide +kernel
theorem dX5_reads_38 : decode cX5_reads 38 = .ok (.aload_n 0, 1) := by decide +kernel
theorem dX5_reads_39 : decode cX5_reads 39 = .ok (.iload_n 1, 1) := by decide +kernel
theorem dX5_reads_40 : decode cX5_reads 40 = .ok (.iload_n 3, 1) := by decide +kernel
theorem dX5_reads_41 : decode cX5_reads 41 = .ok (.ifCond .eq 7, 3) := by decide +kernel
theorem dX5_reads_44 : decode cX5_reads 44 = .ok (.iconst 1, 1) := by decide +kernel
theorem dX5_reads_45 : decode cX5_reads 45 = .ok (.goto 4, 3) := by decide +kernel
theorem dX5_reads_48 : decode cX5_reads 48 = .ok (.iconst 2, 1) := by decide +kernel
theorem dX5_reads_49 : decode cX5_reads 49 = .ok (.iconst 0, 1) := by decide +kernel
theorem dX5_reads_50 : decode cX5_reads 50 = .ok (.iconst 0, 1) := by decide +kernel
theorem dX5_reads_51 : decode cX5_reads 51 = .ok (.iconst 0, 1) := by decide +kernel
theorem dX5_reads_52 : decode cX5_reads 52 = .ok (.iconst 0, 1) := by decide +kernel
theorem dX5_reads_53 : decode cX5_reads 53 = .ok (.iload 4, 2) := by decide +kernel
theorem dX5_reads_55 : decode cX5_reads 55 = .ok (.invokevirtual 91, 3) := by decide +kernel
theorem dX5_reads_58 : decode cX5_reads 58 = .ok (.goto 4, 3) := by decide +kernel
theorem dX5_reads_61 : decode cX5_reads 61 = .ok (.iconst 0, 1) := by decide +kernel
theorem dX5_reads_62 : decode cX5_reads 62 = .ok (.istore 5, 2) := by decide +kernel
theorem dX5_reads_64 : decode cX5_reads 64 = .ok (.iload 4, 2) := by decide +kernel
theorem dX5_reads_66 : decode cX5_reads 66 = .ok (.ifCond .ge 8, 3) := by decide +kernel
theorem dX5_reads_69 : decode cX5_reads 69 = .ok (.bipush (-100), 2) := by decide +kernel
theorem dX5_reads_71 : decode cX5_reads 71 = .ok (.goto 4, 3) := by decide +kernel
theorem dX5_reads_74 : decode cX5_reads 74 = .ok (.iconst 0, 1) := by decide +kernel
theorem dX5_reads_75 : decode cX5_reads 75 = .ok (.ireturn, 1) := by decide +kernel
theorem dX5_reads_76 : decode cX5_reads 76 = .ok (.aload_n 0, 1) := by decide +kernel
theorem dX5_reads_77 : decode cX5_reads 77 = .ok (.bipush 112, 2) := by decide +kernel
theorem dX5_reads_79 : decode cX5_reads 79 = .ok (.invokevirtual 120, 3) := by decide +kernel
theorem dX5_reads_82 : decode cX5_reads 82 = .ok (.ifCond .eq 12, 3) := by decide +kernel
theorem dX5_reads_85 : decode cX5_reads 85 = .ok (.aload_n 0, 1) := by decide +kernel
theorem dX5_reads_86 : decode cX5_reads 86 = .ok (.bipush 40, 2) := by decide +kernel
theorem dX5_reads_88 : decode cX5_reads 88 = .ok (.invokevirtual 123, 3) := by decide +kernel
theorem dX5_reads_91 : decode cX5_reads 91 = .ok (.goto 4, 3) := by decide +kernel
theorem dX5_reads_94 : decode cX5_reads 94 = .ok (.iconst (-1), 1) := by decide +kernel
theorem dX5_reads_95 : decode cX5_reads 95 = .ok (.istore 4, 2) := by decide +kernel
theorem dX5_reads_97 : decode cX5_reads 97 = .ok (.iload 4, 2) := by decide +kernel
theorem dX5_reads_99 : decode cX5_reads 99 = .ok (.ifCond .lt 12, 3) := by decide +kernel
theorem dX5_reads_102 : decode cX5_reads 102 = .ok (.aload_n 0, 1) := by decide +kernel
theorem dX5_reads_103 : decode cX5_reads 103 = .ok (.bipush 42, 2) := by decide +kernel
theorem dX5_reads_105 : decode cX5_reads 105 = .ok (.invokevirtual 120, 3) := by decide +kernel
theorem dX5_reads_108 : decode cX5_reads 108 = .ok (.ifCond .ne 6, 3) := by decide +kernel
theorem dX5_reads_111 : decode cX5_reads 111 = .ok (.bipush (-100), 2) := by decide +kernel
theorem dX5_reads_113 : decode cX5_reads 113 = .ok (.ireturn, 1) := by decide +kernel
theorem dX5_reads_114 : decode cX5_reads 114 = .ok (.aload_n 0, 1) := by decide +kernel
theorem dX5_reads_115 : decode cX5_reads 115 = .ok (.sipush 400, 3) := by decide +kernel
theorem dX5_reads_118 : decode cX5_reads 118 = .ok (.invokevirtual 123, 3) := by decide +kernel
theorem dX5_reads_121 : decode cX5_reads 121 = .ok (.istore 5, 2) := by decide +kernel
theorem dX5_reads_123 : decode cX5_reads 123 = .ok (.iload 5, 2) := by decide +kernel
theorem dX5_reads_125 : decode cX5_reads 125 = .ok (.ifCond .lt 12, 3) := by decide +kernel
theorem dX5_reads_128 : decode cX5_reads 128 = .ok (.aload_n 0, 1) := by decide +kernel
theorem dX5_reads_129 : decode cX5_reads 129 = .ok (.bipush 47, 2) := by decide +kernel
theorem dX5_reads_131 : decode cX5_reads 131 = .ok (.invokevirtual 120, 3) := by decide +kernel
theorem dX5_reads_134 : decode cX5_reads 134 = .ok (.ifCond .ne 6, 3) := by decide +kernel
theorem dX5_reads_137 : decode cX5_reads 137 = .ok (.bipush (-100), 2) := by decide +kernel
theorem dX5_reads_139 : decode cX5_reads 139 = .ok (.ireturn, 1) := by decide +kernel
theorem dX5_reads_140 : decode cX5_reads 140 = .ok (.aload_n 0, 1) := by decide +kernel
theorem dX5_reads_141 : decode cX5_reads 141 = .ok (.sipush 600, 3) := by decide +kernel
theorem dX5_reads_144 : decode cX5_reads 144 = .ok (.invokevirtual 123, 3) := by decide +kernel
theorem dX5_reads_147 : decode cX5_reads 147 = .ok (.istore 6, 2) := by decide +kernel
theorem dX5_reads_149 : decode cX5_reads 149 = .ok (.iload 6, 2) := by decide +kernel
theorem dX5_reads_151 : decode cX5_reads 151 = .ok (.ifCond .ge 6, 3) := by decide +kernel
theorem dX5_reads_154 : decode cX5_reads 154 = .ok (.bipush (-100), 2) := by decide +kernel
theorem dX5_reads_156 : decode cX5_reads 156 = .ok (.ireturn, 1) := by decide +kernel
theorem dX5_reads_157 : decode cX5_reads 157 = .ok (.aload_n 0, 1) := by decide +kernel
theorem dX5_reads_158 : decode cX5_reads 158 = .ok (.bipush 33, 2) := by decide +kernel
theorem dX5_reads_160 : decode cX5_reads 160 = .ok (.invokevirtual 120, 3) := by decide +kernel
theorem dX5_reads_163 : decode cX5_reads 163 = .ok (.ifCond .eq 7, 3) := by decide +kernel
theorem dX5_reads_166 : decode cX5_reads 166 = .ok (.iconst 1, 1) := by decide +kernel
theorem dX5_reads_167 : decode cX5_reads 167 = .ok (.goto 4, 3) := by decide +kernel
theorem dX5_reads_170 : decode cX5_reads 170 = .ok (.iconst 0, 1) := by decide +kernel
theorem dX5_reads_171 : decode cX5_reads 171 = .ok (.istore 7, 2) := by decide +kernel
theorem dX5_reads_173 : decode cX5_reads 173 = .ok (.iload_n 2, 1) := by decide +kernel
theorem dX5_reads_174 : decode cX5_reads 174 = .ok (.ifCond .eq 21, 3) := by decide +kernel
theorem dX5_reads_177 : decode cX5_reads 177 = .ok (.aload_n 0, 1) := by decide +kernel
theorem dX5_reads_178 : decode cX5_reads 178 = .ok (.iload_n 1, 1) := by decide +kernel
theorem dX5_reads_179 : decode cX5_reads 179 = .ok (.iconst 0, 1) := by decide +kernel
theorem dX5_reads_180 : decode cX5_reads 180 = .ok (.iload 4, 2) := by decide +kernel
theorem dX5_reads_182 : decode cX5_reads 182 = .ok (.iload 5, 2) := by decide +kernel
theorem dX5_reads_184 : decode cX5_reads 184 = .ok (.iload 6, 2) := by decide +kernel
theorem dX5_reads_186 : decode cX5_reads 186 = .ok (.iload 7, 2) := by decide +kernel
theorem dX5_reads_188 : decode cX5_reads 188 = .ok (.iconst 0, 1) := by decide +kernel
theorem dX5_reads_189 : decode cX5_reads 189 = .ok (.invokevirtual 91, 3) := by decide +kernel
theorem dX5_reads_192 : decode cX5_reads 192 = .ok (.goto 4, 3) := by decide +kernel
theorem dX5_reads_195 : decode cX5_reads 195 = .ok (.iconst 0, 1) := by decide +kernel
theorem dX5_reads_196 : decode cX5_reads 196 = .ok (.istore 8, 2) := by decide +kernel
theorem dX5_reads_198 : decode cX5_reads 198 = .ok (.iload 5, 2) := by decide +kernel
theorem dX5_reads_200 : decode cX5_reads 200 = .ok (.bipush 40, 2) := by decide +kernel
theorem dX5_reads_202 : decode cX5_reads 202 = .ok (.if_icmp .lt 10, 3) := by decide +kernel
theorem dX5_reads_205 : decode cX5_reads 205 = .ok (.iload 6, 2) := by decide +kernel
theorem dX5_reads_207 : decode cX5_reads 207 = .ok (.iload 5, 2) := by decide +kernel
theorem dX5_reads_209 : decode cX5_reads 209 = .ok (.if_icmp .ge 8, 3) := by decide +kernel
theorem dX5_reads_212 : decode cX5_reads 212 = .ok (.bipush (-2), 2) := by decide +kernel
theorem dX5_reads_214 : decode cX5_reads 214 = .ok (.goto 4, 3) := by decide +kernel
theorem dX5_reads_217 : decode cX5_reads 217 = .ok (.iconst 0, 1) := by decide +kernel
theorem dX5_reads_218 : decode cX5_reads 218 = .ok (.ireturn, 1) := by decide +kernel
set_option maxRecDepth 20000 in
theorem ggX5_putAll_X5_isColumn : GoodIn wsX5_putAll wsX5_isColumn := goodIn_r _ [7, 8, 9, 6, 10] (by decide +kernel) (by decide +kernel)
set_option maxRecDepth 20000 in
theorem gX5_putAll_X5_isColumn : GoodIn wsX5_putAll (va_wsS RX5 58 yX5_isColumn wsX5_isColumn) := goodIn_app (goodIn_of _ (by decide +kernel)) ggX5_putAll_X5_isColumn
set_option maxRecDepth 20000 in
theorem ggX5_putAll_X5_reads : GoodIn wsX5_putAll wsX5_reads := goodIn_r _ [14, 15, 16, 17, 6, 18, 1, 2, 3, 19, 20, 21, 22, 8, 9, 10, 23, 24, 25, 26, 27, 28, 29, 30, 31, 32, 33, 34, 35, 42, 43, 44, 45, 46, 47, 48, 49, 50, 51, 52, 53, 54, 55, 56, 57] (by decide +kernel) (by decide +kernel)
set_option maxRecDepth 20000 in
theorem gX5_putAll_X5_reads : GoodIn wsX5_putAll (wsV RX5 126 RX5 yX5_reads wsX5_reads) := goodIn_app (goodIn_of _ (by decide +kernel)) ggX5_putAll_X5_reads
set_option maxRecDepth 20000 in
theorem ggX5_putAll_X5_stands : GoodIn wsX5_putAll wsX5_stands := goodIn_r _ [18, 1, 2, 3, 42, 43, 44, 45, 46, 47, 48, 49, 50, 51, 52, 53, 54, 55, 56, 57] (by decide +kernel) (by decide +kernel)
set_option maxRecDepth 20000 in
theorem gX5_putAll_X5_stands : GoodIn wsX5_putAll (wsV RX5 120 RX5 yX5_stands wsX5_stands) := goodIn_app (goodIn_of _ (by decide +kernel)) ggX5_putAll_X5_stands
set_option maxRecDepth 20000 in
theorem ggX5_putAll_X5_blocks : GoodIn wsX5_putAll wsX5_blocks := goodIn_r _ [31, 27, 42, 43, 44, 45, 46, 47, 48, 49, 50, 51, 52, 53, 54, 55, 56, 57] (by decide +kernel) (by decide +kernel)
set_option maxRecDepth 20000 in
theorem gX5_putAll_X5_blocks : GoodIn wsX5_putAll (wsV RX5 62 RX5 yX5_blocks wsX5_blocks) := goodIn_app (goodIn_of _ (by decide +kernel)) ggX5_putAll_X5_blocks
set_option maxRecDepth 20000 in
theorem ggX5_putAll_X5_record : GoodIn wsX5_putAll wsX5_record := goodIn_r _ [39, 40, 41, 27, 42, 43, 44, 45, 46, 47, 48, 49, 50, 51, 52, 53, 54, 55, 56, 57] (by decide +kernel) (by decide +kernel)
set_option maxRecDepth 20000 in
theorem gX5_putAll_X5_record : GoodIn wsX5_putAll (wsV RX5 88 RX5 yX5_record wsX5_record) := goodIn_app (goodIn_of _ (by decide +kernel)) ggX5_putAll_X5_record
theorem dX5_putAll_0 : decode cX5_putAll 0 = .ok (.iload_n 1, 1) := by decide +kernel
theorem dX5_putAll_1 : decode cX5_putAll 1 = .ok (.invokestatic 58, 3) := by decide +kernel
theorem dX5_putAll_4 : decode cX5_putAll 4 = .ok (.ifCond .ne 5, 3) := by decide +kernel
theorem dX5_putAll_7 : decode cX5_putAll 7 = .ok (.iconst (-1), 1) := by decide +kernel
theorem dX5_putAll_8 : decode cX5_putAll 8 = .ok (.ireturn, 1) := by decide +kernel
theorem dX5_putAll_9 : decode cX5_putAll 9 = .ok (.iconst 0, 1) := by decide +kernel
theorem dX5_putAll_10 : decode cX5_putAll 10 = .ok (.istore_n 2, 1) := by decide +kernel
theorem dX5_putAll_11 : decode cX5_putAll 11 = .ok (.iconst 1, 1) := by decide +kernel
theorem dX5_putAll_12 : decode cX5_putAll 12 = .ok (.istore_n 3, 1) := by decide +kernel
theorem dX5_putAll_13 : decode cX5_putAll 13 = .ok (.iconst 1, 1) := by decide +kernel
theorem dX5_putAll_14 : decode cX5_putAll 14 = .ok (.istore 4, 2) := by decide +kernel
theorem dX5_putAll_16 : decode cX5_putAll 16 = .ok (.aload_n 0, 1) := by decide +kernel
theorem dX5_putAll_17 : decode cX5_putAll 17 = .ok (.iconst 0, 1) := by decide +kernel
theorem dX5_putAll_18 : decode cX5_putAll 18 = .ok (.putfield 114, 3) := by decide +kernel
theorem dX5_putAll_21 : decode cX5_putAll 21 = .ok (.iload 4, 2) := by decide +kernel
theorem dX5_putAll_23 : decode cX5_putAll 23 = .ok (.ifCond .eq 99, 3) := by decide +kernel
theorem dX5_putAll_26 : decode cX5_putAll 26 = .ok (.aload_n 0, 1) := by decide +kernel
theorem dX5_putAll_27 : decode cX5_putAll 27 = .ok (.iload_n 1, 1) := by decide +kernel
theorem dX5_putAll_28 : decode cX5_putAll 28 = .ok (.iconst 0, 1) := by decide +kernel
theorem dX5_putAll_29 : decode cX5_putAll 29 = .ok (.invokevirtual 126, 3) := by decide +kernel
theorem dX5_putAll_32 : decode cX5_putAll 32 = .ok (.istore 5, 2) := by decide +kernel
theorem dX5_putAll_34 : decode cX5_putAll 34 = .ok (.iload 5, 2) := by decide +kernel
theorem dX5_putAll_36 : decode cX5_putAll 36 = .ok (.bipush (-100), 2) := by decide +kernel
theorem dX5_putAll_38 : decode cX5_putAll 38 = .ok (.if_icmp .eq 23, 3) := by decide +kernel
theorem dX5_putAll_41 : decode cX5_putAll 41 = .ok (.aload_n 0, 1) := by decide +kernel
theorem dX5_putAll_42 : decode cX5_putAll 42 = .ok (.getfield 114, 3) := by decide +kernel
theorem dX5_putAll_45 : decode cX5_putAll 45 = .ok (.aload_n 0, 1) := by decide +kernel
theorem dX5_putAll_46 : decode cX5_putAll 46 = .ok (.getfield 117, 3) := by decide +kernel
theorem dX5_putAll_49 : decode cX5_putAll 49 = .ok (.if_icmp .ge 20, 3) := by decide +kernel
theorem dX5_putAll_52 : decode cX5_putAll 52 = .ok (.aload_n 0, 1) := by decide +kernel
theorem dX5_putAll_53 : decode cX5_putAll 53 = .ok (.bipush 59, 2) := by decide +kernel
theorem dX5_putAll_55 : decode cX5_putAll 55 = .ok (.invokevirtual 120, 3) := by decide +kernel
theorem dX5_putAll_58 : decode cX5_putAll 58 = .ok (.ifCond .ne 11, 3) := by decide +kernel
theorem dX5_putAll_61 : decode cX5_putAll 61 = .ok (.bipush (-100), 2) := by decide +kernel
theorem dX5_putAll_63 : decode cX5_putAll 63 = .ok (.aload_n 0, 1) := by decide +kernel
theorem dX5_putAll_64 : decode cX5_putAll 64 = .ok (.getfield 114, 3) := by decide +kernel
theorem dX5_putAll_67 : decode cX5_putAll 67 = .ok (.isub, 1) := by decide +kernel
theorem dX5_putAll_68 : decode cX5_putAll 68 = .ok (.ireturn, 1) := by decide +kernel
theorem dX5_putAll_69 : decode cX5_putAll 69 = .ok (.aload_n 0, 1) := by decide +kernel
theorem dX5_putAll_70 : decode cX5_putAll 70 = .ok (.getfield 114, 3) := by decide +kernel
theorem dX5_putAll_73 : decode cX5_putAll 73 = .ok (.aload_n 0, 1) := by decide +kernel
theorem dX5_putAll_74 : decode cX5_putAll 74 = .ok (.getfield 117, 3) := by decide +kernel
theorem dX5_putAll_77 : decode cX5_putAll 77 = .ok (.if_icmp .lt 19, 3) := by decide +kernel
theorem dX5_putAll_80 : decode cX5_putAll 80 = .ok (.aload_n 0, 1) := by decide +kernel
theorem dX5_putAll_81 : decode cX5_putAll 81 = .ok (.getfield 19, 3) := by decide +kernel
theorem dX5_putAll_84 : decode cX5_putAll 84 = .ok (.aload_n 0, 1) := by decide +kernel
theorem dX5_putAll_85 : decode cX5_putAll 85 = .ok (.getfield 114, 3) := by decide +kernel
theorem dX5_putAll_88 : decode cX5_putAll 88 = .ok (.iconst 1, 1) := by decide +kernel
theorem dX5_putAll_89 : decode cX5_putAll 89 = .ok (.isub, 1) := by decide +kernel
theorem dX5_putAll_90 : decode cX5_putAll 90 = .ok (.iaload, 1) := by decide +kernel
theorem dX5_putAll_91 : decode cX5_putAll 91 = .ok (.bipush 59, 2) := by decide +kernel
theorem dX5_putAll_93 : decode cX5_putAll 93 = .ok (.if_icmp .ne 7, 3) := by decide +kernel
theorem dX5_putAll_96 : decode cX5_putAll 96 = .ok (.iconst 1, 1) := by decide +kernel
theorem dX5_putAll_97 : decode cX5_putAll 97 = .ok (.goto 4, 3) := by decide +kernel
theorem dX5_putAll_100 : decode cX5_putAll 100 = .ok (.iconst 0, 1) := by decide +kernel
theorem dX5_putAll_101 : decode cX5_putAll 101 = .ok (.istore 4, 2) := by decide +kernel
theorem dX5_putAll_103 : decode cX5_putAll 103 = .ok (.iload_n 3, 1) := by decide +kernel
theorem dX5_putAll_104 : decode cX5_putAll 104 = .ok (.iload 5, 2) := by decide +kernel
theorem dX5_putAll_106 : decode cX5_putAll 106 = .ok (.ifCond .ne 7, 3) := by decide +kernel
theorem dX5_putAll_109 : decode cX5_putAll 109 = .ok (.iconst 1, 1) := by decide +kernel
theorem dX5_putAll_110 : decode cX5_putAll 110 = .ok (.goto 4, 3) := by decide +kernel
theorem dX5_putAll_113 : decode cX5_putAll 113 = .ok (.iconst 0, 1) := by decide +kernel
theorem dX5_putAll_114 : decode cX5_putAll 114 = .ok (.iand, 1) := by decide +kernel
theorem dX5_putAll_115 : decode cX5_putAll 115 = .ok (.istore_n 3, 1) := by decide +kernel
theorem dX5_putAll_116 : decode cX5_putAll 116 = .ok (.iinc 2 1, 3) := by decide +kernel
theorem dX5_putAll_119 : decode cX5_putAll 119 = .ok (.goto (-98), 3) := by decide +kernel
theorem dX5_putAll_122 : decode cX5_putAll 122 = .ok (.iload_n 3, 1) := by decide +kernel
theorem dX5_putAll_123 : decode cX5_putAll 123 = .ok (.ifCond .ne 6, 3) := by decide +kernel
theorem dX5_putAll_126 : decode cX5_putAll 126 = .ok (.bipush (-2), 2) := by decide +kernel
theorem dX5_putAll_128 : decode cX5_putAll 128 = .ok (.ireturn, 1) := by decide +kernel
theorem dX5_putAll_129 : decode cX5_putAll 129 = .ok (.aload_n 0, 1) := by decide +kernel
theorem dX5_putAll_130 : decode cX5_putAll 130 = .ok (.iload_n 1, 1) := by decide +kernel
theorem dX5_putAll_131 : decode cX5_putAll 131 = .ok (.invokevirtual 62, 3) := by decide +kernel
theorem dX5_putAll_134 : decode cX5_putAll 134 = .ok (.iload_n 2, 1) := by decide +kernel
theorem dX5_putAll_135 : decode cX5_putAll 135 = .ok (.iadd, 1) := by decide +kernel
theorem dX5_putAll_136 : decode cX5_putAll 136 = .ok (.bipush 16, 2) := by decide +kernel
theorem dX5_putAll_138 : decode cX5_putAll 138 = .ok (.if_icmp .le 6, 3) := by decide +kernel
theorem dX5_putAll_141 : decode cX5_putAll 141 = .ok (.bipush (-3), 2) := by decide +kernel
theorem dX5_putAll_143 : decode cX5_putAll 143 = .ok (.ireturn, 1) := by decide +kernel
theorem dX5_putAll_144 : decode cX5_putAll 144 = .ok (.aload_n 0, 1) := by decide +kernel
theorem dX5_putAll_145 : decode cX5_putAll 145 = .ok (.invokevirtual 88, 3) := by decide +kernel
theorem dX5_putAll_148 : decode cX5_putAll 148 = .ok (.aload_n 0, 1) := by decide +kernel
theorem dX5_putAll_149 : decode cX5_putAll 149 = .ok (.iconst 0, 1) := by decide +kernel
theorem dX5_putAll_150 : decode cX5_putAll 150 = .ok (.putfield 114, 3) := by decide +kernel
theorem dX5_putAll_153 : decode cX5_putAll 153 = .ok (.iconst 0, 1) := by decide +kernel
theorem dX5_putAll_154 : decode cX5_putAll 154 = .ok (.istore 5, 2) := by decide +kernel
theorem dX5_putAll_156 : decode cX5_putAll 156 = .ok (.iload 5, 2) := by decide +kernel
theorem dX5_putAll_158 : decode cX5_putAll 158 = .ok (.iload_n 2, 1) := by decide +kernel
theorem dX5_putAll_159 : decode cX5_putAll 159 = .ok (.if_icmp .ge 27, 3) := by decide +kernel
theorem dX5_putAll_162 : decode cX5_putAll 162 = .ok (.aload_n 0, 1) := by decide +kernel
theorem dX5_putAll_163 : decode cX5_putAll 163 = .ok (.iload_n 1, 1) := by decide +kernel
theorem dX5_putAll_164 : decode cX5_putAll 164 = .ok (.iconst 1, 1) := by decide +kernel
theorem dX5_putAll_165 : decode cX5_putAll 165 = .ok (.invokevirtual 126, 3) := by decide +kernel
theorem dX5_putAll_168 : decode cX5_putAll 168 = .ok (.istore 6, 2) := by decide +kernel
theorem dX5_putAll_170 : decode cX5_putAll 170 = .ok (.aload_n 0, 1) := by decide +kernel
theorem dX5_putAll_171 : decode cX5_putAll 171 = .ok (.dup, 1) := by decide +kernel
theorem dX5_putAll_172 : decode cX5_putAll 172 = .ok (.getfield 114, 3) := by decide +kernel
theorem dX5_putAll_175 : decode cX5_putAll 175 = .ok (.iconst 1, 1) := by decide +kernel
theorem dX5_putAll_176 : decode cX5_putAll 176 = .ok (.iadd, 1) := by decide +kernel
theorem dX5_putAll_177 : decode cX5_putAll 177 = .ok (.putfield 114, 3) := by decide +kernel
theorem dX5_putAll_180 : decode cX5_putAll 180 = .ok (.iinc 5 1, 3) := by decide +kernel
theorem dX5_putAll_183 : decode cX5_putAll 183 = .ok (.goto (-27), 3) := by decide +kernel
theorem dX5_putAll_186 : decode cX5_putAll 186 = .ok (.aload_n 0, 1) := by decide +kernel
theorem dX5_putAll_187 : decode cX5_putAll 187 = .ok (.iload_n 1, 1) := by decide +kernel
theorem dX5_putAll_188 : decode cX5_putAll 188 = .ok (.invokevirtual 62, 3) := by decide +kernel
theorem dX5_putAll_191 : decode cX5_putAll 191 = .ok (.ireturn, 1) := by decide +kernel
theorem dX5_type_0 : decode cX5_type 0 = .ok (.aload_n 0, 1) := by decide +kernel
theorem dX5_type_1 : decode cX5_type 1 = .ok (.getfield 117, 3) := by decide +kernel
theorem dX5_type_4 : decode cX5_type 4 = .ok (.bipush 60, 2) := by decide +kernel
theorem dX5_type_6 : decode cX5_type 6 = .ok (.if_icmp .ne 6, 3) := by decide +kernel
theorem dX5_type_9 : decode cX5_type 9 = .ok (.bipush (-3), 2) := by decide +kernel
theorem dX5_type_11 : decode cX5_type 11 = .ok (.ireturn, 1) := by decide +kernel
theorem dX5_type_12 : decode cX5_type 12 = .ok (.aload_n 0, 1) := by decide +kernel
theorem dX5_type_13 : decode cX5_type 13 = .ok (.getfield 19, 3) := by decide +kernel
theorem dX5_type_16 : decode cX5_type 16 = .ok (.aload_n 0, 1) := by decide +kernel
theorem dX5_type_17 : decode cX5_type 17 = .ok (.getfield 117, 3) := by decide +kernel
theorem dX5_type_20 : decode cX5_type 20 = .ok (.iload_n 1, 1) := by decide +kernel
theorem dX5_type_21 : decode cX5_type 21 = .ok (.iastore, 1) := by decide +kernel
theorem dX5_type_22 : decode cX5_type 22 = .ok (.aload_n 0, 1) := by decide +kernel
theorem dX5_type_23 : decode cX5_type 23 = .ok (.dup, 1) := by decide +kernel
theorem dX5_type_24 : decode cX5_type 24 = .ok (.getfield 117, 3) := by decide +kernel
theorem dX5_type_27 : decode cX5_type 27 = .ok (.iconst 1, 1) := by decide +kernel
theorem dX5_type_28 : decode cX5_type 28 = .ok (.iadd, 1) := by decide +kernel
theorem dX5_type_29 : decode cX5_type 29 = .ok (.putfield 117, 3) := by decide +kernel
theorem dX5_type_32 : decode cX5_type 32 = .ok (.aload_n 0, 1) := by decide +kernel
theorem dX5_type_33 : decode cX5_type 33 = .ok (.getfield 117, 3) := by decide +kernel
theorem dX5_type_36 : decode cX5_type 36 = .ok (.ireturn, 1) := by decide +kernel
theorem dX5_clearText_0 : decode cX5_clearText 0 = .ok (.aload_n 0, 1) := by decide +kernel
theorem dX5_clearText_1 : decode cX5_clearText 1 = .ok (.getfield 117, 3) := by decide +kernel
theorem dX5_clearText_4 : decode cX5_clearText 4 = .ok (.istore_n 1, 1) := by decide +kernel
theorem dX5_clearText_5 : decode cX5_clearText 5 = .ok (.aload_n 0, 1) := by decide +kernel
theorem dX5_clearText_6 : decode cX5_clearText 6 = .ok (.iconst 0, 1) := by decide +kernel
theorem dX5_clearText_7 : decode cX5_clearText 7 = .ok (.putfield 117, 3) := by decide +kernel
theorem dX5_clearText_10 : decode cX5_clearText 10 = .ok (.iload_n 1, 1) := by decide +kernel
theorem dX5_clearText_11 : decode cX5_clearText 11 = .ok (.ireturn, 1) := by decide +kernel
theorem dX5_undo_0 : decode cX5_undo 0 = .ok (.aload_n 0, 1) := by decide +kernel
theorem dX5_undo_1 : decode cX5_undo 1 = .ok (.getfield 50, 3) := by decide +kernel
theorem dX5_undo_4 : decode cX5_undo 4 = .ok (.ifCond .ne 6, 3) := by decide +kernel
theorem dX5_undo_7 : decode cX5_undo 7 = .ok (.bipush (-5), 2) := by decide +kernel
theorem dX5_undo_9 : decode cX5_undo 9 = .ok (.ireturn, 1) := by decide +kernel
theorem dX5_undo_10 : decode cX5_undo 10 = .ok (.aload_n 0, 1) := by decide +kernel
theorem dX5_undo_11 : decode cX5_undo 11 = .ok (.dup, 1) := by decide +kernel
theorem dX5_undo_12 : decode cX5_undo 12 = .ok (.getfield 50, 3) := by decide +kernel
theorem dX5_undo_15 : decode cX5_undo 15 = .ok (.iconst 1, 1) := by decide +kernel
theorem dX5_undo_16 : decode cX5_undo 16 = .ok (.isub, 1) := by decide +kernel
theorem dX5_undo_17 : decode cX5_undo 17 = .ok (.putfield 50, 3) := by decide +kernel
theorem dX5_undo_20 : decode cX5_undo 20 = .ok (.iconst 0, 1) := by decide +kernel
theorem dX5_undo_21 : decode cX5_undo 21 = .ok (.istore_n 1, 1) := by decide +kernel
theorem dX5_undo_22 : decode cX5_undo 22 = .ok (.iload_n 1, 1) := by decide +kernel
theorem dX5_undo_23 : decode cX5_undo 23 = .ok (.sipush 393, 3) := by decide +kernel
theorem dX5_undo_26 : decode cX5_undo 26 = .ok (.if_icmp .ge 30, 3) := by decide +kernel
theorem dX5_undo_29 : decode cX5_undo 29 = .ok (.aload_n 0, 1) := by decide +kernel
theorem dX5_undo_30 : decode cX5_undo 30 = .ok (.getfield 7, 3) := by decide +kernel
theorem dX5_undo_33 : decode cX5_undo 33 = .ok (.iload_n 1, 1) := by decide +kernel
theorem dX5_undo_34 : decode cX5_undo 34 = .ok (.aload_n 0, 1) := by decide +kernel
theorem dX5_undo_35 : decode cX5_undo 35 = .ok (.getfield 16, 3) := by decide +kernel
theorem dX5_undo_38 : decode cX5_undo 38 = .ok (.sipush 393, 3) := by decide +kernel
theorem dX5_undo_41 : decode cX5_undo 41 = .ok (.aload_n 0, 1) := by decide +kernel
theorem dX5_undo_42 : decode cX5_undo 42 = .ok (.getfield 50, 3) := by decide +kernel
theorem dX5_undo_45 : decode cX5_undo 45 = .ok (.imul, 1) := by decide +kernel
theorem dX5_undo_46 : decode cX5_undo 46 = .ok (.iload_n 1, 1) := by decide +kernel
theorem dX5_undo_47 : decode cX5_undo 47 = .ok (.iadd, 1) := by decide +kernel
theorem dX5_undo_48 : decode cX5_undo 48 = .ok (.iaload, 1) := by decide +kernel
theorem dX5_undo_49 : decode cX5_undo 49 = .ok (.iastore, 1) := by decide +kernel
theorem dX5_undo_50 : decode cX5_undo 50 = .ok (.iinc 1 1, 3) := by decide +kernel
theorem dX5_undo_53 : decode cX5_undo 53 = .ok (.goto (-31), 3) := by decide +kernel
theorem dX5_undo_56 : decode cX5_undo 56 = .ok (.aload_n 0, 1) := by decide +kernel
theorem dX5_undo_57 : decode cX5_undo 57 = .ok (.getfield 50, 3) := by decide +kernel
theorem dX5_undo_60 : decode cX5_undo 60 = .ok (.ireturn, 1) := by decide +kernel
set_option maxRecDepth 20000 in
theorem ggX5_keep_X5_all : GoodIn wsX5_keep wsX5_all := goodIn_r _ [8, 9, 10, 11, 7, 12, 2, 13, 14, 15, 16, 17, 18, 19, 20, 21, 22, 23, 24, 25, 26, 27, 28] (by decide +kernel) (by decide +kernel)
set_option maxRecDepth 20000 in
theorem gX5_keep_X5_all : GoodIn wsX5_keep (wsV RX5 134 RX5 yX5_all wsX5_all) := goodIn_app (goodIn_of _ (by decide +kernel)) ggX5_keep_X5_all
theorem dX5_keep_0 : decode cX5_keep 0 = .ok (.iconst 0, 1) := by decide +kernel
theorem dX5_keep_1 : decode cX5_keep 1 = .ok (.istore_n 1, 1) := by decide +kernel
theorem dX5_keep_2 : decode cX5_keep 2 = .ok (.iload_n 1, 1) := by decide +kernel
theorem dX5_keep_3 : decode cX5_keep 3 = .ok (.sipush 393, 3) := by decide +kernel
theorem dX5_keep_6 : decode cX5_keep 6 = .ok (.if_icmp .ge 21, 3) := by decide +kernel
theorem dX5_keep_9 : decode cX5_keep 9 = .ok (.aload_n 0, 1) := by decide +kernel
theorem dX5_keep_10 : decode cX5_keep 10 = .ok (.getfield 13, 3) := by decide +kernel
theorem dX5_keep_13 : decode cX5_keep 13 = .ok (.iload_n 1, 1) := by decide +kernel
theorem dX5_keep_14 : decode cX5_keep 14 = .ok (.aload_n 0, 1) := by decide +kernel
theorem dX5_keep_15 : decode cX5_keep 15 = .ok (.getfield 7, 3) := by decide +kernel
theorem dX5_keep_18 : decode cX5_keep 18 = .ok (.iload_n 1, 1) := by decide +kernel
theorem dX5_keep_19 : decode cX5_keep 19 = .ok (.iaload, 1) := by decide +kernel
theorem dX5_keep_20 : decode cX5_keep 20 = .ok (.iastore, 1) := by decide +kernel
theorem dX5_keep_21 : decode cX5_keep 21 = .ok (.iinc 1 1, 3) := by decide +kernel
theorem dX5_keep_24 : decode cX5_keep 24 = .ok (.goto (-22), 3) := by decide +kernel
theorem dX5_keep_27 : decode cX5_keep 27 = .ok (.aload_n 0, 1) := by decide +kernel
theorem dX5_keep_28 : decode cX5_keep 28 = .ok (.iconst 1, 1) := by decide +kernel
theorem dX5_keep_29 : decode cX5_keep 29 = .ok (.putfield 130, 3) := by decide +kernel
theorem dX5_keep_32 : decode cX5_keep 32 = .ok (.aload_n 0, 1) := by decide +kernel
theorem dX5_keep_33 : decode cX5_keep 33 = .ok (.invokevirtual 134, 3) := by decide +kernel
theorem dX5_keep_36 : decode cX5_keep 36 = .ok (.ireturn, 1) := by decide +kernel
set_option maxRecDepth 20000 in
theorem ggX5_restore_X5_record : GoodIn wsX5_restore wsX5_record := goodIn_r _ [8, 9, 10, 2, 19, 20, 21, 22, 23, 24, 25, 26, 27, 28, 29, 30, 31, 32, 33, 34] (by decide +kernel) (by decide +kernel)
set_option maxRecDepth 20000 in
theorem gX5_restore_X5_record : GoodIn wsX5_restore (wsV RX5 88 RX5 yX5_record wsX5_record) := goodIn_app (goodIn_of _ (by decide +kernel)) ggX5_restore_X5_record
set_option maxRecDepth 20000 in
theorem ggX5_restore_X5_all : GoodIn wsX5_restore wsX5_all := goodIn_r _ [14, 15, 16, 17, 7, 18, 2, 19, 20, 21, 22, 23, 24, 25, 26, 27, 28, 29, 30, 31, 32, 33, 34] (by decide +kernel) (by decide +kernel)
set_option maxRecDepth 20000 in
theorem gX5_restore_X5_all : GoodIn wsX5_restore (wsV RX5 134 RX5 yX5_all wsX5_all) := goodIn_app (goodIn_of _ (by decide +kernel)) ggX5_restore_X5_all
theorem dX5_restore_0 : decode cX5_restore 0 = .ok (.aload_n 0, 1) := by decide +kernel
theorem dX5_restore_1 : decode cX5_restore 1 = .ok (.getfield 130, 3) := by decide +kernel
theorem dX5_restore_4 : decode cX5_restore 4 = .ok (.ifCond .ne 6, 3) := by decide +kernel
theorem dX5_restore_7 : decode cX5_restore 7 = .ok (.bipush (-5), 2) := by decide +kernel
theorem dX5_restore_9 : decode cX5_restore 9 = .ok (.ireturn, 1) := by decide +kernel
theorem dX5_restore_10 : decode cX5_restore 10 = .ok (.aload_n 0, 1) := by decide +kernel
theorem dX5_restore_11 : decode cX5_restore 11 = .ok (.invokevirtual 88, 3) := by decide +kernel
theorem dX5_restore_14 : decode cX5_restore 14 = .ok (.iconst 0, 1) := by decide +kernel
theorem dX5_restore_15 : decode cX5_restore 15 = .ok (.istore_n 1, 1) := by decide +kernel
theorem dX5_restore_16 : decode cX5_restore 16 = .ok (.iload_n 1, 1) := by decide +kernel
theorem dX5_restore_17 : decode cX5_restore 17 = .ok (.sipush 393, 3) := by decide +kernel
theorem dX5_restore_20 : decode cX5_restore 20 = .ok (.if_icmp .ge 21, 3) := by decide +kernel
theorem dX5_restore_23 : decode cX5_restore 23 = .ok (.aload_n 0, 1) := by decide +kernel
theorem dX5_restore_24 : decode cX5_restore 24 = .ok (.getfield 7, 3) := by decide +kernel
theorem dX5_restore_27 : decode cX5_restore 27 = .ok (.iload_n 1, 1) := by decide +kernel
theorem dX5_restore_28 : decode cX5_restore 28 = .ok (.aload_n 0, 1) := by decide +kernel
theorem dX5_restore_29 : decode cX5_restore 29 = .ok (.getfield 13, 3) := by decide +kernel
theorem dX5_restore_32 : decode cX5_restore 32 = .ok (.iload_n 1, 1) := by decide +kernel
theorem dX5_restore_33 : decode cX5_restore 33 = .ok (.iaload, 1) := by decide +kernel
theorem dX5_restore_34 : decode cX5_restore 34 = .ok (.iastore, 1) := by decide +kernel
theorem dX5_restore_35 : decode cX5_restore 35 = .ok (.iinc 1 1, 3) := by decide +kernel
theorem dX5_restore_38 : decode cX5_restore 38 = .ok (.goto (-22), 3) := by decide +kernel
theorem dX5_restore_41 : decode cX5_restore 41 = .ok (.aload_n 0, 1) := by decide +kernel
theorem dX5_restore_42 : decode cX5_restore 42 = .ok (.invokevirtual 134, 3) := by decide +kernel
theorem dX5_restore_45 : decode cX5_restore 45 = .ok (.ireturn, 1) := by decide +kernel
set_option maxRecDepth 20000 in
theorem ggX5_block_X5_isBlock : GoodIn wsX5_block wsX5_isBlock := goodIn_r _ [8, 9, 10, 7, 11, 12, 13, 14, 15, 16, 17, 18, 19, 53, 54, 55, 56, 57, 58, 59, 60, 61, 62, 63, 64, 65, 66, 67, 68] (by decide +kernel) (by decide +kernel)
set_option maxRecDepth 20000 in
theorem gX5_block_X5_isBlock : GoodIn wsX5_block (wsV RX5 95 RX5 yX5_isBlock wsX5_isBlock) := goodIn_app (goodIn_of _ (by decide +kernel)) ggX5_block_X5_isBlock
set_option maxRecDepth 20000 in
theorem ggX5_block_X5_in : GoodIn wsX5_block wsX5_in := goodIn_r _ [14] (by decide +kernel) (by decide +kernel)
set_option maxRecDepth 20000 in
theorem gX5_block_X5_in : GoodIn wsX5_block (va_wsS RX5 46 yX5_in wsX5_in) := goodIn_app (goodIn_of _ (by decide +kernel)) ggX5_block_X5_in
set_option maxRecDepth 20000 in
theorem ggX5_block_X5_of : GoodIn wsX5_block wsX5_of := goodIn_r _ [23, 19, 24, 25, 26, 7, 27, 53, 54, 55, 56, 57, 58, 59, 60, 61, 62, 63, 64, 65, 66, 67, 68] (by decide +kernel) (by decide +kernel)
set_option maxRecDepth 20000 in
theorem gX5_block_X5_of : GoodIn wsX5_block (wsV RX5 66 RX5 yX5_of wsX5_of) := goodIn_app (goodIn_of _ (by decide +kernel)) ggX5_block_X5_of
set_option maxRecDepth 20000 in
theorem ggX5_block_X5_sets : GoodIn wsX5_block wsX5_sets := goodIn_r _ [31, 19, 32, 33, 34, 7, 35, 36, 37, 38, 39, 40, 41, 1, 2, 3, 42, 15, 16, 17, 18, 20, 21, 22, 23, 24, 25, 26, 27, 43, 44, 45, 46, 47, 48, 49, 50, 51, 52, 53, 54, 55, 56, 57, 58, 59, 60, 61, 62, 63, 64, 65, 66, 67, 68] (by decide +kernel) (by decide +kernel)
set_option maxRecDepth 20000 in
theorem gX5_block_X5_sets : GoodIn wsX5_block (wsV RX5 102 RX5 yX5_sets wsX5_sets) := goodIn_app (goodIn_of _ (by decide +kernel)) ggX5_block_X5_sets
theorem dX5_block_0 : decode cX5_block 0 = .ok (.aload_n 0, 1) := by decide +kernel
theorem dX5_block_1 : decode cX5_block 1 = .ok (.iload_n 1, 1) := by decide +kernel
theorem dX5_block_2 : decode cX5_block 2 = .ok (.iload_n 2, 1) := by decide +kernel
theorem dX5_block_3 : decode cX5_block 3 = .ok (.invokevirtual 95, 3) := by decide +kernel
theorem dX5_block_6 : decode cX5_block 6 = .ok (.ifCond .ne 5, 3) := by decide +kernel
theorem dX5_block_9 : decode cX5_block 9 = .ok (.iconst (-1), 1) := by decide +kernel
theorem dX5_block_10 : decode cX5_block 10 = .ok (.ireturn, 1) := by decide +kernel
theorem dX5_block_11 : decode cX5_block 11 = .ok (.iload_n 3, 1) := by decide +kernel
theorem dX5_block_12 : decode cX5_block 12 = .ok (.iconst 0, 1) := by decide +kernel
theorem dX5_block_13 : decode cX5_block 13 = .ok (.bipush 8, 2) := by decide +kernel
theorem dX5_block_15 : decode cX5_block 15 = .ok (.invokestatic 46, 3) := by decide +kernel
theorem dX5_block_18 : decode cX5_block 18 = .ok (.ifCond .ne 6, 3) := by decide +kernel
theorem dX5_block_21 : decode cX5_block 21 = .ok (.bipush (-2), 2) := by decide +kernel
theorem dX5_block_23 : decode cX5_block 23 = .ok (.ireturn, 1) := by decide +kernel
theorem dX5_block_24 : decode cX5_block 24 = .ok (.aload_n 0, 1) := by decide +kernel
theorem dX5_block_25 : decode cX5_block 25 = .ok (.iload_n 1, 1) := by decide +kernel
theorem dX5_block_26 : decode cX5_block 26 = .ok (.iload_n 2, 1) := by decide +kernel
theorem dX5_block_27 : decode cX5_block 27 = .ok (.iconst 0, 1) := by decide +kernel
theorem dX5_block_28 : decode cX5_block 28 = .ok (.invokevirtual 66, 3) := by decide +kernel
theorem dX5_block_31 : decode cX5_block 31 = .ok (.ifCond .ne 7, 3) := by decide +kernel
theorem dX5_block_34 : decode cX5_block 34 = .ok (.iconst 1, 1) := by decide +kernel
theorem dX5_block_35 : decode cX5_block 35 = .ok (.goto 4, 3) := by decide +kernel
theorem dX5_block_38 : decode cX5_block 38 = .ok (.iconst 0, 1) := by decide +kernel
theorem dX5_block_39 : decode cX5_block 39 = .ok (.istore 4, 2) := by decide +kernel
theorem dX5_block_41 : decode cX5_block 41 = .ok (.iload_n 3, 1) := by decide +kernel
theorem dX5_block_42 : decode cX5_block 42 = .ok (.bipush 6, 2) := by decide +kernel
theorem dX5_block_44 : decode cX5_block 44 = .ok (.if_icmp .ge 35, 3) := by decide +kernel
theorem dX5_block_47 : decode cX5_block 47 = .ok (.iload_n 3, 1) := by decide +kernel
theorem dX5_block_48 : decode cX5_block 48 = .ok (.ifCond .eq 18, 3) := by decide +kernel
theorem dX5_block_51 : decode cX5_block 51 = .ok (.iload_n 3, 1) := by decide +kernel
theorem dX5_block_52 : decode cX5_block 52 = .ok (.iconst 5, 1) := by decide +kernel
theorem dX5_block_53 : decode cX5_block 53 = .ok (.if_icmp .ne 7, 3) := by decide +kernel
theorem dX5_block_56 : decode cX5_block 56 = .ok (.iconst 1, 1) := by decide +kernel
theorem dX5_block_57 : decode cX5_block 57 = .ok (.goto 4, 3) := by decide +kernel
theorem dX5_block_60 : decode cX5_block 60 = .ok (.iconst 0, 1) := by decide +kernel
theorem dX5_block_61 : decode cX5_block 61 = .ok (.iload 4, 2) := by decide +kernel
theorem dX5_block_63 : decode cX5_block 63 = .ok (.if_icmp .eq 13, 3) := by decide +kernel
theorem dX5_block_66 : decode cX5_block 66 = .ok (.aload_n 0, 1) := by decide +kernel
theorem dX5_block_67 : decode cX5_block 67 = .ok (.iload_n 1, 1) := by decide +kernel
theorem dX5_block_68 : decode cX5_block 68 = .ok (.iload_n 2, 1) := by decide +kernel
theorem dX5_block_69 : decode cX5_block 69 = .ok (.iload_n 3, 1) := by decide +kernel
theorem dX5_block_70 : decode cX5_block 70 = .ok (.invokevirtual 66, 3) := by decide +kernel
theorem dX5_block_73 : decode cX5_block 73 = .ok (.goto 5, 3) := by decide +kernel
theorem dX5_block_76 : decode cX5_block 76 = .ok (.bipush (-5), 2) := by decide +kernel
theorem dX5_block_78 : decode cX5_block 78 = .ok (.ireturn, 1) := by decide +kernel
theorem dX5_block_79 : decode cX5_block 79 = .ok (.aload_n 0, 1) := by decide +kernel
theorem dX5_block_80 : decode cX5_block 80 = .ok (.invokevirtual 102, 3) := by decide +kernel
theorem dX5_block_83 : decode cX5_block 83 = .ok (.bipush 16, 2) := by decide +kernel
theorem dX5_block_85 : decode cX5_block 85 = .ok (.iload_n 1, 1) := by decide +kernel
theorem dX5_block_86 : decode cX5_block 86 = .ok (.imul, 1) := by decide +kernel
theorem dX5_block_87 : decode cX5_block 87 = .ok (.iload_n 2, 1) := by decide +kernel
theorem dX5_block_88 : decode cX5_block 88 = .ok (.iadd, 1) := by decide +kernel
theorem dX5_block_89 : decode cX5_block 89 = .ok (.istore 5, 2) := by decide +kernel
theorem dX5_block_91 : decode cX5_block 91 = .ok (.iload_n 3, 1) := by decide +kernel
theorem dX5_block_92 : decode cX5_block 92 = .ok (.bipush 8, 2) := by decide +kernel
theorem dX5_block_94 : decode cX5_block 94 = .ok (.if_icmp .ne 11, 3) := by decide +kernel
theorem dX5_block_97 : decode cX5_block 97 = .ok (.aload_n 0, 1) := by decide +kernel
theorem dX5_block_98 : decode cX5_block 98 = .ok (.getfield 43, 3) := by decide +kernel
theorem dX5_block_101 : decode cX5_block 101 = .ok (.iload 5, 2) := by decide +kernel
theorem dX5_block_103 : decode cX5_block 103 = .ok (.iaload, 1) := by decide +kernel
theorem dX5_block_104 : decode cX5_block 104 = .ok (.ireturn, 1) := by decide +kernel
theorem dX5_block_105 : decode cX5_block 105 = .ok (.aload_n 0, 1) := by decide +kernel
theorem dX5_block_106 : decode cX5_block 106 = .ok (.getfield 43, 3) := by decide +kernel
theorem dX5_block_109 : decode cX5_block 109 = .ok (.iload 5, 2) := by decide +kernel
theorem dX5_block_111 : decode cX5_block 111 = .ok (.iaload, 1) := by decide +kernel
theorem dX5_block_112 : decode cX5_block 112 = .ok (.ifCond .ne 8, 3) := by decide +kernel
theorem dX5_block_115 : decode cX5_block 115 = .ok (.bipush (-5), 2) := by decide +kernel
theorem dX5_block_117 : decode cX5_block 117 = .ok (.goto 26, 3) := by decide +kernel
theorem dX5_block_120 : decode cX5_block 120 = .ok (.iload_n 3, 1) := by decide +kernel
theorem dX5_block_121 : decode cX5_block 121 = .ok (.bipush 6, 2) := by decide +kernel
theorem dX5_block_123 : decode cX5_block 123 = .ok (.if_icmp .ne 13, 3) := by decide +kernel
theorem dX5_block_126 : decode cX5_block 126 = .ok (.aload_n 0, 1) := by decide +kernel
theorem dX5_block_127 : decode cX5_block 127 = .ok (.getfield 37, 3) := by decide +kernel
theorem dX5_block_130 : decode cX5_block 130 = .ok (.iload 5, 2) := by decide +kernel
theorem dX5_block_132 : decode cX5_block 132 = .ok (.iaload, 1) := by decide +kernel
theorem dX5_block_133 : decode cX5_block 133 = .ok (.goto 10, 3) := by decide +kernel
theorem dX5_block_136 : decode cX5_block 136 = .ok (.aload_n 0, 1) := by decide +kernel
theorem dX5_block_137 : decode cX5_block 137 = .ok (.getfield 40, 3) := by decide +kernel
theorem dX5_block_140 : decode cX5_block 140 = .ok (.iload 5, 2) := by decide +kernel
theorem dX5_block_142 : decode cX5_block 142 = .ok (.iaload, 1) := by decide +kernel
theorem dX5_block_143 : decode cX5_block 143 = .ok (.ireturn, 1) := by decide +kernel
set_option maxRecDepth 20000 in
theorem ggX5_line_X5_isColumn : GoodIn wsX5_line wsX5_isColumn := goodIn_r _ [8, 9, 10, 7, 11] (by decide +kernel) (by decide +kernel)
set_option maxRecDepth 20000 in
theorem gX5_line_X5_isColumn : GoodIn wsX5_line (va_wsS RX5 58 yX5_isColumn wsX5_isColumn) := goodIn_app (goodIn_of _ (by decide +kernel)) ggX5_line_X5_isColumn
set_option maxRecDepth 20000 in
theorem ggX5_line_X5_in : GoodIn wsX5_line wsX5_in := goodIn_r _ [11] (by decide +kernel) (by decide +kernel)
set_option maxRecDepth 20000 in
theorem gX5_line_X5_in : GoodIn wsX5_line (va_wsS RX5 46 yX5_in wsX5_in) := goodIn_app (goodIn_of _ (by decide +kernel)) ggX5_line_X5_in
set_option maxRecDepth 20000 in
theorem ggX5_line_X5_sets : GoodIn wsX5_line wsX5_sets := goodIn_r _ [15, 3, 16, 17, 18, 7, 19, 20, 21, 22, 23, 1, 24, 25, 26, 27, 28, 29, 30, 31, 32, 33, 34, 35, 36, 37, 38, 39, 40, 41, 42, 43, 44, 2, 4, 45, 46, 47, 48, 57, 58, 59, 60, 61, 62, 63, 64, 65, 66, 67, 68, 69, 70, 71, 72] (by decide +kernel) (by decide +kernel)
set_option maxRecDepth 20000 in
theorem gX5_line_X5_sets : GoodIn wsX5_line (wsV RX5 102 RX5 yX5_sets wsX5_sets) := goodIn_app (goodIn_of _ (by decide +kernel)) ggX5_line_X5_sets
set_option maxRecDepth 20000 in
theorem ggX5_line_X5_has : GoodIn wsX5_line wsX5_has := goodIn_r _ [52, 1, 2, 5, 6, 7, 8, 9, 10, 11, 57, 58, 59, 60, 61, 62, 63, 64, 65, 66, 67, 68, 69, 70, 71, 72] (by decide +kernel) (by decide +kernel)
set_option maxRecDepth 20000 in
theorem gX5_line_X5_has : GoodIn wsX5_line (wsV RX5 138 RX5 yX5_has wsX5_has) := goodIn_app (goodIn_of _ (by decide +kernel)) ggX5_line_X5_has
set_option maxRecDepth 20000 in
theorem ggX5_line_X5_drift : GoodIn wsX5_line wsX5_drift := goodIn_r _ [56, 3, 57, 58, 59, 60, 61, 62, 63, 64, 65, 66, 67, 68, 69, 70, 71, 72] (by decide +kernel) (by decide +kernel)
set_option maxRecDepth 20000 in
theorem gX5_line_X5_drift : GoodIn wsX5_line (wsV RX5 85 RX5 yX5_drift wsX5_drift) := goodIn_app (goodIn_of _ (by decide +kernel)) ggX5_line_X5_drift
theorem dX5_line_0 : decode cX5_line 0 = .ok (.iload_n 1, 1) := by decide +kernel
theorem dX5_line_1 : decode cX5_line 1 = .ok (.invokestatic 58, 3) := by decide +kernel
theorem dX5_line_4 : decode cX5_line 4 = .ok (.ifCond .ne 5, 3) := by decide +kernel
theorem dX5_line_7 : decode cX5_line 7 = .ok (.iconst (-1), 1) := by decide +kernel
theorem dX5_line_8 : decode cX5_line 8 = .ok (.ireturn, 1) := by decide +kernel
theorem dX5_line_9 : decode cX5_line 9 = .ok (.iload_n 2, 1) := by decide +kernel
theorem dX5_line_10 : decode cX5_line 10 = .ok (.ifCond .lt 12, 3) := by decide +kernel
theorem dX5_line_13 : decode cX5_line 13 = .ok (.iload_n 3, 1) := by decide +kernel
theorem dX5_line_14 : decode cX5_line 14 = .ok (.iconst 0, 1) := by decide +kernel
theorem dX5_line_15 : decode cX5_line 15 = .ok (.iconst 4, 1) := by decide +kernel
theorem dX5_line_16 : decode cX5_line 16 = .ok (.invokestatic 46, 3) := by decide +kernel
theorem dX5_line_19 : decode cX5_line 19 = .ok (.ifCond .ne 6, 3) := by decide +kernel
theorem dX5_line_22 : decode cX5_line 22 = .ok (.bipush (-2), 2) := by decide +kernel
theorem dX5_line_24 : decode cX5_line 24 = .ok (.ireturn, 1) := by decide +kernel
theorem dX5_line_25 : decode cX5_line 25 = .ok (.aload_n 0, 1) := by decide +kernel
theorem dX5_line_26 : decode cX5_line 26 = .ok (.invokevirtual 102, 3) := by decide +kernel
theorem dX5_line_29 : decode cX5_line 29 = .ok (.iload_n 2, 1) := by decide +kernel
theorem dX5_line_30 : decode cX5_line 30 = .ok (.aload_n 0, 1) := by decide +kernel
theorem dX5_line_31 : decode cX5_line 31 = .ok (.getfield 28, 3) := by decide +kernel
theorem dX5_line_34 : decode cX5_line 34 = .ok (.iload_n 1, 1) := by decide +kernel
theorem dX5_line_35 : decode cX5_line 35 = .ok (.iaload, 1) := by decide +kernel
theorem dX5_line_36 : decode cX5_line 36 = .ok (.if_icmp .lt 6, 3) := by decide +kernel
theorem dX5_line_39 : decode cX5_line 39 = .ok (.bipush (-5), 2) := by decide +kernel
theorem dX5_line_41 : decode cX5_line 41 = .ok (.ireturn, 1) := by decide +kernel
theorem dX5_line_42 : decode cX5_line 42 = .ok (.aload_n 0, 1) := by decide +kernel
theorem dX5_line_43 : decode cX5_line 43 = .ok (.getfield 22, 3) := by decide +kernel
theorem dX5_line_46 : decode cX5_line 46 = .ok (.sipush 640, 3) := by decide +kernel
theorem dX5_line_49 : decode cX5_line 49 = .ok (.iload_n 1, 1) := by decide +kernel
theorem dX5_line_50 : decode cX5_line 50 = .ok (.imul, 1) := by decide +kernel
theorem dX5_line_51 : decode cX5_line 51 = .ok (.iload_n 2, 1) := by decide +kernel
theorem dX5_line_52 : decode cX5_line 52 = .ok (.iadd, 1) := by decide +kernel
theorem dX5_line_53 : decode cX5_line 53 = .ok (.iaload, 1) := by decide +kernel
theorem dX5_line_54 : decode cX5_line 54 = .ok (.istore 4, 2) := by decide +kernel
theorem dX5_line_56 : decode cX5_line 56 = .ok (.iload_n 3, 1) := by decide +kernel
theorem dX5_line_57 : decode cX5_line 57 = .ok (.iconst 2, 1) := by decide +kernel
theorem dX5_line_58 : decode cX5_line 58 = .ok (.if_icmp .le 32, 3) := by decide +kernel
theorem dX5_line_61 : decode cX5_line 61 = .ok (.aload_n 0, 1) := by decide +kernel
theorem dX5_line_62 : decode cX5_line 62 = .ok (.iload_n 3, 1) := by decide +kernel
theorem dX5_line_63 : decode cX5_line 63 = .ok (.iconst 3, 1) := by decide +kernel
theorem dX5_line_64 : decode cX5_line 64 = .ok (.if_icmp .ne 9, 3) := by decide +kernel
theorem dX5_line_67 : decode cX5_line 67 = .ok (.iload_n 1, 1) := by decide +kernel
theorem dX5_line_68 : decode cX5_line 68 = .ok (.iconst 1, 1) := by decide +kernel
theorem dX5_line_69 : decode cX5_line 69 = .ok (.isub, 1) := by decide +kernel
theorem dX5_line_70 : decode cX5_line 70 = .ok (.goto 6, 3) := by decide +kernel
theorem dX5_line_73 : decode cX5_line 73 = .ok (.iload_n 1, 1) := by decide +kernel
theorem dX5_line_74 : decode cX5_line 74 = .ok (.iconst 1, 1) := by decide +kernel
theorem dX5_line_75 : decode cX5_line 75 = .ok (.iadd, 1) := by decide +kernel
theorem dX5_line_76 : decode cX5_line 76 = .ok (.iload 4, 2) := by decide +kernel
theorem dX5_line_78 : decode cX5_line 78 = .ok (.invokevirtual 138, 3) := by decide +kernel
theorem dX5_line_81 : decode cX5_line 81 = .ok (.ifCond .eq 7, 3) := by decide +kernel
theorem dX5_line_84 : decode cX5_line 84 = .ok (.iconst 1, 1) := by decide +kernel
theorem dX5_line_85 : decode cX5_line 85 = .ok (.goto 4, 3) := by decide +kernel
theorem dX5_line_88 : decode cX5_line 88 = .ok (.iconst 0, 1) := by decide +kernel
theorem dX5_line_89 : decode cX5_line 89 = .ok (.ireturn, 1) := by decide +kernel
theorem dX5_line_90 : decode cX5_line 90 = .ok (.iload_n 3, 1) := by decide +kernel
theorem dX5_line_91 : decode cX5_line 91 = .ok (.ifCond .ne 8, 3) := by decide +kernel
theorem dX5_line_94 : decode cX5_line 94 = .ok (.iload 4, 2) := by decide +kernel
theorem dX5_line_96 : decode cX5_line 96 = .ok (.goto 35, 3) := by decide +kernel
theorem dX5_line_99 : decode cX5_line 99 = .ok (.iload_n 3, 1) := by decide +kernel
theorem dX5_line_100 : decode cX5_line 100 = .ok (.iconst 1, 1) := by decide +kernel
theorem dX5_line_101 : decode cX5_line 101 = .ok (.if_icmp .ne 18, 3) := by decide +kernel
theorem dX5_line_104 : decode cX5_line 104 = .ok (.aload_n 0, 1) := by decide +kernel
theorem dX5_line_105 : decode cX5_line 105 = .ok (.iload 4, 2) := by decide +kernel
theorem dX5_line_107 : decode cX5_line 107 = .ok (.aload_n 0, 1) := by decide +kernel
theorem dX5_line_108 : decode cX5_line 108 = .ok (.getfield 7, 3) := by decide +kernel
theorem dX5_line_111 : decode cX5_line 111 = .ok (.iconst 2, 1) := by decide +kernel
theorem dX5_line_112 : decode cX5_line 112 = .ok (.iaload, 1) := by decide +kernel
theorem dX5_line_113 : decode cX5_line 113 = .ok (.invokevirtual 85, 3) := by decide +kernel
theorem dX5_line_116 : decode cX5_line 116 = .ok (.goto 15, 3) := by decide +kernel
theorem dX5_line_119 : decode cX5_line 119 = .ok (.aload_n 0, 1) := by decide +kernel
theorem dX5_line_120 : decode cX5_line 120 = .ok (.getfield 25, 3) := by decide +kernel
theorem dX5_line_123 : decode cX5_line 123 = .ok (.sipush 640, 3) := by decide +kernel
theorem dX5_line_126 : decode cX5_line 126 = .ok (.iload_n 1, 1) := by decide +kernel
theorem dX5_line_127 : decode cX5_line 127 = .ok (.imul, 1) := by decide +kernel
theorem dX5_line_128 : decode cX5_line 128 = .ok (.iload_n 2, 1) := by decide +kernel
theorem dX5_line_129 : decode cX5_line 129 = .ok (.iadd, 1) := by decide +kernel
theorem dX5_line_130 : decode cX5_line 130 = .ok (.iaload, 1) := by decide +kernel
theorem dX5_line_131 : decode cX5_line 131 = .ok (.ireturn, 1) := by decide +kernel
set_option maxRecDepth 20000 in
theorem ggX5_column_X5_isColumn : GoodIn wsX5_column wsX5_isColumn := goodIn_r _ [9, 10, 11, 8, 12] (by decide +kernel) (by decide +kernel)
set_option maxRecDepth 20000 in
theorem gX5_column_X5_isColumn : GoodIn wsX5_column (va_wsS RX5 58 yX5_isColumn wsX5_isColumn) := goodIn_app (goodIn_of _ (by decide +kernel)) ggX5_column_X5_isColumn
set_option maxRecDepth 20000 in
theorem ggX5_column_X5_in : GoodIn wsX5_column wsX5_in := goodIn_r _ [12] (by decide +kernel) (by decide +kernel)
set_option maxRecDepth 20000 in
theorem gX5_column_X5_in : GoodIn wsX5_column (va_wsS RX5 46 yX5_in wsX5_in) := goodIn_app (goodIn_of _ (by decide +kernel)) ggX5_column_X5_in
set_option maxRecDepth 20000 in
theorem ggX5_column_X5_sets : GoodIn wsX5_column wsX5_sets := goodIn_r _ [16, 3, 17, 18, 19, 8, 20, 21, 22, 23, 24, 1, 25, 4, 26, 27, 5, 28, 29, 30, 31, 32, 33, 34, 35, 36, 37, 38, 39, 40, 41, 42, 43, 2, 44, 45, 46, 47, 48, 65, 66, 67, 68, 69, 70, 71, 72, 73, 74, 75, 76, 77, 78, 79, 80] (by decide +kernel) (by decide +kernel)
set_option maxRecDepth 20000 in
theorem gX5_column_X5_sets : GoodIn wsX5_column (wsV RX5 102 RX5 yX5_sets wsX5_sets) := goodIn_app (goodIn_of _ (by decide +kernel)) ggX5_column_X5_sets
set_option maxRecDepth 20000 in
theorem ggX5_column_X5_drift : GoodIn wsX5_column wsX5_drift := goodIn_r _ [52, 3, 65, 66, 67, 68, 69, 70, 71, 72, 73, 74, 75, 76, 77, 78, 79, 80] (by decide +kernel) (by decide +kernel)
set_option maxRecDepth 20000 in
theorem gX5_column_X5_drift : GoodIn wsX5_column (wsV RX5 85 RX5 yX5_drift wsX5_drift) := goodIn_app (goodIn_of _ (by decide +kernel)) ggX5_column_X5_drift
set_option maxRecDepth 20000 in
theorem ggX5_column_X5_has : GoodIn wsX5_column wsX5_has := goodIn_r _ [56, 1, 2, 6, 7, 8, 9, 10, 11, 12, 65, 66, 67, 68, 69, 70, 71, 72, 73, 74, 75, 76, 77, 78, 79, 80] (by decide +kernel) (by decide +kernel)
set_option maxRecDepth 20000 in
theorem gX5_column_X5_has : GoodIn wsX5_column (wsV RX5 138 RX5 yX5_has wsX5_has) := goodIn_app (goodIn_of _ (by decide +kernel)) ggX5_column_X5_has
set_option maxRecDepth 20000 in
theorem ggX5_column_X5_blocks : GoodIn wsX5_column wsX5_blocks := goodIn_r _ [31, 3, 65, 66, 67, 68, 69, 70, 71, 72, 73, 74, 75, 76, 77, 78, 79, 80] (by decide +kernel) (by decide +kernel)
set_option maxRecDepth 20000 in
theorem gX5_column_X5_blocks : GoodIn wsX5_column (wsV RX5 62 RX5 yX5_blocks wsX5_blocks) := goodIn_app (goodIn_of _ (by decide +kernel)) ggX5_column_X5_blocks
set_option maxRecDepth 20000 in
theorem ggX5_column_X5_allLines : GoodIn wsX5_column wsX5_allLines := goodIn_r _ [60, 28, 29, 30, 8, 31, 3, 32, 33, 34, 35, 36, 37, 38, 39, 65, 66, 67, 68, 69, 70, 71, 72, 73, 74, 75, 76, 77, 78, 79, 80] (by decide +kernel) (by decide +kernel)
set_option maxRecDepth 20000 in
theorem gX5_column_X5_allLines : GoodIn wsX5_column (wsV RX5 141 RX5 yX5_allLines wsX5_allLines) := goodIn_app (goodIn_of _ (by decide +kernel)) ggX5_column_X5_allLines
set_option maxRecDepth 20000 in
theorem ggX5_column_X5_drifts : GoodIn wsX5_column wsX5_drifts := goodIn_r _ [64, 1, 2, 49, 50, 51, 8, 52, 3, 65, 66, 67, 68, 69, 70, 71, 72, 73, 74, 75, 76, 77, 78, 79, 80] (by decide +kernel) (by decide +kernel)
set_option maxRecDepth 20000 in
theorem gX5_column_X5_drifts : GoodIn wsX5_column (wsV RX5 144 RX5 yX5_drifts wsX5_drifts) := goodIn_app (goodIn_of _ (by decide +kernel)) ggX5_column_X5_drifts
theorem dX5_column_0 : decode cX5_column 0 = .ok (.iload_n 1, 1) := by decide +kernel
theorem dX5_column_1 : decode cX5_column 1 = .ok (.invokestatic 58, 3) := by decide +kernel
theorem dX5_column_4 : decode cX5_column 4 = .ok (.ifCond .ne 5, 3) := by decide +kernel
theorem dX5_column_7 : decode cX5_column 7 = .ok (.iconst (-1), 1) := by decide +kernel
theorem dX5_column_8 : decode cX5_column 8 = .ok (.ireturn, 1) := by decide +kernel
theorem dX5_column_9 : decode cX5_column 9 = .ok (.iload_n 2, 1) := by decide +kernel
theorem dX5_column_10 : decode cX5_column 10 = .ok (.iconst 0, 1) := by decide +kernel
theorem dX5_column_11 : decode cX5_column 11 = .ok (.bipush 9, 2) := by decide +kernel
theorem dX5_column_13 : decode cX5_column 13 = .ok (.invokestatic 46, 3) := by decide +kernel
theorem dX5_column_16 : decode cX5_column 16 = .ok (.ifCond .ne 6, 3) := by decide +kernel
theorem dX5_column_19 : decode cX5_column 19 = .ok (.bipush (-2), 2) := by decide +kernel
theorem dX5_column_21 : decode cX5_column 21 = .ok (.ireturn, 1) := by decide +kernel
theorem dX5_column_22 : decode cX5_column 22 = .ok (.aload_n 0, 1) := by decide +kernel
theorem dX5_column_23 : decode cX5_column 23 = .ok (.invokevirtual 102, 3) := by decide +kernel
theorem dX5_column_26 : decode cX5_column 26 = .ok (.iconst 0, 1) := by decide +kernel
theorem dX5_column_27 : decode cX5_column 27 = .ok (.istore_n 3, 1) := by decide +kernel
theorem dX5_column_28 : decode cX5_column 28 = .ok (.iconst 0, 1) := by decide +kernel
theorem dX5_column_29 : decode cX5_column 29 = .ok (.istore 4, 2) := by decide +kernel
theorem dX5_column_31 : decode cX5_column 31 = .ok (.iconst 0, 1) := by decide +kernel
theorem dX5_column_32 : decode cX5_column 32 = .ok (.istore 5, 2) := by decide +kernel
theorem dX5_column_34 : decode cX5_column 34 = .ok (.iconst 0, 1) := by decide +kernel
theorem dX5_column_35 : decode cX5_column 35 = .ok (.istore 6, 2) := by decide +kernel
theorem dX5_column_37 : decode cX5_column 37 = .ok (.iconst 0, 1) := by decide +kernel
theorem dX5_column_38 : decode cX5_column 38 = .ok (.istore 7, 2) := by decide +kernel
theorem dX5_column_40 : decode cX5_column 40 = .ok (.iload 7, 2) := by decide +kernel
theorem dX5_column_42 : decode cX5_column 42 = .ok (.aload_n 0, 1) := by decide +kernel
theorem dX5_column_43 : decode cX5_column 43 = .ok (.getfield 28, 3) := by decide +kernel
theorem dX5_column_46 : decode cX5_column 46 = .ok (.iload_n 1, 1) := by decide +kernel
theorem dX5_column_47 : decode cX5_column 47 = .ok (.iaload, 1) := by decide +kernel
theorem dX5_column_48 : decode cX5_column 48 = .ok (.if_icmp .ge 111, 3) := by decide +kernel
theorem dX5_column_51 : decode cX5_column 51 = .ok (.aload_n 0, 1) := by decide +kernel
theorem dX5_column_52 : decode cX5_column 52 = .ok (.getfield 22, 3) := by decide +kernel
theorem dX5_column_55 : decode cX5_column 55 = .ok (.sipush 640, 3) := by decide +kernel
theorem dX5_column_58 : decode cX5_column 58 = .ok (.iload_n 1, 1) := by decide +kernel
theorem dX5_column_59 : decode cX5_column 59 = .ok (.imul, 1) := by decide +kernel
theorem dX5_column_60 : decode cX5_column 60 = .ok (.iload 7, 2) := by decide +kernel
theorem dX5_column_62 : decode cX5_column 62 = .ok (.iadd, 1) := by decide +kernel
theorem dX5_column_63 : decode cX5_column 63 = .ok (.iaload, 1) := by decide +kernel
theorem dX5_column_64 : decode cX5_column 64 = .ok (.istore 8, 2) := by decide +kernel
theorem dX5_column_66 : decode cX5_column 66 = .ok (.aload_n 0, 1) := by decide +kernel
theorem dX5_column_67 : decode cX5_column 67 = .ok (.iload 8, 2) := by decide +kernel
theorem dX5_column_69 : decode cX5_column 69 = .ok (.aload_n 0, 1) := by decide +kernel
theorem dX5_column_70 : decode cX5_column 70 = .ok (.getfield 7, 3) := by decide +kernel
theorem dX5_column_73 : decode cX5_column 73 = .ok (.iconst 2, 1) := by decide +kernel
theorem dX5_column_74 : decode cX5_column 74 = .ok (.iaload, 1) := by decide +kernel
theorem dX5_column_75 : decode cX5_column 75 = .ok (.invokevirtual 85, 3) := by decide +kernel
theorem dX5_column_78 : decode cX5_column 78 = .ok (.istore 9, 2) := by decide +kernel
theorem dX5_column_80 : decode cX5_column 80 = .ok (.iload 9, 2) := by decide +kernel
theorem dX5_column_82 : decode cX5_column 82 = .ok (.iload_n 3, 1) := by decide +kernel
theorem dX5_column_83 : decode cX5_column 83 = .ok (.if_icmp .le 8, 3) := by decide +kernel
theorem dX5_column_86 : decode cX5_column 86 = .ok (.iload 9, 2) := by decide +kernel
theorem dX5_column_88 : decode cX5_column 88 = .ok (.goto 4, 3) := by decide +kernel
theorem dX5_column_91 : decode cX5_column 91 = .ok (.iload_n 3, 1) := by decide +kernel
theorem dX5_column_92 : decode cX5_column 92 = .ok (.istore_n 3, 1) := by decide +kernel
theorem dX5_column_93 : decode cX5_column 93 = .ok (.iload 4, 2) := by decide +kernel
theorem dX5_column_95 : decode cX5_column 95 = .ok (.iload 9, 2) := by decide +kernel
theorem dX5_column_97 : decode cX5_column 97 = .ok (.ifCond .ne 18, 3) := by decide +kernel
theorem dX5_column_100 : decode cX5_column 100 = .ok (.iload 8, 2) := by decide +kernel
theorem dX5_column_102 : decode cX5_column 102 = .ok (.aload_n 0, 1) := by decide +kernel
theorem dX5_column_103 : decode cX5_column 103 = .ok (.getfield 7, 3) := by decide +kernel
theorem dX5_column_106 : decode cX5_column 106 = .ok (.iconst 1, 1) := by decide +kernel
theorem dX5_column_107 : decode cX5_column 107 = .ok (.iaload, 1) := by decide +kernel
theorem dX5_column_108 : decode cX5_column 108 = .ok (.if_icmp .lt 7, 3) := by decide +kernel
theorem dX5_column_111 : decode cX5_column 111 = .ok (.iconst 1, 1) := by decide +kernel
theorem dX5_column_112 : decode cX5_column 112 = .ok (.goto 4, 3) := by decide +kernel
theorem dX5_column_115 : decode cX5_column 115 = .ok (.iconst 0, 1) := by decide +kernel
theorem dX5_column_116 : decode cX5_column 116 = .ok (.iadd, 1) := by decide +kernel
theorem dX5_column_117 : decode cX5_column 117 = .ok (.istore 4, 2) := by decide +kernel
theorem dX5_column_119 : decode cX5_column 119 = .ok (.iload 5, 2) := by decide +kernel
theorem dX5_column_121 : decode cX5_column 121 = .ok (.aload_n 0, 1) := by decide +kernel
theorem dX5_column_122 : decode cX5_column 122 = .ok (.iload_n 1, 1) := by decide +kernel
theorem dX5_column_123 : decode cX5_column 123 = .ok (.iconst 1, 1) := by decide +kernel
theorem dX5_column_124 : decode cX5_column 124 = .ok (.isub, 1) := by decide +kernel
theorem dX5_column_125 : decode cX5_column 125 = .ok (.iload 8, 2) := by decide +kernel
theorem dX5_column_127 : decode cX5_column 127 = .ok (.invokevirtual 138, 3) := by decide +kernel
theorem dX5_column_130 : decode cX5_column 130 = .ok (.ifCond .ne 15, 3) := by decide +kernel
theorem dX5_column_133 : decode cX5_column 133 = .ok (.aload_n 0, 1) := by decide +kernel
theorem dX5_column_134 : decode cX5_column 134 = .ok (.iload_n 1, 1) := by decide +kernel
theorem dX5_column_135 : decode cX5_column 135 = .ok (.iconst 1, 1) := by decide +kernel
theorem dX5_column_136 : decode cX5_column 136 = .ok (.iadd, 1) := by decide +kernel
theorem dX5_column_137 : decode cX5_column 137 = .ok (.iload 8, 2) := by decide +kernel
theorem dX5_column_139 : decode cX5_column 139 = .ok (.invokevirtual 138, 3) := by decide +kernel
theorem dX5_column_142 : decode cX5_column 142 = .ok (.ifCond .eq 7, 3) := by decide +kernel
theorem dX5_column_145 : decode cX5_column 145 = .ok (.iconst 1, 1) := by decide +kernel
theorem dX5_column_146 : decode cX5_column 146 = .ok (.goto 4, 3) := by decide +kernel
theorem dX5_column_149 : decode cX5_column 149 = .ok (.iconst 0, 1) := by decide +kernel
theorem dX5_column_150 : decode cX5_column 150 = .ok (.iadd, 1) := by decide +kernel
theorem dX5_column_151 : decode cX5_column 151 = .ok (.istore 5, 2) := by decide +kernel
theorem dX5_column_153 : decode cX5_column 153 = .ok (.iinc 7 1, 3) := by decide +kernel
theorem dX5_column_156 : decode cX5_column 156 = .ok (.goto (-116), 3) := by decide +kernel
theorem dX5_column_159 : decode cX5_column 159 = .ok (.iconst 0, 1) := by decide +kernel
theorem dX5_column_160 : decode cX5_column 160 = .ok (.istore 7, 2) := by decide +kernel
theorem dX5_column_162 : decode cX5_column 162 = .ok (.iload 7, 2) := by decide +kernel
theorem dX5_column_164 : decode cX5_column 164 = .ok (.aload_n 0, 1) := by decide +kernel
theorem dX5_column_165 : decode cX5_column 165 = .ok (.iload_n 1, 1) := by decide +kernel
theorem dX5_column_166 : decode cX5_column 166 = .ok (.invokevirtual 62, 3) := by decide +kernel
theorem dX5_column_169 : decode cX5_column 169 = .ok (.if_icmp .ge 34, 3) := by decide +kernel
theorem dX5_column_172 : decode cX5_column 172 = .ok (.iload 6, 2) := by decide +kernel
theorem dX5_column_174 : decode cX5_column 174 = .ok (.aload_n 0, 1) := by decide +kernel
theorem dX5_column_175 : decode cX5_column 175 = .ok (.getfield 43, 3) := by decide +kernel
theorem dX5_column_178 : decode cX5_column 178 = .ok (.bipush 16, 2) := by decide +kernel
theorem dX5_column_180 : decode cX5_column 180 = .ok (.iload_n 1, 1) := by decide +kernel
theorem dX5_column_181 : decode cX5_column 181 = .ok (.imul, 1) := by decide +kernel
theorem dX5_column_182 : decode cX5_column 182 = .ok (.iload 7, 2) := by decide +kernel
theorem dX5_column_184 : decode cX5_column 184 = .ok (.iadd, 1) := by decide +kernel
theorem dX5_column_185 : decode cX5_column 185 = .ok (.iaload, 1) := by decide +kernel
theorem dX5_column_186 : decode cX5_column 186 = .ok (.ifCond .ne 7, 3) := by decide +kernel
theorem dX5_column_189 : decode cX5_column 189 = .ok (.iconst 1, 1) := by decide +kernel
theorem dX5_column_190 : decode cX5_column 190 = .ok (.goto 4, 3) := by decide +kernel
theorem dX5_column_193 : decode cX5_column 193 = .ok (.iconst 0, 1) := by decide +kernel
theorem dX5_column_194 : decode cX5_column 194 = .ok (.iadd, 1) := by decide +kernel
theorem dX5_column_195 : decode cX5_column 195 = .ok (.istore 6, 2) := by decide +kernel
theorem dX5_column_197 : decode cX5_column 197 = .ok (.iinc 7 1, 3) := by decide +kernel
theorem dX5_column_200 : decode cX5_column 200 = .ok (.goto (-38), 3) := by decide +kernel
theorem dX5_column_203 : decode cX5_column 203 = .ok (.iload_n 2, 1) := by decide +kernel
theorem dX5_column_204 : decode cX5_column 204 = .ok (.iconst 5, 1) := by decide +kernel
theorem dX5_column_205 : decode cX5_column 205 = .ok (.if_icmp .ge 66, 3) := by decide +kernel
theorem dX5_column_208 : decode cX5_column 208 = .ok (.iload_n 2, 1) := by decide +kernel
theorem dX5_column_209 : decode cX5_column 209 = .ok (.ifCond .ne 11, 3) := by decide +kernel
theorem dX5_column_212 : decode cX5_column 212 = .ok (.aload_n 0, 1) := by decide +kernel
theorem dX5_column_213 : decode cX5_column 213 = .ok (.iload_n 1, 1) := by decide +kernel
theorem dX5_column_214 : decode cX5_column 214 = .ok (.invokevirtual 62, 3) := by decide +kernel
theorem dX5_column_217 : decode cX5_column 217 = .ok (.goto 53, 3) := by decide +kernel
theorem dX5_column_220 : decode cX5_column 220 = .ok (.iload_n 2, 1) := by decide +kernel
theorem dX5_column_221 : decode cX5_column 221 = .ok (.iconst 1, 1) := by decide +kernel
theorem dX5_column_222 : decode cX5_column 222 = .ok (.if_icmp .ne 12, 3) := by decide +kernel
theorem dX5_column_225 : decode cX5_column 225 = .ok (.aload_n 0, 1) := by decide +kernel
theorem dX5_column_226 : decode cX5_column 226 = .ok (.getfield 28, 3) := by decide +kernel
theorem dX5_column_229 : decode cX5_column 229 = .ok (.iload_n 1, 1) := by decide +kernel
theorem dX5_column_230 : decode cX5_column 230 = .ok (.iaload, 1) := by decide +kernel
theorem dX5_column_231 : decode cX5_column 231 = .ok (.goto 39, 3) := by decide +kernel
theorem dX5_column_234 : decode cX5_column 234 = .ok (.iload_n 2, 1) := by decide +kernel
theorem dX5_column_235 : decode cX5_column 235 = .ok (.iconst 2, 1) := by decide +kernel
theorem dX5_column_236 : decode cX5_column 236 = .ok (.if_icmp .ne 12, 3) := by decide +kernel
theorem dX5_column_239 : decode cX5_column 239 = .ok (.aload_n 0, 1) := by decide +kernel
theorem dX5_column_240 : decode cX5_column 240 = .ok (.getfield 31, 3) := by decide +kernel
theorem dX5_column_243 : decode cX5_column 243 = .ok (.iload_n 1, 1) := by decide +kernel
theorem dX5_column_244 : decode cX5_column 244 = .ok (.iaload, 1) := by decide +kernel
theorem dX5_column_245 : decode cX5_column 245 = .ok (.goto 25, 3) := by decide +kernel
theorem dX5_column_248 : decode cX5_column 248 = .ok (.iload_n 2, 1) := by decide +kernel
theorem dX5_column_249 : decode cX5_column 249 = .ok (.iconst 3, 1) := by decide +kernel
theorem dX5_column_250 : decode cX5_column 250 = .ok (.if_icmp .ne 18, 3) := by decide +kernel
theorem dX5_column_253 : decode cX5_column 253 = .ok (.aload_n 0, 1) := by decide +kernel
theorem dX5_column_254 : decode cX5_column 254 = .ok (.iload_n 1, 1) := by decide +kernel
theorem dX5_column_255 : decode cX5_column 255 = .ok (.invokevirtual 141, 3) := by decide +kernel
theorem dX5_column_258 : decode cX5_column 258 = .ok (.aload_n 0, 1) := by decide +kernel
theorem dX5_column_259 : decode cX5_column 259 = .ok (.getfield 28, 3) := by decide +kernel
theorem dX5_column_262 : decode cX5_column 262 = .ok (.iload_n 1, 1) := by decide +kernel
theorem dX5_column_263 : decode cX5_column 263 = .ok (.iaload, 1) := by decide +kernel
theorem dX5_column_264 : decode cX5_column 264 = .ok (.isub, 1) := by decide +kernel
theorem dX5_column_265 : decode cX5_column 265 = .ok (.goto 5, 3) := by decide +kernel
theorem dX5_column_268 : decode cX5_column 268 = .ok (.iload 6, 2) := by decide +kernel
theorem dX5_column_270 : decode cX5_column 270 = .ok (.ireturn, 1) := by decide +kernel
theorem dX5_column_271 : decode cX5_column 271 = .ok (.iload_n 2, 1) := by decide +kernel
theorem dX5_column_272 : decode cX5_column 272 = .ok (.iconst 5, 1) := by decide +kernel
theorem dX5_column_273 : decode cX5_column 273 = .ok (.if_icmp .ne 17, 3) := by decide +kernel
theorem dX5_column_276 : decode cX5_column 276 = .ok (.aload_n 0, 1) := by decide +kernel
theorem dX5_column_277 : decode cX5_column 277 = .ok (.iload_n 1, 1) := by decide +kernel
theorem dX5_column_278 : decode cX5_column 278 = .ok (.aload_n 0, 1) := by decide +kernel
theorem dX5_column_279 : decode cX5_column 279 = .ok (.getfield 7, 3) := by decide +kernel
theorem dX5_column_282 : decode cX5_column 282 = .ok (.iconst 2, 1) := by decide +kernel
theorem dX5_column_283 : decode cX5_column 283 = .ok (.iaload, 1) := by decide +kernel
theorem dX5_column_284 : decode cX5_column 284 = .ok (.invokevirtual 144, 3) := by decide +kernel
theorem dX5_column_287 : decode cX5_column 287 = .ok (.goto 48, 3) := by decide +kernel
theorem dX5_column_290 : decode cX5_column 290 = .ok (.iload_n 2, 1) := by decide +kernel
theorem dX5_column_291 : decode cX5_column 291 = .ok (.bipush 6, 2) := by decide +kernel
theorem dX5_column_293 : decode cX5_column 293 = .ok (.if_icmp .ne 7, 3) := by decide +kernel
theorem dX5_column_296 : decode cX5_column 296 = .ok (.iload_n 3, 1) := by decide +kernel
theorem dX5_column_297 : decode cX5_column 297 = .ok (.goto 38, 3) := by decide +kernel
theorem dX5_column_300 : decode cX5_column 300 = .ok (.iload_n 2, 1) := by decide +kernel
theorem dX5_column_301 : decode cX5_column 301 = .ok (.bipush 7, 2) := by decide +kernel
theorem dX5_column_303 : decode cX5_column 303 = .ok (.if_icmp .ne 8, 3) := by decide +kernel
theorem dX5_column_306 : decode cX5_column 306 = .ok (.iload 4, 2) := by decide +kernel
theorem dX5_column_308 : decode cX5_column 308 = .ok (.goto 27, 3) := by decide +kernel
theorem dX5_column_311 : decode cX5_column 311 = .ok (.iload_n 2, 1) := by decide +kernel
theorem dX5_column_312 : decode cX5_column 312 = .ok (.bipush 8, 2) := by decide +kernel
theorem dX5_column_314 : decode cX5_column 314 = .ok (.if_icmp .ne 8, 3) := by decide +kernel
theorem dX5_column_317 : decode cX5_column 317 = .ok (.iload 5, 2) := by decide +kernel
theorem dX5_column_319 : decode cX5_column 319 = .ok (.goto 16, 3) := by decide +kernel
theorem dX5_column_322 : decode cX5_column 322 = .ok (.aload_n 0, 1) := by decide +kernel
theorem dX5_column_323 : decode cX5_column 323 = .ok (.getfield 7, 3) := by decide +kernel
theorem dX5_column_326 : decode cX5_column 326 = .ok (.iconst 0, 1) := by decide +kernel
theorem dX5_column_327 : decode cX5_column 327 = .ok (.iaload, 1) := by decide +kernel
theorem dX5_column_328 : decode cX5_column 328 = .ok (.aload_n 0, 1) := by decide +kernel
theorem dX5_column_329 : decode cX5_column 329 = .ok (.getfield 31, 3) := by decide +kernel
theorem dX5_column_332 : decode cX5_column 332 = .ok (.iload_n 1, 1) := by decide +kernel
theorem dX5_column_333 : decode cX5_column 333 = .ok (.iaload, 1) := by decide +kernel
theorem dX5_column_334 : decode cX5_column 334 = .ok (.isub, 1) := by decide +kernel
theorem dX5_column_335 : decode cX5_column 335 = .ok (.ireturn, 1) := by decide +kernel
set_option maxRecDepth 20000 in
theorem ggX5_standing_X5_has : GoodIn wsX5_standing wsX5_has := goodIn_r _ [5, 6, 7, 8, 9, 4, 10, 11, 12, 13, 14, 15, 16, 17, 18, 19, 20, 21, 22, 23, 24, 25, 26, 27, 28, 29] (by decide +kernel) (by decide +kernel)
set_option maxRecDepth 20000 in
theorem gX5_standing_X5_has : GoodIn wsX5_standing (wsV RX5 138 RX5 yX5_has wsX5_has) := goodIn_app (goodIn_of _ (by decide +kernel)) ggX5_standing_X5_has
theorem dX5_standing_0 : decode cX5_standing 0 = .ok (.iconst 0, 1) := by decide +kernel
theorem dX5_standing_1 : decode cX5_standing 1 = .ok (.istore_n 2, 1) := by decide +kernel
theorem dX5_standing_2 : decode cX5_standing 2 = .ok (.iconst 0, 1) := by decide +kernel
theorem dX5_standing_3 : decode cX5_standing 3 = .ok (.istore_n 3, 1) := by decide +kernel
theorem dX5_standing_4 : decode cX5_standing 4 = .ok (.iload_n 3, 1) := by decide +kernel
theorem dX5_standing_5 : decode cX5_standing 5 = .ok (.iconst 4, 1) := by decide +kernel
theorem dX5_standing_6 : decode cX5_standing 6 = .ok (.if_icmp .ge 26, 3) := by decide +kernel
theorem dX5_standing_9 : decode cX5_standing 9 = .ok (.iload_n 2, 1) := by decide +kernel
theorem dX5_standing_10 : decode cX5_standing 10 = .ok (.aload_n 0, 1) := by decide +kernel
theorem dX5_standing_11 : decode cX5_standing 11 = .ok (.iload_n 3, 1) := by decide +kernel
theorem dX5_standing_12 : decode cX5_standing 12 = .ok (.iload_n 1, 1) := by decide +kernel
theorem dX5_standing_13 : decode cX5_standing 13 = .ok (.invokevirtual 138, 3) := by decide +kernel
theorem dX5_standing_16 : decode cX5_standing 16 = .ok (.ifCond .eq 7, 3) := by decide +kernel
theorem dX5_standing_19 : decode cX5_standing 19 = .ok (.iconst 1, 1) := by decide +kernel
theorem dX5_standing_20 : decode cX5_standing 20 = .ok (.goto 4, 3) := by decide +kernel
theorem dX5_standing_23 : decode cX5_standing 23 = .ok (.iconst 0, 1) := by decide +kernel
theorem dX5_standing_24 : decode cX5_standing 24 = .ok (.iadd, 1) := by decide +kernel
theorem dX5_standing_25 : decode cX5_standing 25 = .ok (.istore_n 2, 1) := by decide +kernel
theorem dX5_standing_26 : decode cX5_standing 26 = .ok (.iinc 3 1, 3) := by decide +kernel
theorem dX5_standing_29 : decode cX5_standing 29 = .ok (.goto (-25), 3) := by decide +kernel
theorem dX5_standing_32 : decode cX5_standing 32 = .ok (.iload_n 2, 1) := by decide +kernel
theorem dX5_standing_33 : decode cX5_standing 33 = .ok (.ireturn, 1) := by decide +kernel
set_option maxRecDepth 20000 in
theorem ggX5_shared_X5_in : GoodIn wsX5_shared wsX5_in := goodIn_r _ [6] (by decide +kernel) (by decide +kernel)
set_option maxRecDepth 20000 in
theorem gX5_shared_X5_in : GoodIn wsX5_shared (va_wsS RX5 46 yX5_in wsX5_in) := goodIn_app (goodIn_of _ (by decide +kernel)) ggX5_shared_X5_in
set_option maxRecDepth 20000 in
theorem ggX5_shared_X5_sets : GoodIn wsX5_shared wsX5_sets := goodIn_r _ [10, 11, 12, 13, 14, 5, 15, 16, 17, 18, 19, 1, 20, 21, 22, 23, 24, 25, 26, 27, 28, 29, 30, 31, 32, 33, 34, 35, 36, 37, 38, 39, 40, 2, 41, 42, 43, 44, 45, 57, 58, 59, 60, 61, 62, 63, 64, 65, 66, 67, 68, 69, 70, 71, 72] (by decide +kernel) (by decide +kernel)
set_option maxRecDepth 20000 in
theorem gX5_shared_X5_sets : GoodIn wsX5_shared (wsV RX5 102 RX5 yX5_sets wsX5_sets) := goodIn_app (goodIn_of _ (by decide +kernel)) ggX5_shared_X5_sets
set_option maxRecDepth 20000 in
theorem ggX5_shared_X5_standing : GoodIn wsX5_shared wsX5_standing := goodIn_r _ [49, 50, 51, 52, 5, 53, 1, 2, 54, 55, 56, 3, 4, 6, 57, 58, 59, 60, 61, 62, 63, 64, 65, 66, 67, 68, 69, 70, 71, 72] (by decide +kernel) (by decide +kernel)
set_option maxRecDepth 20000 in
theorem gX5_shared_X5_standing : GoodIn wsX5_shared (wsV RX5 147 RX5 yX5_standing wsX5_standing) := goodIn_app (goodIn_of _ (by decide +kernel)) ggX5_shared_X5_standing
theorem dX5_shared_0 : decode cX5_shared 0 = .ok (.iload_n 1, 1) := by decide +kernel
theorem dX5_shared_1 : decode cX5_shared 1 = .ok (.ifCond .lt 12, 3) := by decide +kernel
theorem dX5_shared_4 : decode cX5_shared 4 = .ok (.iload_n 2, 1) := by decide +kernel
theorem dX5_shared_5 : decode cX5_shared 5 = .ok (.iconst 0, 1) := by decide +kernel
theorem dX5_shared_6 : decode cX5_shared 6 = .ok (.iconst 1, 1) := by decide +kernel
theorem dX5_shared_7 : decode cX5_shared 7 = .ok (.invokestatic 46, 3) := by decide +kernel
theorem dX5_shared_10 : decode cX5_shared 10 = .ok (.ifCond .ne 6, 3) := by decide +kernel
theorem dX5_shared_13 : decode cX5_shared 13 = .ok (.bipush (-2), 2) := by decide +kernel
theorem dX5_shared_15 : decode cX5_shared 15 = .ok (.ireturn, 1) := by decide +kernel
theorem dX5_shared_16 : decode cX5_shared 16 = .ok (.aload_n 0, 1) := by decide +kernel
theorem dX5_shared_17 : decode cX5_shared 17 = .ok (.invokevirtual 102, 3) := by decide +kernel
theorem dX5_shared_20 : decode cX5_shared 20 = .ok (.iload_n 1, 1) := by decide +kernel
theorem dX5_shared_21 : decode cX5_shared 21 = .ok (.istore_n 3, 1) := by decide +kernel
theorem dX5_shared_22 : decode cX5_shared 22 = .ok (.iconst (-1), 1) := by decide +kernel
theorem dX5_shared_23 : decode cX5_shared 23 = .ok (.istore 4, 2) := by decide +kernel
theorem dX5_shared_25 : decode cX5_shared 25 = .ok (.iload_n 3, 1) := by decide +kernel
theorem dX5_shared_26 : decode cX5_shared 26 = .ok (.ifCond .lt 109, 3) := by decide +kernel
theorem dX5_shared_29 : decode cX5_shared 29 = .ok (.iconst (-1), 1) := by decide +kernel
theorem dX5_shared_30 : decode cX5_shared 30 = .ok (.istore 5, 2) := by decide +kernel
theorem dX5_shared_32 : decode cX5_shared 32 = .ok (.iconst 0, 1) := by decide +kernel
theorem dX5_shared_33 : decode cX5_shared 33 = .ok (.istore 6, 2) := by decide +kernel
theorem dX5_shared_35 : decode cX5_shared 35 = .ok (.iload 6, 2) := by decide +kernel
theorem dX5_shared_37 : decode cX5_shared 37 = .ok (.iconst 4, 1) := by decide +kernel
theorem dX5_shared_38 : decode cX5_shared 38 = .ok (.if_icmp .ge 79, 3) := by decide +kernel
theorem dX5_shared_41 : decode cX5_shared 41 = .ok (.iconst 0, 1) := by decide +kernel
theorem dX5_shared_42 : decode cX5_shared 42 = .ok (.istore 7, 2) := by decide +kernel
theorem dX5_shared_44 : decode cX5_shared 44 = .ok (.iload 7, 2) := by decide +kernel
theorem dX5_shared_46 : decode cX5_shared 46 = .ok (.aload_n 0, 1) := by decide +kernel
theorem dX5_shared_47 : decode cX5_shared 47 = .ok (.getfield 28, 3) := by decide +kernel
theorem dX5_shared_50 : decode cX5_shared 50 = .ok (.iload 6, 2) := by decide +kernel
theorem dX5_shared_52 : decode cX5_shared 52 = .ok (.iaload, 1) := by decide +kernel
theorem dX5_shared_53 : decode cX5_shared 53 = .ok (.if_icmp .ge 58, 3) := by decide +kernel
theorem dX5_shared_56 : decode cX5_shared 56 = .ok (.aload_n 0, 1) := by decide +kernel
theorem dX5_shared_57 : decode cX5_shared 57 = .ok (.getfield 22, 3) := by decide +kernel
theorem dX5_shared_60 : decode cX5_shared 60 = .ok (.sipush 640, 3) := by decide +kernel
theorem dX5_shared_63 : decode cX5_shared 63 = .ok (.iload 6, 2) := by decide +kernel
theorem dX5_shared_65 : decode cX5_shared 65 = .ok (.imul, 1) := by decide +kernel
theorem dX5_shared_66 : decode cX5_shared 66 = .ok (.iload 7, 2) := by decide +kernel
theorem dX5_shared_68 : decode cX5_shared 68 = .ok (.iadd, 1) := by decide +kernel
theorem dX5_shared_69 : decode cX5_shared 69 = .ok (.iaload, 1) := by decide +kernel
theorem dX5_shared_70 : decode cX5_shared 70 = .ok (.istore 8, 2) := by decide +kernel
theorem dX5_shared_72 : decode cX5_shared 72 = .ok (.iload 8, 2) := by decide +kernel
theorem dX5_shared_74 : decode cX5_shared 74 = .ok (.iload 4, 2) := by decide +kernel
theorem dX5_shared_76 : decode cX5_shared 76 = .ok (.if_icmp .le 29, 3) := by decide +kernel
theorem dX5_shared_79 : decode cX5_shared 79 = .ok (.iload 5, 2) := by decide +kernel
theorem dX5_shared_81 : decode cX5_shared 81 = .ok (.ifCond .lt 10, 3) := by decide +kernel
theorem dX5_shared_84 : decode cX5_shared 84 = .ok (.iload 8, 2) := by decide +kernel
theorem dX5_shared_86 : decode cX5_shared 86 = .ok (.iload 5, 2) := by decide +kernel
theorem dX5_shared_88 : decode cX5_shared 88 = .ok (.if_icmp .ge 17, 3) := by decide +kernel
theorem dX5_shared_91 : decode cX5_shared 91 = .ok (.aload_n 0, 1) := by decide +kernel
theorem dX5_shared_92 : decode cX5_shared 92 = .ok (.iload 8, 2) := by decide +kernel
theorem dX5_shared_94 : decode cX5_shared 94 = .ok (.invokevirtual 147, 3) := by decide +kernel
theorem dX5_shared_97 : decode cX5_shared 97 = .ok (.iconst 1, 1) := by decide +kernel
theorem dX5_shared_98 : decode cX5_shared 98 = .ok (.if_icmp .le 7, 3) := by decide +kernel
theorem dX5_shared_101 : decode cX5_shared 101 = .ok (.iload 8, 2) := by decide +kernel
theorem dX5_shared_103 : decode cX5_shared 103 = .ok (.istore 5, 2) := by decide +kernel
theorem dX5_shared_105 : decode cX5_shared 105 = .ok (.iinc 7 1, 3) := by decide +kernel
theorem dX5_shared_108 : decode cX5_shared 108 = .ok (.goto (-64), 3) := by decide +kernel
theorem dX5_shared_111 : decode cX5_shared 111 = .ok (.iinc 6 1, 3) := by decide +kernel
theorem dX5_shared_114 : decode cX5_shared 114 = .ok (.goto (-79), 3) := by decide +kernel
theorem dX5_shared_117 : decode cX5_shared 117 = .ok (.iload 5, 2) := by decide +kernel
theorem dX5_shared_119 : decode cX5_shared 119 = .ok (.ifCond .ge 6, 3) := by decide +kernel
theorem dX5_shared_122 : decode cX5_shared 122 = .ok (.bipush (-5), 2) := by decide +kernel
theorem dX5_shared_124 : decode cX5_shared 124 = .ok (.ireturn, 1) := by decide +kernel
theorem dX5_shared_125 : decode cX5_shared 125 = .ok (.iload 5, 2) := by decide +kernel
theorem dX5_shared_127 : decode cX5_shared 127 = .ok (.istore 4, 2) := by decide +kernel
theorem dX5_shared_129 : decode cX5_shared 129 = .ok (.iinc 3 (-1), 3) := by decide +kernel
theorem dX5_shared_132 : decode cX5_shared 132 = .ok (.goto (-107), 3) := by decide +kernel
theorem dX5_shared_135 : decode cX5_shared 135 = .ok (.iload_n 2, 1) := by decide +kernel
theorem dX5_shared_136 : decode cX5_shared 136 = .ok (.ifCond .ne 8, 3) := by decide +kernel
theorem dX5_shared_139 : decode cX5_shared 139 = .ok (.iload 4, 2) := by decide +kernel
theorem dX5_shared_141 : decode cX5_shared 141 = .ok (.goto 9, 3) := by decide +kernel
theorem dX5_shared_144 : decode cX5_shared 144 = .ok (.aload_n 0, 1) := by decide +kernel
theorem dX5_shared_145 : decode cX5_shared 145 = .ok (.iload 4, 2) := by decide +kernel
theorem dX5_shared_147 : decode cX5_shared 147 = .ok (.invokevirtual 147, 3) := by decide +kernel
theorem dX5_shared_150 : decode cX5_shared 150 = .ok (.ireturn, 1) := by decide +kernel
set_option maxRecDepth 20000 in
theorem ggX5_whole_X5_drift : GoodIn wsX5_whole wsX5_drift := goodIn_r _ [8, 3, 9, 10, 11, 12, 13, 14, 15, 16, 17, 18, 19, 20, 21, 22, 23, 24] (by decide +kernel) (by decide +kernel)
set_option maxRecDepth 20000 in
theorem gX5_whole_X5_drift : GoodIn wsX5_whole (wsV RX5 85 RX5 yX5_drift wsX5_drift) := goodIn_app (goodIn_of _ (by decide +kernel)) ggX5_whole_X5_drift
theorem dX5_whole_0 : decode cX5_whole 0 = .ok (.iconst 0, 1) := by decide +kernel
theorem dX5_whole_1 : decode cX5_whole 1 = .ok (.istore_n 3, 1) := by decide +kernel
theorem dX5_whole_2 : decode cX5_whole 2 = .ok (.iconst 0, 1) := by decide +kernel
theorem dX5_whole_3 : decode cX5_whole 3 = .ok (.istore 4, 2) := by decide +kernel
theorem dX5_whole_5 : decode cX5_whole 5 = .ok (.iload 4, 2) := by decide +kernel
theorem dX5_whole_7 : decode cX5_whole 7 = .ok (.iconst 4, 1) := by decide +kernel
theorem dX5_whole_8 : decode cX5_whole 8 = .ok (.if_icmp .ge 97, 3) := by decide +kernel
theorem dX5_whole_11 : decode cX5_whole 11 = .ok (.iconst 0, 1) := by decide +kernel
theorem dX5_whole_12 : decode cX5_whole 12 = .ok (.istore 5, 2) := by decide +kernel
theorem dX5_whole_14 : decode cX5_whole 14 = .ok (.iload 5, 2) := by decide +kernel
theorem dX5_whole_16 : decode cX5_whole 16 = .ok (.aload_n 0, 1) := by decide +kernel
theorem dX5_whole_17 : decode cX5_whole 17 = .ok (.getfield 28, 3) := by decide +kernel
theorem dX5_whole_20 : decode cX5_whole 20 = .ok (.iload 4, 2) := by decide +kernel
theorem dX5_whole_22 : decode cX5_whole 22 = .ok (.iaload, 1) := by decide +kernel
theorem dX5_whole_23 : decode cX5_whole 23 = .ok (.if_icmp .ge 76, 3) := by decide +kernel
theorem dX5_whole_26 : decode cX5_whole 26 = .ok (.aload_n 0, 1) := by decide +kernel
theorem dX5_whole_27 : decode cX5_whole 27 = .ok (.getfield 22, 3) := by decide +kernel
theorem dX5_whole_30 : decode cX5_whole 30 = .ok (.sipush 640, 3) := by decide +kernel
theorem dX5_whole_33 : decode cX5_whole 33 = .ok (.iload 4, 2) := by decide +kernel
theorem dX5_whole_35 : decode cX5_whole 35 = .ok (.imul, 1) := by decide +kernel
theorem dX5_whole_36 : decode cX5_whole 36 = .ok (.iload 5, 2) := by decide +kernel
theorem dX5_whole_38 : decode cX5_whole 38 = .ok (.iadd, 1) := by decide +kernel
theorem dX5_whole_39 : decode cX5_whole 39 = .ok (.iaload, 1) := by decide +kernel
theorem dX5_whole_40 : decode cX5_whole 40 = .ok (.istore 6, 2) := by decide +kernel
theorem dX5_whole_42 : decode cX5_whole 42 = .ok (.aload_n 0, 1) := by decide +kernel
theorem dX5_whole_43 : decode cX5_whole 43 = .ok (.iload 6, 2) := by decide +kernel
theorem dX5_whole_45 : decode cX5_whole 45 = .ok (.iload_n 1, 1) := by decide +kernel
theorem dX5_whole_46 : decode cX5_whole 46 = .ok (.invokevirtual 85, 3) := by decide +kernel
theorem dX5_whole_49 : decode cX5_whole 49 = .ok (.istore 7, 2) := by decide +kernel
theorem dX5_whole_51 : decode cX5_whole 51 = .ok (.iload_n 3, 1) := by decide +kernel
theorem dX5_whole_52 : decode cX5_whole 52 = .ok (.iload_n 2, 1) := by decide +kernel
theorem dX5_whole_53 : decode cX5_whole 53 = .ok (.ifCond .ne 8, 3) := by decide +kernel
theorem dX5_whole_56 : decode cX5_whole 56 = .ok (.iload 7, 2) := by decide +kernel
theorem dX5_whole_58 : decode cX5_whole 58 = .ok (.goto 33, 3) := by decide +kernel
theorem dX5_whole_61 : decode cX5_whole 61 = .ok (.iload_n 2, 1) := by decide +kernel
theorem dX5_whole_62 : decode cX5_whole 62 = .ok (.iconst 1, 1) := by decide +kernel
theorem dX5_whole_63 : decode cX5_whole 63 = .ok (.if_icmp .ne 7, 3) := by decide +kernel
theorem dX5_whole_66 : decode cX5_whole 66 = .ok (.iconst 1, 1) := by decide +kernel
theorem dX5_whole_67 : decode cX5_whole 67 = .ok (.goto 24, 3) := by decide +kernel
theorem dX5_whole_70 : decode cX5_whole 70 = .ok (.iload 7, 2) := by decide +kernel
theorem dX5_whole_72 : decode cX5_whole 72 = .ok (.ifCond .ne 18, 3) := by decide +kernel
theorem dX5_whole_75 : decode cX5_whole 75 = .ok (.iload 6, 2) := by decide +kernel
theorem dX5_whole_77 : decode cX5_whole 77 = .ok (.aload_n 0, 1) := by decide +kernel
theorem dX5_whole_78 : decode cX5_whole 78 = .ok (.getfield 7, 3) := by decide +kernel
theorem dX5_whole_81 : decode cX5_whole 81 = .ok (.iconst 1, 1) := by decide +kernel
theorem dX5_whole_82 : decode cX5_whole 82 = .ok (.iaload, 1) := by decide +kernel
theorem dX5_whole_83 : decode cX5_whole 83 = .ok (.if_icmp .lt 7, 3) := by decide +kernel
theorem dX5_whole_86 : decode cX5_whole 86 = .ok (.iconst 1, 1) := by decide +kernel
theorem dX5_whole_87 : decode cX5_whole 87 = .ok (.goto 4, 3) := by decide +kernel
theorem dX5_whole_90 : decode cX5_whole 90 = .ok (.iconst 0, 1) := by decide +kernel
theorem dX5_whole_91 : decode cX5_whole 91 = .ok (.iadd, 1) := by decide +kernel
theorem dX5_whole_92 : decode cX5_whole 92 = .ok (.istore_n 3, 1) := by decide +kernel
theorem dX5_whole_93 : decode cX5_whole 93 = .ok (.iinc 5 1, 3) := by decide +kernel
theorem dX5_whole_96 : decode cX5_whole 96 = .ok (.goto (-82), 3) := by decide +kernel
theorem dX5_whole_99 : decode cX5_whole 99 = .ok (.iinc 4 1, 3) := by decide +kernel
theorem dX5_whole_102 : decode cX5_whole 102 = .ok (.goto (-97), 3) := by decide +kernel
theorem dX5_whole_105 : decode cX5_whole 105 = .ok (.iload_n 3, 1) := by decide +kernel
theorem dX5_whole_106 : decode cX5_whole 106 = .ok (.ireturn, 1) := by decide +kernel
set_option maxRecDepth 20000 in
theorem ggX5_ifStep_X5_in : GoodIn wsX5_ifStep wsX5_in := goodIn_r _ [4] (by decide +kernel) (by decide +kernel)
set_option maxRecDepth 20000 in
theorem gX5_ifStep_X5_in : GoodIn wsX5_ifStep (va_wsS RX5 46 yX5_in wsX5_in) := goodIn_app (goodIn_of _ (by decide +kernel)) ggX5_ifStep_X5_in
set_option maxRecDepth 20000 in
theorem ggX5_ifStep_X5_setsAll : GoodIn wsX5_ifStep wsX5_setsAll := goodIn_r _ [8, 9, 10, 11, 3, 12, 13, 14, 15, 16, 17, 18, 19, 20, 21, 22, 23, 24, 25, 26, 27, 28, 29, 30, 31, 32, 33, 34, 35, 36, 37, 38, 39, 40, 41, 50, 51, 52, 53, 54, 55, 56, 57, 58, 59, 60, 61, 62, 63, 64, 65] (by decide +kernel) (by decide +kernel)
set_option maxRecDepth 20000 in
theorem gX5_ifStep_X5_setsAll : GoodIn wsX5_ifStep (wsV RX5 81 RX5 yX5_setsAll wsX5_setsAll) := goodIn_app (goodIn_of _ (by decide +kernel)) ggX5_ifStep_X5_setsAll
set_option maxRecDepth 20000 in
theorem ggX5_ifStep_X5_whole : GoodIn wsX5_ifStep wsX5_whole := goodIn_r _ [45, 13, 36, 17, 46, 47, 48, 3, 49, 50, 51, 52, 53, 54, 55, 56, 57, 58, 59, 60, 61, 62, 63, 64, 65] (by decide +kernel) (by decide +kernel)
set_option maxRecDepth 20000 in
theorem gX5_ifStep_X5_whole : GoodIn wsX5_ifStep (wsV RX5 150 RX5 yX5_whole wsX5_whole) := goodIn_app (goodIn_of _ (by decide +kernel)) ggX5_ifStep_X5_whole
theorem dX5_ifStep_0 : decode cX5_ifStep 0 = .ok (.iload_n 1, 1) := by decide +kernel
theorem dX5_ifStep_1 : decode cX5_ifStep 1 = .ok (.bipush 20, 2) := by decide +kernel
theorem dX5_ifStep_3 : decode cX5_ifStep 3 = .ok (.sipush 500, 3) := by decide +kernel
theorem dX5_ifStep_6 : decode cX5_ifStep 6 = .ok (.invokestatic 46, 3) := by decide +kernel
theorem dX5_ifStep_9 : decode cX5_ifStep 9 = .ok (.ifCond .eq 12, 3) := by decide +kernel
theorem dX5_ifStep_12 : decode cX5_ifStep 12 = .ok (.iload_n 2, 1) := by decide +kernel
theorem dX5_ifStep_13 : decode cX5_ifStep 13 = .ok (.iconst 0, 1) := by decide +kernel
theorem dX5_ifStep_14 : decode cX5_ifStep 14 = .ok (.iconst 2, 1) := by decide +kernel
theorem dX5_ifStep_15 : decode cX5_ifStep 15 = .ok (.invokestatic 46, 3) := by decide +kernel
theorem dX5_ifStep_18 : decode cX5_ifStep 18 = .ok (.ifCond .ne 6, 3) := by decide +kernel
theorem dX5_ifStep_21 : decode cX5_ifStep 21 = .ok (.bipush (-2), 2) := by decide +kernel
theorem dX5_ifStep_23 : decode cX5_ifStep 23 = .ok (.ireturn, 1) := by decide +kernel
theorem dX5_ifStep_24 : decode cX5_ifStep 24 = .ok (.aload_n 0, 1) := by decide +kernel
theorem dX5_ifStep_25 : decode cX5_ifStep 25 = .ok (.iload_n 1, 1) := by decide +kernel
theorem dX5_ifStep_26 : decode cX5_ifStep 26 = .ok (.invokevirtual 81, 3) := by decide +kernel
theorem dX5_ifStep_29 : decode cX5_ifStep 29 = .ok (.aload_n 0, 1) := by decide +kernel
theorem dX5_ifStep_30 : decode cX5_ifStep 30 = .ok (.iload_n 1, 1) := by decide +kernel
theorem dX5_ifStep_31 : decode cX5_ifStep 31 = .ok (.iload_n 2, 1) := by decide +kernel
theorem dX5_ifStep_32 : decode cX5_ifStep 32 = .ok (.invokevirtual 150, 3) := by decide +kernel
theorem dX5_ifStep_35 : decode cX5_ifStep 35 = .ok (.ireturn, 1) := by decide +kernel
set_option maxRecDepth 20000 in
theorem ggX5_bestStep_X5_in : GoodIn wsX5_bestStep wsX5_in := goodIn_r _ [4] (by decide +kernel) (by decide +kernel)
set_option maxRecDepth 20000 in
theorem gX5_bestStep_X5_in : GoodIn wsX5_bestStep (va_wsS RX5 46 yX5_in wsX5_in) := goodIn_app (goodIn_of _ (by decide +kernel)) ggX5_bestStep_X5_in
set_option maxRecDepth 20000 in
theorem ggX5_bestStep_X5_setsAll : GoodIn wsX5_bestStep wsX5_setsAll := goodIn_r _ [8, 9, 10, 11, 3, 12, 13, 14, 15, 16, 17, 18, 19, 20, 21, 22, 23, 24, 25, 26, 27, 28, 29, 30, 31, 32, 33, 34, 35, 36, 37, 38, 39, 40, 41, 50, 51, 52, 53, 54, 55, 56, 57, 58, 59, 60, 61, 62, 63, 64, 65] (by decide +kernel) (by decide +kernel)
set_option maxRecDepth 20000 in
theorem gX5_bestStep_X5_setsAll : GoodIn wsX5_bestStep (wsV RX5 81 RX5 yX5_setsAll wsX5_setsAll) := goodIn_app (goodIn_of _ (by decide +kernel)) ggX5_bestStep_X5_setsAll
set_option maxRecDepth 20000 in
theorem ggX5_bestStep_X5_whole : GoodIn wsX5_bestStep wsX5_whole := goodIn_r _ [45, 13, 36, 17, 46, 47, 48, 3, 49, 50, 51, 52, 53, 54, 55, 56, 57, 58, 59, 60, 61, 62, 63, 64, 65] (by decide +kernel) (by decide +kernel)
set_option maxRecDepth 20000 in
theorem gX5_bestStep_X5_whole : GoodIn wsX5_bestStep (wsV RX5 150 RX5 yX5_whole wsX5_whole) := goodIn_app (goodIn_of _ (by decide +kernel)) ggX5_bestStep_X5_whole
theorem dX5_bestStep_0 : decode cX5_bestStep 0 = .ok (.iload_n 1, 1) := by decide +kernel
theorem dX5_bestStep_1 : decode cX5_bestStep 1 = .ok (.bipush 20, 2) := by decide +kernel
theorem dX5_bestStep_3 : decode cX5_bestStep 3 = .ok (.sipush 500, 3) := by decide +kernel
theorem dX5_bestStep_6 : decode cX5_bestStep 6 = .ok (.invokestatic 46, 3) := by decide +kernel
theorem dX5_bestStep_9 : decode cX5_bestStep 9 = .ok (.ifCond .eq 14, 3) := by decide +kernel
theorem dX5_bestStep_12 : decode cX5_bestStep 12 = .ok (.iload_n 2, 1) := by decide +kernel
theorem dX5_bestStep_13 : decode cX5_bestStep 13 = .ok (.iload_n 1, 1) := by decide +kernel
theorem dX5_bestStep_14 : decode cX5_bestStep 14 = .ok (.sipush 500, 3) := by decide +kernel
theorem dX5_bestStep_17 : decode cX5_bestStep 17 = .ok (.invokestatic 46, 3) := by decide +kernel
theorem dX5_bestStep_20 : decode cX5_bestStep 20 = .ok (.ifCond .ne 6, 3) := by decide +kernel
theorem dX5_bestStep_23 : decode cX5_bestStep 23 = .ok (.bipush (-2), 2) := by decide +kernel
theorem dX5_bestStep_25 : decode cX5_bestStep 25 = .ok (.ireturn, 1) := by decide +kernel
theorem dX5_bestStep_26 : decode cX5_bestStep 26 = .ok (.iload_n 1, 1) := by decide +kernel
theorem dX5_bestStep_27 : decode cX5_bestStep 27 = .ok (.istore_n 3, 1) := by decide +kernel
theorem dX5_bestStep_28 : decode cX5_bestStep 28 = .ok (.iconst 0, 1) := by decide +kernel
theorem dX5_bestStep_29 : decode cX5_bestStep 29 = .ok (.istore 4, 2) := by decide +kernel
theorem dX5_bestStep_31 : decode cX5_bestStep 31 = .ok (.iload_n 1, 1) := by decide +kernel
theorem dX5_bestStep_32 : decode cX5_bestStep 32 = .ok (.istore 5, 2) := by decide +kernel
theorem dX5_bestStep_34 : decode cX5_bestStep 34 = .ok (.iload 5, 2) := by decide +kernel
theorem dX5_bestStep_36 : decode cX5_bestStep 36 = .ok (.iload_n 2, 1) := by decide +kernel
theorem dX5_bestStep_37 : decode cX5_bestStep 37 = .ok (.if_icmp .gt 44, 3) := by decide +kernel
theorem dX5_bestStep_40 : decode cX5_bestStep 40 = .ok (.aload_n 0, 1) := by decide +kernel
theorem dX5_bestStep_41 : decode cX5_bestStep 41 = .ok (.iload 5, 2) := by decide +kernel
theorem dX5_bestStep_43 : decode cX5_bestStep 43 = .ok (.invokevirtual 81, 3) := by decide +kernel
theorem dX5_bestStep_46 : decode cX5_bestStep 46 = .ok (.aload_n 0, 1) := by decide +kernel
theorem dX5_bestStep_47 : decode cX5_bestStep 47 = .ok (.iload 5, 2) := by decide +kernel
theorem dX5_bestStep_49 : decode cX5_bestStep 49 = .ok (.iconst 0, 1) := by decide +kernel
theorem dX5_bestStep_50 : decode cX5_bestStep 50 = .ok (.invokevirtual 150, 3) := by decide +kernel
theorem dX5_bestStep_53 : decode cX5_bestStep 53 = .ok (.istore 6, 2) := by decide +kernel
theorem dX5_bestStep_55 : decode cX5_bestStep 55 = .ok (.iload 5, 2) := by decide +kernel
theorem dX5_bestStep_57 : decode cX5_bestStep 57 = .ok (.iload_n 1, 1) := by decide +kernel
theorem dX5_bestStep_58 : decode cX5_bestStep 58 = .ok (.if_icmp .eq 10, 3) := by decide +kernel
theorem dX5_bestStep_61 : decode cX5_bestStep 61 = .ok (.iload 6, 2) := by decide +kernel
theorem dX5_bestStep_63 : decode cX5_bestStep 63 = .ok (.iload 4, 2) := by decide +kernel
theorem dX5_bestStep_65 : decode cX5_bestStep 65 = .ok (.if_icmp .gt 10, 3) := by decide +kernel
theorem dX5_bestStep_68 : decode cX5_bestStep 68 = .ok (.iload 5, 2) := by decide +kernel
theorem dX5_bestStep_70 : decode cX5_bestStep 70 = .ok (.istore_n 3, 1) := by decide +kernel
theorem dX5_bestStep_71 : decode cX5_bestStep 71 = .ok (.iload 6, 2) := by decide +kernel
theorem dX5_bestStep_73 : decode cX5_bestStep 73 = .ok (.istore 4, 2) := by decide +kernel
theorem dX5_bestStep_75 : decode cX5_bestStep 75 = .ok (.iinc 5 1, 3) := by decide +kernel
theorem dX5_bestStep_78 : decode cX5_bestStep 78 = .ok (.goto (-44), 3) := by decide +kernel
theorem dX5_bestStep_81 : decode cX5_bestStep 81 = .ok (.iload_n 3, 1) := by decide +kernel
theorem dX5_bestStep_82 : decode cX5_bestStep 82 = .ok (.ireturn, 1) := by decide +kernel
set_option maxRecDepth 20000 in
theorem ggX5_count_X5_in : GoodIn wsX5_count wsX5_in := goodIn_r _ [10] (by decide +kernel) (by decide +kernel)
set_option maxRecDepth 20000 in
theorem gX5_count_X5_in : GoodIn wsX5_count (va_wsS RX5 46 yX5_in wsX5_in) := goodIn_app (goodIn_of _ (by decide +kernel)) ggX5_count_X5_in
set_option maxRecDepth 20000 in
theorem ggX5_count_X5_sets : GoodIn wsX5_count wsX5_sets := goodIn_r _ [14, 1, 15, 16, 17, 9, 18, 19, 20, 21, 22, 2, 3, 23, 24, 25, 4, 26, 27, 28, 29, 30, 31, 32, 33, 34, 35, 36, 37, 38, 39, 40, 41, 42, 43, 44, 45, 46, 47, 64, 65, 66, 67, 68, 69, 70, 71, 72, 73, 74, 75, 76, 77, 78, 79] (by decide +kernel) (by decide +kernel)
set_option maxRecDepth 20000 in
theorem gX5_count_X5_sets : GoodIn wsX5_count (wsV RX5 102 RX5 yX5_sets wsX5_sets) := goodIn_app (goodIn_of _ (by decide +kernel)) ggX5_count_X5_sets
set_option maxRecDepth 20000 in
theorem ggX5_count_X5_allLines : GoodIn wsX5_count wsX5_allLines := goodIn_r _ [51, 26, 27, 28, 9, 29, 1, 30, 31, 32, 33, 34, 35, 36, 37, 64, 65, 66, 67, 68, 69, 70, 71, 72, 73, 74, 75, 76, 77, 78, 79] (by decide +kernel) (by decide +kernel)
set_option maxRecDepth 20000 in
theorem gX5_count_X5_allLines : GoodIn wsX5_count (wsV RX5 141 RX5 yX5_allLines wsX5_allLines) := goodIn_app (goodIn_of _ (by decide +kernel)) ggX5_count_X5_allLines
set_option maxRecDepth 20000 in
theorem ggX5_count_X5_all : GoodIn wsX5_count wsX5_all := goodIn_r _ [55, 26, 27, 28, 9, 29, 1, 64, 65, 66, 67, 68, 69, 70, 71, 72, 73, 74, 75, 76, 77, 78, 79] (by decide +kernel) (by decide +kernel)
set_option maxRecDepth 20000 in
theorem gX5_count_X5_all : GoodIn wsX5_count (wsV RX5 134 RX5 yX5_all wsX5_all) := goodIn_app (goodIn_of _ (by decide +kernel)) ggX5_count_X5_all
set_option maxRecDepth 20000 in
theorem ggX5_count_X5_whole : GoodIn wsX5_count wsX5_whole := goodIn_r _ [59, 2, 42, 1, 60, 61, 62, 9, 63, 64, 65, 66, 67, 68, 69, 70, 71, 72, 73, 74, 75, 76, 77, 78, 79] (by decide +kernel) (by decide +kernel)
set_option maxRecDepth 20000 in
theorem gX5_count_X5_whole : GoodIn wsX5_count (wsV RX5 150 RX5 yX5_whole wsX5_whole) := goodIn_app (goodIn_of _ (by decide +kernel)) ggX5_count_X5_whole
theorem dX5_count_0 : decode cX5_count 0 = .ok (.iload_n 1, 1) := by decide +kernel
theorem dX5_count_1 : decode cX5_count 1 = .ok (.iconst 0, 1) := by decide +kernel
theorem dX5_count_2 : decode cX5_count 2 = .ok (.bipush 8, 2) := by decide +kernel
theorem dX5_count_4 : decode cX5_count 4 = .ok (.invokestatic 46, 3) := by decide +kernel
theorem dX5_count_7 : decode cX5_count 7 = .ok (.ifCond .ne 17, 3) := by decide +kernel
theorem dX5_count_10 : decode cX5_count 10 = .ok (.iload_n 1, 1) := by decide +kernel
theorem dX5_count_11 : decode cX5_count 11 = .ok (.bipush 10, 2) := by decide +kernel
theorem dX5_count_13 : decode cX5_count 13 = .ok (.bipush 14, 2) := by decide +kernel
theorem dX5_count_15 : decode cX5_count 15 = .ok (.invokestatic 46, 3) := by decide +kernel
theorem dX5_count_18 : decode cX5_count 18 = .ok (.ifCond .ne 6, 3) := by decide +kernel
theorem dX5_count_21 : decode cX5_count 21 = .ok (.bipush (-2), 2) := by decide +kernel
theorem dX5_count_23 : decode cX5_count 23 = .ok (.ireturn, 1) := by decide +kernel
theorem dX5_count_24 : decode cX5_count 24 = .ok (.iload_n 1, 1) := by decide +kernel
theorem dX5_count_25 : decode cX5_count 25 = .ok (.bipush 9, 2) := by decide +kernel
theorem dX5_count_27 : decode cX5_count 27 = .ok (.if_icmp .le 13, 3) := by decide +kernel
theorem dX5_count_30 : decode cX5_count 30 = .ok (.aload_n 0, 1) := by decide +kernel
theorem dX5_count_31 : decode cX5_count 31 = .ok (.getfield 7, 3) := by decide +kernel
theorem dX5_count_34 : decode cX5_count 34 = .ok (.iload_n 1, 1) := by decide +kernel
theorem dX5_count_35 : decode cX5_count 35 = .ok (.bipush 10, 2) := by decide +kernel
theorem dX5_count_37 : decode cX5_count 37 = .ok (.isub, 1) := by decide +kernel
theorem dX5_count_38 : decode cX5_count 38 = .ok (.iaload, 1) := by decide +kernel
theorem dX5_count_39 : decode cX5_count 39 = .ok (.ireturn, 1) := by decide +kernel
theorem dX5_count_40 : decode cX5_count 40 = .ok (.aload_n 0, 1) := by decide +kernel
theorem dX5_count_41 : decode cX5_count 41 = .ok (.invokevirtual 102, 3) := by decide +kernel
theorem dX5_count_44 : decode cX5_count 44 = .ok (.iconst 0, 1) := by decide +kernel
theorem dX5_count_45 : decode cX5_count 45 = .ok (.istore_n 2, 1) := by decide +kernel
theorem dX5_count_46 : decode cX5_count 46 = .ok (.iconst 0, 1) := by decide +kernel
theorem dX5_count_47 : decode cX5_count 47 = .ok (.istore_n 3, 1) := by decide +kernel
theorem dX5_count_48 : decode cX5_count 48 = .ok (.iconst 0, 1) := by decide +kernel
theorem dX5_count_49 : decode cX5_count 49 = .ok (.istore 4, 2) := by decide +kernel
theorem dX5_count_51 : decode cX5_count 51 = .ok (.iconst 0, 1) := by decide +kernel
theorem dX5_count_52 : decode cX5_count 52 = .ok (.istore 5, 2) := by decide +kernel
theorem dX5_count_54 : decode cX5_count 54 = .ok (.iload 5, 2) := by decide +kernel
theorem dX5_count_56 : decode cX5_count 56 = .ok (.iconst 4, 1) := by decide +kernel
theorem dX5_count_57 : decode cX5_count 57 = .ok (.if_icmp .ge 72, 3) := by decide +kernel
theorem dX5_count_60 : decode cX5_count 60 = .ok (.iload_n 2, 1) := by decide +kernel
theorem dX5_count_61 : decode cX5_count 61 = .ok (.aload_n 0, 1) := by decide +kernel
theorem dX5_count_62 : decode cX5_count 62 = .ok (.iload 5, 2) := by decide +kernel
theorem dX5_count_64 : decode cX5_count 64 = .ok (.invokevirtual 141, 3) := by decide +kernel
theorem dX5_count_67 : decode cX5_count 67 = .ok (.aload_n 0, 1) := by decide +kernel
theorem dX5_count_68 : decode cX5_count 68 = .ok (.getfield 28, 3) := by decide +kernel
theorem dX5_count_71 : decode cX5_count 71 = .ok (.iload 5, 2) := by decide +kernel
theorem dX5_count_73 : decode cX5_count 73 = .ok (.iaload, 1) := by decide +kernel
theorem dX5_count_74 : decode cX5_count 74 = .ok (.isub, 1) := by decide +kernel
theorem dX5_count_75 : decode cX5_count 75 = .ok (.iadd, 1) := by decide +kernel
theorem dX5_count_76 : decode cX5_count 76 = .ok (.istore_n 2, 1) := by decide +kernel
theorem dX5_count_77 : decode cX5_count 77 = .ok (.iload_n 3, 1) := by decide +kernel
theorem dX5_count_78 : decode cX5_count 78 = .ok (.aload_n 0, 1) := by decide +kernel
theorem dX5_count_79 : decode cX5_count 79 = .ok (.getfield 34, 3) := by decide +kernel
theorem dX5_count_82 : decode cX5_count 82 = .ok (.iload 5, 2) := by decide +kernel
theorem dX5_count_84 : decode cX5_count 84 = .ok (.iaload, 1) := by decide +kernel
theorem dX5_count_85 : decode cX5_count 85 = .ok (.bipush 16, 2) := by decide +kernel
theorem dX5_count_87 : decode cX5_count 87 = .ok (.if_icmp .ge 7, 3) := by decide +kernel
theorem dX5_count_90 : decode cX5_count 90 = .ok (.iconst 1, 1) := by decide +kernel
theorem dX5_count_91 : decode cX5_count 91 = .ok (.goto 4, 3) := by decide +kernel
theorem dX5_count_94 : decode cX5_count 94 = .ok (.iconst 0, 1) := by decide +kernel
theorem dX5_count_95 : decode cX5_count 95 = .ok (.iadd, 1) := by decide +kernel
theorem dX5_count_96 : decode cX5_count 96 = .ok (.istore_n 3, 1) := by decide +kernel
theorem dX5_count_97 : decode cX5_count 97 = .ok (.aload_n 0, 1) := by decide +kernel
theorem dX5_count_98 : decode cX5_count 98 = .ok (.getfield 31, 3) := by decide +kernel
theorem dX5_count_101 : decode cX5_count 101 = .ok (.iload 5, 2) := by decide +kernel
theorem dX5_count_103 : decode cX5_count 103 = .ok (.iaload, 1) := by decide +kernel
theorem dX5_count_104 : decode cX5_count 104 = .ok (.iload 4, 2) := by decide +kernel
theorem dX5_count_106 : decode cX5_count 106 = .ok (.if_icmp .le 13, 3) := by decide +kernel
theorem dX5_count_109 : decode cX5_count 109 = .ok (.aload_n 0, 1) := by decide +kernel
theorem dX5_count_110 : decode cX5_count 110 = .ok (.getfield 31, 3) := by decide +kernel
theorem dX5_count_113 : decode cX5_count 113 = .ok (.iload 5, 2) := by decide +kernel
theorem dX5_count_115 : decode cX5_count 115 = .ok (.iaload, 1) := by decide +kernel
theorem dX5_count_116 : decode cX5_count 116 = .ok (.goto 5, 3) := by decide +kernel
theorem dX5_count_119 : decode cX5_count 119 = .ok (.iload 4, 2) := by decide +kernel
theorem dX5_count_121 : decode cX5_count 121 = .ok (.istore 4, 2) := by decide +kernel
theorem dX5_count_123 : decode cX5_count 123 = .ok (.iinc 5 1, 3) := by decide +kernel
theorem dX5_count_126 : decode cX5_count 126 = .ok (.goto (-72), 3) := by decide +kernel
theorem dX5_count_129 : decode cX5_count 129 = .ok (.iload_n 1, 1) := by decide +kernel
theorem dX5_count_130 : decode cX5_count 130 = .ok (.iconst 4, 1) := by decide +kernel
theorem dX5_count_131 : decode cX5_count 131 = .ok (.if_icmp .ge 54, 3) := by decide +kernel
theorem dX5_count_134 : decode cX5_count 134 = .ok (.iload_n 1, 1) := by decide +kernel
theorem dX5_count_135 : decode cX5_count 135 = .ok (.ifCond .ne 10, 3) := by decide +kernel
theorem dX5_count_138 : decode cX5_count 138 = .ok (.aload_n 0, 1) := by decide +kernel
theorem dX5_count_139 : decode cX5_count 139 = .ok (.invokevirtual 134, 3) := by decide +kernel
theorem dX5_count_142 : decode cX5_count 142 = .ok (.goto 42, 3) := by decide +kernel
theorem dX5_count_145 : decode cX5_count 145 = .ok (.iload_n 1, 1) := by decide +kernel
theorem dX5_count_146 : decode cX5_count 146 = .ok (.iconst 1, 1) := by decide +kernel
theorem dX5_count_147 : decode cX5_count 147 = .ok (.if_icmp .ne 17, 3) := by decide +kernel
theorem dX5_count_150 : decode cX5_count 150 = .ok (.aload_n 0, 1) := by decide +kernel
theorem dX5_count_151 : decode cX5_count 151 = .ok (.aload_n 0, 1) := by decide +kernel
theorem dX5_count_152 : decode cX5_count 152 = .ok (.getfield 7, 3) := by decide +kernel
theorem dX5_count_155 : decode cX5_count 155 = .ok (.iconst 2, 1) := by decide +kernel
theorem dX5_count_156 : decode cX5_count 156 = .ok (.iaload, 1) := by decide +kernel
theorem dX5_count_157 : decode cX5_count 157 = .ok (.iconst 1, 1) := by decide +kernel
theorem dX5_count_158 : decode cX5_count 158 = .ok (.invokevirtual 150, 3) := by decide +kernel
theorem dX5_count_161 : decode cX5_count 161 = .ok (.goto 23, 3) := by decide +kernel
theorem dX5_count_164 : decode cX5_count 164 = .ok (.iload_n 1, 1) := by decide +kernel
theorem dX5_count_165 : decode cX5_count 165 = .ok (.iconst 2, 1) := by decide +kernel
theorem dX5_count_166 : decode cX5_count 166 = .ok (.if_icmp .ne 17, 3) := by decide +kernel
theorem dX5_count_169 : decode cX5_count 169 = .ok (.aload_n 0, 1) := by decide +kernel
theorem dX5_count_170 : decode cX5_count 170 = .ok (.aload_n 0, 1) := by decide +kernel
theorem dX5_count_171 : decode cX5_count 171 = .ok (.getfield 7, 3) := by decide +kernel
theorem dX5_count_174 : decode cX5_count 174 = .ok (.iconst 2, 1) := by decide +kernel
theorem dX5_count_175 : decode cX5_count 175 = .ok (.iaload, 1) := by decide +kernel
theorem dX5_count_176 : decode cX5_count 176 = .ok (.iconst 0, 1) := by decide +kernel
theorem dX5_count_177 : decode cX5_count 177 = .ok (.invokevirtual 150, 3) := by decide +kernel
theorem dX5_count_180 : decode cX5_count 180 = .ok (.goto 4, 3) := by decide +kernel
theorem dX5_count_183 : decode cX5_count 183 = .ok (.iload_n 2, 1) := by decide +kernel
theorem dX5_count_184 : decode cX5_count 184 = .ok (.ireturn, 1) := by decide +kernel
theorem dX5_count_185 : decode cX5_count 185 = .ok (.iload_n 1, 1) := by decide +kernel
theorem dX5_count_186 : decode cX5_count 186 = .ok (.bipush 6, 2) := by decide +kernel
theorem dX5_count_188 : decode cX5_count 188 = .ok (.if_icmp .ne 45, 3) := by decide +kernel
theorem dX5_count_191 : decode cX5_count 191 = .ok (.aload_n 0, 1) := by decide +kernel
theorem dX5_count_192 : decode cX5_count 192 = .ok (.getfield 7, 3) := by decide +kernel
theorem dX5_count_195 : decode cX5_count 195 = .ok (.iconst 1, 1) := by decide +kernel
theorem dX5_count_196 : decode cX5_count 196 = .ok (.iaload, 1) := by decide +kernel
theorem dX5_count_197 : decode cX5_count 197 = .ok (.aload_n 0, 1) := by decide +kernel
theorem dX5_count_198 : decode cX5_count 198 = .ok (.getfield 7, 3) := by decide +kernel
theorem dX5_count_201 : decode cX5_count 201 = .ok (.iconst 0, 1) := by decide +kernel
theorem dX5_count_202 : decode cX5_count 202 = .ok (.iaload, 1) := by decide +kernel
theorem dX5_count_203 : decode cX5_count 203 = .ok (.if_icmp .le 7, 3) := by decide +kernel
theorem dX5_count_206 : decode cX5_count 206 = .ok (.iconst 0, 1) := by decide +kernel
theorem dX5_count_207 : decode cX5_count 207 = .ok (.goto 25, 3) := by decide +kernel
theorem dX5_count_210 : decode cX5_count 210 = .ok (.aload_n 0, 1) := by decide +kernel
theorem dX5_count_211 : decode cX5_count 211 = .ok (.getfield 7, 3) := by decide +kernel
theorem dX5_count_214 : decode cX5_count 214 = .ok (.iconst 0, 1) := by decide +kernel
theorem dX5_count_215 : decode cX5_count 215 = .ok (.iaload, 1) := by decide +kernel
theorem dX5_count_216 : decode cX5_count 216 = .ok (.aload_n 0, 1) := by decide +kernel
theorem dX5_count_217 : decode cX5_count 217 = .ok (.getfield 7, 3) := by decide +kernel
theorem dX5_count_220 : decode cX5_count 220 = .ok (.iconst 1, 1) := by decide +kernel
theorem dX5_count_221 : decode cX5_count 221 = .ok (.iaload, 1) := by decide +kernel
theorem dX5_count_222 : decode cX5_count 222 = .ok (.isub, 1) := by decide +kernel
theorem dX5_count_223 : decode cX5_count 223 = .ok (.aload_n 0, 1) := by decide +kernel
theorem dX5_count_224 : decode cX5_count 224 = .ok (.getfield 7, 3) := by decide +kernel
theorem dX5_count_227 : decode cX5_count 227 = .ok (.iconst 2, 1) := by decide +kernel
theorem dX5_count_228 : decode cX5_count 228 = .ok (.iaload, 1) := by decide +kernel
theorem dX5_count_229 : decode cX5_count 229 = .ok (.idiv, 1) := by decide +kernel
theorem dX5_count_230 : decode cX5_count 230 = .ok (.iconst 1, 1) := by decide +kernel
theorem dX5_count_231 : decode cX5_count 231 = .ok (.iadd, 1) := by decide +kernel
theorem dX5_count_232 : decode cX5_count 232 = .ok (.ireturn, 1) := by decide +kernel
theorem dX5_count_233 : decode cX5_count 233 = .ok (.iload_n 1, 1) := by decide +kernel
theorem dX5_count_234 : decode cX5_count 234 = .ok (.iconst 4, 1) := by decide +kernel
theorem dX5_count_235 : decode cX5_count 235 = .ok (.if_icmp .ne 7, 3) := by decide +kernel
theorem dX5_count_238 : decode cX5_count 238 = .ok (.iload_n 3, 1) := by decide +kernel
theorem dX5_count_239 : decode cX5_count 239 = .ok (.goto 30, 3) := by decide +kernel
theorem dX5_count_242 : decode cX5_count 242 = .ok (.iload_n 1, 1) := by decide +kernel
theorem dX5_count_243 : decode cX5_count 243 = .ok (.iconst 5, 1) := by decide +kernel
theorem dX5_count_244 : decode cX5_count 244 = .ok (.if_icmp .ne 8, 3) := by decide +kernel
theorem dX5_count_247 : decode cX5_count 247 = .ok (.iload 4, 2) := by decide +kernel
theorem dX5_count_249 : decode cX5_count 249 = .ok (.goto 20, 3) := by decide +kernel
theorem dX5_count_252 : decode cX5_count 252 = .ok (.iload_n 1, 1) := by decide +kernel
theorem dX5_count_253 : decode cX5_count 253 = .ok (.bipush 7, 2) := by decide +kernel
theorem dX5_count_255 : decode cX5_count 255 = .ok (.if_icmp .ne 10, 3) := by decide +kernel
theorem dX5_count_258 : decode cX5_count 258 = .ok (.aload_n 0, 1) := by decide +kernel
theorem dX5_count_259 : decode cX5_count 259 = .ok (.getfield 50, 3) := by decide +kernel
theorem dX5_count_262 : decode cX5_count 262 = .ok (.goto 7, 3) := by decide +kernel
theorem dX5_count_265 : decode cX5_count 265 = .ok (.aload_n 0, 1) := by decide +kernel
theorem dX5_count_266 : decode cX5_count 266 = .ok (.getfield 117, 3) := by decide +kernel
theorem dX5_count_269 : decode cX5_count 269 = .ok (.ireturn, 1) := by decide +kernel
theorem dJ9_floorMod_7cf53_0 : decode cJ9_floorMod_7cf53 0 = .ok (.iload_n 0, 1) := by decide +kernel
theorem dJ9_floorMod_7cf53_1 : decode cJ9_floorMod_7cf53 1 = .ok (.iload_n 1, 1) := by decide +kernel
theorem dJ9_floorMod_7cf53_2 : decode cJ9_floorMod_7cf53 2 = .ok (.irem, 1) := by decide +kernel
theorem dJ9_floorMod_7cf53_3 : decode cJ9_floorMod_7cf53 3 = .ok (.istore_n 2, 1) := by decide +kernel
theorem dJ9_floorMod_7cf53_4 : decode cJ9_floorMod_7cf53 4 = .ok (.iload_n 0, 1) := by decide +kernel
theorem dJ9_floorMod_7cf53_5 : decode cJ9_floorMod_7cf53 5 = .ok (.iload_n 1, 1) := by decide +kernel
theorem dJ9_floorMod_7cf53_6 : decode cJ9_floorMod_7cf53 6 = .ok (.ixor, 1) := by decide +kernel
theorem dJ9_floorMod_7cf53_7 : decode cJ9_floorMod_7cf53 7 = .ok (.ifCond .ge 11, 3) := by decide +kernel
theorem dJ9_floorMod_7cf53_10 : decode cJ9_floorMod_7cf53 10 = .ok (.iload_n 2, 1) := by decide +kernel
theorem dJ9_floorMod_7cf53_11 : decode cJ9_floorMod_7cf53 11 = .ok (.ifCond .eq 7, 3) := by decide +kernel
theorem dJ9_floorMod_7cf53_14 : decode cJ9_floorMod_7cf53 14 = .ok (.iload_n 2, 1) := by decide +kernel
theorem dJ9_floorMod_7cf53_15 : decode cJ9_floorMod_7cf53 15 = .ok (.iload_n 1, 1) := by decide +kernel
theorem dJ9_floorMod_7cf53_16 : decode cJ9_floorMod_7cf53 16 = .ok (.iadd, 1) := by decide +kernel
theorem dJ9_floorMod_7cf53_17 : decode cJ9_floorMod_7cf53 17 = .ok (.ireturn, 1) := by decide +kernel
theorem dJ9_floorMod_7cf53_18 : decode cJ9_floorMod_7cf53 18 = .ok (.iload_n 2, 1) := by decide +kernel
theorem dJ9_floorMod_7cf53_19 : decode cJ9_floorMod_7cf53 19 = .ok (.ireturn, 1) := by decide +kernel
theorem dJ9_max_7cf53_0 : decode cJ9_max_7cf53 0 = .ok (.iload_n 0, 1) := by decide +kernel
theorem dJ9_max_7cf53_1 : decode cJ9_max_7cf53 1 = .ok (.iload_n 1, 1) := by decide +kernel
theorem dJ9_max_7cf53_2 : decode cJ9_max_7cf53 2 = .ok (.if_icmp .lt 7, 3) := by decide +kernel
theorem dJ9_max_7cf53_5 : decode cJ9_max_7cf53 5 = .ok (.iload_n 0, 1) := by decide +kernel
theorem dJ9_max_7cf53_6 : decode cJ9_max_7cf53 6 = .ok (.goto 4, 3) := by decide +kernel
theorem dJ9_max_7cf53_9 : decode cJ9_max_7cf53 9 = .ok (.iload_n 1, 1) := by decide +kernel
theorem dJ9_max_7cf53_10 : decode cJ9_max_7cf53 10 = .ok (.ireturn, 1) := by decide +kernel
theorem dJ9_min_7cf53_0 : decode cJ9_min_7cf53 0 = .ok (.iload_n 0, 1) := by decide +kernel
theorem dJ9_min_7cf53_1 : decode cJ9_min_7cf53 1 = .ok (.iload_n 1, 1) := by decide +kernel
theorem dJ9_min_7cf53_2 : decode cJ9_min_7cf53 2 = .ok (.if_icmp .gt 7, 3) := by decide +kernel
theorem dJ9_min_7cf53_5 : decode cJ9_min_7cf53 5 = .ok (.iload_n 0, 1) := by decide +kernel
theorem dJ9_min_7cf53_6 : decode cJ9_min_7cf53 6 = .ok (.goto 4, 3) := by decide +kernel
theorem dJ9_min_7cf53_9 : decode cJ9_min_7cf53 9 = .ok (.iload_n 1, 1) := by decide +kernel
theorem dJ9_min_7cf53_10 : decode cJ9_min_7cf53 10 = .ok (.ireturn, 1) := by decide +kernel
