theorem fl_RX11_170 : gFl RX11 170 11 80 := ⟨RX11, TX11, 101, rfl, by decide, ux_11, Or.inl (gm 1308 (by decide +kernel) rfl)⟩
theorem fl_RX11_164 : gFl RX11 164 11 78 := ⟨RX11, TX11, 101, rfl, by decide, ux_11, Or.inl (gm 1306 (by decide +kernel) rfl)⟩
theorem fl_RX11_167 : gFl RX11 167 11 79 := ⟨RX11, TX11, 101, rfl, by decide, ux_11, Or.inl (gm 1307 (by decide +kernel) rfl)⟩
theorem wl_RX11_489 : Cond.constantLong RX11 489 1048576 ∈ gWS := (gm 1765 (by decide +kernel) rfl)
theorem wl_RX11_491 : Cond.constantLong RX11 491 32768 ∈ gWS := (gm 1766 (by decide +kernel) rfl)
theorem wl_RX11_493 : Cond.constantLong RX11 493 (-268435456) ∈ gWS := (gm 1767 (by decide +kernel) rfl)
theorem wl_RX11_495 : Cond.constantLong RX11 495 268435456 ∈ gWS := (gm 1768 (by decide +kernel) rfl)
theorem wl_RX11_469 : Cond.constantLong RX11 469 65536 ∈ gWS := (gm 1750 (by decide +kernel) rfl)
def mX11_hang : gM := (yX11_hang, cX11_hang, RX11, 20, none, 1, 28)
theorem dX11_hang_0 : decode mX11_hang.2.1 0 = .ok (.aload_n 0, 1) := by decide +kernel
theorem dX11_hang_1 : decode mX11_hang.2.1 1 = .ok (.getfield 149, 3) := by decide +kernel
theorem dX11_hang_4 : decode mX11_hang.2.1 4 = .ok (.iload_n 1, 1) := by decide +kernel
theorem dX11_hang_5 : decode mX11_hang.2.1 5 = .ok (.iaload, 1) := by decide +kernel
theorem dX11_hang_6 : decode mX11_hang.2.1 6 = .ok (.istore_n 2, 1) := by decide +kernel
theorem dX11_hang_7 : decode mX11_hang.2.1 7 = .ok (.aload_n 0, 1) := by decide +kernel
theorem dX11_hang_8 : decode mX11_hang.2.1 8 = .ok (.getfield 152, 3) := by decide +kernel
theorem dX11_hang_11 : decode mX11_hang.2.1 11 = .ok (.iload_n 1, 1) := by decide +kernel
theorem dX11_hang_12 : decode mX11_hang.2.1 12 = .ok (.iaload, 1) := by decide +kernel
theorem dX11_hang_13 : decode mX11_hang.2.1 13 = .ok (.istore_n 3, 1) := by decide +kernel
theorem dX11_hang_14 : decode mX11_hang.2.1 14 = .ok (.aload_n 0, 1) := by decide +kernel
theorem dX11_hang_15 : decode mX11_hang.2.1 15 = .ok (.getfield 170, 3) := by decide +kernel
theorem dX11_hang_18 : decode mX11_hang.2.1 18 = .ok (.iload_n 2, 1) := by decide +kernel
theorem dX11_hang_19 : decode mX11_hang.2.1 19 = .ok (.iaload, 1) := by decide +kernel
theorem dX11_hang_20 : decode mX11_hang.2.1 20 = .ok (.ifCond .ne 12, 3) := by decide +kernel
theorem dX11_hang_23 : decode mX11_hang.2.1 23 = .ok (.aload_n 0, 1) := by decide +kernel
theorem dX11_hang_24 : decode mX11_hang.2.1 24 = .ok (.getfield 170, 3) := by decide +kernel
theorem dX11_hang_27 : decode mX11_hang.2.1 27 = .ok (.iload_n 3, 1) := by decide +kernel
theorem dX11_hang_28 : decode mX11_hang.2.1 28 = .ok (.iaload, 1) := by decide +kernel
theorem dX11_hang_29 : decode mX11_hang.2.1 29 = .ok (.ifCond .eq 11, 3) := by decide +kernel
theorem dX11_hang_32 : decode mX11_hang.2.1 32 = .ok (.aload_n 0, 1) := by decide +kernel
theorem dX11_hang_33 : decode mX11_hang.2.1 33 = .ok (.getfield 170, 3) := by decide +kernel
theorem dX11_hang_36 : decode mX11_hang.2.1 36 = .ok (.iload_n 1, 1) := by decide +kernel
theorem dX11_hang_37 : decode mX11_hang.2.1 37 = .ok (.iconst 3, 1) := by decide +kernel
theorem dX11_hang_38 : decode mX11_hang.2.1 38 = .ok (.iastore, 1) := by decide +kernel
theorem dX11_hang_39 : decode mX11_hang.2.1 39 = .ok (.return_, 1) := by decide +kernel
theorem dX11_hang_40 : decode mX11_hang.2.1 40 = .ok (.aload_n 0, 1) := by decide +kernel
theorem dX11_hang_41 : decode mX11_hang.2.1 41 = .ok (.getfield 170, 3) := by decide +kernel
theorem dX11_hang_44 : decode mX11_hang.2.1 44 = .ok (.iload_n 1, 1) := by decide +kernel
theorem dX11_hang_45 : decode mX11_hang.2.1 45 = .ok (.iconst 2, 1) := by decide +kernel
theorem dX11_hang_46 : decode mX11_hang.2.1 46 = .ok (.iastore, 1) := by decide +kernel
theorem dX11_hang_47 : decode mX11_hang.2.1 47 = .ok (.aload_n 0, 1) := by decide +kernel
theorem dX11_hang_48 : decode mX11_hang.2.1 48 = .ok (.getfield 13, 3) := by decide +kernel
theorem dX11_hang_51 : decode mX11_hang.2.1 51 = .ok (.iload_n 1, 1) := by decide +kernel
theorem dX11_hang_52 : decode mX11_hang.2.1 52 = .ok (.iaload, 1) := by decide +kernel
theorem dX11_hang_53 : decode mX11_hang.2.1 53 = .ok (.aload_n 0, 1) := by decide +kernel
theorem dX11_hang_54 : decode mX11_hang.2.1 54 = .ok (.getfield 13, 3) := by decide +kernel
theorem dX11_hang_57 : decode mX11_hang.2.1 57 = .ok (.iload_n 2, 1) := by decide +kernel
theorem dX11_hang_58 : decode mX11_hang.2.1 58 = .ok (.iaload, 1) := by decide +kernel
theorem dX11_hang_59 : decode mX11_hang.2.1 59 = .ok (.isub, 1) := by decide +kernel
theorem dX11_hang_60 : decode mX11_hang.2.1 60 = .ok (.i2l, 1) := by decide +kernel
theorem dX11_hang_61 : decode mX11_hang.2.1 61 = .ok (.aload_n 0, 1) := by decide +kernel
theorem dX11_hang_62 : decode mX11_hang.2.1 62 = .ok (.getfield 17, 3) := by decide +kernel
theorem dX11_hang_65 : decode mX11_hang.2.1 65 = .ok (.iload_n 1, 1) := by decide +kernel
theorem dX11_hang_66 : decode mX11_hang.2.1 66 = .ok (.iaload, 1) := by decide +kernel
theorem dX11_hang_67 : decode mX11_hang.2.1 67 = .ok (.aload_n 0, 1) := by decide +kernel
theorem dX11_hang_68 : decode mX11_hang.2.1 68 = .ok (.getfield 17, 3) := by decide +kernel
theorem dX11_hang_71 : decode mX11_hang.2.1 71 = .ok (.iload_n 2, 1) := by decide +kernel
theorem dX11_hang_72 : decode mX11_hang.2.1 72 = .ok (.iaload, 1) := by decide +kernel
theorem dX11_hang_73 : decode mX11_hang.2.1 73 = .ok (.isub, 1) := by decide +kernel
theorem dX11_hang_74 : decode mX11_hang.2.1 74 = .ok (.i2l, 1) := by decide +kernel
theorem dX11_hang_75 : decode mX11_hang.2.1 75 = .ok (.invokestatic 486, 3) := by decide +kernel
theorem dX11_hang_78 : decode mX11_hang.2.1 78 = .ok (.bipush 20, 2) := by decide +kernel
theorem dX11_hang_80 : decode mX11_hang.2.1 80 = .ok (.lshl, 1) := by decide +kernel
theorem dX11_hang_81 : decode mX11_hang.2.1 81 = .ok (.lstore 4, 2) := by decide +kernel
theorem dX11_hang_83 : decode mX11_hang.2.1 83 = .ok (.aload_n 0, 1) := by decide +kernel
theorem dX11_hang_84 : decode mX11_hang.2.1 84 = .ok (.getfield 13, 3) := by decide +kernel
theorem dX11_hang_87 : decode mX11_hang.2.1 87 = .ok (.iload_n 1, 1) := by decide +kernel
theorem dX11_hang_88 : decode mX11_hang.2.1 88 = .ok (.iaload, 1) := by decide +kernel
theorem dX11_hang_89 : decode mX11_hang.2.1 89 = .ok (.aload_n 0, 1) := by decide +kernel
theorem dX11_hang_90 : decode mX11_hang.2.1 90 = .ok (.getfield 13, 3) := by decide +kernel
theorem dX11_hang_93 : decode mX11_hang.2.1 93 = .ok (.iload_n 3, 1) := by decide +kernel
theorem dX11_hang_94 : decode mX11_hang.2.1 94 = .ok (.iaload, 1) := by decide +kernel
theorem dX11_hang_95 : decode mX11_hang.2.1 95 = .ok (.isub, 1) := by decide +kernel
theorem dX11_hang_96 : decode mX11_hang.2.1 96 = .ok (.i2l, 1) := by decide +kernel
theorem dX11_hang_97 : decode mX11_hang.2.1 97 = .ok (.aload_n 0, 1) := by decide +kernel
theorem dX11_hang_98 : decode mX11_hang.2.1 98 = .ok (.getfield 17, 3) := by decide +kernel
theorem dX11_hang_101 : decode mX11_hang.2.1 101 = .ok (.iload_n 1, 1) := by decide +kernel
theorem dX11_hang_102 : decode mX11_hang.2.1 102 = .ok (.iaload, 1) := by decide +kernel
theorem dX11_hang_103 : decode mX11_hang.2.1 103 = .ok (.aload_n 0, 1) := by decide +kernel
theorem dX11_hang_104 : decode mX11_hang.2.1 104 = .ok (.getfield 17, 3) := by decide +kernel
theorem dX11_hang_107 : decode mX11_hang.2.1 107 = .ok (.iload_n 3, 1) := by decide +kernel
theorem dX11_hang_108 : decode mX11_hang.2.1 108 = .ok (.iaload, 1) := by decide +kernel
theorem dX11_hang_109 : decode mX11_hang.2.1 109 = .ok (.isub, 1) := by decide +kernel
theorem dX11_hang_110 : decode mX11_hang.2.1 110 = .ok (.i2l, 1) := by decide +kernel
theorem dX11_hang_111 : decode mX11_hang.2.1 111 = .ok (.invokestatic 486, 3) := by decide +kernel
theorem dX11_hang_114 : decode mX11_hang.2.1 114 = .ok (.bipush 20, 2) := by decide +kernel
theorem dX11_hang_116 : decode mX11_hang.2.1 116 = .ok (.lshl, 1) := by decide +kernel
theorem dX11_hang_117 : decode mX11_hang.2.1 117 = .ok (.lstore 6, 2) := by decide +kernel
theorem dX11_hang_119 : decode mX11_hang.2.1 119 = .ok (.aload_n 0, 1) := by decide +kernel
theorem dX11_hang_120 : decode mX11_hang.2.1 120 = .ok (.getfield 164, 3) := by decide +kernel
theorem dX11_hang_123 : decode mX11_hang.2.1 123 = .ok (.iload_n 3, 1) := by decide +kernel
theorem dX11_hang_124 : decode mX11_hang.2.1 124 = .ok (.laload, 1) := by decide +kernel
theorem dX11_hang_125 : decode mX11_hang.2.1 125 = .ok (.aload_n 0, 1) := by decide +kernel
theorem dX11_hang_126 : decode mX11_hang.2.1 126 = .ok (.getfield 164, 3) := by decide +kernel
theorem dX11_hang_129 : decode mX11_hang.2.1 129 = .ok (.iload_n 2, 1) := by decide +kernel
theorem dX11_hang_130 : decode mX11_hang.2.1 130 = .ok (.laload, 1) := by decide +kernel
theorem dX11_hang_131 : decode mX11_hang.2.1 131 = .ok (.lsub, 1) := by decide +kernel
theorem dX11_hang_132 : decode mX11_hang.2.1 132 = .ok (.lstore 8, 2) := by decide +kernel
theorem dX11_hang_134 : decode mX11_hang.2.1 134 = .ok (.aload_n 0, 1) := by decide +kernel
theorem dX11_hang_135 : decode mX11_hang.2.1 135 = .ok (.getfield 167, 3) := by decide +kernel
theorem dX11_hang_138 : decode mX11_hang.2.1 138 = .ok (.iload_n 3, 1) := by decide +kernel
theorem dX11_hang_139 : decode mX11_hang.2.1 139 = .ok (.laload, 1) := by decide +kernel
theorem dX11_hang_140 : decode mX11_hang.2.1 140 = .ok (.aload_n 0, 1) := by decide +kernel
theorem dX11_hang_141 : decode mX11_hang.2.1 141 = .ok (.getfield 167, 3) := by decide +kernel
theorem dX11_hang_144 : decode mX11_hang.2.1 144 = .ok (.iload_n 2, 1) := by decide +kernel
theorem dX11_hang_145 : decode mX11_hang.2.1 145 = .ok (.laload, 1) := by decide +kernel
theorem dX11_hang_146 : decode mX11_hang.2.1 146 = .ok (.lsub, 1) := by decide +kernel
theorem dX11_hang_147 : decode mX11_hang.2.1 147 = .ok (.lstore 10, 2) := by decide +kernel
theorem dX11_hang_149 : decode mX11_hang.2.1 149 = .ok (.lload 8, 2) := by decide +kernel
theorem dX11_hang_151 : decode mX11_hang.2.1 151 = .ok (.lload 10, 2) := by decide +kernel
theorem dX11_hang_153 : decode mX11_hang.2.1 153 = .ok (.invokestatic 486, 3) := by decide +kernel
theorem dX11_hang_156 : decode mX11_hang.2.1 156 = .ok (.lstore 12, 2) := by decide +kernel
theorem dX11_hang_158 : decode mX11_hang.2.1 158 = .ok (.lload 12, 2) := by decide +kernel
theorem dX11_hang_160 : decode mX11_hang.2.1 160 = .ok (.ldc2_w 489, 3) := by decide +kernel
theorem dX11_hang_163 : decode mX11_hang.2.1 163 = .ok (.lcmp, 1) := by decide +kernel
theorem dX11_hang_164 : decode mX11_hang.2.1 164 = .ok (.ifCond .ge 4, 3) := by decide +kernel
theorem dX11_hang_167 : decode mX11_hang.2.1 167 = .ok (.return_, 1) := by decide +kernel
theorem dX11_hang_168 : decode mX11_hang.2.1 168 = .ok (.ldc2_w 491, 3) := by decide +kernel
theorem dX11_hang_171 : decode mX11_hang.2.1 171 = .ok (.ldc2_w 491, 3) := by decide +kernel
theorem dX11_hang_174 : decode mX11_hang.2.1 174 = .ok (.lload 4, 2) := by decide +kernel
theorem dX11_hang_176 : decode mX11_hang.2.1 176 = .ok (.lload 6, 2) := by decide +kernel
theorem dX11_hang_178 : decode mX11_hang.2.1 178 = .ok (.lsub, 1) := by decide +kernel
theorem dX11_hang_179 : decode mX11_hang.2.1 179 = .ok (.lmul, 1) := by decide +kernel
theorem dX11_hang_180 : decode mX11_hang.2.1 180 = .ok (.lload 12, 2) := by decide +kernel
theorem dX11_hang_182 : decode mX11_hang.2.1 182 = .ok (.invokestatic 473, 3) := by decide +kernel
theorem dX11_hang_185 : decode mX11_hang.2.1 185 = .ok (.ladd, 1) := by decide +kernel
theorem dX11_hang_186 : decode mX11_hang.2.1 186 = .ok (.lstore 14, 2) := by decide +kernel
theorem dX11_hang_188 : decode mX11_hang.2.1 188 = .ok (.lload 14, 2) := by decide +kernel
theorem dX11_hang_190 : decode mX11_hang.2.1 190 = .ok (.ldc2_w 493, 3) := by decide +kernel
theorem dX11_hang_193 : decode mX11_hang.2.1 193 = .ok (.ldc2_w 495, 3) := by decide +kernel
theorem dX11_hang_196 : decode mX11_hang.2.1 196 = .ok (.invokestatic 220, 3) := by decide +kernel
theorem dX11_hang_199 : decode mX11_hang.2.1 199 = .ok (.ifCond .ne 4, 3) := by decide +kernel
theorem dX11_hang_202 : decode mX11_hang.2.1 202 = .ok (.return_, 1) := by decide +kernel
theorem dX11_hang_203 : decode mX11_hang.2.1 203 = .ok (.lload 4, 2) := by decide +kernel
theorem dX11_hang_205 : decode mX11_hang.2.1 205 = .ok (.lload 12, 2) := by decide +kernel
theorem dX11_hang_207 : decode mX11_hang.2.1 207 = .ok (.invokestatic 497, 3) := by decide +kernel
theorem dX11_hang_210 : decode mX11_hang.2.1 210 = .ok (.lload 14, 2) := by decide +kernel
theorem dX11_hang_212 : decode mX11_hang.2.1 212 = .ok (.lload 14, 2) := by decide +kernel
theorem dX11_hang_214 : decode mX11_hang.2.1 214 = .ok (.lmul, 1) := by decide +kernel
theorem dX11_hang_215 : decode mX11_hang.2.1 215 = .ok (.lsub, 1) := by decide +kernel
theorem dX11_hang_216 : decode mX11_hang.2.1 216 = .ok (.lstore 16, 2) := by decide +kernel
theorem dX11_hang_218 : decode mX11_hang.2.1 218 = .ok (.lload 16, 2) := by decide +kernel
theorem dX11_hang_220 : decode mX11_hang.2.1 220 = .ok (.lconst 0, 1) := by decide +kernel
theorem dX11_hang_221 : decode mX11_hang.2.1 221 = .ok (.lcmp, 1) := by decide +kernel
theorem dX11_hang_222 : decode mX11_hang.2.1 222 = .ok (.ifCond .ge 4, 3) := by decide +kernel
theorem dX11_hang_225 : decode mX11_hang.2.1 225 = .ok (.return_, 1) := by decide +kernel
theorem dX11_hang_226 : decode mX11_hang.2.1 226 = .ok (.aload_n 0, 1) := by decide +kernel
theorem dX11_hang_227 : decode mX11_hang.2.1 227 = .ok (.getfield 161, 3) := by decide +kernel
theorem dX11_hang_230 : decode mX11_hang.2.1 230 = .ok (.iload_n 1, 1) := by decide +kernel
theorem dX11_hang_231 : decode mX11_hang.2.1 231 = .ok (.iaload, 1) := by decide +kernel
theorem dX11_hang_232 : decode mX11_hang.2.1 232 = .ok (.i2l, 1) := by decide +kernel
theorem dX11_hang_233 : decode mX11_hang.2.1 233 = .ok (.lload 16, 2) := by decide +kernel
theorem dX11_hang_235 : decode mX11_hang.2.1 235 = .ok (.invokestatic 500, 3) := by decide +kernel
theorem dX11_hang_238 : decode mX11_hang.2.1 238 = .ok (.lmul, 1) := by decide +kernel
theorem dX11_hang_239 : decode mX11_hang.2.1 239 = .ok (.lstore 18, 2) := by decide +kernel
theorem dX11_hang_241 : decode mX11_hang.2.1 241 = .ok (.aload_n 0, 1) := by decide +kernel
theorem dX11_hang_242 : decode mX11_hang.2.1 242 = .ok (.getfield 170, 3) := by decide +kernel
theorem dX11_hang_245 : decode mX11_hang.2.1 245 = .ok (.iload_n 1, 1) := by decide +kernel
theorem dX11_hang_246 : decode mX11_hang.2.1 246 = .ok (.iconst 0, 1) := by decide +kernel
theorem dX11_hang_247 : decode mX11_hang.2.1 247 = .ok (.iastore, 1) := by decide +kernel
theorem dX11_hang_248 : decode mX11_hang.2.1 248 = .ok (.aload_n 0, 1) := by decide +kernel
theorem dX11_hang_249 : decode mX11_hang.2.1 249 = .ok (.getfield 164, 3) := by decide +kernel
theorem dX11_hang_252 : decode mX11_hang.2.1 252 = .ok (.iload_n 1, 1) := by decide +kernel
theorem dX11_hang_253 : decode mX11_hang.2.1 253 = .ok (.aload_n 0, 1) := by decide +kernel
theorem dX11_hang_254 : decode mX11_hang.2.1 254 = .ok (.getfield 164, 3) := by decide +kernel
theorem dX11_hang_257 : decode mX11_hang.2.1 257 = .ok (.iload_n 2, 1) := by decide +kernel
theorem dX11_hang_258 : decode mX11_hang.2.1 258 = .ok (.laload, 1) := by decide +kernel
theorem dX11_hang_259 : decode mX11_hang.2.1 259 = .ok (.lload 14, 2) := by decide +kernel
theorem dX11_hang_261 : decode mX11_hang.2.1 261 = .ok (.lload 8, 2) := by decide +kernel
theorem dX11_hang_263 : decode mX11_hang.2.1 263 = .ok (.lmul, 1) := by decide +kernel
theorem dX11_hang_264 : decode mX11_hang.2.1 264 = .ok (.lload 18, 2) := by decide +kernel
theorem dX11_hang_266 : decode mX11_hang.2.1 266 = .ok (.lload 10, 2) := by decide +kernel
theorem dX11_hang_268 : decode mX11_hang.2.1 268 = .ok (.lmul, 1) := by decide +kernel
theorem dX11_hang_269 : decode mX11_hang.2.1 269 = .ok (.lsub, 1) := by decide +kernel
theorem dX11_hang_270 : decode mX11_hang.2.1 270 = .ok (.ldc2_w 469, 3) := by decide +kernel
theorem dX11_hang_273 : decode mX11_hang.2.1 273 = .ok (.invokestatic 473, 3) := by decide +kernel
theorem dX11_hang_276 : decode mX11_hang.2.1 276 = .ok (.ladd, 1) := by decide +kernel
theorem dX11_hang_277 : decode mX11_hang.2.1 277 = .ok (.lastore, 1) := by decide +kernel
theorem dX11_hang_278 : decode mX11_hang.2.1 278 = .ok (.aload_n 0, 1) := by decide +kernel
theorem dX11_hang_279 : decode mX11_hang.2.1 279 = .ok (.getfield 167, 3) := by decide +kernel
theorem dX11_hang_282 : decode mX11_hang.2.1 282 = .ok (.iload_n 1, 1) := by decide +kernel
theorem dX11_hang_283 : decode mX11_hang.2.1 283 = .ok (.aload_n 0, 1) := by decide +kernel
theorem dX11_hang_284 : decode mX11_hang.2.1 284 = .ok (.getfield 167, 3) := by decide +kernel
theorem dX11_hang_287 : decode mX11_hang.2.1 287 = .ok (.iload_n 2, 1) := by decide +kernel
theorem dX11_hang_288 : decode mX11_hang.2.1 288 = .ok (.laload, 1) := by decide +kernel
theorem dX11_hang_289 : decode mX11_hang.2.1 289 = .ok (.lload 14, 2) := by decide +kernel
theorem dX11_hang_291 : decode mX11_hang.2.1 291 = .ok (.lload 10, 2) := by decide +kernel
theorem dX11_hang_293 : decode mX11_hang.2.1 293 = .ok (.lmul, 1) := by decide +kernel
theorem dX11_hang_294 : decode mX11_hang.2.1 294 = .ok (.lload 18, 2) := by decide +kernel
theorem dX11_hang_296 : decode mX11_hang.2.1 296 = .ok (.lload 8, 2) := by decide +kernel
theorem dX11_hang_298 : decode mX11_hang.2.1 298 = .ok (.lmul, 1) := by decide +kernel
theorem dX11_hang_299 : decode mX11_hang.2.1 299 = .ok (.ladd, 1) := by decide +kernel
theorem dX11_hang_300 : decode mX11_hang.2.1 300 = .ok (.ldc2_w 469, 3) := by decide +kernel
theorem dX11_hang_303 : decode mX11_hang.2.1 303 = .ok (.invokestatic 473, 3) := by decide +kernel
theorem dX11_hang_306 : decode mX11_hang.2.1 306 = .ok (.ladd, 1) := by decide +kernel
theorem dX11_hang_307 : decode mX11_hang.2.1 307 = .ok (.lastore, 1) := by decide +kernel
theorem dX11_hang_308 : decode mX11_hang.2.1 308 = .ok (.return_, 1) := by decide +kernel
theorem okX11_hang_486 : gOkS mX11_hang mX11_square 486 2 := ⟨List.forall_mem_cons.mpr ⟨(gm 1764 (by decide +kernel) rfl), List.forall_mem_cons.mpr ⟨(gm 1762 (by decide +kernel) rfl), List.forall_mem_cons.mpr ⟨(gm 1763 (by decide +kernel) rfl), List.forall_mem_cons.mpr ⟨(gm 122 (by decide +kernel) rfl), fun _ h => absurd h List.not_mem_nil⟩⟩⟩⟩, by decide +kernel, by decide +kernel, by decide +kernel⟩
theorem okX11_hang_473 : gOkS mX11_hang mX11_down 473 2 := ⟨List.forall_mem_cons.mpr ⟨(gm 1754 (by decide +kernel) rfl), List.forall_mem_cons.mpr ⟨(gm 1752 (by decide +kernel) rfl), List.forall_mem_cons.mpr ⟨(gm 1753 (by decide +kernel) rfl), List.forall_mem_cons.mpr ⟨(gm 122 (by decide +kernel) rfl), fun _ h => absurd h List.not_mem_nil⟩⟩⟩⟩, by decide +kernel, by decide +kernel, by decide +kernel⟩
theorem okX11_hang_220 : gOkS mX11_hang mX11_in 220 3 := ⟨List.forall_mem_cons.mpr ⟨(gm 1539 (by decide +kernel) rfl), List.forall_mem_cons.mpr ⟨(gm 1537 (by decide +kernel) rfl), List.forall_mem_cons.mpr ⟨(gm 1538 (by decide +kernel) rfl), List.forall_mem_cons.mpr ⟨(gm 122 (by decide +kernel) rfl), fun _ h => absurd h List.not_mem_nil⟩⟩⟩⟩, by decide +kernel, by decide +kernel, by decide +kernel⟩
theorem okX11_hang_497 : gOkS mX11_hang mX11_highQuotient 497 2 := ⟨List.forall_mem_cons.mpr ⟨(gm 1771 (by decide +kernel) rfl), List.forall_mem_cons.mpr ⟨(gm 1769 (by decide +kernel) rfl), List.forall_mem_cons.mpr ⟨(gm 1770 (by decide +kernel) rfl), List.forall_mem_cons.mpr ⟨(gm 122 (by decide +kernel) rfl), fun _ h => absurd h List.not_mem_nil⟩⟩⟩⟩, by decide +kernel, by decide +kernel, by decide +kernel⟩
theorem okX11_hang_500 : gOkS mX11_hang mX11_root 500 1 := ⟨List.forall_mem_cons.mpr ⟨(gm 1774 (by decide +kernel) rfl), List.forall_mem_cons.mpr ⟨(gm 1772 (by decide +kernel) rfl), List.forall_mem_cons.mpr ⟨(gm 1773 (by decide +kernel) rfl), List.forall_mem_cons.mpr ⟨(gm 122 (by decide +kernel) rfl), fun _ h => absurd h List.not_mem_nil⟩⟩⟩⟩, by decide +kernel, by decide +kernel, by decide +kernel⟩
def fX11_hang_32 (p1 : Int32) (σ : gS) : Option (Unit × gS) :=
  gg (¬ (p1 < 0 ∨ 24 ≤ p1.toNatClampNeg)) (
  bnd (gsI σ 218 p1.toNatClampNeg 3) fun σ2 =>
  some ((), σ2))
set_option maxHeartbeats 4000000 in
set_option maxRecDepth 100000 in
theorem pX11_hang_32 {E : gE} {p1 : Int32} {r : Unit} {σ' : gS} {σ : gS} (h : fX11_hang_32 p1 σ = some (r, σ')) : gG E mX11_hang 32 [(0, .ref 168), (1, .int p1)] [] σ (none) σ' := by
  unfold fX11_hang_32 at h
  refine g_aload_n dX11_hang_32 rfl 0 rfl ?_
  refine g_getC (n := 218) dX11_hang_33 gi_168 rfl fl_RX11_170 ?_
  refine g_iload_n dX11_hang_36 rfl 1 rfl ?_
  refine g_iconst (v := 3) dX11_hang_37 (by decide) ?_
  obtain ⟨g1, h⟩ := gg_some h
  obtain ⟨σ2, eσ2, h⟩ := bnd_nm h
  refine g_iast dX11_hang_38 gi_218 g1 (g_st eσ2 ?_)
  obtain ⟨rfl, rfl⟩ := so_inj h
  exact g_vret dX11_hang_39 rfl
def fX11_hang (p1 : Int32) (σ : gS) : Option (Unit × gS) :=
  gg (¬ (p1 < 0 ∨ 24 ≤ p1.toNatClampNeg)) (
  gg (¬ (p1 < 0 ∨ 24 ≤ p1.toNatClampNeg)) (
  gg (¬ (σ.1 211 p1.toNatClampNeg < 0 ∨ 24 ≤ (σ.1 211 p1.toNatClampNeg).toNatClampNeg)) (
  if (σ.1 218 ((σ.1 211 p1.toNatClampNeg).toNatClampNeg)) = 0 then
    gg (¬ (σ.1 212 p1.toNatClampNeg < 0 ∨ 24 ≤ (σ.1 212 p1.toNatClampNeg).toNatClampNeg)) (
    if (σ.1 218 ((σ.1 212 p1.toNatClampNeg).toNatClampNeg)) = 0 then
      gg (¬ (p1 < 0 ∨ 24 ≤ p1.toNatClampNeg)) (
      bnd (gsI σ 218 p1.toNatClampNeg 2) fun σ8 =>
      gg (¬ (p1 < 0 ∨ 24 ≤ p1.toNatClampNeg)) (
      gg (¬ (σ.1 211 p1.toNatClampNeg < 0 ∨ 24 ≤ (σ.1 211 p1.toNatClampNeg).toNatClampNeg)) (
      gg (¬ (p1 < 0 ∨ 24 ≤ p1.toNatClampNeg)) (
      gg (¬ (σ.1 211 p1.toNatClampNeg < 0 ∨ 24 ≤ (σ.1 211 p1.toNatClampNeg).toNatClampNeg)) (
      bd (fX11_square (((σ8.1 170 p1.toNatClampNeg) - (σ8.1 170 ((σ.1 211 p1.toNatClampNeg).toNatClampNeg))).toInt64) (((σ8.1 171 p1.toNatClampNeg) - (σ8.1 171 ((σ.1 211 p1.toNatClampNeg).toNatClampNeg))).toInt64) σ8) fun x13 σ14 =>
      bnd (x13 <<< ((20 : Int32).toInt64 &&& 63)) fun x16 =>
      gg (¬ (p1 < 0 ∨ 24 ≤ p1.toNatClampNeg)) (
      gg (¬ (σ.1 212 p1.toNatClampNeg < 0 ∨ 24 ≤ (σ.1 212 p1.toNatClampNeg).toNatClampNeg)) (
      gg (¬ (p1 < 0 ∨ 24 ≤ p1.toNatClampNeg)) (
      gg (¬ (σ.1 212 p1.toNatClampNeg < 0 ∨ 24 ≤ (σ.1 212 p1.toNatClampNeg).toNatClampNeg)) (
      bd (fX11_square (((σ14.1 170 p1.toNatClampNeg) - (σ14.1 170 ((σ.1 212 p1.toNatClampNeg).toNatClampNeg))).toInt64) (((σ14.1 171 p1.toNatClampNeg) - (σ14.1 171 ((σ.1 212 p1.toNatClampNeg).toNatClampNeg))).toInt64) σ14) fun x21 σ22 =>
      bnd (x21 <<< ((20 : Int32).toInt64 &&& 63)) fun x24 =>
      gg (¬ (σ.1 212 p1.toNatClampNeg < 0 ∨ 24 ≤ (σ.1 212 p1.toNatClampNeg).toNatClampNeg)) (
      gg (¬ (σ.1 211 p1.toNatClampNeg < 0 ∨ 24 ≤ (σ.1 211 p1.toNatClampNeg).toNatClampNeg)) (
      bnd ((σ22.2.1 216 ((σ.1 212 p1.toNatClampNeg).toNatClampNeg)) - (σ22.2.1 216 ((σ.1 211 p1.toNatClampNeg).toNatClampNeg))) fun x27 =>
      gg (¬ (σ.1 212 p1.toNatClampNeg < 0 ∨ 24 ≤ (σ.1 212 p1.toNatClampNeg).toNatClampNeg)) (
      gg (¬ (σ.1 211 p1.toNatClampNeg < 0 ∨ 24 ≤ (σ.1 211 p1.toNatClampNeg).toNatClampNeg)) (
      bnd ((σ22.2.1 217 ((σ.1 212 p1.toNatClampNeg).toNatClampNeg)) - (σ22.2.1 217 ((σ.1 211 p1.toNatClampNeg).toNatClampNeg))) fun x30 =>
      bd (fX11_square x27 x30 σ22) fun x31 σ32 =>
      if 0 ≤ (lg_cmp x31 1048576) then
        bd (fX11_down (32768 * (x16 - x24)) x31 σ32) fun x35 σ36 =>
        bnd (32768 + x35) fun x38 =>
        bd (fX11_in x38 (-268435456) 268435456 σ36) fun x39 σ40 =>
        if x39 = 0 then
          some ((), σ40)
        else
          bd (fX11_highQuotient x16 x31 σ40) fun x43 σ44 =>
          bnd (x43 - (x38 * x38)) fun x46 =>
          if 0 ≤ (lg_cmp x46 0) then
            gg (¬ (p1 < 0 ∨ 24 ≤ p1.toNatClampNeg)) (
            bd (fX11_root x46 σ44) fun x49 σ50 =>
            bnd (((σ44.1 215 p1.toNatClampNeg).toInt64) * x49) fun x52 =>
            gg (¬ (p1 < 0 ∨ 24 ≤ p1.toNatClampNeg)) (
            bnd (gsI σ50 218 p1.toNatClampNeg 0) fun σ54 =>
            gg (¬ (σ.1 211 p1.toNatClampNeg < 0 ∨ 24 ≤ (σ.1 211 p1.toNatClampNeg).toNatClampNeg)) (
            bd (fX11_down ((x38 * x27) - (x52 * x30)) 65536 σ54) fun x56 σ57 =>
            gg (¬ (p1 < 0 ∨ 24 ≤ p1.toNatClampNeg)) (
            bnd (gsJ σ57 216 p1.toNatClampNeg ((σ54.2.1 216 ((σ.1 211 p1.toNatClampNeg).toNatClampNeg)) + x56)) fun σ60 =>
            gg (¬ (σ.1 211 p1.toNatClampNeg < 0 ∨ 24 ≤ (σ.1 211 p1.toNatClampNeg).toNatClampNeg)) (
            bd (fX11_down ((x38 * x30) + (x52 * x27)) 65536 σ60) fun x62 σ63 =>
            gg (¬ (p1 < 0 ∨ 24 ≤ p1.toNatClampNeg)) (
            bnd (gsJ σ63 217 p1.toNatClampNeg ((σ60.2.1 217 ((σ.1 211 p1.toNatClampNeg).toNatClampNeg)) + x62)) fun σ66 =>
            some ((), σ66)))))))
          else
            some ((), σ44)
      else
        some ((), σ32))))))))))))))
    else
      fX11_hang_32 p1 σ)
  else
    fX11_hang_32 p1 σ)))
set_option maxHeartbeats 4000000 in
set_option maxRecDepth 100000 in
theorem pX11_hang {E : gE} {p1 : Int32} {r : Unit} {σ' : gS} {σ : gS} (h : fX11_hang p1 σ = some (r, σ')) : gG E mX11_hang 0 [(0, .ref 168), (1, .int p1)] [] σ (none) σ' := by
  unfold fX11_hang at h
  refine g_aload_n dX11_hang_0 rfl 0 rfl ?_
  refine g_getC (n := 211) dX11_hang_1 gi_168 rfl fl_RX11_149 ?_
  refine g_iload_n dX11_hang_4 rfl 1 rfl ?_
  obtain ⟨g1, h⟩ := gg_some h
  refine g_iald dX11_hang_5 gi_211 g1 ?_
  refine g_istore_n (lv' := [(2, .int (σ.1 211 p1.toNatClampNeg)), (0, .ref 168), (1, .int p1)]) dX11_hang_6 rfl (Nat.le_of_ble_eq_true rfl) rfl ?_
  refine g_aload_n dX11_hang_7 rfl 1 rfl ?_
  refine g_getC (n := 212) dX11_hang_8 gi_168 rfl fl_RX11_152 ?_
  refine g_iload_n dX11_hang_11 rfl 2 rfl ?_
  obtain ⟨g2, h⟩ := gg_some h
  refine g_iald dX11_hang_12 gi_212 g2 ?_
  refine g_istore_n (lv' := [(3, .int (σ.1 212 p1.toNatClampNeg)), (2, .int (σ.1 211 p1.toNatClampNeg)), (0, .ref 168), (1, .int p1)]) dX11_hang_13 rfl (Nat.le_of_ble_eq_true rfl) rfl ?_
  refine g_aload_n dX11_hang_14 rfl 2 rfl ?_
  refine g_getC (n := 218) dX11_hang_15 gi_168 rfl fl_RX11_170 ?_
  refine g_iload_n dX11_hang_18 rfl 1 rfl ?_
  obtain ⟨g3, h⟩ := gg_some h
  refine g_iald dX11_hang_19 gi_218 g3 ?_
  refine g_if_ne (t := 32) dX11_hang_20 (by decide) (fun c4 => ?_) (fun c4 => ?_)
  · replace h := if_f h c4
    refine g_sub [2, 3] rfl ?_
    exact pX11_hang_32 h
  · replace h := if_t h c4
    refine g_aload_n dX11_hang_23 rfl 2 rfl ?_
    refine g_getC (n := 218) dX11_hang_24 gi_168 rfl fl_RX11_170 ?_
    refine g_iload_n dX11_hang_27 rfl 0 rfl ?_
    obtain ⟨g5, h⟩ := gg_some h
    refine g_iald dX11_hang_28 gi_218 g5 ?_
    refine g_if_eq (t := 40) dX11_hang_29 (by decide) (fun c6 => ?_) (fun c6 => ?_)
    · replace h := if_t h c6
      refine g_aload_n dX11_hang_40 rfl 2 rfl ?_
      refine g_getC (n := 218) dX11_hang_41 gi_168 rfl fl_RX11_170 ?_
      refine g_iload_n dX11_hang_44 rfl 3 rfl ?_
      refine g_iconst (v := 2) dX11_hang_45 (by decide) ?_
      obtain ⟨g7, h⟩ := gg_some h
      obtain ⟨σ8, eσ8, h⟩ := bnd_nm h
      refine g_iast dX11_hang_46 gi_218 g7 (g_st eσ8 ?_)
      refine g_aload_n dX11_hang_47 rfl 2 rfl ?_
      refine g_getC (n := 170) dX11_hang_48 gi_168 rfl fl_RX11_13 ?_
      refine g_iload_n dX11_hang_51 rfl 3 rfl ?_
      obtain ⟨g9, h⟩ := gg_some h
      refine g_iald dX11_hang_52 gi_170 g9 ?_
      refine g_aload_n dX11_hang_53 rfl 2 rfl ?_
      refine g_getC (n := 170) dX11_hang_54 gi_168 rfl fl_RX11_13 ?_
      refine g_iload_n dX11_hang_57 rfl 1 rfl ?_
      obtain ⟨g10, h⟩ := gg_some h
      refine g_iald dX11_hang_58 gi_170 g10 ?_
      refine g_isub dX11_hang_59 ?_
      refine g_i2l dX11_hang_60 ?_
      refine g_aload_n dX11_hang_61 rfl 2 rfl ?_
      refine g_getC (n := 171) dX11_hang_62 gi_168 rfl fl_RX11_17 ?_
      refine g_iload_n dX11_hang_65 rfl 3 rfl ?_
      obtain ⟨g11, h⟩ := gg_some h
      refine g_iald dX11_hang_66 gi_171 g11 ?_
      refine g_aload_n dX11_hang_67 rfl 2 rfl ?_
      refine g_getC (n := 171) dX11_hang_68 gi_168 rfl fl_RX11_17 ?_
      refine g_iload_n dX11_hang_71 rfl 1 rfl ?_
      obtain ⟨g12, h⟩ := gg_some h
      refine g_iald dX11_hang_72 gi_171 g12 ?_
      refine g_isub dX11_hang_73 ?_
      refine g_i2l dX11_hang_74 ?_
      obtain ⟨x13, σ14, y15, h⟩ := bd_some h
      refine g_callSr (as := [.long (((σ8.1 170 p1.toNatClampNeg) - (σ8.1 170 ((σ.1 211 p1.toNatClampNeg).toNatClampNeg))).toInt64), .long (((σ8.1 171 p1.toNatClampNeg) - (σ8.1 171 ((σ.1 211 p1.toNatClampNeg).toNatClampNeg))).toInt64)]) (st := []) (zX11_square y15) dX11_hang_75 okX11_hang_486 (Nat.le_of_ble_eq_true rfl) ?_
      refine g_bipush (v := 20) dX11_hang_78 (by decide) ?_
      refine g_lshl dX11_hang_80 ?_
      obtain ⟨x16, ex16, h⟩ := bnd_nm h
      refine g_topl ex16 ?_
      refine g_lstore (lv' := [(4, .long x16), (3, .int (σ.1 212 p1.toNatClampNeg)), (2, .int (σ.1 211 p1.toNatClampNeg)), (0, .ref 168), (1, .int p1)]) dX11_hang_81 (Nat.le_of_ble_eq_true rfl) rfl ?_
      refine g_aload_n dX11_hang_83 rfl 3 rfl ?_
      refine g_getC (n := 170) dX11_hang_84 gi_168 rfl fl_RX11_13 ?_
      refine g_iload_n dX11_hang_87 rfl 4 rfl ?_
      obtain ⟨g17, h⟩ := gg_some h
      refine g_iald dX11_hang_88 gi_170 g17 ?_
      refine g_aload_n dX11_hang_89 rfl 3 rfl ?_
      refine g_getC (n := 170) dX11_hang_90 gi_168 rfl fl_RX11_13 ?_
      refine g_iload_n dX11_hang_93 rfl 1 rfl ?_
      obtain ⟨g18, h⟩ := gg_some h
      refine g_iald dX11_hang_94 gi_170 g18 ?_
      refine g_isub dX11_hang_95 ?_
      refine g_i2l dX11_hang_96 ?_
      refine g_aload_n dX11_hang_97 rfl 3 rfl ?_
      refine g_getC (n := 171) dX11_hang_98 gi_168 rfl fl_RX11_17 ?_
      refine g_iload_n dX11_hang_101 rfl 4 rfl ?_
      obtain ⟨g19, h⟩ := gg_some h
      refine g_iald dX11_hang_102 gi_171 g19 ?_
      refine g_aload_n dX11_hang_103 rfl 3 rfl ?_
      refine g_getC (n := 171) dX11_hang_104 gi_168 rfl fl_RX11_17 ?_
      refine g_iload_n dX11_hang_107 rfl 1 rfl ?_
      obtain ⟨g20, h⟩ := gg_some h
      refine g_iald dX11_hang_108 gi_171 g20 ?_
      refine g_isub dX11_hang_109 ?_
      refine g_i2l dX11_hang_110 ?_
      obtain ⟨x21, σ22, y23, h⟩ := bd_some h
      refine g_callSr (as := [.long (((σ14.1 170 p1.toNatClampNeg) - (σ14.1 170 ((σ.1 212 p1.toNatClampNeg).toNatClampNeg))).toInt64), .long (((σ14.1 171 p1.toNatClampNeg) - (σ14.1 171 ((σ.1 212 p1.toNatClampNeg).toNatClampNeg))).toInt64)]) (st := []) (zX11_square y23) dX11_hang_111 okX11_hang_486 (Nat.le_of_ble_eq_true rfl) ?_
      refine g_bipush (v := 20) dX11_hang_114 (by decide) ?_
      refine g_lshl dX11_hang_116 ?_
      obtain ⟨x24, ex24, h⟩ := bnd_nm h
      refine g_topl ex24 ?_
      refine g_lstore (lv' := [(6, .long x24), (4, .long x16), (3, .int (σ.1 212 p1.toNatClampNeg)), (2, .int (σ.1 211 p1.toNatClampNeg)), (0, .ref 168), (1, .int p1)]) dX11_hang_117 (Nat.le_of_ble_eq_true rfl) rfl ?_
      refine g_aload_n dX11_hang_119 rfl 4 rfl ?_
      refine g_getC (n := 216) dX11_hang_120 gi_168 rfl fl_RX11_164 ?_
      refine g_iload_n dX11_hang_123 rfl 2 rfl ?_
      obtain ⟨g25, h⟩ := gg_some h
      refine g_lald dX11_hang_124 gi_216 g25 ?_
      refine g_aload_n dX11_hang_125 rfl 4 rfl ?_
      refine g_getC (n := 216) dX11_hang_126 gi_168 rfl fl_RX11_164 ?_
      refine g_iload_n dX11_hang_129 rfl 3 rfl ?_
      obtain ⟨g26, h⟩ := gg_some h
      refine g_lald dX11_hang_130 gi_216 g26 ?_
      refine g_lsub dX11_hang_131 ?_
      obtain ⟨x27, ex27, h⟩ := bnd_nm h
      refine g_topl ex27 ?_
      refine g_lstore (lv' := [(8, .long x27), (6, .long x24), (4, .long x16), (3, .int (σ.1 212 p1.toNatClampNeg)), (2, .int (σ.1 211 p1.toNatClampNeg)), (0, .ref 168), (1, .int p1)]) dX11_hang_132 (Nat.le_of_ble_eq_true rfl) rfl ?_
      refine g_aload_n dX11_hang_134 rfl 5 rfl ?_
      refine g_getC (n := 217) dX11_hang_135 gi_168 rfl fl_RX11_167 ?_
      refine g_iload_n dX11_hang_138 rfl 3 rfl ?_
      obtain ⟨g28, h⟩ := gg_some h
      refine g_lald dX11_hang_139 gi_217 g28 ?_
      refine g_aload_n dX11_hang_140 rfl 5 rfl ?_
      refine g_getC (n := 217) dX11_hang_141 gi_168 rfl fl_RX11_167 ?_
      refine g_iload_n dX11_hang_144 rfl 4 rfl ?_
      obtain ⟨g29, h⟩ := gg_some h
      refine g_lald dX11_hang_145 gi_217 g29 ?_
      refine g_lsub dX11_hang_146 ?_
      obtain ⟨x30, ex30, h⟩ := bnd_nm h
      refine g_topl ex30 ?_
      refine g_lstore (lv' := [(10, .long x30), (8, .long x27), (6, .long x24), (4, .long x16), (3, .int (σ.1 212 p1.toNatClampNeg)), (2, .int (σ.1 211 p1.toNatClampNeg)), (0, .ref 168), (1, .int p1)]) dX11_hang_147 (Nat.le_of_ble_eq_true rfl) rfl ?_
      refine g_lload dX11_hang_149 1 rfl ?_
      refine g_lload dX11_hang_151 0 rfl ?_
      obtain ⟨x31, σ32, y33, h⟩ := bd_some h
      refine g_callSr (as := [.long x27, .long x30]) (st := []) (zX11_square y33) dX11_hang_153 okX11_hang_486 (Nat.le_of_ble_eq_true rfl) ?_
      refine g_lstore (lv' := [(12, .long x31), (10, .long x30), (8, .long x27), (6, .long x24), (4, .long x16), (3, .int (σ.1 212 p1.toNatClampNeg)), (2, .int (σ.1 211 p1.toNatClampNeg)), (0, .ref 168), (1, .int p1)]) dX11_hang_156 (Nat.le_of_ble_eq_true rfl) rfl ?_
      refine g_lload dX11_hang_158 0 rfl ?_
      refine g_ldc2 (v := 1048576) dX11_hang_160 wl_RX11_489 ?_
      refine g_lcmp dX11_hang_163 ?_
      refine g_if_ge (t := 168) dX11_hang_164 (by decide) (fun c34 => ?_) (fun c34 => ?_)
      · replace h := if_t h c34
        refine g_ldc2 (v := 32768) dX11_hang_168 wl_RX11_491 ?_
        refine g_ldc2 (v := 32768) dX11_hang_171 wl_RX11_491 ?_
        refine g_lload dX11_hang_174 4 rfl ?_
        refine g_lload dX11_hang_176 3 rfl ?_
        refine g_lsub dX11_hang_178 ?_
        refine g_lmul dX11_hang_179 ?_
        refine g_lload dX11_hang_180 0 rfl ?_
        obtain ⟨x35, σ36, y37, h⟩ := bd_some h
        refine g_callSr (as := [.long (32768 * (x16 - x24)), .long x31]) (st := [.long 32768]) (zX11_down y37) dX11_hang_182 okX11_hang_473 (Nat.le_of_ble_eq_true rfl) ?_
        refine g_ladd dX11_hang_185 ?_
        obtain ⟨x38, ex38, h⟩ := bnd_nm h
        refine g_topl ex38 ?_
        refine g_lstore (lv' := [(14, .long x38), (12, .long x31), (10, .long x30), (8, .long x27), (6, .long x24), (4, .long x16), (3, .int (σ.1 212 p1.toNatClampNeg)), (2, .int (σ.1 211 p1.toNatClampNeg)), (0, .ref 168), (1, .int p1)]) dX11_hang_186 (Nat.le_of_ble_eq_true rfl) rfl ?_
        refine g_lload dX11_hang_188 0 rfl ?_
        refine g_ldc2 (v := (-268435456)) dX11_hang_190 wl_RX11_493 ?_
        refine g_ldc2 (v := 268435456) dX11_hang_193 wl_RX11_495 ?_
        obtain ⟨x39, σ40, y41, h⟩ := bd_some h
        refine g_callSr (as := [.long x38, .long (-268435456), .long 268435456]) (st := []) (zX11_in y41) dX11_hang_196 okX11_hang_220 (Nat.le_of_ble_eq_true rfl) ?_
        refine g_if_ne (t := 203) dX11_hang_199 (by decide) (fun c42 => ?_) (fun c42 => ?_)
        · replace h := if_f h c42
          refine g_lload dX11_hang_203 5 rfl ?_
          refine g_lload dX11_hang_205 1 rfl ?_
          obtain ⟨x43, σ44, y45, h⟩ := bd_some h
          refine g_callSr (as := [.long x16, .long x31]) (st := []) (zX11_highQuotient y45) dX11_hang_207 okX11_hang_497 (Nat.le_of_ble_eq_true rfl) ?_
          refine g_lload dX11_hang_210 0 rfl ?_
          refine g_lload dX11_hang_212 0 rfl ?_
          refine g_lmul dX11_hang_214 ?_
          refine g_lsub dX11_hang_215 ?_
          obtain ⟨x46, ex46, h⟩ := bnd_nm h
          refine g_topl ex46 ?_
          refine g_lstore (lv' := [(16, .long x46), (14, .long x38), (12, .long x31), (10, .long x30), (8, .long x27), (6, .long x24), (4, .long x16), (3, .int (σ.1 212 p1.toNatClampNeg)), (2, .int (σ.1 211 p1.toNatClampNeg)), (0, .ref 168), (1, .int p1)]) dX11_hang_216 (Nat.le_of_ble_eq_true rfl) rfl ?_
          refine g_lload dX11_hang_218 0 rfl ?_
          refine g_lconst (v := 0) dX11_hang_220 (by decide) ?_
          refine g_lcmp dX11_hang_221 ?_
          refine g_if_ge (t := 226) dX11_hang_222 (by decide) (fun c47 => ?_) (fun c47 => ?_)
          · replace h := if_t h c47
            refine g_aload_n dX11_hang_226 rfl 9 rfl ?_
            refine g_getC (n := 215) dX11_hang_227 gi_168 rfl fl_RX11_161 ?_
            refine g_iload_n dX11_hang_230 rfl 10 rfl ?_
            obtain ⟨g48, h⟩ := gg_some h
            refine g_iald dX11_hang_231 gi_215 g48 ?_
            refine g_i2l dX11_hang_232 ?_
            refine g_lload dX11_hang_233 0 rfl ?_
            obtain ⟨x49, σ50, y51, h⟩ := bd_some h
            refine g_callSr (as := [.long x46]) (st := [.long ((σ44.1 215 p1.toNatClampNeg).toInt64)]) (zX11_root y51) dX11_hang_235 okX11_hang_500 (Nat.le_of_ble_eq_true rfl) ?_
            refine g_lmul dX11_hang_238 ?_
            obtain ⟨x52, ex52, h⟩ := bnd_nm h
            refine g_topl ex52 ?_
            refine g_lstore (lv' := [(18, .long x52), (16, .long x46), (14, .long x38), (12, .long x31), (10, .long x30), (8, .long x27), (6, .long x24), (4, .long x16), (3, .int (σ.1 212 p1.toNatClampNeg)), (2, .int (σ.1 211 p1.toNatClampNeg)), (0, .ref 168), (1, .int p1)]) dX11_hang_239 (Nat.le_of_ble_eq_true rfl) rfl ?_
            refine g_aload_n dX11_hang_241 rfl 10 rfl ?_
            refine g_getC (n := 218) dX11_hang_242 gi_168 rfl fl_RX11_170 ?_
            refine g_iload_n dX11_hang_245 rfl 11 rfl ?_
            refine g_iconst (v := 0) dX11_hang_246 (by decide) ?_
            obtain ⟨g53, h⟩ := gg_some h
            obtain ⟨σ54, eσ54, h⟩ := bnd_nm h
            refine g_iast dX11_hang_247 gi_218 g53 (g_st eσ54 ?_)
            refine g_aload_n dX11_hang_248 rfl 10 rfl ?_
            refine g_getC (n := 216) dX11_hang_249 gi_168 rfl fl_RX11_164 ?_
            refine g_iload_n dX11_hang_252 rfl 11 rfl ?_
            refine g_aload_n dX11_hang_253 rfl 10 rfl ?_
            refine g_getC (n := 216) dX11_hang_254 gi_168 rfl fl_RX11_164 ?_
            refine g_iload_n dX11_hang_257 rfl 9 rfl ?_
            obtain ⟨g55, h⟩ := gg_some h
            refine g_lald dX11_hang_258 gi_216 g55 ?_
            refine g_lload dX11_hang_259 2 rfl ?_
            refine g_lload dX11_hang_261 5 rfl ?_
            refine g_lmul dX11_hang_263 ?_
            refine g_lload dX11_hang_264 0 rfl ?_
            refine g_lload dX11_hang_266 4 rfl ?_
            refine g_lmul dX11_hang_268 ?_
            refine g_lsub dX11_hang_269 ?_
            refine g_ldc2 (v := 65536) dX11_hang_270 wl_RX11_469 ?_
            obtain ⟨x56, σ57, y58, h⟩ := bd_some h
            refine g_callSr (as := [.long ((x38 * x27) - (x52 * x30)), .long 65536]) (st := [.long (σ54.2.1 216 ((σ.1 211 p1.toNatClampNeg).toNatClampNeg)), .int p1, .ref 216]) (zX11_down y58) dX11_hang_273 okX11_hang_473 (Nat.le_of_ble_eq_true rfl) ?_
            refine g_ladd dX11_hang_276 ?_
            obtain ⟨g59, h⟩ := gg_some h
            obtain ⟨σ60, eσ60, h⟩ := bnd_nm h
            refine g_last dX11_hang_277 gi_216 g59 (g_st eσ60 ?_)
            refine g_aload_n dX11_hang_278 rfl 10 rfl ?_
            refine g_getC (n := 217) dX11_hang_279 gi_168 rfl fl_RX11_167 ?_
            refine g_iload_n dX11_hang_282 rfl 11 rfl ?_
            refine g_aload_n dX11_hang_283 rfl 10 rfl ?_
            refine g_getC (n := 217) dX11_hang_284 gi_168 rfl fl_RX11_167 ?_
            refine g_iload_n dX11_hang_287 rfl 9 rfl ?_
            obtain ⟨g61, h⟩ := gg_some h
            refine g_lald dX11_hang_288 gi_217 g61 ?_
            refine g_lload dX11_hang_289 2 rfl ?_
            refine g_lload dX11_hang_291 4 rfl ?_
            refine g_lmul dX11_hang_293 ?_
            refine g_lload dX11_hang_294 0 rfl ?_
            refine g_lload dX11_hang_296 5 rfl ?_
            refine g_lmul dX11_hang_298 ?_
            refine g_ladd dX11_hang_299 ?_
            refine g_ldc2 (v := 65536) dX11_hang_300 wl_RX11_469 ?_
            obtain ⟨x62, σ63, y64, h⟩ := bd_some h
            refine g_callSr (as := [.long ((x38 * x30) + (x52 * x27)), .long 65536]) (st := [.long (σ60.2.1 217 ((σ.1 211 p1.toNatClampNeg).toNatClampNeg)), .int p1, .ref 217]) (zX11_down y64) dX11_hang_303 okX11_hang_473 (Nat.le_of_ble_eq_true rfl) ?_
            refine g_ladd dX11_hang_306 ?_
            obtain ⟨g65, h⟩ := gg_some h
            obtain ⟨σ66, eσ66, h⟩ := bnd_nm h
            refine g_last dX11_hang_307 gi_217 g65 (g_st eσ66 ?_)
            obtain ⟨rfl, rfl⟩ := so_inj h
            exact g_vret dX11_hang_308 rfl
          · replace h := if_f h c47
            obtain ⟨rfl, rfl⟩ := so_inj h
            exact g_vret dX11_hang_225 rfl
        · replace h := if_t h c42
          obtain ⟨rfl, rfl⟩ := so_inj h
          exact g_vret dX11_hang_202 rfl
      · replace h := if_f h c34
        obtain ⟨rfl, rfl⟩ := so_inj h
        exact g_vret dX11_hang_167 rfl
    · replace h := if_f h c6
      refine g_sub [2, 3] rfl ?_
      exact pX11_hang_32 h
theorem zX11_hang {E : gE} {p1 : Int32} {r : Unit} {σ σ' : gS} (h : fX11_hang p1 σ = some (r, σ')) : gC E mX11_hang [.ref 168, .int p1] σ (none) σ' :=
  gC_of (by decide +kernel) rfl (Nat.le_of_ble_eq_true rfl) (pX11_hang h)
theorem wl_RX11_479 : Cond.constantLong RX11 479 1024 ∈ gWS := (gm 1756 (by decide +kernel) rfl)
theorem fl_RX11_58 : gFl RX11 58 11 20 := ⟨RX11, TX11, 101, rfl, by decide, ux_11, Or.inl (gm 1248 (by decide +kernel) rfl)⟩
theorem wl_RX11_481 : Cond.constantLong RX11 481 64 ∈ gWS := (gm 1757 (by decide +kernel) rfl)
theorem wl_RX11_471 : Cond.constantLong RX11 471 4096 ∈ gWS := (gm 1751 (by decide +kernel) rfl)
theorem wl_RX11_477 : Cond.constantLong RX11 477 8388608 ∈ gWS := (gm 1755 (by decide +kernel) rfl)
def mX11_turn : gM := (yX11_turn, cX11_turn, RX11, 13, none, 2, 67)
theorem dX11_turn_0 : decode mX11_turn.2.1 0 = .ok (.iload_n 1, 1) := by decide +kernel
theorem dX11_turn_1 : decode mX11_turn.2.1 1 = .ok (.bipush 64, 2) := by decide +kernel
theorem dX11_turn_3 : decode mX11_turn.2.1 3 = .ok (.irem, 1) := by decide +kernel
theorem dX11_turn_4 : decode mX11_turn.2.1 4 = .ok (.i2l, 1) := by decide +kernel
theorem dX11_turn_5 : decode mX11_turn.2.1 5 = .ok (.lstore_n 2, 1) := by decide +kernel
theorem dX11_turn_6 : decode mX11_turn.2.1 6 = .ok (.ldc2_w 469, 3) := by decide +kernel
theorem dX11_turn_9 : decode mX11_turn.2.1 9 = .ok (.ldc2_w 471, 3) := by decide +kernel
theorem dX11_turn_12 : decode mX11_turn.2.1 12 = .ok (.lload_n 2, 1) := by decide +kernel
theorem dX11_turn_13 : decode mX11_turn.2.1 13 = .ok (.lload_n 2, 1) := by decide +kernel
theorem dX11_turn_14 : decode mX11_turn.2.1 14 = .ok (.lmul, 1) := by decide +kernel
theorem dX11_turn_15 : decode mX11_turn.2.1 15 = .ok (.lsub, 1) := by decide +kernel
theorem dX11_turn_16 : decode mX11_turn.2.1 16 = .ok (.lmul, 1) := by decide +kernel
theorem dX11_turn_17 : decode mX11_turn.2.1 17 = .ok (.ldc2_w 471, 3) := by decide +kernel
theorem dX11_turn_20 : decode mX11_turn.2.1 20 = .ok (.lload_n 2, 1) := by decide +kernel
theorem dX11_turn_21 : decode mX11_turn.2.1 21 = .ok (.lload_n 2, 1) := by decide +kernel
theorem dX11_turn_22 : decode mX11_turn.2.1 22 = .ok (.lmul, 1) := by decide +kernel
theorem dX11_turn_23 : decode mX11_turn.2.1 23 = .ok (.ladd, 1) := by decide +kernel
theorem dX11_turn_24 : decode mX11_turn.2.1 24 = .ok (.invokestatic 473, 3) := by decide +kernel
theorem dX11_turn_27 : decode mX11_turn.2.1 27 = .ok (.lstore 4, 2) := by decide +kernel
theorem dX11_turn_29 : decode mX11_turn.2.1 29 = .ok (.ldc2_w 477, 3) := by decide +kernel
theorem dX11_turn_32 : decode mX11_turn.2.1 32 = .ok (.lload_n 2, 1) := by decide +kernel
theorem dX11_turn_33 : decode mX11_turn.2.1 33 = .ok (.lmul, 1) := by decide +kernel
theorem dX11_turn_34 : decode mX11_turn.2.1 34 = .ok (.ldc2_w 471, 3) := by decide +kernel
theorem dX11_turn_37 : decode mX11_turn.2.1 37 = .ok (.lload_n 2, 1) := by decide +kernel
theorem dX11_turn_38 : decode mX11_turn.2.1 38 = .ok (.lload_n 2, 1) := by decide +kernel
theorem dX11_turn_39 : decode mX11_turn.2.1 39 = .ok (.lmul, 1) := by decide +kernel
theorem dX11_turn_40 : decode mX11_turn.2.1 40 = .ok (.ladd, 1) := by decide +kernel
theorem dX11_turn_41 : decode mX11_turn.2.1 41 = .ok (.invokestatic 473, 3) := by decide +kernel
theorem dX11_turn_44 : decode mX11_turn.2.1 44 = .ok (.lstore 6, 2) := by decide +kernel
theorem dX11_turn_46 : decode mX11_turn.2.1 46 = .ok (.iconst 0, 1) := by decide +kernel
theorem dX11_turn_47 : decode mX11_turn.2.1 47 = .ok (.istore 8, 2) := by decide +kernel
theorem dX11_turn_49 : decode mX11_turn.2.1 49 = .ok (.iload 8, 2) := by decide +kernel
theorem dX11_turn_51 : decode mX11_turn.2.1 51 = .ok (.iload_n 1, 1) := by decide +kernel
theorem dX11_turn_52 : decode mX11_turn.2.1 52 = .ok (.bipush 64, 2) := by decide +kernel
theorem dX11_turn_54 : decode mX11_turn.2.1 54 = .ok (.idiv, 1) := by decide +kernel
theorem dX11_turn_55 : decode mX11_turn.2.1 55 = .ok (.if_icmp .ge 22, 3) := by decide +kernel
theorem dX11_turn_58 : decode mX11_turn.2.1 58 = .ok (.lload 4, 2) := by decide +kernel
theorem dX11_turn_60 : decode mX11_turn.2.1 60 = .ok (.lstore 9, 2) := by decide +kernel
theorem dX11_turn_62 : decode mX11_turn.2.1 62 = .ok (.lload 6, 2) := by decide +kernel
theorem dX11_turn_64 : decode mX11_turn.2.1 64 = .ok (.lneg, 1) := by decide +kernel
theorem dX11_turn_65 : decode mX11_turn.2.1 65 = .ok (.lstore 4, 2) := by decide +kernel
theorem dX11_turn_67 : decode mX11_turn.2.1 67 = .ok (.lload 9, 2) := by decide +kernel
theorem dX11_turn_69 : decode mX11_turn.2.1 69 = .ok (.lstore 6, 2) := by decide +kernel
theorem dX11_turn_71 : decode mX11_turn.2.1 71 = .ok (.iinc 8 1, 3) := by decide +kernel
theorem dX11_turn_74 : decode mX11_turn.2.1 74 = .ok (.goto (-25), 3) := by decide +kernel
theorem dX11_turn_77 : decode mX11_turn.2.1 77 = .ok (.iconst 0, 1) := by decide +kernel
theorem dX11_turn_78 : decode mX11_turn.2.1 78 = .ok (.istore 8, 2) := by decide +kernel
theorem dX11_turn_80 : decode mX11_turn.2.1 80 = .ok (.iload 8, 2) := by decide +kernel
theorem dX11_turn_82 : decode mX11_turn.2.1 82 = .ok (.aload_n 0, 1) := by decide +kernel
theorem dX11_turn_83 : decode mX11_turn.2.1 83 = .ok (.getfield 374, 3) := by decide +kernel
theorem dX11_turn_86 : decode mX11_turn.2.1 86 = .ok (.if_icmp .ge 69, 3) := by decide +kernel
theorem dX11_turn_89 : decode mX11_turn.2.1 89 = .ok (.aload_n 0, 1) := by decide +kernel
theorem dX11_turn_90 : decode mX11_turn.2.1 90 = .ok (.getfield 170, 3) := by decide +kernel
theorem dX11_turn_93 : decode mX11_turn.2.1 93 = .ok (.iload 8, 2) := by decide +kernel
theorem dX11_turn_95 : decode mX11_turn.2.1 95 = .ok (.aload_n 0, 1) := by decide +kernel
theorem dX11_turn_96 : decode mX11_turn.2.1 96 = .ok (.getfield 20, 3) := by decide +kernel
theorem dX11_turn_99 : decode mX11_turn.2.1 99 = .ok (.iload 8, 2) := by decide +kernel
theorem dX11_turn_101 : decode mX11_turn.2.1 101 = .ok (.baload, 1) := by decide +kernel
theorem dX11_turn_102 : decode mX11_turn.2.1 102 = .ok (.ifCond .eq 7, 3) := by decide +kernel
theorem dX11_turn_105 : decode mX11_turn.2.1 105 = .ok (.iconst 0, 1) := by decide +kernel
theorem dX11_turn_106 : decode mX11_turn.2.1 106 = .ok (.goto 4, 3) := by decide +kernel
theorem dX11_turn_109 : decode mX11_turn.2.1 109 = .ok (.iconst 1, 1) := by decide +kernel
theorem dX11_turn_110 : decode mX11_turn.2.1 110 = .ok (.iastore, 1) := by decide +kernel
theorem dX11_turn_111 : decode mX11_turn.2.1 111 = .ok (.aload_n 0, 1) := by decide +kernel
theorem dX11_turn_112 : decode mX11_turn.2.1 112 = .ok (.getfield 164, 3) := by decide +kernel
theorem dX11_turn_115 : decode mX11_turn.2.1 115 = .ok (.iload 8, 2) := by decide +kernel
theorem dX11_turn_117 : decode mX11_turn.2.1 117 = .ok (.ldc2_w 479, 3) := by decide +kernel
theorem dX11_turn_120 : decode mX11_turn.2.1 120 = .ok (.aload_n 0, 1) := by decide +kernel
theorem dX11_turn_121 : decode mX11_turn.2.1 121 = .ok (.getfield 13, 3) := by decide +kernel
theorem dX11_turn_124 : decode mX11_turn.2.1 124 = .ok (.iload 8, 2) := by decide +kernel
theorem dX11_turn_126 : decode mX11_turn.2.1 126 = .ok (.iaload, 1) := by decide +kernel
theorem dX11_turn_127 : decode mX11_turn.2.1 127 = .ok (.i2l, 1) := by decide +kernel
theorem dX11_turn_128 : decode mX11_turn.2.1 128 = .ok (.lmul, 1) := by decide +kernel
theorem dX11_turn_129 : decode mX11_turn.2.1 129 = .ok (.lastore, 1) := by decide +kernel
theorem dX11_turn_130 : decode mX11_turn.2.1 130 = .ok (.aload_n 0, 1) := by decide +kernel
theorem dX11_turn_131 : decode mX11_turn.2.1 131 = .ok (.getfield 167, 3) := by decide +kernel
theorem dX11_turn_134 : decode mX11_turn.2.1 134 = .ok (.iload 8, 2) := by decide +kernel
theorem dX11_turn_136 : decode mX11_turn.2.1 136 = .ok (.ldc2_w 479, 3) := by decide +kernel
theorem dX11_turn_139 : decode mX11_turn.2.1 139 = .ok (.aload_n 0, 1) := by decide +kernel
theorem dX11_turn_140 : decode mX11_turn.2.1 140 = .ok (.getfield 17, 3) := by decide +kernel
theorem dX11_turn_143 : decode mX11_turn.2.1 143 = .ok (.iload 8, 2) := by decide +kernel
theorem dX11_turn_145 : decode mX11_turn.2.1 145 = .ok (.iaload, 1) := by decide +kernel
theorem dX11_turn_146 : decode mX11_turn.2.1 146 = .ok (.i2l, 1) := by decide +kernel
theorem dX11_turn_147 : decode mX11_turn.2.1 147 = .ok (.lmul, 1) := by decide +kernel
theorem dX11_turn_148 : decode mX11_turn.2.1 148 = .ok (.lastore, 1) := by decide +kernel
theorem dX11_turn_149 : decode mX11_turn.2.1 149 = .ok (.iinc 8 1, 3) := by decide +kernel
theorem dX11_turn_152 : decode mX11_turn.2.1 152 = .ok (.goto (-72), 3) := by decide +kernel
theorem dX11_turn_155 : decode mX11_turn.2.1 155 = .ok (.aload_n 0, 1) := by decide +kernel
theorem dX11_turn_156 : decode mX11_turn.2.1 156 = .ok (.getfield 13, 3) := by decide +kernel
theorem dX11_turn_159 : decode mX11_turn.2.1 159 = .ok (.aload_n 0, 1) := by decide +kernel
theorem dX11_turn_160 : decode mX11_turn.2.1 160 = .ok (.getfield 54, 3) := by decide +kernel
theorem dX11_turn_163 : decode mX11_turn.2.1 163 = .ok (.iaload, 1) := by decide +kernel
theorem dX11_turn_164 : decode mX11_turn.2.1 164 = .ok (.aload_n 0, 1) := by decide +kernel
theorem dX11_turn_165 : decode mX11_turn.2.1 165 = .ok (.getfield 13, 3) := by decide +kernel
theorem dX11_turn_168 : decode mX11_turn.2.1 168 = .ok (.aload_n 0, 1) := by decide +kernel
theorem dX11_turn_169 : decode mX11_turn.2.1 169 = .ok (.getfield 58, 3) := by decide +kernel
theorem dX11_turn_172 : decode mX11_turn.2.1 172 = .ok (.iaload, 1) := by decide +kernel
theorem dX11_turn_173 : decode mX11_turn.2.1 173 = .ok (.isub, 1) := by decide +kernel
theorem dX11_turn_174 : decode mX11_turn.2.1 174 = .ok (.i2l, 1) := by decide +kernel
theorem dX11_turn_175 : decode mX11_turn.2.1 175 = .ok (.lstore 8, 2) := by decide +kernel
theorem dX11_turn_177 : decode mX11_turn.2.1 177 = .ok (.aload_n 0, 1) := by decide +kernel
theorem dX11_turn_178 : decode mX11_turn.2.1 178 = .ok (.getfield 17, 3) := by decide +kernel
theorem dX11_turn_181 : decode mX11_turn.2.1 181 = .ok (.aload_n 0, 1) := by decide +kernel
theorem dX11_turn_182 : decode mX11_turn.2.1 182 = .ok (.getfield 54, 3) := by decide +kernel
theorem dX11_turn_185 : decode mX11_turn.2.1 185 = .ok (.iaload, 1) := by decide +kernel
theorem dX11_turn_186 : decode mX11_turn.2.1 186 = .ok (.aload_n 0, 1) := by decide +kernel
theorem dX11_turn_187 : decode mX11_turn.2.1 187 = .ok (.getfield 17, 3) := by decide +kernel
theorem dX11_turn_190 : decode mX11_turn.2.1 190 = .ok (.aload_n 0, 1) := by decide +kernel
theorem dX11_turn_191 : decode mX11_turn.2.1 191 = .ok (.getfield 58, 3) := by decide +kernel
theorem dX11_turn_194 : decode mX11_turn.2.1 194 = .ok (.iaload, 1) := by decide +kernel
theorem dX11_turn_195 : decode mX11_turn.2.1 195 = .ok (.isub, 1) := by decide +kernel
theorem dX11_turn_196 : decode mX11_turn.2.1 196 = .ok (.i2l, 1) := by decide +kernel
theorem dX11_turn_197 : decode mX11_turn.2.1 197 = .ok (.lstore 10, 2) := by decide +kernel
theorem dX11_turn_199 : decode mX11_turn.2.1 199 = .ok (.aload_n 0, 1) := by decide +kernel
theorem dX11_turn_200 : decode mX11_turn.2.1 200 = .ok (.getfield 170, 3) := by decide +kernel
theorem dX11_turn_203 : decode mX11_turn.2.1 203 = .ok (.aload_n 0, 1) := by decide +kernel
theorem dX11_turn_204 : decode mX11_turn.2.1 204 = .ok (.getfield 54, 3) := by decide +kernel
theorem dX11_turn_207 : decode mX11_turn.2.1 207 = .ok (.iconst 0, 1) := by decide +kernel
theorem dX11_turn_208 : decode mX11_turn.2.1 208 = .ok (.iastore, 1) := by decide +kernel
theorem dX11_turn_209 : decode mX11_turn.2.1 209 = .ok (.aload_n 0, 1) := by decide +kernel
theorem dX11_turn_210 : decode mX11_turn.2.1 210 = .ok (.getfield 164, 3) := by decide +kernel
theorem dX11_turn_213 : decode mX11_turn.2.1 213 = .ok (.aload_n 0, 1) := by decide +kernel
theorem dX11_turn_214 : decode mX11_turn.2.1 214 = .ok (.getfield 54, 3) := by decide +kernel
theorem dX11_turn_217 : decode mX11_turn.2.1 217 = .ok (.aload_n 0, 1) := by decide +kernel
theorem dX11_turn_218 : decode mX11_turn.2.1 218 = .ok (.getfield 164, 3) := by decide +kernel
theorem dX11_turn_221 : decode mX11_turn.2.1 221 = .ok (.aload_n 0, 1) := by decide +kernel
theorem dX11_turn_222 : decode mX11_turn.2.1 222 = .ok (.getfield 58, 3) := by decide +kernel
theorem dX11_turn_225 : decode mX11_turn.2.1 225 = .ok (.laload, 1) := by decide +kernel
theorem dX11_turn_226 : decode mX11_turn.2.1 226 = .ok (.lload 4, 2) := by decide +kernel
theorem dX11_turn_228 : decode mX11_turn.2.1 228 = .ok (.lload 8, 2) := by decide +kernel
theorem dX11_turn_230 : decode mX11_turn.2.1 230 = .ok (.lmul, 1) := by decide +kernel
theorem dX11_turn_231 : decode mX11_turn.2.1 231 = .ok (.lload 6, 2) := by decide +kernel
theorem dX11_turn_233 : decode mX11_turn.2.1 233 = .ok (.lload 10, 2) := by decide +kernel
theorem dX11_turn_235 : decode mX11_turn.2.1 235 = .ok (.lmul, 1) := by decide +kernel
theorem dX11_turn_236 : decode mX11_turn.2.1 236 = .ok (.lsub, 1) := by decide +kernel
theorem dX11_turn_237 : decode mX11_turn.2.1 237 = .ok (.ldc2_w 481, 3) := by decide +kernel
theorem dX11_turn_240 : decode mX11_turn.2.1 240 = .ok (.invokestatic 473, 3) := by decide +kernel
theorem dX11_turn_243 : decode mX11_turn.2.1 243 = .ok (.ladd, 1) := by decide +kernel
theorem dX11_turn_244 : decode mX11_turn.2.1 244 = .ok (.lastore, 1) := by decide +kernel
theorem dX11_turn_245 : decode mX11_turn.2.1 245 = .ok (.aload_n 0, 1) := by decide +kernel
theorem dX11_turn_246 : decode mX11_turn.2.1 246 = .ok (.getfield 167, 3) := by decide +kernel
theorem dX11_turn_249 : decode mX11_turn.2.1 249 = .ok (.aload_n 0, 1) := by decide +kernel
theorem dX11_turn_250 : decode mX11_turn.2.1 250 = .ok (.getfield 54, 3) := by decide +kernel
theorem dX11_turn_253 : decode mX11_turn.2.1 253 = .ok (.aload_n 0, 1) := by decide +kernel
theorem dX11_turn_254 : decode mX11_turn.2.1 254 = .ok (.getfield 167, 3) := by decide +kernel
theorem dX11_turn_257 : decode mX11_turn.2.1 257 = .ok (.aload_n 0, 1) := by decide +kernel
theorem dX11_turn_258 : decode mX11_turn.2.1 258 = .ok (.getfield 58, 3) := by decide +kernel
theorem dX11_turn_261 : decode mX11_turn.2.1 261 = .ok (.laload, 1) := by decide +kernel
theorem dX11_turn_262 : decode mX11_turn.2.1 262 = .ok (.lload 6, 2) := by decide +kernel
theorem dX11_turn_264 : decode mX11_turn.2.1 264 = .ok (.lload 8, 2) := by decide +kernel
theorem dX11_turn_266 : decode mX11_turn.2.1 266 = .ok (.lmul, 1) := by decide +kernel
theorem dX11_turn_267 : decode mX11_turn.2.1 267 = .ok (.lload 4, 2) := by decide +kernel
theorem dX11_turn_269 : decode mX11_turn.2.1 269 = .ok (.lload 10, 2) := by decide +kernel
theorem dX11_turn_271 : decode mX11_turn.2.1 271 = .ok (.lmul, 1) := by decide +kernel
theorem dX11_turn_272 : decode mX11_turn.2.1 272 = .ok (.ladd, 1) := by decide +kernel
theorem dX11_turn_273 : decode mX11_turn.2.1 273 = .ok (.ldc2_w 481, 3) := by decide +kernel
theorem dX11_turn_276 : decode mX11_turn.2.1 276 = .ok (.invokestatic 473, 3) := by decide +kernel
theorem dX11_turn_279 : decode mX11_turn.2.1 279 = .ok (.ladd, 1) := by decide +kernel
theorem dX11_turn_280 : decode mX11_turn.2.1 280 = .ok (.lastore, 1) := by decide +kernel
theorem dX11_turn_281 : decode mX11_turn.2.1 281 = .ok (.iconst 0, 1) := by decide +kernel
theorem dX11_turn_282 : decode mX11_turn.2.1 282 = .ok (.istore 12, 2) := by decide +kernel
theorem dX11_turn_284 : decode mX11_turn.2.1 284 = .ok (.iload 12, 2) := by decide +kernel
theorem dX11_turn_286 : decode mX11_turn.2.1 286 = .ok (.aload_n 0, 1) := by decide +kernel
theorem dX11_turn_287 : decode mX11_turn.2.1 287 = .ok (.getfield 459, 3) := by decide +kernel
theorem dX11_turn_290 : decode mX11_turn.2.1 290 = .ok (.if_icmp .ge 20, 3) := by decide +kernel
theorem dX11_turn_293 : decode mX11_turn.2.1 293 = .ok (.aload_n 0, 1) := by decide +kernel
theorem dX11_turn_294 : decode mX11_turn.2.1 294 = .ok (.aload_n 0, 1) := by decide +kernel
theorem dX11_turn_295 : decode mX11_turn.2.1 295 = .ok (.getfield 146, 3) := by decide +kernel
theorem dX11_turn_298 : decode mX11_turn.2.1 298 = .ok (.iload 12, 2) := by decide +kernel
theorem dX11_turn_300 : decode mX11_turn.2.1 300 = .ok (.iaload, 1) := by decide +kernel
theorem dX11_turn_301 : decode mX11_turn.2.1 301 = .ok (.invokevirtual 483, 3) := by decide +kernel
theorem dX11_turn_304 : decode mX11_turn.2.1 304 = .ok (.iinc 12 1, 3) := by decide +kernel
theorem dX11_turn_307 : decode mX11_turn.2.1 307 = .ok (.goto (-23), 3) := by decide +kernel
theorem dX11_turn_310 : decode mX11_turn.2.1 310 = .ok (.return_, 1) := by decide +kernel
theorem okX11_turn_483 : gOkV mX11_turn mX11_hang 483 1 := ⟨List.forall_mem_cons.mpr ⟨(gm 1761 (by decide +kernel) rfl), List.forall_mem_cons.mpr ⟨(gm 1758 (by decide +kernel) rfl), List.forall_mem_cons.mpr ⟨(gm 1760 (by decide +kernel) rfl), List.forall_mem_cons.mpr ⟨(gm 94 (by decide +kernel) rfl), List.forall_mem_cons.mpr ⟨(gm 122 (by decide +kernel) rfl), fun _ h => absurd h List.not_mem_nil⟩⟩⟩⟩⟩, by decide +kernel, by decide +kernel, by decide +kernel⟩
theorem okX11_turn_473 : gOkS mX11_turn mX11_down 473 2 := ⟨List.forall_mem_cons.mpr ⟨(gm 1754 (by decide +kernel) rfl), List.forall_mem_cons.mpr ⟨(gm 1752 (by decide +kernel) rfl), List.forall_mem_cons.mpr ⟨(gm 1753 (by decide +kernel) rfl), List.forall_mem_cons.mpr ⟨(gm 122 (by decide +kernel) rfl), fun _ h => absurd h List.not_mem_nil⟩⟩⟩⟩, by decide +kernel, by decide +kernel, by decide +kernel⟩
def fX11_turn_110 (p1 : Int32) (k80 : Int64 → Int64 → Int32 → gS → Option (Unit × gS)) (v4 : Int64) (v6 : Int64) (v8 : Int32) (s1 : Int32) (s2 : Int32) (σ : gS) : Option (Unit × gS) :=
  gg (¬ (s1 < 0 ∨ 24 ≤ s1.toNatClampNeg)) (
  bnd (gsI σ 218 s1.toNatClampNeg s2) fun σ2 =>
  gg (¬ (v8 < 0 ∨ 24 ≤ v8.toNatClampNeg)) (
  gg (¬ (v8 < 0 ∨ 24 ≤ v8.toNatClampNeg)) (
  bnd (gsJ σ2 216 v8.toNatClampNeg (1024 * ((σ2.1 170 v8.toNatClampNeg).toInt64))) fun σ5 =>
  gg (¬ (v8 < 0 ∨ 24 ≤ v8.toNatClampNeg)) (
  gg (¬ (v8 < 0 ∨ 24 ≤ v8.toNatClampNeg)) (
  bnd (gsJ σ5 217 v8.toNatClampNeg (1024 * ((σ5.1 171 v8.toNatClampNeg).toInt64))) fun σ8 =>
  bnd (v8 + 1) fun x9 =>
  k80 v4 v6 x9 σ8)))))
set_option maxHeartbeats 4000000 in
set_option maxRecDepth 100000 in
theorem pX11_turn_110 {E : gE} {p1 : Int32} {k80 : Int64 → Int64 → Int32 → gS → Option (Unit × gS)} {r : Unit} {σ' : gS} {v4 : Int64} {v6 : Int64} {v8 : Int32} {s1 : Int32} {s2 : Int32} {σ : gS} (hk80 : ∀ (v4 : Int64) (v6 : Int64) (v8 : Int32) (σ : gS), k80 v4 v6 v8 σ = some (r, σ') → gG E mX11_turn 80 [(0, .ref 168), (4, .long v4), (6, .long v6), (8, .int v8)] [] σ (none) σ') (h : fX11_turn_110 p1 k80 v4 v6 v8 s1 s2 σ = some (r, σ')) : gG E mX11_turn 110 [(0, .ref 168), (4, .long v4), (6, .long v6), (8, .int v8)] [.int s2, .int s1, .ref 218] σ (none) σ' := by
  unfold fX11_turn_110 at h
  obtain ⟨g1, h⟩ := gg_some h
  obtain ⟨σ2, eσ2, h⟩ := bnd_nm h
  refine g_iast dX11_turn_110 gi_218 g1 (g_st eσ2 ?_)
  refine g_aload_n dX11_turn_111 rfl 0 rfl ?_
  refine g_getC (n := 216) dX11_turn_112 gi_168 rfl fl_RX11_164 ?_
  refine g_iload dX11_turn_115 3 rfl ?_
  refine g_ldc2 (v := 1024) dX11_turn_117 wl_RX11_479 ?_
  refine g_aload_n dX11_turn_120 rfl 0 rfl ?_
  refine g_getC (n := 170) dX11_turn_121 gi_168 rfl fl_RX11_13 ?_
  refine g_iload dX11_turn_124 3 rfl ?_
  obtain ⟨g3, h⟩ := gg_some h
  refine g_iald dX11_turn_126 gi_170 g3 ?_
  refine g_i2l dX11_turn_127 ?_
  refine g_lmul dX11_turn_128 ?_
  obtain ⟨g4, h⟩ := gg_some h
  obtain ⟨σ5, eσ5, h⟩ := bnd_nm h
  refine g_last dX11_turn_129 gi_216 g4 (g_st eσ5 ?_)
  refine g_aload_n dX11_turn_130 rfl 0 rfl ?_
  refine g_getC (n := 217) dX11_turn_131 gi_168 rfl fl_RX11_167 ?_
  refine g_iload dX11_turn_134 3 rfl ?_
  refine g_ldc2 (v := 1024) dX11_turn_136 wl_RX11_479 ?_
  refine g_aload_n dX11_turn_139 rfl 0 rfl ?_
  refine g_getC (n := 171) dX11_turn_140 gi_168 rfl fl_RX11_17 ?_
  refine g_iload dX11_turn_143 3 rfl ?_
  obtain ⟨g6, h⟩ := gg_some h
  refine g_iald dX11_turn_145 gi_171 g6 ?_
  refine g_i2l dX11_turn_146 ?_
  refine g_lmul dX11_turn_147 ?_
  obtain ⟨g7, h⟩ := gg_some h
  obtain ⟨σ8, eσ8, h⟩ := bnd_nm h
  refine g_last dX11_turn_148 gi_217 g7 (g_st eσ8 ?_)
  obtain ⟨x9, ex9, h⟩ := bnd_nm h
  refine g_iinc (j := 3) (v := x9) (lv' := [(8, .int x9), (0, .ref 168), (4, .long v4), (6, .long v6)]) dX11_turn_149 rfl (by rw [ex9]; rfl) (Nat.le_of_ble_eq_true rfl) rfl ?_
  refine g_goto (t := 80) dX11_turn_152 (by decide) ?_
  refine g_sub [1, 2, 3, 0] rfl ?_
  exact hk80 v4 v6 x9 σ8 h
def fX11_turn_284 (p1 : Int32) : Nat → Int32 → gS → Option (Unit × gS)
  | 0, _, _ => none
  | n + 1, v12, σ => if (σ.1 168 69) ≤ v12 then
    some ((), σ)
  else
    gg (¬ (v12 < 0 ∨ 24 ≤ v12.toNatClampNeg)) (
    bd (fX11_hang (σ.1 210 v12.toNatClampNeg) σ) fun _ σ3 =>
    bnd (v12 + 1) fun x5 =>
    fX11_turn_284 p1 n x5 σ3)
set_option maxHeartbeats 4000000 in
set_option maxRecDepth 100000 in
theorem pX11_turn_284 {E : gE} {p1 : Int32} {r : Unit} {σ' : gS} : ∀ (n : Nat) (v12 : Int32) (σ : gS), fX11_turn_284 p1 n v12 σ = some (r, σ') → gG E mX11_turn 284 [(0, .ref 168), (12, .int v12)] [] σ (none) σ' := by
  intro n
  induction n with
  | zero => intro v12 σ h; exact absurd (show none = some (r, σ') from h) (by intro q; cases q)
  | succ n ih =>
  intro v12 σ h
  unfold fX11_turn_284 at h
  refine g_iload dX11_turn_284 1 rfl ?_
  refine g_aload_n dX11_turn_286 rfl 0 rfl ?_
  refine g_getI dX11_turn_287 gi_168 rfl fl_RX11_459 ?_
  refine g_icmp_ge (t := 310) dX11_turn_290 (by decide) (fun c1 => ?_) (fun c1 => ?_)
  · replace h := if_t h c1
    obtain ⟨rfl, rfl⟩ := so_inj h
    exact g_vret dX11_turn_310 rfl
  · replace h := if_f h c1
    refine g_aload_n dX11_turn_293 rfl 0 rfl ?_
    refine g_aload_n dX11_turn_294 rfl 0 rfl ?_
    refine g_getC (n := 210) dX11_turn_295 gi_168 rfl fl_RX11_146 ?_
    refine g_iload dX11_turn_298 1 rfl ?_
    obtain ⟨g2, h⟩ := gg_some h
    refine g_iald dX11_turn_300 gi_210 g2 ?_
    obtain ⟨_, σ3, y4, h⟩ := bd_some h
    refine g_callVv (as := [.int (σ.1 210 v12.toNatClampNeg)]) (st := []) (zX11_hang y4) dX11_turn_301 gi_168 rfl okX11_turn_483 (Nat.le_of_ble_eq_true rfl) ?_
    obtain ⟨x5, ex5, h⟩ := bnd_nm h
    refine g_iinc (j := 1) (v := x5) (lv' := [(12, .int x5), (0, .ref 168)]) dX11_turn_304 rfl (by rw [ex5]; rfl) (Nat.le_of_ble_eq_true rfl) rfl ?_
    refine g_goto (t := 284) dX11_turn_307 (by decide) ?_
    refine g_sub [1, 0] rfl ?_
    exact ih x5 σ3 h
def fX11_turn_80 (p1 : Int32) : Nat → Int64 → Int64 → Int32 → gS → Option (Unit × gS)
  | 0, _, _, _, _ => none
  | n + 1, v4, v6, v8, σ => if (σ.1 168 0) ≤ v8 then
    gg (¬ (σ.1 168 19 < 0 ∨ 24 ≤ (σ.1 168 19).toNatClampNeg)) (
    gg (¬ (σ.1 168 20 < 0 ∨ 24 ≤ (σ.1 168 20).toNatClampNeg)) (
    bnd (((σ.1 170 ((σ.1 168 19).toNatClampNeg)) - (σ.1 170 ((σ.1 168 20).toNatClampNeg))).toInt64) fun x4 =>
    gg (¬ (σ.1 168 19 < 0 ∨ 24 ≤ (σ.1 168 19).toNatClampNeg)) (
    gg (¬ (σ.1 168 20 < 0 ∨ 24 ≤ (σ.1 168 20).toNatClampNeg)) (
    bnd (((σ.1 171 ((σ.1 168 19).toNatClampNeg)) - (σ.1 171 ((σ.1 168 20).toNatClampNeg))).toInt64) fun x7 =>
    gg (¬ (σ.1 168 19 < 0 ∨ 24 ≤ (σ.1 168 19).toNatClampNeg)) (
    bnd (gsI σ 218 ((σ.1 168 19).toNatClampNeg) 0) fun σ9 =>
    gg (¬ (σ9.1 168 20 < 0 ∨ 24 ≤ (σ9.1 168 20).toNatClampNeg)) (
    bd (fX11_down ((v4 * x4) - (v6 * x7)) 64 σ9) fun x11 σ12 =>
    gg (¬ (σ9.1 168 19 < 0 ∨ 24 ≤ (σ9.1 168 19).toNatClampNeg)) (
    bnd (gsJ σ12 216 ((σ9.1 168 19).toNatClampNeg) ((σ9.2.1 216 ((σ9.1 168 20).toNatClampNeg)) + x11)) fun σ15 =>
    gg (¬ (σ15.1 168 20 < 0 ∨ 24 ≤ (σ15.1 168 20).toNatClampNeg)) (
    bd (fX11_down ((v6 * x4) + (v4 * x7)) 64 σ15) fun x17 σ18 =>
    gg (¬ (σ15.1 168 19 < 0 ∨ 24 ≤ (σ15.1 168 19).toNatClampNeg)) (
    bnd (gsJ σ18 217 ((σ15.1 168 19).toNatClampNeg) ((σ15.2.1 217 ((σ15.1 168 20).toNatClampNeg)) + x17)) fun σ21 =>
    fX11_turn_284 p1 2000 0 σ21)))))))))
  else
    gg (¬ (v8 < 0 ∨ 24 ≤ v8.toNatClampNeg)) (
    if (σ.1 172 v8.toNatClampNeg) = 0 then
      fX11_turn_110 p1 (fun v4 v6 v8 σ => fX11_turn_80 p1 n v4 v6 v8 σ) v4 v6 v8 v8 1 σ
    else
      fX11_turn_110 p1 (fun v4 v6 v8 σ => fX11_turn_80 p1 n v4 v6 v8 σ) v4 v6 v8 v8 0 σ)
set_option maxHeartbeats 4000000 in
set_option maxRecDepth 100000 in
theorem pX11_turn_80 {E : gE} {p1 : Int32} {r : Unit} {σ' : gS} : ∀ (n : Nat) (v4 : Int64) (v6 : Int64) (v8 : Int32) (σ : gS), fX11_turn_80 p1 n v4 v6 v8 σ = some (r, σ') → gG E mX11_turn 80 [(0, .ref 168), (4, .long v4), (6, .long v6), (8, .int v8)] [] σ (none) σ' := by
  intro n
  induction n with
  | zero => intro v4 v6 v8 σ h; exact absurd (show none = some (r, σ') from h) (by intro q; cases q)
  | succ n ih =>
  intro v4 v6 v8 σ h
  unfold fX11_turn_80 at h
  refine g_iload dX11_turn_80 3 rfl ?_
  refine g_aload_n dX11_turn_82 rfl 0 rfl ?_
  refine g_getI dX11_turn_83 gi_168 rfl fl_RX11_374 ?_
  refine g_icmp_ge (t := 155) dX11_turn_86 (by decide) (fun c1 => ?_) (fun c1 => ?_)
  · replace h := if_t h c1
    refine g_aload_n dX11_turn_155 rfl 0 rfl ?_
    refine g_getC (n := 170) dX11_turn_156 gi_168 rfl fl_RX11_13 ?_
    refine g_aload_n dX11_turn_159 rfl 0 rfl ?_
    refine g_getI dX11_turn_160 gi_168 rfl fl_RX11_54 ?_
    obtain ⟨g2, h⟩ := gg_some h
    refine g_iald dX11_turn_163 gi_170 g2 ?_
    refine g_aload_n dX11_turn_164 rfl 0 rfl ?_
    refine g_getC (n := 170) dX11_turn_165 gi_168 rfl fl_RX11_13 ?_
    refine g_aload_n dX11_turn_168 rfl 0 rfl ?_
    refine g_getI dX11_turn_169 gi_168 rfl fl_RX11_58 ?_
    obtain ⟨g3, h⟩ := gg_some h
    refine g_iald dX11_turn_172 gi_170 g3 ?_
    refine g_isub dX11_turn_173 ?_
    refine g_i2l dX11_turn_174 ?_
    obtain ⟨x4, ex4, h⟩ := bnd_nm h
    refine g_topl ex4 ?_
    refine g_lstore (lv' := [(8, .long x4), (0, .ref 168), (4, .long v4), (6, .long v6)]) dX11_turn_175 (Nat.le_of_ble_eq_true rfl) rfl ?_
    refine g_aload_n dX11_turn_177 rfl 1 rfl ?_
    refine g_getC (n := 171) dX11_turn_178 gi_168 rfl fl_RX11_17 ?_
    refine g_aload_n dX11_turn_181 rfl 1 rfl ?_
    refine g_getI dX11_turn_182 gi_168 rfl fl_RX11_54 ?_
    obtain ⟨g5, h⟩ := gg_some h
    refine g_iald dX11_turn_185 gi_171 g5 ?_
    refine g_aload_n dX11_turn_186 rfl 1 rfl ?_
    refine g_getC (n := 171) dX11_turn_187 gi_168 rfl fl_RX11_17 ?_
    refine g_aload_n dX11_turn_190 rfl 1 rfl ?_
    refine g_getI dX11_turn_191 gi_168 rfl fl_RX11_58 ?_
    obtain ⟨g6, h⟩ := gg_some h
    refine g_iald dX11_turn_194 gi_171 g6 ?_
    refine g_isub dX11_turn_195 ?_
    refine g_i2l dX11_turn_196 ?_
    obtain ⟨x7, ex7, h⟩ := bnd_nm h
    refine g_topl ex7 ?_
    refine g_lstore (lv' := [(10, .long x7), (8, .long x4), (0, .ref 168), (4, .long v4), (6, .long v6)]) dX11_turn_197 (Nat.le_of_ble_eq_true rfl) rfl ?_
    refine g_aload_n dX11_turn_199 rfl 2 rfl ?_
    refine g_getC (n := 218) dX11_turn_200 gi_168 rfl fl_RX11_170 ?_
    refine g_aload_n dX11_turn_203 rfl 2 rfl ?_
    refine g_getI dX11_turn_204 gi_168 rfl fl_RX11_54 ?_
    refine g_iconst (v := 0) dX11_turn_207 (by decide) ?_
    obtain ⟨g8, h⟩ := gg_some h
    obtain ⟨σ9, eσ9, h⟩ := bnd_nm h
    refine g_iast dX11_turn_208 gi_218 g8 (g_st eσ9 ?_)
    refine g_aload_n dX11_turn_209 rfl 2 rfl ?_
    refine g_getC (n := 216) dX11_turn_210 gi_168 rfl fl_RX11_164 ?_
    refine g_aload_n dX11_turn_213 rfl 2 rfl ?_
    refine g_getI dX11_turn_214 gi_168 rfl fl_RX11_54 ?_
    refine g_aload_n dX11_turn_217 rfl 2 rfl ?_
    refine g_getC (n := 216) dX11_turn_218 gi_168 rfl fl_RX11_164 ?_
    refine g_aload_n dX11_turn_221 rfl 2 rfl ?_
    refine g_getI dX11_turn_222 gi_168 rfl fl_RX11_58 ?_
    obtain ⟨g10, h⟩ := gg_some h
    refine g_lald dX11_turn_225 gi_216 g10 ?_
    refine g_lload dX11_turn_226 3 rfl ?_
    refine g_lload dX11_turn_228 1 rfl ?_
    refine g_lmul dX11_turn_230 ?_
    refine g_lload dX11_turn_231 4 rfl ?_
    refine g_lload dX11_turn_233 0 rfl ?_
    refine g_lmul dX11_turn_235 ?_
    refine g_lsub dX11_turn_236 ?_
    refine g_ldc2 (v := 64) dX11_turn_237 wl_RX11_481 ?_
    obtain ⟨x11, σ12, y13, h⟩ := bd_some h
    refine g_callSr (as := [.long ((v4 * x4) - (v6 * x7)), .long 64]) (st := [.long (σ9.2.1 216 ((σ9.1 168 20).toNatClampNeg)), .int (σ9.1 168 19), .ref 216]) (zX11_down y13) dX11_turn_240 okX11_turn_473 (Nat.le_of_ble_eq_true rfl) ?_
    refine g_ladd dX11_turn_243 ?_
    obtain ⟨g14, h⟩ := gg_some h
    obtain ⟨σ15, eσ15, h⟩ := bnd_nm h
    refine g_last dX11_turn_244 gi_216 g14 (g_st eσ15 ?_)
    refine g_aload_n dX11_turn_245 rfl 2 rfl ?_
    refine g_getC (n := 217) dX11_turn_246 gi_168 rfl fl_RX11_167 ?_
    refine g_aload_n dX11_turn_249 rfl 2 rfl ?_
    refine g_getI dX11_turn_250 gi_168 rfl fl_RX11_54 ?_
    refine g_aload_n dX11_turn_253 rfl 2 rfl ?_
    refine g_getC (n := 217) dX11_turn_254 gi_168 rfl fl_RX11_167 ?_
    refine g_aload_n dX11_turn_257 rfl 2 rfl ?_
    refine g_getI dX11_turn_258 gi_168 rfl fl_RX11_58 ?_
    obtain ⟨g16, h⟩ := gg_some h
    refine g_lald dX11_turn_261 gi_217 g16 ?_
    refine g_lload dX11_turn_262 4 rfl ?_
    refine g_lload dX11_turn_264 1 rfl ?_
    refine g_lmul dX11_turn_266 ?_
    refine g_lload dX11_turn_267 3 rfl ?_
    refine g_lload dX11_turn_269 0 rfl ?_
    refine g_lmul dX11_turn_271 ?_
    refine g_ladd dX11_turn_272 ?_
    refine g_ldc2 (v := 64) dX11_turn_273 wl_RX11_481 ?_
    obtain ⟨x17, σ18, y19, h⟩ := bd_some h
    refine g_callSr (as := [.long ((v6 * x4) + (v4 * x7)), .long 64]) (st := [.long (σ15.2.1 217 ((σ15.1 168 20).toNatClampNeg)), .int (σ15.1 168 19), .ref 217]) (zX11_down y19) dX11_turn_276 okX11_turn_473 (Nat.le_of_ble_eq_true rfl) ?_
    refine g_ladd dX11_turn_279 ?_
    obtain ⟨g20, h⟩ := gg_some h
    obtain ⟨σ21, eσ21, h⟩ := bnd_nm h
    refine g_last dX11_turn_280 gi_217 g20 (g_st eσ21 ?_)
    refine g_iconst (v := 0) dX11_turn_281 (by decide) ?_
    refine g_istore (lv' := [(12, .int 0), (10, .long x7), (8, .long x4), (0, .ref 168), (4, .long v4), (6, .long v6)]) dX11_turn_282 (Nat.le_of_ble_eq_true rfl) rfl ?_
    refine g_sub [3, 0] rfl ?_
    exact pX11_turn_284 2000 0 σ21 h
  · replace h := if_f h c1
    refine g_aload_n dX11_turn_89 rfl 0 rfl ?_
    refine g_getC (n := 218) dX11_turn_90 gi_168 rfl fl_RX11_170 ?_
    refine g_iload dX11_turn_93 3 rfl ?_
    refine g_aload_n dX11_turn_95 rfl 0 rfl ?_
    refine g_getC (n := 172) dX11_turn_96 gi_168 rfl fl_RX11_20 ?_
    refine g_iload dX11_turn_99 3 rfl ?_
    obtain ⟨g22, h⟩ := gg_some h
    refine g_zald dX11_turn_101 gi_172 g22 ?_
    refine g_if_eq (t := 109) dX11_turn_102 (by decide) (fun c23 => ?_) (fun c23 => ?_)
    · replace h := if_t h c23
      refine g_iconst (v := 1) dX11_turn_109 (by decide) ?_
      exact pX11_turn_110 (fun v4 v6 v8 σ h => ih v4 v6 v8 σ h) h
    · replace h := if_f h c23
      refine g_iconst (v := 0) dX11_turn_105 (by decide) ?_
      refine g_goto (t := 110) dX11_turn_106 (by decide) ?_
      exact pX11_turn_110 (fun v4 v6 v8 σ h => ih v4 v6 v8 σ h) h
def fX11_turn_49 (p1 : Int32) : Nat → Int64 → Int64 → Int32 → gS → Option (Unit × gS)
  | 0, _, _, _, _ => none
  | n + 1, v4, v6, v8, σ => if (p1 / 64) ≤ v8 then
    fX11_turn_80 p1 2000 v4 v6 0 σ
  else
    bnd (-v6) fun x2 =>
    bnd (v8 + 1) fun x3 =>
    fX11_turn_49 p1 n x2 v4 x3 σ
set_option maxHeartbeats 4000000 in
set_option maxRecDepth 100000 in
theorem pX11_turn_49 {E : gE} {p1 : Int32} {r : Unit} {σ' : gS} : ∀ (n : Nat) (v4 : Int64) (v6 : Int64) (v8 : Int32) (σ : gS), fX11_turn_49 p1 n v4 v6 v8 σ = some (r, σ') → gG E mX11_turn 49 [(0, .ref 168), (1, .int p1), (4, .long v4), (6, .long v6), (8, .int v8)] [] σ (none) σ' := by
  intro n
  induction n with
  | zero => intro v4 v6 v8 σ h; exact absurd (show none = some (r, σ') from h) (by intro q; cases q)
  | succ n ih =>
  intro v4 v6 v8 σ h
  unfold fX11_turn_49 at h
  refine g_iload dX11_turn_49 4 rfl ?_
  refine g_iload_n dX11_turn_51 rfl 1 rfl ?_
  refine g_bipush (v := 64) dX11_turn_52 (by decide) ?_
  refine g_idiv dX11_turn_54 (by decide) ?_
  refine g_icmp_ge (t := 77) dX11_turn_55 (by decide) (fun c1 => ?_) (fun c1 => ?_)
  · replace h := if_t h c1
    refine g_iconst (v := 0) dX11_turn_77 (by decide) ?_
    refine g_istore (lv' := [(8, .int 0), (0, .ref 168), (1, .int p1), (4, .long v4), (6, .long v6)]) dX11_turn_78 (Nat.le_of_ble_eq_true rfl) rfl ?_
    refine g_sub [1, 3, 4, 0] rfl ?_
    exact pX11_turn_80 2000 v4 v6 0 σ h
  · replace h := if_f h c1
    refine g_lload dX11_turn_58 2 rfl ?_
    refine g_lstore (lv' := [(9, .long v4), (0, .ref 168), (1, .int p1), (4, .long v4), (6, .long v6), (8, .int v8)]) dX11_turn_60 (Nat.le_of_ble_eq_true rfl) rfl ?_
    refine g_lload dX11_turn_62 4 rfl ?_
    refine g_lneg dX11_turn_64 ?_
    obtain ⟨x2, ex2, h⟩ := bnd_nm h
    refine g_topl ex2 ?_
    refine g_lstore (lv' := [(4, .long x2), (9, .long v4), (0, .ref 168), (1, .int p1), (6, .long v6), (8, .int v8)]) dX11_turn_65 (Nat.le_of_ble_eq_true rfl) rfl ?_
    refine g_lload dX11_turn_67 1 rfl ?_
    refine g_lstore (lv' := [(6, .long v4), (4, .long x2), (9, .long v4), (0, .ref 168), (1, .int p1), (8, .int v8)]) dX11_turn_69 (Nat.le_of_ble_eq_true rfl) rfl ?_
    obtain ⟨x3, ex3, h⟩ := bnd_nm h
    refine g_iinc (j := 5) (v := x3) (lv' := [(8, .int x3), (6, .long v4), (4, .long x2), (9, .long v4), (0, .ref 168), (1, .int p1)]) dX11_turn_71 rfl (by rw [ex3]; rfl) (Nat.le_of_ble_eq_true rfl) rfl ?_
    refine g_goto (t := 49) dX11_turn_74 (by decide) ?_
    refine g_sub [4, 5, 2, 1, 0] rfl ?_
    exact ih x2 v4 x3 σ h
def fX11_turn (p1 : Int32) (σ : gS) : Option (Unit × gS) :=
  bnd ((p1 - p1 / 64 * 64).toInt64) fun x1 =>
  bd (fX11_down (65536 * (4096 - (x1 * x1))) (4096 + (x1 * x1)) σ) fun x2 σ3 =>
  bd (fX11_down (8388608 * x1) (4096 + (x1 * x1)) σ3) fun x5 σ6 =>
  fX11_turn_49 p1 2000 x2 x5 0 σ6
set_option maxHeartbeats 4000000 in
set_option maxRecDepth 100000 in
theorem pX11_turn {E : gE} {p1 : Int32} {r : Unit} {σ' : gS} {σ : gS} (h : fX11_turn p1 σ = some (r, σ')) : gG E mX11_turn 0 [(0, .ref 168), (1, .int p1)] [] σ (none) σ' := by
  unfold fX11_turn at h
  refine g_iload_n dX11_turn_0 rfl 1 rfl ?_
  refine g_bipush (v := 64) dX11_turn_1 (by decide) ?_
  refine g_irem dX11_turn_3 (by decide) ?_
  refine g_i2l dX11_turn_4 ?_
  obtain ⟨x1, ex1, h⟩ := bnd_nm h
  refine g_topl ex1 ?_
  refine g_lstore_n (lv' := [(2, .long x1), (0, .ref 168), (1, .int p1)]) dX11_turn_5 rfl (Nat.le_of_ble_eq_true rfl) rfl ?_
  refine g_ldc2 (v := 65536) dX11_turn_6 wl_RX11_469 ?_
  refine g_ldc2 (v := 4096) dX11_turn_9 wl_RX11_471 ?_
  refine g_lload_n dX11_turn_12 rfl 0 rfl ?_
  refine g_lload_n dX11_turn_13 rfl 0 rfl ?_
  refine g_lmul dX11_turn_14 ?_
  refine g_lsub dX11_turn_15 ?_
  refine g_lmul dX11_turn_16 ?_
  refine g_ldc2 (v := 4096) dX11_turn_17 wl_RX11_471 ?_
  refine g_lload_n dX11_turn_20 rfl 0 rfl ?_
  refine g_lload_n dX11_turn_21 rfl 0 rfl ?_
  refine g_lmul dX11_turn_22 ?_
  refine g_ladd dX11_turn_23 ?_
  obtain ⟨x2, σ3, y4, h⟩ := bd_some h
  refine g_callSr (as := [.long (65536 * (4096 - (x1 * x1))), .long (4096 + (x1 * x1))]) (st := []) (zX11_down y4) dX11_turn_24 okX11_turn_473 (Nat.le_of_ble_eq_true rfl) ?_
  refine g_lstore (lv' := [(4, .long x2), (2, .long x1), (0, .ref 168), (1, .int p1)]) dX11_turn_27 (Nat.le_of_ble_eq_true rfl) rfl ?_
  refine g_ldc2 (v := 8388608) dX11_turn_29 wl_RX11_477 ?_
  refine g_lload_n dX11_turn_32 rfl 1 rfl ?_
  refine g_lmul dX11_turn_33 ?_
  refine g_ldc2 (v := 4096) dX11_turn_34 wl_RX11_471 ?_
  refine g_lload_n dX11_turn_37 rfl 1 rfl ?_
  refine g_lload_n dX11_turn_38 rfl 1 rfl ?_
  refine g_lmul dX11_turn_39 ?_
  refine g_ladd dX11_turn_40 ?_
  obtain ⟨x5, σ6, y7, h⟩ := bd_some h
  refine g_callSr (as := [.long (8388608 * x1), .long (4096 + (x1 * x1))]) (st := []) (zX11_down y7) dX11_turn_41 okX11_turn_473 (Nat.le_of_ble_eq_true rfl) ?_
  refine g_lstore (lv' := [(6, .long x5), (4, .long x2), (2, .long x1), (0, .ref 168), (1, .int p1)]) dX11_turn_44 (Nat.le_of_ble_eq_true rfl) rfl ?_
  refine g_iconst (v := 0) dX11_turn_46 (by decide) ?_
  refine g_istore (lv' := [(8, .int 0), (6, .long x5), (4, .long x2), (2, .long x1), (0, .ref 168), (1, .int p1)]) dX11_turn_47 (Nat.le_of_ble_eq_true rfl) rfl ?_
  refine g_sub [4, 5, 2, 1, 0] rfl ?_
  exact pX11_turn_49 2000 x2 x5 0 σ6 h
theorem zX11_turn {E : gE} {p1 : Int32} {r : Unit} {σ σ' : gS} (h : fX11_turn p1 σ = some (r, σ')) : gC E mX11_turn [.ref 168, .int p1] σ (none) σ' :=
  gC_of (by decide +kernel) rfl (Nat.le_of_ble_eq_true rfl) (pX11_turn h)
def mX11_placed : gM := (yX11_placed, cX11_placed, RX11, 3, (some .int), 0, 0)
theorem dX11_placed_0 : decode mX11_placed.2.1 0 = .ok (.iconst 0, 1) := by decide +kernel
theorem dX11_placed_1 : decode mX11_placed.2.1 1 = .ok (.istore_n 1, 1) := by decide +kernel
theorem dX11_placed_2 : decode mX11_placed.2.1 2 = .ok (.iconst 0, 1) := by decide +kernel
theorem dX11_placed_3 : decode mX11_placed.2.1 3 = .ok (.istore_n 2, 1) := by decide +kernel
theorem dX11_placed_4 : decode mX11_placed.2.1 4 = .ok (.iload_n 2, 1) := by decide +kernel
theorem dX11_placed_5 : decode mX11_placed.2.1 5 = .ok (.aload_n 0, 1) := by decide +kernel
theorem dX11_placed_6 : decode mX11_placed.2.1 6 = .ok (.getfield 374, 3) := by decide +kernel
theorem dX11_placed_9 : decode mX11_placed.2.1 9 = .ok (.if_icmp .ge 26, 3) := by decide +kernel
theorem dX11_placed_12 : decode mX11_placed.2.1 12 = .ok (.iload_n 1, 1) := by decide +kernel
theorem dX11_placed_13 : decode mX11_placed.2.1 13 = .ok (.aload_n 0, 1) := by decide +kernel
theorem dX11_placed_14 : decode mX11_placed.2.1 14 = .ok (.getfield 170, 3) := by decide +kernel
theorem dX11_placed_17 : decode mX11_placed.2.1 17 = .ok (.iload_n 2, 1) := by decide +kernel
theorem dX11_placed_18 : decode mX11_placed.2.1 18 = .ok (.iaload, 1) := by decide +kernel
theorem dX11_placed_19 : decode mX11_placed.2.1 19 = .ok (.ifCond .ne 7, 3) := by decide +kernel
theorem dX11_placed_22 : decode mX11_placed.2.1 22 = .ok (.iconst 1, 1) := by decide +kernel
theorem dX11_placed_23 : decode mX11_placed.2.1 23 = .ok (.goto 4, 3) := by decide +kernel
theorem dX11_placed_26 : decode mX11_placed.2.1 26 = .ok (.iconst 0, 1) := by decide +kernel
theorem dX11_placed_27 : decode mX11_placed.2.1 27 = .ok (.iadd, 1) := by decide +kernel
theorem dX11_placed_28 : decode mX11_placed.2.1 28 = .ok (.istore_n 1, 1) := by decide +kernel
theorem dX11_placed_29 : decode mX11_placed.2.1 29 = .ok (.iinc 2 1, 3) := by decide +kernel
theorem dX11_placed_32 : decode mX11_placed.2.1 32 = .ok (.goto (-28), 3) := by decide +kernel
theorem dX11_placed_35 : decode mX11_placed.2.1 35 = .ok (.iload_n 1, 1) := by decide +kernel
theorem dX11_placed_36 : decode mX11_placed.2.1 36 = .ok (.ireturn, 1) := by decide +kernel
def fX11_placed_27 (k4 : Int32 → Int32 → gS → Option (Int32 × gS)) (v2 : Int32) (s0 : Int32) (s1 : Int32) (σ : gS) : Option (Int32 × gS) :=
  bnd (s0 + s1) fun x1 =>
  bnd (v2 + 1) fun x2 =>
  k4 x1 x2 σ
set_option maxHeartbeats 4000000 in
set_option maxRecDepth 100000 in
theorem pX11_placed_27 {E : gE} {k4 : Int32 → Int32 → gS → Option (Int32 × gS)} {r : Int32} {σ' : gS} {v2 : Int32} {s0 : Int32} {s1 : Int32} {σ : gS} (hk4 : ∀ (v1 : Int32) (v2 : Int32) (σ : gS), k4 v1 v2 σ = some (r, σ') → gG E mX11_placed 4 [(0, .ref 168), (1, .int v1), (2, .int v2)] [] σ (some (.int r)) σ') (h : fX11_placed_27 k4 v2 s0 s1 σ = some (r, σ')) : gG E mX11_placed 27 [(0, .ref 168), (2, .int v2)] [.int s1, .int s0] σ (some (.int r)) σ' := by
  unfold fX11_placed_27 at h
  refine g_iadd dX11_placed_27 ?_
  obtain ⟨x1, ex1, h⟩ := bnd_nm h
  refine g_topi ex1 ?_
  refine g_istore_n (lv' := [(1, .int x1), (0, .ref 168), (2, .int v2)]) dX11_placed_28 rfl (Nat.le_of_ble_eq_true rfl) rfl ?_
  obtain ⟨x2, ex2, h⟩ := bnd_nm h
  refine g_iinc (j := 2) (v := x2) (lv' := [(2, .int x2), (1, .int x1), (0, .ref 168)]) dX11_placed_29 rfl (by rw [ex2]; rfl) (Nat.le_of_ble_eq_true rfl) rfl ?_
  refine g_goto (t := 4) dX11_placed_32 (by decide) ?_
  refine g_sub [2, 1, 0] rfl ?_
  exact hk4 x1 x2 σ h
def fX11_placed_4 : Nat → Int32 → Int32 → gS → Option (Int32 × gS)
  | 0, _, _, _ => none
  | n + 1, v1, v2, σ => if (σ.1 168 0) ≤ v2 then
    some (v1, σ)
  else
    gg (¬ (v2 < 0 ∨ 24 ≤ v2.toNatClampNeg)) (
    if (σ.1 218 v2.toNatClampNeg) = 0 then
      fX11_placed_27 (fun v1 v2 σ => fX11_placed_4 n v1 v2 σ) v2 v1 1 σ
    else
      fX11_placed_27 (fun v1 v2 σ => fX11_placed_4 n v1 v2 σ) v2 v1 0 σ)
set_option maxHeartbeats 4000000 in
set_option maxRecDepth 100000 in
theorem pX11_placed_4 {E : gE} {r : Int32} {σ' : gS} : ∀ (n : Nat) (v1 : Int32) (v2 : Int32) (σ : gS), fX11_placed_4 n v1 v2 σ = some (r, σ') → gG E mX11_placed 4 [(0, .ref 168), (1, .int v1), (2, .int v2)] [] σ (some (.int r)) σ' := by
  intro n
  induction n with
  | zero => intro v1 v2 σ h; exact absurd (show none = some (r, σ') from h) (by intro q; cases q)
  | succ n ih =>
  intro v1 v2 σ h
  unfold fX11_placed_4 at h
  refine g_iload_n dX11_placed_4 rfl 2 rfl ?_
  refine g_aload_n dX11_placed_5 rfl 0 rfl ?_
  refine g_getI dX11_placed_6 gi_168 rfl fl_RX11_374 ?_
  refine g_icmp_ge (t := 35) dX11_placed_9 (by decide) (fun c1 => ?_) (fun c1 => ?_)
  · replace h := if_t h c1
    refine g_iload_n dX11_placed_35 rfl 1 rfl ?_
    obtain ⟨rfl, rfl⟩ := so_inj h
    exact g_iret dX11_placed_36 rfl
  · replace h := if_f h c1
    refine g_iload_n dX11_placed_12 rfl 1 rfl ?_
    refine g_aload_n dX11_placed_13 rfl 0 rfl ?_
    refine g_getC (n := 218) dX11_placed_14 gi_168 rfl fl_RX11_170 ?_
    refine g_iload_n dX11_placed_17 rfl 2 rfl ?_
    obtain ⟨g2, h⟩ := gg_some h
    refine g_iald dX11_placed_18 gi_218 g2 ?_
    refine g_if_ne (t := 26) dX11_placed_19 (by decide) (fun c3 => ?_) (fun c3 => ?_)
    · replace h := if_f h c3
      refine g_iconst (v := 0) dX11_placed_26 (by decide) ?_
      refine g_sub [0, 2] rfl ?_
      exact pX11_placed_27 (fun v1 v2 σ h => ih v1 v2 σ h) h
    · replace h := if_t h c3
      refine g_iconst (v := 1) dX11_placed_22 (by decide) ?_
      refine g_goto (t := 27) dX11_placed_23 (by decide) ?_
      refine g_sub [0, 2] rfl ?_
      exact pX11_placed_27 (fun v1 v2 σ h => ih v1 v2 σ h) h
def fX11_placed (σ : gS) : Option (Int32 × gS) :=
  fX11_placed_4 2000 0 0 σ
set_option maxHeartbeats 4000000 in
set_option maxRecDepth 100000 in
theorem pX11_placed {E : gE} {r : Int32} {σ' : gS} {σ : gS} (h : fX11_placed σ = some (r, σ')) : gG E mX11_placed 0 [(0, .ref 168)] [] σ (some (.int r)) σ' := by
  unfold fX11_placed at h
  refine g_iconst (v := 0) dX11_placed_0 (by decide) ?_
  refine g_istore_n (lv' := [(1, .int 0), (0, .ref 168)]) dX11_placed_1 rfl (Nat.le_of_ble_eq_true rfl) rfl ?_
  refine g_iconst (v := 0) dX11_placed_2 (by decide) ?_
  refine g_istore_n (lv' := [(2, .int 0), (1, .int 0), (0, .ref 168)]) dX11_placed_3 rfl (Nat.le_of_ble_eq_true rfl) rfl ?_
  refine g_sub [2, 1, 0] rfl ?_
  exact pX11_placed_4 2000 0 0 σ h
theorem zX11_placed {E : gE} {r : Int32} {σ σ' : gS} (h : fX11_placed σ = some (r, σ')) : gC E mX11_placed [.ref 168] σ (some (.int r)) σ' :=
  gC_of (by decide +kernel) rfl (Nat.le_of_ble_eq_true rfl) (pX11_placed h)
theorem fl_RX11_173 : gFl RX11 173 11 82 := ⟨RX11, TX11, 101, rfl, by decide, ux_11, Or.inl (gm 1310 (by decide +kernel) rfl)⟩
theorem fl_RX11_176 : gFl RX11 176 11 83 := ⟨RX11, TX11, 101, rfl, by decide, ux_11, Or.inl (gm 1311 (by decide +kernel) rfl)⟩
theorem fl_RX11_179 : gFl RX11 179 11 84 := ⟨RX11, TX11, 101, rfl, by decide, ux_11, Or.inl (gm 1312 (by decide +kernel) rfl)⟩
theorem wc_RX11_503 : Cond.constant RX11 503 (-1000002) ∈ gWS := (gm 1745 (by decide +kernel) rfl)
def mX11_pose : gM := (yX11_pose, cX11_pose, RX11, 3, (some .int), 3, 99)
theorem dX11_pose_0 : decode mX11_pose.2.1 0 = .ok (.iload_n 1, 1) := by decide +kernel
theorem dX11_pose_1 : decode mX11_pose.2.1 1 = .ok (.i2l, 1) := by decide +kernel
theorem dX11_pose_2 : decode mX11_pose.2.1 2 = .ok (.lconst 0, 1) := by decide +kernel
theorem dX11_pose_3 : decode mX11_pose.2.1 3 = .ok (.ldc2_w 229, 3) := by decide +kernel
theorem dX11_pose_6 : decode mX11_pose.2.1 6 = .ok (.invokestatic 220, 3) := by decide +kernel
theorem dX11_pose_9 : decode mX11_pose.2.1 9 = .ok (.ifCond .ne 6, 3) := by decide +kernel
theorem dX11_pose_12 : decode mX11_pose.2.1 12 = .ok (.ldc 224, 2) := by decide +kernel
theorem dX11_pose_14 : decode mX11_pose.2.1 14 = .ok (.ireturn, 1) := by decide +kernel
theorem dX11_pose_15 : decode mX11_pose.2.1 15 = .ok (.aload_n 0, 1) := by decide +kernel
theorem dX11_pose_16 : decode mX11_pose.2.1 16 = .ok (.getfield 54, 3) := by decide +kernel
theorem dX11_pose_19 : decode mX11_pose.2.1 19 = .ok (.ifCond .ge 7, 3) := by decide +kernel
theorem dX11_pose_22 : decode mX11_pose.2.1 22 = .ok (.ldc_w 503, 3) := by decide +kernel
theorem dX11_pose_25 : decode mX11_pose.2.1 25 = .ok (.ireturn, 1) := by decide +kernel
theorem dX11_pose_26 : decode mX11_pose.2.1 26 = .ok (.aload_n 0, 1) := by decide +kernel
theorem dX11_pose_27 : decode mX11_pose.2.1 27 = .ok (.iload_n 1, 1) := by decide +kernel
theorem dX11_pose_28 : decode mX11_pose.2.1 28 = .ok (.invokevirtual 504, 3) := by decide +kernel
theorem dX11_pose_31 : decode mX11_pose.2.1 31 = .ok (.aload_n 0, 1) := by decide +kernel
theorem dX11_pose_32 : decode mX11_pose.2.1 32 = .ok (.iconst 1, 1) := by decide +kernel
theorem dX11_pose_33 : decode mX11_pose.2.1 33 = .ok (.putfield 386, 3) := by decide +kernel
theorem dX11_pose_36 : decode mX11_pose.2.1 36 = .ok (.iconst 0, 1) := by decide +kernel
theorem dX11_pose_37 : decode mX11_pose.2.1 37 = .ok (.istore_n 2, 1) := by decide +kernel
theorem dX11_pose_38 : decode mX11_pose.2.1 38 = .ok (.iload_n 2, 1) := by decide +kernel
theorem dX11_pose_39 : decode mX11_pose.2.1 39 = .ok (.aload_n 0, 1) := by decide +kernel
theorem dX11_pose_40 : decode mX11_pose.2.1 40 = .ok (.getfield 374, 3) := by decide +kernel
theorem dX11_pose_43 : decode mX11_pose.2.1 43 = .ok (.if_icmp .ge 45, 3) := by decide +kernel
theorem dX11_pose_46 : decode mX11_pose.2.1 46 = .ok (.aload_n 0, 1) := by decide +kernel
theorem dX11_pose_47 : decode mX11_pose.2.1 47 = .ok (.getfield 173, 3) := by decide +kernel
theorem dX11_pose_50 : decode mX11_pose.2.1 50 = .ok (.iload_n 2, 1) := by decide +kernel
theorem dX11_pose_51 : decode mX11_pose.2.1 51 = .ok (.aload_n 0, 1) := by decide +kernel
theorem dX11_pose_52 : decode mX11_pose.2.1 52 = .ok (.getfield 164, 3) := by decide +kernel
theorem dX11_pose_55 : decode mX11_pose.2.1 55 = .ok (.iload_n 2, 1) := by decide +kernel
theorem dX11_pose_56 : decode mX11_pose.2.1 56 = .ok (.laload, 1) := by decide +kernel
theorem dX11_pose_57 : decode mX11_pose.2.1 57 = .ok (.lastore, 1) := by decide +kernel
theorem dX11_pose_58 : decode mX11_pose.2.1 58 = .ok (.aload_n 0, 1) := by decide +kernel
theorem dX11_pose_59 : decode mX11_pose.2.1 59 = .ok (.getfield 176, 3) := by decide +kernel
theorem dX11_pose_62 : decode mX11_pose.2.1 62 = .ok (.iload_n 2, 1) := by decide +kernel
theorem dX11_pose_63 : decode mX11_pose.2.1 63 = .ok (.aload_n 0, 1) := by decide +kernel
theorem dX11_pose_64 : decode mX11_pose.2.1 64 = .ok (.getfield 167, 3) := by decide +kernel
theorem dX11_pose_67 : decode mX11_pose.2.1 67 = .ok (.iload_n 2, 1) := by decide +kernel
theorem dX11_pose_68 : decode mX11_pose.2.1 68 = .ok (.laload, 1) := by decide +kernel
theorem dX11_pose_69 : decode mX11_pose.2.1 69 = .ok (.lastore, 1) := by decide +kernel
theorem dX11_pose_70 : decode mX11_pose.2.1 70 = .ok (.aload_n 0, 1) := by decide +kernel
theorem dX11_pose_71 : decode mX11_pose.2.1 71 = .ok (.getfield 179, 3) := by decide +kernel
theorem dX11_pose_74 : decode mX11_pose.2.1 74 = .ok (.iload_n 2, 1) := by decide +kernel
theorem dX11_pose_75 : decode mX11_pose.2.1 75 = .ok (.aload_n 0, 1) := by decide +kernel
theorem dX11_pose_76 : decode mX11_pose.2.1 76 = .ok (.getfield 170, 3) := by decide +kernel
theorem dX11_pose_79 : decode mX11_pose.2.1 79 = .ok (.iload_n 2, 1) := by decide +kernel
theorem dX11_pose_80 : decode mX11_pose.2.1 80 = .ok (.iaload, 1) := by decide +kernel
theorem dX11_pose_81 : decode mX11_pose.2.1 81 = .ok (.iastore, 1) := by decide +kernel
theorem dX11_pose_82 : decode mX11_pose.2.1 82 = .ok (.iinc 2 1, 3) := by decide +kernel
theorem dX11_pose_85 : decode mX11_pose.2.1 85 = .ok (.goto (-47), 3) := by decide +kernel
theorem dX11_pose_88 : decode mX11_pose.2.1 88 = .ok (.aload_n 0, 1) := by decide +kernel
theorem dX11_pose_89 : decode mX11_pose.2.1 89 = .ok (.invokevirtual 507, 3) := by decide +kernel
theorem dX11_pose_92 : decode mX11_pose.2.1 92 = .ok (.ireturn, 1) := by decide +kernel
theorem okX11_pose_507 : gOkV mX11_pose mX11_placed 507 0 := ⟨List.forall_mem_cons.mpr ⟨(gm 1780 (by decide +kernel) rfl), List.forall_mem_cons.mpr ⟨(gm 1777 (by decide +kernel) rfl), List.forall_mem_cons.mpr ⟨(gm 1779 (by decide +kernel) rfl), List.forall_mem_cons.mpr ⟨(gm 95 (by decide +kernel) rfl), List.forall_mem_cons.mpr ⟨(gm 122 (by decide +kernel) rfl), fun _ h => absurd h List.not_mem_nil⟩⟩⟩⟩⟩, by decide +kernel, by decide +kernel, by decide +kernel⟩
theorem okX11_pose_220 : gOkS mX11_pose mX11_in 220 3 := ⟨List.forall_mem_cons.mpr ⟨(gm 1539 (by decide +kernel) rfl), List.forall_mem_cons.mpr ⟨(gm 1537 (by decide +kernel) rfl), List.forall_mem_cons.mpr ⟨(gm 1538 (by decide +kernel) rfl), List.forall_mem_cons.mpr ⟨(gm 122 (by decide +kernel) rfl), fun _ h => absurd h List.not_mem_nil⟩⟩⟩⟩, by decide +kernel, by decide +kernel, by decide +kernel⟩
theorem okX11_pose_504 : gOkV mX11_pose mX11_turn 504 1 := ⟨List.forall_mem_cons.mpr ⟨(gm 1749 (by decide +kernel) rfl), List.forall_mem_cons.mpr ⟨(gm 1746 (by decide +kernel) rfl), List.forall_mem_cons.mpr ⟨(gm 1748 (by decide +kernel) rfl), List.forall_mem_cons.mpr ⟨(gm 93 (by decide +kernel) rfl), List.forall_mem_cons.mpr ⟨(gm 122 (by decide +kernel) rfl), fun _ h => absurd h List.not_mem_nil⟩⟩⟩⟩⟩, by decide +kernel, by decide +kernel, by decide +kernel⟩
def fX11_pose_38 (p1 : Int32) : Nat → Int32 → gS → Option (Int32 × gS)
  | 0, _, _ => none
  | n + 1, v2, σ => if (σ.1 168 0) ≤ v2 then
    bd (fX11_placed σ) fun x2 σ3 =>
    some (x2, σ3)
  else
    gg (¬ (v2 < 0 ∨ 24 ≤ v2.toNatClampNeg)) (
    gg (¬ (v2 < 0 ∨ 24 ≤ v2.toNatClampNeg)) (
    bnd (gsJ σ 219 v2.toNatClampNeg (σ.2.1 216 v2.toNatClampNeg)) fun σ7 =>
    gg (¬ (v2 < 0 ∨ 24 ≤ v2.toNatClampNeg)) (
    gg (¬ (v2 < 0 ∨ 24 ≤ v2.toNatClampNeg)) (
    bnd (gsJ σ7 220 v2.toNatClampNeg (σ7.2.1 217 v2.toNatClampNeg)) fun σ10 =>
    gg (¬ (v2 < 0 ∨ 24 ≤ v2.toNatClampNeg)) (
    gg (¬ (v2 < 0 ∨ 24 ≤ v2.toNatClampNeg)) (
    bnd (gsI σ10 221 v2.toNatClampNeg (σ10.1 218 v2.toNatClampNeg)) fun σ13 =>
    bnd (v2 + 1) fun x14 =>
    fX11_pose_38 p1 n x14 σ13))))))
set_option maxHeartbeats 4000000 in
set_option maxRecDepth 100000 in
theorem pX11_pose_38 {E : gE} {p1 : Int32} {r : Int32} {σ' : gS} : ∀ (n : Nat) (v2 : Int32) (σ : gS), fX11_pose_38 p1 n v2 σ = some (r, σ') → gG E mX11_pose 38 [(0, .ref 168), (2, .int v2)] [] σ (some (.int r)) σ' := by
  intro n
  induction n with
  | zero => intro v2 σ h; exact absurd (show none = some (r, σ') from h) (by intro q; cases q)
  | succ n ih =>
  intro v2 σ h
  unfold fX11_pose_38 at h
  refine g_iload_n dX11_pose_38 rfl 1 rfl ?_
  refine g_aload_n dX11_pose_39 rfl 0 rfl ?_
  refine g_getI dX11_pose_40 gi_168 rfl fl_RX11_374 ?_
  refine g_icmp_ge (t := 88) dX11_pose_43 (by decide) (fun c1 => ?_) (fun c1 => ?_)
  · replace h := if_t h c1
    refine g_aload_n dX11_pose_88 rfl 0 rfl ?_
    obtain ⟨x2, σ3, y4, h⟩ := bd_some h
    refine g_callVr (as := []) (st := []) (zX11_placed y4) dX11_pose_89 gi_168 rfl okX11_pose_507 (Nat.le_of_ble_eq_true rfl) ?_
    obtain ⟨rfl, rfl⟩ := so_inj h
    exact g_iret dX11_pose_92 rfl
  · replace h := if_f h c1
    refine g_aload_n dX11_pose_46 rfl 0 rfl ?_
    refine g_getC (n := 219) dX11_pose_47 gi_168 rfl fl_RX11_173 ?_
    refine g_iload_n dX11_pose_50 rfl 1 rfl ?_
    refine g_aload_n dX11_pose_51 rfl 0 rfl ?_
    refine g_getC (n := 216) dX11_pose_52 gi_168 rfl fl_RX11_164 ?_
    refine g_iload_n dX11_pose_55 rfl 1 rfl ?_
    obtain ⟨g5, h⟩ := gg_some h
    refine g_lald dX11_pose_56 gi_216 g5 ?_
    obtain ⟨g6, h⟩ := gg_some h
    obtain ⟨σ7, eσ7, h⟩ := bnd_nm h
    refine g_last dX11_pose_57 gi_219 g6 (g_st eσ7 ?_)
    refine g_aload_n dX11_pose_58 rfl 0 rfl ?_
    refine g_getC (n := 220) dX11_pose_59 gi_168 rfl fl_RX11_176 ?_
    refine g_iload_n dX11_pose_62 rfl 1 rfl ?_
    refine g_aload_n dX11_pose_63 rfl 0 rfl ?_
    refine g_getC (n := 217) dX11_pose_64 gi_168 rfl fl_RX11_167 ?_
    refine g_iload_n dX11_pose_67 rfl 1 rfl ?_
    obtain ⟨g8, h⟩ := gg_some h
    refine g_lald dX11_pose_68 gi_217 g8 ?_
    obtain ⟨g9, h⟩ := gg_some h
    obtain ⟨σ10, eσ10, h⟩ := bnd_nm h
    refine g_last dX11_pose_69 gi_220 g9 (g_st eσ10 ?_)
    refine g_aload_n dX11_pose_70 rfl 0 rfl ?_
    refine g_getC (n := 221) dX11_pose_71 gi_168 rfl fl_RX11_179 ?_
    refine g_iload_n dX11_pose_74 rfl 1 rfl ?_
    refine g_aload_n dX11_pose_75 rfl 0 rfl ?_
    refine g_getC (n := 218) dX11_pose_76 gi_168 rfl fl_RX11_170 ?_
    refine g_iload_n dX11_pose_79 rfl 1 rfl ?_
    obtain ⟨g11, h⟩ := gg_some h
    refine g_iald dX11_pose_80 gi_218 g11 ?_
    obtain ⟨g12, h⟩ := gg_some h
    obtain ⟨σ13, eσ13, h⟩ := bnd_nm h
    refine g_iast dX11_pose_81 gi_221 g12 (g_st eσ13 ?_)
    obtain ⟨x14, ex14, h⟩ := bnd_nm h
    refine g_iinc (j := 1) (v := x14) (lv' := [(2, .int x14), (0, .ref 168)]) dX11_pose_82 rfl (by rw [ex14]; rfl) (Nat.le_of_ble_eq_true rfl) rfl ?_
    refine g_goto (t := 38) dX11_pose_85 (by decide) ?_
    refine g_sub [1, 0] rfl ?_
    exact ih x14 σ13 h
def fX11_pose (p1 : Int32) (σ : gS) : Option (Int32 × gS) :=
  bd (fX11_in p1.toInt64 0 255 σ) fun x1 σ2 =>
  if x1 = 0 then
    some ((-1000001), σ2)
  else
    if 0 ≤ (σ2.1 168 19) then
      bd (fX11_turn p1 σ2) fun _ σ6 =>
      bnd (gsI σ6 168 81 1) fun σ8 =>
      fX11_pose_38 p1 2000 0 σ8
    else
      some ((-1000002), σ2)
set_option maxHeartbeats 4000000 in
set_option maxRecDepth 100000 in
theorem pX11_pose {E : gE} {p1 : Int32} {r : Int32} {σ' : gS} {σ : gS} (h : fX11_pose p1 σ = some (r, σ')) : gG E mX11_pose 0 [(0, .ref 168), (1, .int p1)] [] σ (some (.int r)) σ' := by
  unfold fX11_pose at h
  refine g_iload_n dX11_pose_0 rfl 1 rfl ?_
  refine g_i2l dX11_pose_1 ?_
  refine g_lconst (v := 0) dX11_pose_2 (by decide) ?_
  refine g_ldc2 (v := 255) dX11_pose_3 wl_RX11_229 ?_
  obtain ⟨x1, σ2, y3, h⟩ := bd_some h
  refine g_callSr (as := [.long p1.toInt64, .long 0, .long 255]) (st := []) (zX11_in y3) dX11_pose_6 okX11_pose_220 (Nat.le_of_ble_eq_true rfl) ?_
  refine g_if_ne (t := 15) dX11_pose_9 (by decide) (fun c4 => ?_) (fun c4 => ?_)
  · replace h := if_f h c4
    refine g_aload_n dX11_pose_15 rfl 0 rfl ?_
    refine g_getI dX11_pose_16 gi_168 rfl fl_RX11_54 ?_
    refine g_if_ge (t := 26) dX11_pose_19 (by decide) (fun c5 => ?_) (fun c5 => ?_)
    · replace h := if_t h c5
      refine g_aload_n dX11_pose_26 rfl 0 rfl ?_
      refine g_iload_n dX11_pose_27 rfl 1 rfl ?_
      obtain ⟨_, σ6, y7, h⟩ := bd_some h
      refine g_callVv (as := [.int p1]) (st := []) (zX11_turn y7) dX11_pose_28 gi_168 rfl okX11_pose_504 (Nat.le_of_ble_eq_true rfl) ?_
      refine g_aload_n dX11_pose_31 rfl 0 rfl ?_
      refine g_iconst (v := 1) dX11_pose_32 (by decide) ?_
      obtain ⟨σ8, eσ8, h⟩ := bnd_nm h
      refine g_putZ dX11_pose_33 gi_168 rfl fp_RX11_386 (Or.inr rfl) (g_st eσ8 ?_)
      refine g_iconst (v := 0) dX11_pose_36 (by decide) ?_
      refine g_istore_n (lv' := [(2, .int 0), (0, .ref 168), (1, .int p1)]) dX11_pose_37 rfl (Nat.le_of_ble_eq_true rfl) rfl ?_
      refine g_sub [1, 0] rfl ?_
      exact pX11_pose_38 2000 0 σ8 h
    · replace h := if_f h c5
      refine g_ldcw (v := (-1000002)) dX11_pose_22 wc_RX11_503 ?_
      obtain ⟨rfl, rfl⟩ := so_inj h
      exact g_iret dX11_pose_25 rfl
  · replace h := if_t h c4
    refine g_ldc (v := (-1000001)) dX11_pose_12 wc_RX11_224 ?_
    obtain ⟨rfl, rfl⟩ := so_inj h
    exact g_iret dX11_pose_14 rfl
theorem zX11_pose {E : gE} {p1 : Int32} {r : Int32} {σ σ' : gS} (h : fX11_pose p1 σ = some (r, σ')) : gC E mX11_pose [.ref 168, .int p1] σ (some (.int r)) σ' :=
  gC_of (by decide +kernel) rfl (Nat.le_of_ble_eq_true rfl) (pX11_pose h)
theorem wl_RX11_510 : Cond.constantLong RX11 510 (-1000001) ∈ gWS := (gm 1785 (by decide +kernel) rfl)
theorem fl_RX11_386 : gFl RX11 386 11 81 := ⟨RX11, TX11, 101, rfl, by decide, ux_11, Or.inl (gm 1309 (by decide +kernel) rfl)⟩
theorem wl_RX11_514 : Cond.constantLong RX11 514 (-1000000) ∈ gWS := (gm 1787 (by decide +kernel) rfl)
theorem wl_RX11_512 : Cond.constantLong RX11 512 (-1000002) ∈ gWS := (gm 1786 (by decide +kernel) rfl)
def mX11_at : gM := (yX11_at, cX11_at, RX11, 3, (some .long), 2, 46)
theorem dX11_at_0 : decode mX11_at.2.1 0 = .ok (.aload_n 0, 1) := by decide +kernel
theorem dX11_at_1 : decode mX11_at.2.1 1 = .ok (.iload_n 1, 1) := by decide +kernel
theorem dX11_at_2 : decode mX11_at.2.1 2 = .ok (.invokevirtual 420, 3) := by decide +kernel
theorem dX11_at_5 : decode mX11_at.2.1 5 = .ok (.ifCond .eq 13, 3) := by decide +kernel
theorem dX11_at_8 : decode mX11_at.2.1 8 = .ok (.iload_n 2, 1) := by decide +kernel
theorem dX11_at_9 : decode mX11_at.2.1 9 = .ok (.i2l, 1) := by decide +kernel
theorem dX11_at_10 : decode mX11_at.2.1 10 = .ok (.lconst 0, 1) := by decide +kernel
theorem dX11_at_11 : decode mX11_at.2.1 11 = .ok (.lconst 1, 1) := by decide +kernel
theorem dX11_at_12 : decode mX11_at.2.1 12 = .ok (.invokestatic 220, 3) := by decide +kernel
theorem dX11_at_15 : decode mX11_at.2.1 15 = .ok (.ifCond .ne 7, 3) := by decide +kernel
theorem dX11_at_18 : decode mX11_at.2.1 18 = .ok (.ldc2_w 510, 3) := by decide +kernel
theorem dX11_at_21 : decode mX11_at.2.1 21 = .ok (.lreturn, 1) := by decide +kernel
theorem dX11_at_22 : decode mX11_at.2.1 22 = .ok (.aload_n 0, 1) := by decide +kernel
theorem dX11_at_23 : decode mX11_at.2.1 23 = .ok (.getfield 386, 3) := by decide +kernel
theorem dX11_at_26 : decode mX11_at.2.1 26 = .ok (.ifCond .ne 9, 3) := by decide +kernel
theorem dX11_at_29 : decode mX11_at.2.1 29 = .ok (.ldc2_w 512, 3) := by decide +kernel
theorem dX11_at_32 : decode mX11_at.2.1 32 = .ok (.goto 37, 3) := by decide +kernel
theorem dX11_at_35 : decode mX11_at.2.1 35 = .ok (.aload_n 0, 1) := by decide +kernel
theorem dX11_at_36 : decode mX11_at.2.1 36 = .ok (.getfield 179, 3) := by decide +kernel
theorem dX11_at_39 : decode mX11_at.2.1 39 = .ok (.iload_n 1, 1) := by decide +kernel
theorem dX11_at_40 : decode mX11_at.2.1 40 = .ok (.iaload, 1) := by decide +kernel
theorem dX11_at_41 : decode mX11_at.2.1 41 = .ok (.ifCond .eq 9, 3) := by decide +kernel
theorem dX11_at_44 : decode mX11_at.2.1 44 = .ok (.ldc2_w 514, 3) := by decide +kernel
theorem dX11_at_47 : decode mX11_at.2.1 47 = .ok (.goto 22, 3) := by decide +kernel
theorem dX11_at_50 : decode mX11_at.2.1 50 = .ok (.iload_n 2, 1) := by decide +kernel
theorem dX11_at_51 : decode mX11_at.2.1 51 = .ok (.ifCond .ne 12, 3) := by decide +kernel
theorem dX11_at_54 : decode mX11_at.2.1 54 = .ok (.aload_n 0, 1) := by decide +kernel
theorem dX11_at_55 : decode mX11_at.2.1 55 = .ok (.getfield 173, 3) := by decide +kernel
theorem dX11_at_58 : decode mX11_at.2.1 58 = .ok (.iload_n 1, 1) := by decide +kernel
theorem dX11_at_59 : decode mX11_at.2.1 59 = .ok (.laload, 1) := by decide +kernel
theorem dX11_at_60 : decode mX11_at.2.1 60 = .ok (.goto 9, 3) := by decide +kernel
theorem dX11_at_63 : decode mX11_at.2.1 63 = .ok (.aload_n 0, 1) := by decide +kernel
theorem dX11_at_64 : decode mX11_at.2.1 64 = .ok (.getfield 176, 3) := by decide +kernel
theorem dX11_at_67 : decode mX11_at.2.1 67 = .ok (.iload_n 1, 1) := by decide +kernel
theorem dX11_at_68 : decode mX11_at.2.1 68 = .ok (.laload, 1) := by decide +kernel
theorem dX11_at_69 : decode mX11_at.2.1 69 = .ok (.lreturn, 1) := by decide +kernel
theorem okX11_at_420 : gOkV mX11_at mX11_isJoint 420 1 := ⟨List.forall_mem_cons.mpr ⟨(gm 1702 (by decide +kernel) rfl), List.forall_mem_cons.mpr ⟨(gm 1699 (by decide +kernel) rfl), List.forall_mem_cons.mpr ⟨(gm 1701 (by decide +kernel) rfl), List.forall_mem_cons.mpr ⟨(gm 88 (by decide +kernel) rfl), List.forall_mem_cons.mpr ⟨(gm 122 (by decide +kernel) rfl), fun _ h => absurd h List.not_mem_nil⟩⟩⟩⟩⟩, by decide +kernel, by decide +kernel, by decide +kernel⟩
theorem okX11_at_220 : gOkS mX11_at mX11_in 220 3 := ⟨List.forall_mem_cons.mpr ⟨(gm 1539 (by decide +kernel) rfl), List.forall_mem_cons.mpr ⟨(gm 1537 (by decide +kernel) rfl), List.forall_mem_cons.mpr ⟨(gm 1538 (by decide +kernel) rfl), List.forall_mem_cons.mpr ⟨(gm 122 (by decide +kernel) rfl), fun _ h => absurd h List.not_mem_nil⟩⟩⟩⟩, by decide +kernel, by decide +kernel, by decide +kernel⟩
def fX11_at_18 (p1 : Int32) (p2 : Int32) (σ : gS) : Option (Int64 × gS) :=
  some ((-1000001), σ)
set_option maxHeartbeats 4000000 in
set_option maxRecDepth 100000 in
theorem pX11_at_18 {E : gE} {p1 : Int32} {p2 : Int32} {r : Int64} {σ' : gS} {σ : gS} (h : fX11_at_18 p1 p2 σ = some (r, σ')) : gG E mX11_at 18 [] [] σ (some (.long r)) σ' := by
  unfold fX11_at_18 at h
  refine g_ldc2 (v := (-1000001)) dX11_at_18 wl_RX11_510 ?_
  obtain ⟨rfl, rfl⟩ := so_inj h
  exact g_lret dX11_at_21 rfl
def fX11_at_69 (p1 : Int32) (p2 : Int32) (s0 : Int64) (σ : gS) : Option (Int64 × gS) :=
  some (s0, σ)
set_option maxHeartbeats 4000000 in
set_option maxRecDepth 100000 in
theorem pX11_at_69 {E : gE} {p1 : Int32} {p2 : Int32} {r : Int64} {σ' : gS} {s0 : Int64} {σ : gS} (h : fX11_at_69 p1 p2 s0 σ = some (r, σ')) : gG E mX11_at 69 [] [.long s0] σ (some (.long r)) σ' := by
  unfold fX11_at_69 at h
  obtain ⟨rfl, rfl⟩ := so_inj h
  exact g_lret dX11_at_69 rfl
def fX11_at (p1 : Int32) (p2 : Int32) (σ : gS) : Option (Int64 × gS) :=
  bd (fX11_isJoint p1 σ) fun x1 σ2 =>
  if x1 = 0 then
    fX11_at_18 p1 p2 σ2
  else
    bd (fX11_in p2.toInt64 0 1 σ2) fun x5 σ6 =>
    if x5 = 0 then
      fX11_at_18 p1 p2 σ6
    else
      if (σ6.1 168 81) = 0 then
        fX11_at_69 p1 p2 (-1000002) σ6
      else
        gg (¬ (p1 < 0 ∨ 24 ≤ p1.toNatClampNeg)) (
        if (σ6.1 221 p1.toNatClampNeg) = 0 then
          if p2 = 0 then
            gg (¬ (p1 < 0 ∨ 24 ≤ p1.toNatClampNeg)) (
            fX11_at_69 p1 p2 (σ6.2.1 219 p1.toNatClampNeg) σ6)
          else
            gg (¬ (p1 < 0 ∨ 24 ≤ p1.toNatClampNeg)) (
            fX11_at_69 p1 p2 (σ6.2.1 220 p1.toNatClampNeg) σ6)
        else
          fX11_at_69 p1 p2 (-1000000) σ6)
set_option maxHeartbeats 4000000 in
set_option maxRecDepth 100000 in
theorem pX11_at {E : gE} {p1 : Int32} {p2 : Int32} {r : Int64} {σ' : gS} {σ : gS} (h : fX11_at p1 p2 σ = some (r, σ')) : gG E mX11_at 0 [(0, .ref 168), (1, .int p1), (2, .int p2)] [] σ (some (.long r)) σ' := by
  unfold fX11_at at h
  refine g_aload_n dX11_at_0 rfl 0 rfl ?_
  refine g_iload_n dX11_at_1 rfl 1 rfl ?_
  obtain ⟨x1, σ2, y3, h⟩ := bd_some h
  refine g_callVr (as := [.int p1]) (st := []) (zX11_isJoint y3) dX11_at_2 gi_168 rfl okX11_at_420 (Nat.le_of_ble_eq_true rfl) ?_
  refine g_if_eq (t := 18) dX11_at_5 (by decide) (fun c4 => ?_) (fun c4 => ?_)
  · replace h := if_t h c4
    refine g_sub [] rfl ?_
    exact pX11_at_18 h
  · replace h := if_f h c4
    refine g_iload_n dX11_at_8 rfl 2 rfl ?_
    refine g_i2l dX11_at_9 ?_
    refine g_lconst (v := 0) dX11_at_10 (by decide) ?_
    refine g_lconst (v := 1) dX11_at_11 (by decide) ?_
    obtain ⟨x5, σ6, y7, h⟩ := bd_some h
    refine g_callSr (as := [.long p2.toInt64, .long 0, .long 1]) (st := []) (zX11_in y7) dX11_at_12 okX11_at_220 (Nat.le_of_ble_eq_true rfl) ?_
    refine g_if_ne (t := 22) dX11_at_15 (by decide) (fun c8 => ?_) (fun c8 => ?_)
    · replace h := if_f h c8
      refine g_aload_n dX11_at_22 rfl 0 rfl ?_
      refine g_getI dX11_at_23 gi_168 rfl fl_RX11_386 ?_
      refine g_if_ne (t := 35) dX11_at_26 (by decide) (fun c9 => ?_) (fun c9 => ?_)
      · replace h := if_f h c9
        refine g_aload_n dX11_at_35 rfl 0 rfl ?_
        refine g_getC (n := 221) dX11_at_36 gi_168 rfl fl_RX11_179 ?_
        refine g_iload_n dX11_at_39 rfl 1 rfl ?_
        obtain ⟨g10, h⟩ := gg_some h
        refine g_iald dX11_at_40 gi_221 g10 ?_
        refine g_if_eq (t := 50) dX11_at_41 (by decide) (fun c11 => ?_) (fun c11 => ?_)
        · replace h := if_t h c11
          refine g_iload_n dX11_at_50 rfl 2 rfl ?_
          refine g_if_ne (t := 63) dX11_at_51 (by decide) (fun c12 => ?_) (fun c12 => ?_)
          · replace h := if_f h c12
            refine g_aload_n dX11_at_63 rfl 0 rfl ?_
            refine g_getC (n := 220) dX11_at_64 gi_168 rfl fl_RX11_176 ?_
            refine g_iload_n dX11_at_67 rfl 1 rfl ?_
            obtain ⟨g13, h⟩ := gg_some h
            refine g_lald dX11_at_68 gi_220 g13 ?_
            refine g_sub [] rfl ?_
            exact pX11_at_69 h
          · replace h := if_t h c12
            refine g_aload_n dX11_at_54 rfl 0 rfl ?_
            refine g_getC (n := 219) dX11_at_55 gi_168 rfl fl_RX11_173 ?_
            refine g_iload_n dX11_at_58 rfl 1 rfl ?_
            obtain ⟨g14, h⟩ := gg_some h
            refine g_lald dX11_at_59 gi_219 g14 ?_
            refine g_goto (t := 69) dX11_at_60 (by decide) ?_
            refine g_sub [] rfl ?_
            exact pX11_at_69 h
        · replace h := if_f h c11
          refine g_ldc2 (v := (-1000000)) dX11_at_44 wl_RX11_514 ?_
          refine g_goto (t := 69) dX11_at_47 (by decide) ?_
          refine g_sub [] rfl ?_
          exact pX11_at_69 h
      · replace h := if_t h c9
        refine g_ldc2 (v := (-1000002)) dX11_at_29 wl_RX11_512 ?_
        refine g_goto (t := 69) dX11_at_32 (by decide) ?_
        refine g_sub [] rfl ?_
        exact pX11_at_69 h
    · replace h := if_t h c8
      refine g_sub [] rfl ?_
      exact pX11_at_18 h
theorem zX11_at {E : gE} {p1 : Int32} {p2 : Int32} {r : Int64} {σ σ' : gS} (h : fX11_at p1 p2 σ = some (r, σ')) : gC E mX11_at [.ref 168, .int p1, .int p2] σ (some (.long r)) σ' :=
  gC_of (by decide +kernel) rfl (Nat.le_of_ble_eq_true rfl) (pX11_at h)
def mX11_why : gM := (yX11_why, cX11_why, RX11, 2, (some .int), 2, 46)
theorem dX11_why_0 : decode mX11_why.2.1 0 = .ok (.aload_n 0, 1) := by decide +kernel
theorem dX11_why_1 : decode mX11_why.2.1 1 = .ok (.iload_n 1, 1) := by decide +kernel
theorem dX11_why_2 : decode mX11_why.2.1 2 = .ok (.invokevirtual 420, 3) := by decide +kernel
theorem dX11_why_5 : decode mX11_why.2.1 5 = .ok (.ifCond .ne 8, 3) := by decide +kernel
theorem dX11_why_8 : decode mX11_why.2.1 8 = .ok (.ldc 224, 2) := by decide +kernel
theorem dX11_why_10 : decode mX11_why.2.1 10 = .ok (.goto 22, 3) := by decide +kernel
theorem dX11_why_13 : decode mX11_why.2.1 13 = .ok (.aload_n 0, 1) := by decide +kernel
theorem dX11_why_14 : decode mX11_why.2.1 14 = .ok (.getfield 386, 3) := by decide +kernel
theorem dX11_why_17 : decode mX11_why.2.1 17 = .ok (.ifCond .ne 9, 3) := by decide +kernel
theorem dX11_why_20 : decode mX11_why.2.1 20 = .ok (.ldc_w 503, 3) := by decide +kernel
theorem dX11_why_23 : decode mX11_why.2.1 23 = .ok (.goto 9, 3) := by decide +kernel
theorem dX11_why_26 : decode mX11_why.2.1 26 = .ok (.aload_n 0, 1) := by decide +kernel
theorem dX11_why_27 : decode mX11_why.2.1 27 = .ok (.getfield 179, 3) := by decide +kernel
theorem dX11_why_30 : decode mX11_why.2.1 30 = .ok (.iload_n 1, 1) := by decide +kernel
theorem dX11_why_31 : decode mX11_why.2.1 31 = .ok (.iaload, 1) := by decide +kernel
theorem dX11_why_32 : decode mX11_why.2.1 32 = .ok (.ireturn, 1) := by decide +kernel
theorem okX11_why_420 : gOkV mX11_why mX11_isJoint 420 1 := ⟨List.forall_mem_cons.mpr ⟨(gm 1702 (by decide +kernel) rfl), List.forall_mem_cons.mpr ⟨(gm 1699 (by decide +kernel) rfl), List.forall_mem_cons.mpr ⟨(gm 1701 (by decide +kernel) rfl), List.forall_mem_cons.mpr ⟨(gm 88 (by decide +kernel) rfl), List.forall_mem_cons.mpr ⟨(gm 122 (by decide +kernel) rfl), fun _ h => absurd h List.not_mem_nil⟩⟩⟩⟩⟩, by decide +kernel, by decide +kernel, by decide +kernel⟩
def fX11_why_32 (p1 : Int32) (s0 : Int32) (σ : gS) : Option (Int32 × gS) :=
  some (s0, σ)
set_option maxHeartbeats 4000000 in
set_option maxRecDepth 100000 in
theorem pX11_why_32 {E : gE} {p1 : Int32} {r : Int32} {σ' : gS} {s0 : Int32} {σ : gS} (h : fX11_why_32 p1 s0 σ = some (r, σ')) : gG E mX11_why 32 [] [.int s0] σ (some (.int r)) σ' := by
  unfold fX11_why_32 at h
  obtain ⟨rfl, rfl⟩ := so_inj h
  exact g_iret dX11_why_32 rfl
def fX11_why (p1 : Int32) (σ : gS) : Option (Int32 × gS) :=
  bd (fX11_isJoint p1 σ) fun x1 σ2 =>
  if x1 = 0 then
    fX11_why_32 p1 (-1000001) σ2
  else
    if (σ2.1 168 81) = 0 then
      fX11_why_32 p1 (-1000002) σ2
    else
      gg (¬ (p1 < 0 ∨ 24 ≤ p1.toNatClampNeg)) (
      fX11_why_32 p1 (σ2.1 221 p1.toNatClampNeg) σ2)
set_option maxHeartbeats 4000000 in
set_option maxRecDepth 100000 in
theorem pX11_why {E : gE} {p1 : Int32} {r : Int32} {σ' : gS} {σ : gS} (h : fX11_why p1 σ = some (r, σ')) : gG E mX11_why 0 [(0, .ref 168), (1, .int p1)] [] σ (some (.int r)) σ' := by
  unfold fX11_why at h
  refine g_aload_n dX11_why_0 rfl 0 rfl ?_
  refine g_iload_n dX11_why_1 rfl 1 rfl ?_
  obtain ⟨x1, σ2, y3, h⟩ := bd_some h
  refine g_callVr (as := [.int p1]) (st := []) (zX11_isJoint y3) dX11_why_2 gi_168 rfl okX11_why_420 (Nat.le_of_ble_eq_true rfl) ?_
  refine g_if_ne (t := 13) dX11_why_5 (by decide) (fun c4 => ?_) (fun c4 => ?_)
  · replace h := if_f h c4
    refine g_aload_n dX11_why_13 rfl 0 rfl ?_
    refine g_getI dX11_why_14 gi_168 rfl fl_RX11_386 ?_
    refine g_if_ne (t := 26) dX11_why_17 (by decide) (fun c5 => ?_) (fun c5 => ?_)
    · replace h := if_f h c5
      refine g_aload_n dX11_why_26 rfl 0 rfl ?_
      refine g_getC (n := 221) dX11_why_27 gi_168 rfl fl_RX11_179 ?_
      refine g_iload_n dX11_why_30 rfl 1 rfl ?_
      obtain ⟨g6, h⟩ := gg_some h
      refine g_iald dX11_why_31 gi_221 g6 ?_
      refine g_sub [] rfl ?_
      exact pX11_why_32 h
    · replace h := if_t h c5
      refine g_ldcw (v := (-1000002)) dX11_why_20 wc_RX11_503 ?_
      refine g_goto (t := 32) dX11_why_23 (by decide) ?_
      refine g_sub [] rfl ?_
      exact pX11_why_32 h
  · replace h := if_t h c4
    refine g_ldc (v := (-1000001)) dX11_why_8 wc_RX11_224 ?_
    refine g_goto (t := 32) dX11_why_10 (by decide) ?_
    refine g_sub [] rfl ?_
    exact pX11_why_32 h
theorem zX11_why {E : gE} {p1 : Int32} {r : Int32} {σ σ' : gS} (h : fX11_why p1 σ = some (r, σ')) : gC E mX11_why [.ref 168, .int p1] σ (some (.int r)) σ' :=
  gC_of (by decide +kernel) rfl (Nat.le_of_ble_eq_true rfl) (pX11_why h)
def mX11_order : gM := (yX11_order, cX11_order, RX11, 4, (some .int), 1, 25)
theorem dX11_order_0 : decode mX11_order.2.1 0 = .ok (.iload_n 2, 1) := by decide +kernel
theorem dX11_order_1 : decode mX11_order.2.1 1 = .ok (.i2l, 1) := by decide +kernel
theorem dX11_order_2 : decode mX11_order.2.1 2 = .ok (.lconst 0, 1) := by decide +kernel
theorem dX11_order_3 : decode mX11_order.2.1 3 = .ok (.ldc2_w 448, 3) := by decide +kernel
theorem dX11_order_6 : decode mX11_order.2.1 6 = .ok (.invokestatic 220, 3) := by decide +kernel
theorem dX11_order_9 : decode mX11_order.2.1 9 = .ok (.ifCond .ne 6, 3) := by decide +kernel
theorem dX11_order_12 : decode mX11_order.2.1 12 = .ok (.ldc 224, 2) := by decide +kernel
theorem dX11_order_14 : decode mX11_order.2.1 14 = .ok (.ireturn, 1) := by decide +kernel
theorem dX11_order_15 : decode mX11_order.2.1 15 = .ok (.aload_n 0, 1) := by decide +kernel
theorem dX11_order_16 : decode mX11_order.2.1 16 = .ok (.getfield 54, 3) := by decide +kernel
theorem dX11_order_19 : decode mX11_order.2.1 19 = .ok (.ifCond .ge 7, 3) := by decide +kernel
theorem dX11_order_22 : decode mX11_order.2.1 22 = .ok (.ldc_w 503, 3) := by decide +kernel
theorem dX11_order_25 : decode mX11_order.2.1 25 = .ok (.ireturn, 1) := by decide +kernel
theorem dX11_order_26 : decode mX11_order.2.1 26 = .ok (.iload_n 1, 1) := by decide +kernel
theorem dX11_order_27 : decode mX11_order.2.1 27 = .ok (.i2l, 1) := by decide +kernel
theorem dX11_order_28 : decode mX11_order.2.1 28 = .ok (.lconst 0, 1) := by decide +kernel
theorem dX11_order_29 : decode mX11_order.2.1 29 = .ok (.aload_n 0, 1) := by decide +kernel
theorem dX11_order_30 : decode mX11_order.2.1 30 = .ok (.getfield 459, 3) := by decide +kernel
theorem dX11_order_33 : decode mX11_order.2.1 33 = .ok (.iconst 1, 1) := by decide +kernel
theorem dX11_order_34 : decode mX11_order.2.1 34 = .ok (.isub, 1) := by decide +kernel
theorem dX11_order_35 : decode mX11_order.2.1 35 = .ok (.i2l, 1) := by decide +kernel
theorem dX11_order_36 : decode mX11_order.2.1 36 = .ok (.invokestatic 220, 3) := by decide +kernel
theorem dX11_order_39 : decode mX11_order.2.1 39 = .ok (.ifCond .ne 6, 3) := by decide +kernel
theorem dX11_order_42 : decode mX11_order.2.1 42 = .ok (.ldc 106, 2) := by decide +kernel
theorem dX11_order_44 : decode mX11_order.2.1 44 = .ok (.ireturn, 1) := by decide +kernel
theorem dX11_order_45 : decode mX11_order.2.1 45 = .ok (.aload_n 0, 1) := by decide +kernel
theorem dX11_order_46 : decode mX11_order.2.1 46 = .ok (.getfield 146, 3) := by decide +kernel
theorem dX11_order_49 : decode mX11_order.2.1 49 = .ok (.iload_n 1, 1) := by decide +kernel
theorem dX11_order_50 : decode mX11_order.2.1 50 = .ok (.iaload, 1) := by decide +kernel
theorem dX11_order_51 : decode mX11_order.2.1 51 = .ok (.istore_n 3, 1) := by decide +kernel
theorem dX11_order_52 : decode mX11_order.2.1 52 = .ok (.iload_n 2, 1) := by decide +kernel
theorem dX11_order_53 : decode mX11_order.2.1 53 = .ok (.ifCond .ne 7, 3) := by decide +kernel
theorem dX11_order_56 : decode mX11_order.2.1 56 = .ok (.iload_n 3, 1) := by decide +kernel
theorem dX11_order_57 : decode mX11_order.2.1 57 = .ok (.goto 23, 3) := by decide +kernel
theorem dX11_order_60 : decode mX11_order.2.1 60 = .ok (.iload_n 2, 1) := by decide +kernel
theorem dX11_order_61 : decode mX11_order.2.1 61 = .ok (.iconst 1, 1) := by decide +kernel
theorem dX11_order_62 : decode mX11_order.2.1 62 = .ok (.if_icmp .ne 12, 3) := by decide +kernel
theorem dX11_order_65 : decode mX11_order.2.1 65 = .ok (.aload_n 0, 1) := by decide +kernel
theorem dX11_order_66 : decode mX11_order.2.1 66 = .ok (.getfield 149, 3) := by decide +kernel
theorem dX11_order_69 : decode mX11_order.2.1 69 = .ok (.iload_n 3, 1) := by decide +kernel
theorem dX11_order_70 : decode mX11_order.2.1 70 = .ok (.iaload, 1) := by decide +kernel
theorem dX11_order_71 : decode mX11_order.2.1 71 = .ok (.goto 9, 3) := by decide +kernel
theorem dX11_order_74 : decode mX11_order.2.1 74 = .ok (.aload_n 0, 1) := by decide +kernel
theorem dX11_order_75 : decode mX11_order.2.1 75 = .ok (.getfield 152, 3) := by decide +kernel
theorem dX11_order_78 : decode mX11_order.2.1 78 = .ok (.iload_n 3, 1) := by decide +kernel
theorem dX11_order_79 : decode mX11_order.2.1 79 = .ok (.iaload, 1) := by decide +kernel
theorem dX11_order_80 : decode mX11_order.2.1 80 = .ok (.ireturn, 1) := by decide +kernel
theorem okX11_order_220 : gOkS mX11_order mX11_in 220 3 := ⟨List.forall_mem_cons.mpr ⟨(gm 1539 (by decide +kernel) rfl), List.forall_mem_cons.mpr ⟨(gm 1537 (by decide +kernel) rfl), List.forall_mem_cons.mpr ⟨(gm 1538 (by decide +kernel) rfl), List.forall_mem_cons.mpr ⟨(gm 122 (by decide +kernel) rfl), fun _ h => absurd h List.not_mem_nil⟩⟩⟩⟩, by decide +kernel, by decide +kernel, by decide +kernel⟩
def fX11_order_80 (p1 : Int32) (p2 : Int32) (s0 : Int32) (σ : gS) : Option (Int32 × gS) :=
  some (s0, σ)
set_option maxHeartbeats 4000000 in
set_option maxRecDepth 100000 in
theorem pX11_order_80 {E : gE} {p1 : Int32} {p2 : Int32} {r : Int32} {σ' : gS} {s0 : Int32} {σ : gS} (h : fX11_order_80 p1 p2 s0 σ = some (r, σ')) : gG E mX11_order 80 [] [.int s0] σ (some (.int r)) σ' := by
  unfold fX11_order_80 at h
  obtain ⟨rfl, rfl⟩ := so_inj h
  exact g_iret dX11_order_80 rfl
def fX11_order (p1 : Int32) (p2 : Int32) (σ : gS) : Option (Int32 × gS) :=
  bd (fX11_in p2.toInt64 0 2 σ) fun x1 σ2 =>
  if x1 = 0 then
    some ((-1000001), σ2)
  else
    if 0 ≤ (σ2.1 168 19) then
      bd (fX11_in p1.toInt64 0 (((σ2.1 168 69) - 1).toInt64) σ2) fun x6 σ7 =>
      if x6 = 0 then
        some ((-1000000), σ7)
      else
        gg (¬ (p1 < 0 ∨ 24 ≤ p1.toNatClampNeg)) (
        if p2 = 0 then
          fX11_order_80 p1 p2 (σ7.1 210 p1.toNatClampNeg) σ7
        else
          if p2 = 1 then
            gg (¬ (σ7.1 210 p1.toNatClampNeg < 0 ∨ 24 ≤ (σ7.1 210 p1.toNatClampNeg).toNatClampNeg)) (
            fX11_order_80 p1 p2 (σ7.1 211 ((σ7.1 210 p1.toNatClampNeg).toNatClampNeg)) σ7)
          else
            gg (¬ (σ7.1 210 p1.toNatClampNeg < 0 ∨ 24 ≤ (σ7.1 210 p1.toNatClampNeg).toNatClampNeg)) (
            fX11_order_80 p1 p2 (σ7.1 212 ((σ7.1 210 p1.toNatClampNeg).toNatClampNeg)) σ7))
    else
      some ((-1000002), σ2)
set_option maxHeartbeats 4000000 in
set_option maxRecDepth 100000 in
theorem pX11_order {E : gE} {p1 : Int32} {p2 : Int32} {r : Int32} {σ' : gS} {σ : gS} (h : fX11_order p1 p2 σ = some (r, σ')) : gG E mX11_order 0 [(0, .ref 168), (1, .int p1), (2, .int p2)] [] σ (some (.int r)) σ' := by
  unfold fX11_order at h
  refine g_iload_n dX11_order_0 rfl 2 rfl ?_
  refine g_i2l dX11_order_1 ?_
  refine g_lconst (v := 0) dX11_order_2 (by decide) ?_
  refine g_ldc2 (v := 2) dX11_order_3 wl_RX11_448 ?_
  obtain ⟨x1, σ2, y3, h⟩ := bd_some h
  refine g_callSr (as := [.long p2.toInt64, .long 0, .long 2]) (st := []) (zX11_in y3) dX11_order_6 okX11_order_220 (Nat.le_of_ble_eq_true rfl) ?_
  refine g_if_ne (t := 15) dX11_order_9 (by decide) (fun c4 => ?_) (fun c4 => ?_)
  · replace h := if_f h c4
    refine g_aload_n dX11_order_15 rfl 0 rfl ?_
    refine g_getI dX11_order_16 gi_168 rfl fl_RX11_54 ?_
    refine g_if_ge (t := 26) dX11_order_19 (by decide) (fun c5 => ?_) (fun c5 => ?_)
    · replace h := if_t h c5
      refine g_iload_n dX11_order_26 rfl 1 rfl ?_
      refine g_i2l dX11_order_27 ?_
      refine g_lconst (v := 0) dX11_order_28 (by decide) ?_
      refine g_aload_n dX11_order_29 rfl 0 rfl ?_
      refine g_getI dX11_order_30 gi_168 rfl fl_RX11_459 ?_
      refine g_iconst (v := 1) dX11_order_33 (by decide) ?_
      refine g_isub dX11_order_34 ?_
      refine g_i2l dX11_order_35 ?_
      obtain ⟨x6, σ7, y8, h⟩ := bd_some h
      refine g_callSr (as := [.long p1.toInt64, .long 0, .long (((σ2.1 168 69) - 1).toInt64)]) (st := []) (zX11_in y8) dX11_order_36 okX11_order_220 (Nat.le_of_ble_eq_true rfl) ?_
      refine g_if_ne (t := 45) dX11_order_39 (by decide) (fun c9 => ?_) (fun c9 => ?_)
      · replace h := if_f h c9
        refine g_aload_n dX11_order_45 rfl 0 rfl ?_
        refine g_getC (n := 210) dX11_order_46 gi_168 rfl fl_RX11_146 ?_
        refine g_iload_n dX11_order_49 rfl 1 rfl ?_
        obtain ⟨g10, h⟩ := gg_some h
        refine g_iald dX11_order_50 gi_210 g10 ?_
        refine g_istore_n (lv' := [(3, .int (σ7.1 210 p1.toNatClampNeg)), (0, .ref 168), (1, .int p1), (2, .int p2)]) dX11_order_51 rfl (Nat.le_of_ble_eq_true rfl) rfl ?_
        refine g_iload_n dX11_order_52 rfl 3 rfl ?_
        refine g_if_ne (t := 60) dX11_order_53 (by decide) (fun c11 => ?_) (fun c11 => ?_)
        · replace h := if_f h c11
          refine g_iload_n dX11_order_60 rfl 3 rfl ?_
          refine g_iconst (v := 1) dX11_order_61 (by decide) ?_
          refine g_icmp_ne (t := 74) dX11_order_62 (by decide) (fun c12 => ?_) (fun c12 => ?_)
          · replace h := if_f h c12
            refine g_aload_n dX11_order_74 rfl 1 rfl ?_
            refine g_getC (n := 212) dX11_order_75 gi_168 rfl fl_RX11_152 ?_
            refine g_iload_n dX11_order_78 rfl 0 rfl ?_
            obtain ⟨g13, h⟩ := gg_some h
            refine g_iald dX11_order_79 gi_212 g13 ?_
            refine g_sub [] rfl ?_
            exact pX11_order_80 h
          · replace h := if_t h c12
            refine g_aload_n dX11_order_65 rfl 1 rfl ?_
            refine g_getC (n := 211) dX11_order_66 gi_168 rfl fl_RX11_149 ?_
            refine g_iload_n dX11_order_69 rfl 0 rfl ?_
            obtain ⟨g14, h⟩ := gg_some h
            refine g_iald dX11_order_70 gi_211 g14 ?_
            refine g_goto (t := 80) dX11_order_71 (by decide) ?_
            refine g_sub [] rfl ?_
            exact pX11_order_80 h
        · replace h := if_t h c11
          refine g_iload_n dX11_order_56 rfl 0 rfl ?_
          refine g_goto (t := 80) dX11_order_57 (by decide) ?_
          refine g_sub [] rfl ?_
          exact pX11_order_80 h
      · replace h := if_t h c9
        refine g_ldc (v := (-1000000)) dX11_order_42 wc_RX11_106 ?_
        obtain ⟨rfl, rfl⟩ := so_inj h
        exact g_iret dX11_order_44 rfl
    · replace h := if_f h c5
      refine g_ldcw (v := (-1000002)) dX11_order_22 wc_RX11_503 ?_
      obtain ⟨rfl, rfl⟩ := so_inj h
      exact g_iret dX11_order_25 rfl
  · replace h := if_t h c4
    refine g_ldc (v := (-1000001)) dX11_order_12 wc_RX11_224 ?_
    obtain ⟨rfl, rfl⟩ := so_inj h
    exact g_iret dX11_order_14 rfl
theorem zX11_order {E : gE} {p1 : Int32} {p2 : Int32} {r : Int32} {σ σ' : gS} (h : fX11_order p1 p2 σ = some (r, σ')) : gC E mX11_order [.ref 168, .int p1, .int p2] σ (some (.int r)) σ' :=
  gC_of (by decide +kernel) rfl (Nat.le_of_ble_eq_true rfl) (pX11_order h)
def mX11_flip : gM := (yX11_flip, cX11_flip, RX11, 2, (some .int), 2, 46)
theorem dX11_flip_0 : decode mX11_flip.2.1 0 = .ok (.aload_n 0, 1) := by decide +kernel
theorem dX11_flip_1 : decode mX11_flip.2.1 1 = .ok (.iload_n 1, 1) := by decide +kernel
theorem dX11_flip_2 : decode mX11_flip.2.1 2 = .ok (.invokevirtual 420, 3) := by decide +kernel
theorem dX11_flip_5 : decode mX11_flip.2.1 5 = .ok (.ifCond .ne 6, 3) := by decide +kernel
theorem dX11_flip_8 : decode mX11_flip.2.1 8 = .ok (.ldc 224, 2) := by decide +kernel
theorem dX11_flip_10 : decode mX11_flip.2.1 10 = .ok (.ireturn, 1) := by decide +kernel
theorem dX11_flip_11 : decode mX11_flip.2.1 11 = .ok (.aload_n 0, 1) := by decide +kernel
theorem dX11_flip_12 : decode mX11_flip.2.1 12 = .ok (.getfield 54, 3) := by decide +kernel
theorem dX11_flip_15 : decode mX11_flip.2.1 15 = .ok (.ifCond .lt 12, 3) := by decide +kernel
theorem dX11_flip_18 : decode mX11_flip.2.1 18 = .ok (.aload_n 0, 1) := by decide +kernel
theorem dX11_flip_19 : decode mX11_flip.2.1 19 = .ok (.getfield 155, 3) := by decide +kernel
theorem dX11_flip_22 : decode mX11_flip.2.1 22 = .ok (.iload_n 1, 1) := by decide +kernel
theorem dX11_flip_23 : decode mX11_flip.2.1 23 = .ok (.baload, 1) := by decide +kernel
theorem dX11_flip_24 : decode mX11_flip.2.1 24 = .ok (.ifCond .ne 7, 3) := by decide +kernel
theorem dX11_flip_27 : decode mX11_flip.2.1 27 = .ok (.ldc_w 503, 3) := by decide +kernel
theorem dX11_flip_30 : decode mX11_flip.2.1 30 = .ok (.ireturn, 1) := by decide +kernel
theorem dX11_flip_31 : decode mX11_flip.2.1 31 = .ok (.aload_n 0, 1) := by decide +kernel
theorem dX11_flip_32 : decode mX11_flip.2.1 32 = .ok (.getfield 161, 3) := by decide +kernel
theorem dX11_flip_35 : decode mX11_flip.2.1 35 = .ok (.iload_n 1, 1) := by decide +kernel
theorem dX11_flip_36 : decode mX11_flip.2.1 36 = .ok (.aload_n 0, 1) := by decide +kernel
theorem dX11_flip_37 : decode mX11_flip.2.1 37 = .ok (.getfield 161, 3) := by decide +kernel
theorem dX11_flip_40 : decode mX11_flip.2.1 40 = .ok (.iload_n 1, 1) := by decide +kernel
theorem dX11_flip_41 : decode mX11_flip.2.1 41 = .ok (.iaload, 1) := by decide +kernel
theorem dX11_flip_42 : decode mX11_flip.2.1 42 = .ok (.ineg, 1) := by decide +kernel
theorem dX11_flip_43 : decode mX11_flip.2.1 43 = .ok (.iastore, 1) := by decide +kernel
theorem dX11_flip_44 : decode mX11_flip.2.1 44 = .ok (.aload_n 0, 1) := by decide +kernel
theorem dX11_flip_45 : decode mX11_flip.2.1 45 = .ok (.getfield 161, 3) := by decide +kernel
theorem dX11_flip_48 : decode mX11_flip.2.1 48 = .ok (.iload_n 1, 1) := by decide +kernel
theorem dX11_flip_49 : decode mX11_flip.2.1 49 = .ok (.iaload, 1) := by decide +kernel
theorem dX11_flip_50 : decode mX11_flip.2.1 50 = .ok (.ireturn, 1) := by decide +kernel
theorem okX11_flip_420 : gOkV mX11_flip mX11_isJoint 420 1 := ⟨List.forall_mem_cons.mpr ⟨(gm 1702 (by decide +kernel) rfl), List.forall_mem_cons.mpr ⟨(gm 1699 (by decide +kernel) rfl), List.forall_mem_cons.mpr ⟨(gm 1701 (by decide +kernel) rfl), List.forall_mem_cons.mpr ⟨(gm 88 (by decide +kernel) rfl), List.forall_mem_cons.mpr ⟨(gm 122 (by decide +kernel) rfl), fun _ h => absurd h List.not_mem_nil⟩⟩⟩⟩⟩, by decide +kernel, by decide +kernel, by decide +kernel⟩
def fX11_flip_27 (p1 : Int32) (σ : gS) : Option (Int32 × gS) :=
  some ((-1000002), σ)
set_option maxHeartbeats 4000000 in
set_option maxRecDepth 100000 in
theorem pX11_flip_27 {E : gE} {p1 : Int32} {r : Int32} {σ' : gS} {σ : gS} (h : fX11_flip_27 p1 σ = some (r, σ')) : gG E mX11_flip 27 [] [] σ (some (.int r)) σ' := by
  unfold fX11_flip_27 at h
  refine g_ldcw (v := (-1000002)) dX11_flip_27 wc_RX11_503 ?_
  obtain ⟨rfl, rfl⟩ := so_inj h
  exact g_iret dX11_flip_30 rfl
def fX11_flip (p1 : Int32) (σ : gS) : Option (Int32 × gS) :=
  bd (fX11_isJoint p1 σ) fun x1 σ2 =>
  if x1 = 0 then
    some ((-1000001), σ2)
  else
    if (σ2.1 168 19) < 0 then
      fX11_flip_27 p1 σ2
    else
      gg (¬ (p1 < 0 ∨ 24 ≤ p1.toNatClampNeg)) (
      if (σ2.1 213 p1.toNatClampNeg) = 0 then
        fX11_flip_27 p1 σ2
      else
        gg (¬ (p1 < 0 ∨ 24 ≤ p1.toNatClampNeg)) (
        gg (¬ (p1 < 0 ∨ 24 ≤ p1.toNatClampNeg)) (
        bnd (gsI σ2 215 p1.toNatClampNeg (-(σ2.1 215 p1.toNatClampNeg))) fun σ10 =>
        gg (¬ (p1 < 0 ∨ 24 ≤ p1.toNatClampNeg)) (
        some (σ10.1 215 p1.toNatClampNeg, σ10)))))
set_option maxHeartbeats 4000000 in
set_option maxRecDepth 100000 in
theorem pX11_flip {E : gE} {p1 : Int32} {r : Int32} {σ' : gS} {σ : gS} (h : fX11_flip p1 σ = some (r, σ')) : gG E mX11_flip 0 [(0, .ref 168), (1, .int p1)] [] σ (some (.int r)) σ' := by
  unfold fX11_flip at h
  refine g_aload_n dX11_flip_0 rfl 0 rfl ?_
  refine g_iload_n dX11_flip_1 rfl 1 rfl ?_
  obtain ⟨x1, σ2, y3, h⟩ := bd_some h
  refine g_callVr (as := [.int p1]) (st := []) (zX11_isJoint y3) dX11_flip_2 gi_168 rfl okX11_flip_420 (Nat.le_of_ble_eq_true rfl) ?_
  refine g_if_ne (t := 11) dX11_flip_5 (by decide) (fun c4 => ?_) (fun c4 => ?_)
  · replace h := if_f h c4
    refine g_aload_n dX11_flip_11 rfl 0 rfl ?_
    refine g_getI dX11_flip_12 gi_168 rfl fl_RX11_54 ?_
    refine g_if_lt (t := 27) dX11_flip_15 (by decide) (fun c5 => ?_) (fun c5 => ?_)
    · replace h := if_t h c5
      refine g_sub [] rfl ?_
      exact pX11_flip_27 h
    · replace h := if_f h c5
      refine g_aload_n dX11_flip_18 rfl 0 rfl ?_
      refine g_getC (n := 213) dX11_flip_19 gi_168 rfl fl_RX11_155 ?_
      refine g_iload_n dX11_flip_22 rfl 1 rfl ?_
      obtain ⟨g6, h⟩ := gg_some h
      refine g_zald dX11_flip_23 gi_213 g6 ?_
      refine g_if_ne (t := 31) dX11_flip_24 (by decide) (fun c7 => ?_) (fun c7 => ?_)
      · replace h := if_f h c7
        refine g_aload_n dX11_flip_31 rfl 0 rfl ?_
        refine g_getC (n := 215) dX11_flip_32 gi_168 rfl fl_RX11_161 ?_
        refine g_iload_n dX11_flip_35 rfl 1 rfl ?_
        refine g_aload_n dX11_flip_36 rfl 0 rfl ?_
        refine g_getC (n := 215) dX11_flip_37 gi_168 rfl fl_RX11_161 ?_
        refine g_iload_n dX11_flip_40 rfl 1 rfl ?_
        obtain ⟨g8, h⟩ := gg_some h
        refine g_iald dX11_flip_41 gi_215 g8 ?_
        refine g_ineg dX11_flip_42 ?_
        obtain ⟨g9, h⟩ := gg_some h
        obtain ⟨σ10, eσ10, h⟩ := bnd_nm h
        refine g_iast dX11_flip_43 gi_215 g9 (g_st eσ10 ?_)
        refine g_aload_n dX11_flip_44 rfl 0 rfl ?_
        refine g_getC (n := 215) dX11_flip_45 gi_168 rfl fl_RX11_161 ?_
        refine g_iload_n dX11_flip_48 rfl 1 rfl ?_
        obtain ⟨g11, h⟩ := gg_some h
        refine g_iald dX11_flip_49 gi_215 g11 ?_
        obtain ⟨rfl, rfl⟩ := so_inj h
        exact g_iret dX11_flip_50 rfl
      · replace h := if_t h c7
        refine g_sub [] rfl ?_
        exact pX11_flip_27 h
  · replace h := if_t h c4
    refine g_ldc (v := (-1000001)) dX11_flip_8 wc_RX11_224 ?_
    obtain ⟨rfl, rfl⟩ := so_inj h
    exact g_iret dX11_flip_10 rfl
theorem zX11_flip {E : gE} {p1 : Int32} {r : Int32} {σ σ' : gS} (h : fX11_flip p1 σ = some (r, σ')) : gC E mX11_flip [.ref 168, .int p1] σ (some (.int r)) σ' :=
  gC_of (by decide +kernel) rfl (Nat.le_of_ble_eq_true rfl) (pX11_flip h)
theorem fl_RX11_185 : gFl RX11 185 11 86 := ⟨RX11, TX11, 101, rfl, by decide, ux_11, Or.inl (gm 1314 (by decide +kernel) rfl)⟩
theorem fl_RX11_188 : gFl RX11 188 11 87 := ⟨RX11, TX11, 101, rfl, by decide, ux_11, Or.inl (gm 1315 (by decide +kernel) rfl)⟩
theorem fl_RX11_191 : gFl RX11 191 11 88 := ⟨RX11, TX11, 101, rfl, by decide, ux_11, Or.inl (gm 1316 (by decide +kernel) rfl)⟩
def mX11_trace : gM := (yX11_trace, cX11_trace, RX11, 4, (some .int), 3, 99)
theorem dX11_trace_0 : decode mX11_trace.2.1 0 = .ok (.aload_n 0, 1) := by decide +kernel
theorem dX11_trace_1 : decode mX11_trace.2.1 1 = .ok (.iload_n 1, 1) := by decide +kernel
theorem dX11_trace_2 : decode mX11_trace.2.1 2 = .ok (.invokevirtual 420, 3) := by decide +kernel
theorem dX11_trace_5 : decode mX11_trace.2.1 5 = .ok (.ifCond .ne 6, 3) := by decide +kernel
theorem dX11_trace_8 : decode mX11_trace.2.1 8 = .ok (.ldc 224, 2) := by decide +kernel
theorem dX11_trace_10 : decode mX11_trace.2.1 10 = .ok (.ireturn, 1) := by decide +kernel
theorem dX11_trace_11 : decode mX11_trace.2.1 11 = .ok (.aload_n 0, 1) := by decide +kernel
theorem dX11_trace_12 : decode mX11_trace.2.1 12 = .ok (.getfield 54, 3) := by decide +kernel
theorem dX11_trace_15 : decode mX11_trace.2.1 15 = .ok (.ifCond .ge 7, 3) := by decide +kernel
theorem dX11_trace_18 : decode mX11_trace.2.1 18 = .ok (.ldc_w 503, 3) := by decide +kernel
theorem dX11_trace_21 : decode mX11_trace.2.1 21 = .ok (.ireturn, 1) := by decide +kernel
theorem dX11_trace_22 : decode mX11_trace.2.1 22 = .ok (.iconst 0, 1) := by decide +kernel
theorem dX11_trace_23 : decode mX11_trace.2.1 23 = .ok (.istore_n 2, 1) := by decide +kernel
theorem dX11_trace_24 : decode mX11_trace.2.1 24 = .ok (.iconst 0, 1) := by decide +kernel
theorem dX11_trace_25 : decode mX11_trace.2.1 25 = .ok (.istore_n 3, 1) := by decide +kernel
theorem dX11_trace_26 : decode mX11_trace.2.1 26 = .ok (.iload_n 3, 1) := by decide +kernel
theorem dX11_trace_27 : decode mX11_trace.2.1 27 = .ok (.sipush 256, 3) := by decide +kernel
theorem dX11_trace_30 : decode mX11_trace.2.1 30 = .ok (.if_icmp .ge 75, 3) := by decide +kernel
theorem dX11_trace_33 : decode mX11_trace.2.1 33 = .ok (.aload_n 0, 1) := by decide +kernel
theorem dX11_trace_34 : decode mX11_trace.2.1 34 = .ok (.iload_n 3, 1) := by decide +kernel
theorem dX11_trace_35 : decode mX11_trace.2.1 35 = .ok (.invokevirtual 504, 3) := by decide +kernel
theorem dX11_trace_38 : decode mX11_trace.2.1 38 = .ok (.aload_n 0, 1) := by decide +kernel
theorem dX11_trace_39 : decode mX11_trace.2.1 39 = .ok (.getfield 191, 3) := by decide +kernel
theorem dX11_trace_42 : decode mX11_trace.2.1 42 = .ok (.iload_n 3, 1) := by decide +kernel
theorem dX11_trace_43 : decode mX11_trace.2.1 43 = .ok (.aload_n 0, 1) := by decide +kernel
theorem dX11_trace_44 : decode mX11_trace.2.1 44 = .ok (.getfield 170, 3) := by decide +kernel
theorem dX11_trace_47 : decode mX11_trace.2.1 47 = .ok (.iload_n 1, 1) := by decide +kernel
theorem dX11_trace_48 : decode mX11_trace.2.1 48 = .ok (.iaload, 1) := by decide +kernel
theorem dX11_trace_49 : decode mX11_trace.2.1 49 = .ok (.ifCond .ne 7, 3) := by decide +kernel
theorem dX11_trace_52 : decode mX11_trace.2.1 52 = .ok (.iconst 1, 1) := by decide +kernel
theorem dX11_trace_53 : decode mX11_trace.2.1 53 = .ok (.goto 4, 3) := by decide +kernel
theorem dX11_trace_56 : decode mX11_trace.2.1 56 = .ok (.iconst 0, 1) := by decide +kernel
theorem dX11_trace_57 : decode mX11_trace.2.1 57 = .ok (.bastore, 1) := by decide +kernel
theorem dX11_trace_58 : decode mX11_trace.2.1 58 = .ok (.aload_n 0, 1) := by decide +kernel
theorem dX11_trace_59 : decode mX11_trace.2.1 59 = .ok (.getfield 185, 3) := by decide +kernel
theorem dX11_trace_62 : decode mX11_trace.2.1 62 = .ok (.iload_n 3, 1) := by decide +kernel
theorem dX11_trace_63 : decode mX11_trace.2.1 63 = .ok (.aload_n 0, 1) := by decide +kernel
theorem dX11_trace_64 : decode mX11_trace.2.1 64 = .ok (.getfield 164, 3) := by decide +kernel
theorem dX11_trace_67 : decode mX11_trace.2.1 67 = .ok (.iload_n 1, 1) := by decide +kernel
theorem dX11_trace_68 : decode mX11_trace.2.1 68 = .ok (.laload, 1) := by decide +kernel
theorem dX11_trace_69 : decode mX11_trace.2.1 69 = .ok (.lastore, 1) := by decide +kernel
theorem dX11_trace_70 : decode mX11_trace.2.1 70 = .ok (.aload_n 0, 1) := by decide +kernel
theorem dX11_trace_71 : decode mX11_trace.2.1 71 = .ok (.getfield 188, 3) := by decide +kernel
theorem dX11_trace_74 : decode mX11_trace.2.1 74 = .ok (.iload_n 3, 1) := by decide +kernel
theorem dX11_trace_75 : decode mX11_trace.2.1 75 = .ok (.aload_n 0, 1) := by decide +kernel
theorem dX11_trace_76 : decode mX11_trace.2.1 76 = .ok (.getfield 167, 3) := by decide +kernel
theorem dX11_trace_79 : decode mX11_trace.2.1 79 = .ok (.iload_n 1, 1) := by decide +kernel
theorem dX11_trace_80 : decode mX11_trace.2.1 80 = .ok (.laload, 1) := by decide +kernel
theorem dX11_trace_81 : decode mX11_trace.2.1 81 = .ok (.lastore, 1) := by decide +kernel
theorem dX11_trace_82 : decode mX11_trace.2.1 82 = .ok (.iload_n 2, 1) := by decide +kernel
theorem dX11_trace_83 : decode mX11_trace.2.1 83 = .ok (.aload_n 0, 1) := by decide +kernel
theorem dX11_trace_84 : decode mX11_trace.2.1 84 = .ok (.getfield 191, 3) := by decide +kernel
theorem dX11_trace_87 : decode mX11_trace.2.1 87 = .ok (.iload_n 3, 1) := by decide +kernel
theorem dX11_trace_88 : decode mX11_trace.2.1 88 = .ok (.baload, 1) := by decide +kernel
theorem dX11_trace_89 : decode mX11_trace.2.1 89 = .ok (.ifCond .eq 7, 3) := by decide +kernel
theorem dX11_trace_92 : decode mX11_trace.2.1 92 = .ok (.iconst 1, 1) := by decide +kernel
theorem dX11_trace_93 : decode mX11_trace.2.1 93 = .ok (.goto 4, 3) := by decide +kernel
theorem dX11_trace_96 : decode mX11_trace.2.1 96 = .ok (.iconst 0, 1) := by decide +kernel
theorem dX11_trace_97 : decode mX11_trace.2.1 97 = .ok (.iadd, 1) := by decide +kernel
theorem dX11_trace_98 : decode mX11_trace.2.1 98 = .ok (.istore_n 2, 1) := by decide +kernel
theorem dX11_trace_99 : decode mX11_trace.2.1 99 = .ok (.iinc 3 1, 3) := by decide +kernel
theorem dX11_trace_102 : decode mX11_trace.2.1 102 = .ok (.goto (-76), 3) := by decide +kernel
theorem dX11_trace_105 : decode mX11_trace.2.1 105 = .ok (.aload_n 0, 1) := by decide +kernel
theorem dX11_trace_106 : decode mX11_trace.2.1 106 = .ok (.iload_n 1, 1) := by decide +kernel
theorem dX11_trace_107 : decode mX11_trace.2.1 107 = .ok (.putfield 182, 3) := by decide +kernel
theorem dX11_trace_110 : decode mX11_trace.2.1 110 = .ok (.iload_n 2, 1) := by decide +kernel
theorem dX11_trace_111 : decode mX11_trace.2.1 111 = .ok (.ireturn, 1) := by decide +kernel
theorem okX11_trace_504 : gOkV mX11_trace mX11_turn 504 1 := ⟨List.forall_mem_cons.mpr ⟨(gm 1749 (by decide +kernel) rfl), List.forall_mem_cons.mpr ⟨(gm 1746 (by decide +kernel) rfl), List.forall_mem_cons.mpr ⟨(gm 1748 (by decide +kernel) rfl), List.forall_mem_cons.mpr ⟨(gm 93 (by decide +kernel) rfl), List.forall_mem_cons.mpr ⟨(gm 122 (by decide +kernel) rfl), fun _ h => absurd h List.not_mem_nil⟩⟩⟩⟩⟩, by decide +kernel, by decide +kernel, by decide +kernel⟩
theorem okX11_trace_420 : gOkV mX11_trace mX11_isJoint 420 1 := ⟨List.forall_mem_cons.mpr ⟨(gm 1702 (by decide +kernel) rfl), List.forall_mem_cons.mpr ⟨(gm 1699 (by decide +kernel) rfl), List.forall_mem_cons.mpr ⟨(gm 1701 (by decide +kernel) rfl), List.forall_mem_cons.mpr ⟨(gm 88 (by decide +kernel) rfl), List.forall_mem_cons.mpr ⟨(gm 122 (by decide +kernel) rfl), fun _ h => absurd h List.not_mem_nil⟩⟩⟩⟩⟩, by decide +kernel, by decide +kernel, by decide +kernel⟩
def fX11_trace_97 (p1 : Int32) (k26 : Int32 → Int32 → gS → Option (Int32 × gS)) (v3 : Int32) (s0 : Int32) (s1 : Int32) (σ : gS) : Option (Int32 × gS) :=
  bnd (s0 + s1) fun x1 =>
  bnd (v3 + 1) fun x2 =>
  k26 x1 x2 σ
set_option maxHeartbeats 4000000 in
set_option maxRecDepth 100000 in
theorem pX11_trace_97 {E : gE} {p1 : Int32} {k26 : Int32 → Int32 → gS → Option (Int32 × gS)} {r : Int32} {σ' : gS} {v3 : Int32} {s0 : Int32} {s1 : Int32} {σ : gS} (hk26 : ∀ (v2 : Int32) (v3 : Int32) (σ : gS), k26 v2 v3 σ = some (r, σ') → gG E mX11_trace 26 [(0, .ref 168), (1, .int p1), (2, .int v2), (3, .int v3)] [] σ (some (.int r)) σ') (h : fX11_trace_97 p1 k26 v3 s0 s1 σ = some (r, σ')) : gG E mX11_trace 97 [(0, .ref 168), (1, .int p1), (3, .int v3)] [.int s1, .int s0] σ (some (.int r)) σ' := by
  unfold fX11_trace_97 at h
  refine g_iadd dX11_trace_97 ?_
  obtain ⟨x1, ex1, h⟩ := bnd_nm h
  refine g_topi ex1 ?_
  refine g_istore_n (lv' := [(2, .int x1), (0, .ref 168), (1, .int p1), (3, .int v3)]) dX11_trace_98 rfl (Nat.le_of_ble_eq_true rfl) rfl ?_
  obtain ⟨x2, ex2, h⟩ := bnd_nm h
  refine g_iinc (j := 3) (v := x2) (lv' := [(3, .int x2), (2, .int x1), (0, .ref 168), (1, .int p1)]) dX11_trace_99 rfl (by rw [ex2]; rfl) (Nat.le_of_ble_eq_true rfl) rfl ?_
  refine g_goto (t := 26) dX11_trace_102 (by decide) ?_
  refine g_sub [2, 3, 1, 0] rfl ?_
  exact hk26 x1 x2 σ h
def fX11_trace_57 (p1 : Int32) (k26 : Int32 → Int32 → gS → Option (Int32 × gS)) (v2 : Int32) (v3 : Int32) (s1 : Int32) (s2 : Int32) (σ : gS) : Option (Int32 × gS) :=
  gg (¬ (s1 < 0 ∨ 256 ≤ s1.toNatClampNeg)) (
  bnd (gsI σ 224 s1.toNatClampNeg (vp_nar .boolean s2)) fun σ2 =>
  gg (¬ (p1 < 0 ∨ 24 ≤ p1.toNatClampNeg)) (
  gg (¬ (v3 < 0 ∨ 256 ≤ v3.toNatClampNeg)) (
  bnd (gsJ σ2 222 v3.toNatClampNeg (σ2.2.1 216 p1.toNatClampNeg)) fun σ5 =>
  gg (¬ (p1 < 0 ∨ 24 ≤ p1.toNatClampNeg)) (
  gg (¬ (v3 < 0 ∨ 256 ≤ v3.toNatClampNeg)) (
  bnd (gsJ σ5 223 v3.toNatClampNeg (σ5.2.1 217 p1.toNatClampNeg)) fun σ8 =>
  gg (¬ (v3 < 0 ∨ 256 ≤ v3.toNatClampNeg)) (
  if (σ8.1 224 v3.toNatClampNeg) = 0 then
    fX11_trace_97 p1 k26 v3 v2 0 σ8
  else
    fX11_trace_97 p1 k26 v3 v2 1 σ8))))))
set_option maxHeartbeats 4000000 in
set_option maxRecDepth 100000 in
theorem pX11_trace_57 {E : gE} {p1 : Int32} {k26 : Int32 → Int32 → gS → Option (Int32 × gS)} {r : Int32} {σ' : gS} {v2 : Int32} {v3 : Int32} {s1 : Int32} {s2 : Int32} {σ : gS} (hk26 : ∀ (v2 : Int32) (v3 : Int32) (σ : gS), k26 v2 v3 σ = some (r, σ') → gG E mX11_trace 26 [(0, .ref 168), (1, .int p1), (2, .int v2), (3, .int v3)] [] σ (some (.int r)) σ') (h : fX11_trace_57 p1 k26 v2 v3 s1 s2 σ = some (r, σ')) : gG E mX11_trace 57 [(0, .ref 168), (1, .int p1), (2, .int v2), (3, .int v3)] [.int s2, .int s1, .ref 224] σ (some (.int r)) σ' := by
  unfold fX11_trace_57 at h
  obtain ⟨g1, h⟩ := gg_some h
  obtain ⟨σ2, eσ2, h⟩ := bnd_nm h
  refine g_zast dX11_trace_57 gi_224 g1 (g_st eσ2 ?_)
  refine g_aload_n dX11_trace_58 rfl 0 rfl ?_
  refine g_getC (n := 222) dX11_trace_59 gi_168 rfl fl_RX11_185 ?_
  refine g_iload_n dX11_trace_62 rfl 3 rfl ?_
  refine g_aload_n dX11_trace_63 rfl 0 rfl ?_
  refine g_getC (n := 216) dX11_trace_64 gi_168 rfl fl_RX11_164 ?_
  refine g_iload_n dX11_trace_67 rfl 1 rfl ?_
  obtain ⟨g3, h⟩ := gg_some h
  refine g_lald dX11_trace_68 gi_216 g3 ?_
  obtain ⟨g4, h⟩ := gg_some h
  obtain ⟨σ5, eσ5, h⟩ := bnd_nm h
  refine g_last dX11_trace_69 gi_222 g4 (g_st eσ5 ?_)
  refine g_aload_n dX11_trace_70 rfl 0 rfl ?_
  refine g_getC (n := 223) dX11_trace_71 gi_168 rfl fl_RX11_188 ?_
  refine g_iload_n dX11_trace_74 rfl 3 rfl ?_
  refine g_aload_n dX11_trace_75 rfl 0 rfl ?_
  refine g_getC (n := 217) dX11_trace_76 gi_168 rfl fl_RX11_167 ?_
  refine g_iload_n dX11_trace_79 rfl 1 rfl ?_
  obtain ⟨g6, h⟩ := gg_some h
  refine g_lald dX11_trace_80 gi_217 g6 ?_
  obtain ⟨g7, h⟩ := gg_some h
  obtain ⟨σ8, eσ8, h⟩ := bnd_nm h
  refine g_last dX11_trace_81 gi_223 g7 (g_st eσ8 ?_)
  refine g_iload_n dX11_trace_82 rfl 2 rfl ?_
  refine g_aload_n dX11_trace_83 rfl 0 rfl ?_
  refine g_getC (n := 224) dX11_trace_84 gi_168 rfl fl_RX11_191 ?_
  refine g_iload_n dX11_trace_87 rfl 3 rfl ?_
  obtain ⟨g9, h⟩ := gg_some h
  refine g_zald dX11_trace_88 gi_224 g9 ?_
  refine g_if_eq (t := 96) dX11_trace_89 (by decide) (fun c10 => ?_) (fun c10 => ?_)
  · replace h := if_t h c10
    refine g_iconst (v := 0) dX11_trace_96 (by decide) ?_
    refine g_sub [0, 1, 3] rfl ?_
    exact pX11_trace_97 hk26 h
  · replace h := if_f h c10
    refine g_iconst (v := 1) dX11_trace_92 (by decide) ?_
    refine g_goto (t := 97) dX11_trace_93 (by decide) ?_
    refine g_sub [0, 1, 3] rfl ?_
    exact pX11_trace_97 hk26 h
def fX11_trace_26 (p1 : Int32) : Nat → Int32 → Int32 → gS → Option (Int32 × gS)
  | 0, _, _, _ => none
  | n + 1, v2, v3, σ => if 256 ≤ v3 then
    bnd (gsI σ 168 85 p1) fun σ2 =>
    some (v2, σ2)
  else
    bd (fX11_turn v3 σ) fun _ σ3 =>
    gg (¬ (p1 < 0 ∨ 24 ≤ p1.toNatClampNeg)) (
    if (σ3.1 218 p1.toNatClampNeg) = 0 then
      fX11_trace_57 p1 (fun v2 v3 σ => fX11_trace_26 p1 n v2 v3 σ) v2 v3 v3 1 σ3
    else
      fX11_trace_57 p1 (fun v2 v3 σ => fX11_trace_26 p1 n v2 v3 σ) v2 v3 v3 0 σ3)
set_option maxHeartbeats 4000000 in
set_option maxRecDepth 100000 in
theorem pX11_trace_26 {E : gE} {p1 : Int32} {r : Int32} {σ' : gS} : ∀ (n : Nat) (v2 : Int32) (v3 : Int32) (σ : gS), fX11_trace_26 p1 n v2 v3 σ = some (r, σ') → gG E mX11_trace 26 [(0, .ref 168), (1, .int p1), (2, .int v2), (3, .int v3)] [] σ (some (.int r)) σ' := by
  intro n
  induction n with
  | zero => intro v2 v3 σ h; exact absurd (show none = some (r, σ') from h) (by intro q; cases q)
  | succ n ih =>
  intro v2 v3 σ h
  unfold fX11_trace_26 at h
  refine g_iload_n dX11_trace_26 rfl 3 rfl ?_
  refine g_sipush (v := 256) dX11_trace_27 (by decide) ?_
  refine g_icmp_ge (t := 105) dX11_trace_30 (by decide) (fun c1 => ?_) (fun c1 => ?_)
  · replace h := if_t h c1
    refine g_aload_n dX11_trace_105 rfl 0 rfl ?_
    refine g_iload_n dX11_trace_106 rfl 1 rfl ?_
    obtain ⟨σ2, eσ2, h⟩ := bnd_nm h
    refine g_putI dX11_trace_107 gi_168 rfl fp_RX11_182 (g_st eσ2 ?_)
    refine g_iload_n dX11_trace_110 rfl 2 rfl ?_
    obtain ⟨rfl, rfl⟩ := so_inj h
    exact g_iret dX11_trace_111 rfl
  · replace h := if_f h c1
    refine g_aload_n dX11_trace_33 rfl 0 rfl ?_
    refine g_iload_n dX11_trace_34 rfl 3 rfl ?_
    obtain ⟨_, σ3, y4, h⟩ := bd_some h
    refine g_callVv (as := [.int v3]) (st := []) (zX11_turn y4) dX11_trace_35 gi_168 rfl okX11_trace_504 (Nat.le_of_ble_eq_true rfl) ?_
    refine g_aload_n dX11_trace_38 rfl 0 rfl ?_
    refine g_getC (n := 224) dX11_trace_39 gi_168 rfl fl_RX11_191 ?_
    refine g_iload_n dX11_trace_42 rfl 3 rfl ?_
    refine g_aload_n dX11_trace_43 rfl 0 rfl ?_
    refine g_getC (n := 218) dX11_trace_44 gi_168 rfl fl_RX11_170 ?_
    refine g_iload_n dX11_trace_47 rfl 1 rfl ?_
    obtain ⟨g5, h⟩ := gg_some h
    refine g_iald dX11_trace_48 gi_218 g5 ?_
    refine g_if_ne (t := 56) dX11_trace_49 (by decide) (fun c6 => ?_) (fun c6 => ?_)
    · replace h := if_f h c6
      refine g_iconst (v := 0) dX11_trace_56 (by decide) ?_
      exact pX11_trace_57 (fun v2 v3 σ h => ih v2 v3 σ h) h
    · replace h := if_t h c6
      refine g_iconst (v := 1) dX11_trace_52 (by decide) ?_
      refine g_goto (t := 57) dX11_trace_53 (by decide) ?_
      exact pX11_trace_57 (fun v2 v3 σ h => ih v2 v3 σ h) h
def fX11_trace (p1 : Int32) (σ : gS) : Option (Int32 × gS) :=
  bd (fX11_isJoint p1 σ) fun x1 σ2 =>
  if x1 = 0 then
    some ((-1000001), σ2)
  else
    if 0 ≤ (σ2.1 168 19) then
      fX11_trace_26 p1 2000 0 0 σ2
    else
      some ((-1000002), σ2)
set_option maxHeartbeats 4000000 in
set_option maxRecDepth 100000 in
theorem pX11_trace {E : gE} {p1 : Int32} {r : Int32} {σ' : gS} {σ : gS} (h : fX11_trace p1 σ = some (r, σ')) : gG E mX11_trace 0 [(0, .ref 168), (1, .int p1)] [] σ (some (.int r)) σ' := by
  unfold fX11_trace at h
  refine g_aload_n dX11_trace_0 rfl 0 rfl ?_
  refine g_iload_n dX11_trace_1 rfl 1 rfl ?_
  obtain ⟨x1, σ2, y3, h⟩ := bd_some h
  refine g_callVr (as := [.int p1]) (st := []) (zX11_isJoint y3) dX11_trace_2 gi_168 rfl okX11_trace_420 (Nat.le_of_ble_eq_true rfl) ?_
  refine g_if_ne (t := 11) dX11_trace_5 (by decide) (fun c4 => ?_) (fun c4 => ?_)
  · replace h := if_f h c4
    refine g_aload_n dX11_trace_11 rfl 0 rfl ?_
    refine g_getI dX11_trace_12 gi_168 rfl fl_RX11_54 ?_
    refine g_if_ge (t := 22) dX11_trace_15 (by decide) (fun c5 => ?_) (fun c5 => ?_)
    · replace h := if_t h c5
      refine g_iconst (v := 0) dX11_trace_22 (by decide) ?_
      refine g_istore_n (lv' := [(2, .int 0), (0, .ref 168), (1, .int p1)]) dX11_trace_23 rfl (Nat.le_of_ble_eq_true rfl) rfl ?_
      refine g_iconst (v := 0) dX11_trace_24 (by decide) ?_
      refine g_istore_n (lv' := [(3, .int 0), (2, .int 0), (0, .ref 168), (1, .int p1)]) dX11_trace_25 rfl (Nat.le_of_ble_eq_true rfl) rfl ?_
      refine g_sub [2, 3, 1, 0] rfl ?_
      exact pX11_trace_26 2000 0 0 σ2 h
    · replace h := if_f h c5
      refine g_ldcw (v := (-1000002)) dX11_trace_18 wc_RX11_503 ?_
      obtain ⟨rfl, rfl⟩ := so_inj h
      exact g_iret dX11_trace_21 rfl
  · replace h := if_t h c4
    refine g_ldc (v := (-1000001)) dX11_trace_8 wc_RX11_224 ?_
    obtain ⟨rfl, rfl⟩ := so_inj h
    exact g_iret dX11_trace_10 rfl
theorem zX11_trace {E : gE} {p1 : Int32} {r : Int32} {σ σ' : gS} (h : fX11_trace p1 σ = some (r, σ')) : gC E mX11_trace [.ref 168, .int p1] σ (some (.int r)) σ' :=
  gC_of (by decide +kernel) rfl (Nat.le_of_ble_eq_true rfl) (pX11_trace h)
def mX11_curveAt : gM := (yX11_curveAt, cX11_curveAt, RX11, 3, (some .long), 0, 0)
theorem dX11_curveAt_0 : decode mX11_curveAt.2.1 0 = .ok (.aload_n 0, 1) := by decide +kernel
theorem dX11_curveAt_1 : decode mX11_curveAt.2.1 1 = .ok (.getfield 191, 3) := by decide +kernel
theorem dX11_curveAt_4 : decode mX11_curveAt.2.1 4 = .ok (.iload_n 1, 1) := by decide +kernel
theorem dX11_curveAt_5 : decode mX11_curveAt.2.1 5 = .ok (.baload, 1) := by decide +kernel
theorem dX11_curveAt_6 : decode mX11_curveAt.2.1 6 = .ok (.ifCond .ne 9, 3) := by decide +kernel
theorem dX11_curveAt_9 : decode mX11_curveAt.2.1 9 = .ok (.ldc2_w 514, 3) := by decide +kernel
theorem dX11_curveAt_12 : decode mX11_curveAt.2.1 12 = .ok (.goto 22, 3) := by decide +kernel
theorem dX11_curveAt_15 : decode mX11_curveAt.2.1 15 = .ok (.iload_n 2, 1) := by decide +kernel
theorem dX11_curveAt_16 : decode mX11_curveAt.2.1 16 = .ok (.ifCond .ne 12, 3) := by decide +kernel
theorem dX11_curveAt_19 : decode mX11_curveAt.2.1 19 = .ok (.aload_n 0, 1) := by decide +kernel
theorem dX11_curveAt_20 : decode mX11_curveAt.2.1 20 = .ok (.getfield 185, 3) := by decide +kernel
theorem dX11_curveAt_23 : decode mX11_curveAt.2.1 23 = .ok (.iload_n 1, 1) := by decide +kernel
theorem dX11_curveAt_24 : decode mX11_curveAt.2.1 24 = .ok (.laload, 1) := by decide +kernel
theorem dX11_curveAt_25 : decode mX11_curveAt.2.1 25 = .ok (.goto 9, 3) := by decide +kernel
theorem dX11_curveAt_28 : decode mX11_curveAt.2.1 28 = .ok (.aload_n 0, 1) := by decide +kernel
theorem dX11_curveAt_29 : decode mX11_curveAt.2.1 29 = .ok (.getfield 188, 3) := by decide +kernel
theorem dX11_curveAt_32 : decode mX11_curveAt.2.1 32 = .ok (.iload_n 1, 1) := by decide +kernel
theorem dX11_curveAt_33 : decode mX11_curveAt.2.1 33 = .ok (.laload, 1) := by decide +kernel
theorem dX11_curveAt_34 : decode mX11_curveAt.2.1 34 = .ok (.lreturn, 1) := by decide +kernel
def fX11_curveAt_34 (p1 : Int32) (p2 : Int32) (s0 : Int64) (σ : gS) : Option (Int64 × gS) :=
  some (s0, σ)
set_option maxHeartbeats 4000000 in
set_option maxRecDepth 100000 in
theorem pX11_curveAt_34 {E : gE} {p1 : Int32} {p2 : Int32} {r : Int64} {σ' : gS} {s0 : Int64} {σ : gS} (h : fX11_curveAt_34 p1 p2 s0 σ = some (r, σ')) : gG E mX11_curveAt 34 [] [.long s0] σ (some (.long r)) σ' := by
  unfold fX11_curveAt_34 at h
  obtain ⟨rfl, rfl⟩ := so_inj h
  exact g_lret dX11_curveAt_34 rfl
def fX11_curveAt (p1 : Int32) (p2 : Int32) (σ : gS) : Option (Int64 × gS) :=
  gg (¬ (p1 < 0 ∨ 256 ≤ p1.toNatClampNeg)) (
  if (σ.1 224 p1.toNatClampNeg) = 0 then
    fX11_curveAt_34 p1 p2 (-1000000) σ
  else
    if p2 = 0 then
      gg (¬ (p1 < 0 ∨ 256 ≤ p1.toNatClampNeg)) (
      fX11_curveAt_34 p1 p2 (σ.2.1 222 p1.toNatClampNeg) σ)
    else
      gg (¬ (p1 < 0 ∨ 256 ≤ p1.toNatClampNeg)) (
      fX11_curveAt_34 p1 p2 (σ.2.1 223 p1.toNatClampNeg) σ))
set_option maxHeartbeats 4000000 in
set_option maxRecDepth 100000 in
theorem pX11_curveAt {E : gE} {p1 : Int32} {p2 : Int32} {r : Int64} {σ' : gS} {σ : gS} (h : fX11_curveAt p1 p2 σ = some (r, σ')) : gG E mX11_curveAt 0 [(0, .ref 168), (1, .int p1), (2, .int p2)] [] σ (some (.long r)) σ' := by
  unfold fX11_curveAt at h
  refine g_aload_n dX11_curveAt_0 rfl 0 rfl ?_
  refine g_getC (n := 224) dX11_curveAt_1 gi_168 rfl fl_RX11_191 ?_
  refine g_iload_n dX11_curveAt_4 rfl 1 rfl ?_
  obtain ⟨g1, h⟩ := gg_some h
  refine g_zald dX11_curveAt_5 gi_224 g1 ?_
  refine g_if_ne (t := 15) dX11_curveAt_6 (by decide) (fun c2 => ?_) (fun c2 => ?_)
  · replace h := if_f h c2
    refine g_iload_n dX11_curveAt_15 rfl 2 rfl ?_
    refine g_if_ne (t := 28) dX11_curveAt_16 (by decide) (fun c3 => ?_) (fun c3 => ?_)
    · replace h := if_f h c3
      refine g_aload_n dX11_curveAt_28 rfl 0 rfl ?_
      refine g_getC (n := 223) dX11_curveAt_29 gi_168 rfl fl_RX11_188 ?_
      refine g_iload_n dX11_curveAt_32 rfl 1 rfl ?_
      obtain ⟨g4, h⟩ := gg_some h
      refine g_lald dX11_curveAt_33 gi_223 g4 ?_
      refine g_sub [] rfl ?_
      exact pX11_curveAt_34 h
    · replace h := if_t h c3
      refine g_aload_n dX11_curveAt_19 rfl 0 rfl ?_
      refine g_getC (n := 222) dX11_curveAt_20 gi_168 rfl fl_RX11_185 ?_
      refine g_iload_n dX11_curveAt_23 rfl 1 rfl ?_
      obtain ⟨g5, h⟩ := gg_some h
      refine g_lald dX11_curveAt_24 gi_222 g5 ?_
      refine g_goto (t := 34) dX11_curveAt_25 (by decide) ?_
      refine g_sub [] rfl ?_
      exact pX11_curveAt_34 h
  · replace h := if_t h c2
    refine g_ldc2 (v := (-1000000)) dX11_curveAt_9 wl_RX11_514 ?_
    refine g_goto (t := 34) dX11_curveAt_12 (by decide) ?_
    refine g_sub [] rfl ?_
    exact pX11_curveAt_34 h
theorem zX11_curveAt {E : gE} {p1 : Int32} {p2 : Int32} {r : Int64} {σ σ' : gS} (h : fX11_curveAt p1 p2 σ = some (r, σ')) : gC E mX11_curveAt [.ref 168, .int p1, .int p2] σ (some (.long r)) σ' :=
  gC_of (by decide +kernel) rfl (Nat.le_of_ble_eq_true rfl) (pX11_curveAt h)
theorem fl_RX11_182 : gFl RX11 182 11 85 := ⟨RX11, TX11, 101, rfl, by decide, ux_11, Or.inl (gm 1313 (by decide +kernel) rfl)⟩
def mX11_curve : gM := (yX11_curve, cX11_curve, RX11, 3, (some .long), 1, 25)
theorem dX11_curve_0 : decode mX11_curve.2.1 0 = .ok (.iload_n 1, 1) := by decide +kernel
theorem dX11_curve_1 : decode mX11_curve.2.1 1 = .ok (.i2l, 1) := by decide +kernel
theorem dX11_curve_2 : decode mX11_curve.2.1 2 = .ok (.lconst 0, 1) := by decide +kernel
theorem dX11_curve_3 : decode mX11_curve.2.1 3 = .ok (.ldc2_w 229, 3) := by decide +kernel
theorem dX11_curve_6 : decode mX11_curve.2.1 6 = .ok (.invokestatic 220, 3) := by decide +kernel
theorem dX11_curve_9 : decode mX11_curve.2.1 9 = .ok (.ifCond .eq 13, 3) := by decide +kernel
theorem dX11_curve_12 : decode mX11_curve.2.1 12 = .ok (.iload_n 2, 1) := by decide +kernel
theorem dX11_curve_13 : decode mX11_curve.2.1 13 = .ok (.i2l, 1) := by decide +kernel
theorem dX11_curve_14 : decode mX11_curve.2.1 14 = .ok (.lconst 0, 1) := by decide +kernel
theorem dX11_curve_15 : decode mX11_curve.2.1 15 = .ok (.lconst 1, 1) := by decide +kernel
theorem dX11_curve_16 : decode mX11_curve.2.1 16 = .ok (.invokestatic 220, 3) := by decide +kernel
theorem dX11_curve_19 : decode mX11_curve.2.1 19 = .ok (.ifCond .ne 7, 3) := by decide +kernel
theorem dX11_curve_22 : decode mX11_curve.2.1 22 = .ok (.ldc2_w 510, 3) := by decide +kernel
theorem dX11_curve_25 : decode mX11_curve.2.1 25 = .ok (.lreturn, 1) := by decide +kernel
theorem dX11_curve_26 : decode mX11_curve.2.1 26 = .ok (.aload_n 0, 1) := by decide +kernel
theorem dX11_curve_27 : decode mX11_curve.2.1 27 = .ok (.getfield 182, 3) := by decide +kernel
theorem dX11_curve_30 : decode mX11_curve.2.1 30 = .ok (.ifCond .ge 9, 3) := by decide +kernel
theorem dX11_curve_33 : decode mX11_curve.2.1 33 = .ok (.ldc2_w 512, 3) := by decide +kernel
theorem dX11_curve_36 : decode mX11_curve.2.1 36 = .ok (.goto 9, 3) := by decide +kernel
theorem dX11_curve_39 : decode mX11_curve.2.1 39 = .ok (.aload_n 0, 1) := by decide +kernel
theorem dX11_curve_40 : decode mX11_curve.2.1 40 = .ok (.iload_n 1, 1) := by decide +kernel
theorem dX11_curve_41 : decode mX11_curve.2.1 41 = .ok (.iload_n 2, 1) := by decide +kernel
theorem dX11_curve_42 : decode mX11_curve.2.1 42 = .ok (.invokevirtual 516, 3) := by decide +kernel
theorem dX11_curve_45 : decode mX11_curve.2.1 45 = .ok (.lreturn, 1) := by decide +kernel
theorem okX11_curve_220 : gOkS mX11_curve mX11_in 220 3 := ⟨List.forall_mem_cons.mpr ⟨(gm 1539 (by decide +kernel) rfl), List.forall_mem_cons.mpr ⟨(gm 1537 (by decide +kernel) rfl), List.forall_mem_cons.mpr ⟨(gm 1538 (by decide +kernel) rfl), List.forall_mem_cons.mpr ⟨(gm 122 (by decide +kernel) rfl), fun _ h => absurd h List.not_mem_nil⟩⟩⟩⟩, by decide +kernel, by decide +kernel, by decide +kernel⟩
theorem okX11_curve_516 : gOkV mX11_curve mX11_curveAt 516 2 := ⟨List.forall_mem_cons.mpr ⟨(gm 1811 (by decide +kernel) rfl), List.forall_mem_cons.mpr ⟨(gm 1808 (by decide +kernel) rfl), List.forall_mem_cons.mpr ⟨(gm 1810 (by decide +kernel) rfl), List.forall_mem_cons.mpr ⟨(gm 96 (by decide +kernel) rfl), List.forall_mem_cons.mpr ⟨(gm 122 (by decide +kernel) rfl), fun _ h => absurd h List.not_mem_nil⟩⟩⟩⟩⟩, by decide +kernel, by decide +kernel, by decide +kernel⟩
def fX11_curve_22 (p1 : Int32) (p2 : Int32) (σ : gS) : Option (Int64 × gS) :=
  some ((-1000001), σ)
set_option maxHeartbeats 4000000 in
set_option maxRecDepth 100000 in
theorem pX11_curve_22 {E : gE} {p1 : Int32} {p2 : Int32} {r : Int64} {σ' : gS} {σ : gS} (h : fX11_curve_22 p1 p2 σ = some (r, σ')) : gG E mX11_curve 22 [] [] σ (some (.long r)) σ' := by
  unfold fX11_curve_22 at h
  refine g_ldc2 (v := (-1000001)) dX11_curve_22 wl_RX11_510 ?_
  obtain ⟨rfl, rfl⟩ := so_inj h
  exact g_lret dX11_curve_25 rfl
def fX11_curve_45 (p1 : Int32) (p2 : Int32) (s0 : Int64) (σ : gS) : Option (Int64 × gS) :=
  some (s0, σ)
set_option maxHeartbeats 4000000 in
set_option maxRecDepth 100000 in
theorem pX11_curve_45 {E : gE} {p1 : Int32} {p2 : Int32} {r : Int64} {σ' : gS} {s0 : Int64} {σ : gS} (h : fX11_curve_45 p1 p2 s0 σ = some (r, σ')) : gG E mX11_curve 45 [] [.long s0] σ (some (.long r)) σ' := by
  unfold fX11_curve_45 at h
  obtain ⟨rfl, rfl⟩ := so_inj h
  exact g_lret dX11_curve_45 rfl
def fX11_curve (p1 : Int32) (p2 : Int32) (σ : gS) : Option (Int64 × gS) :=
  bd (fX11_in p1.toInt64 0 255 σ) fun x1 σ2 =>
  if x1 = 0 then
    fX11_curve_22 p1 p2 σ2
  else
    bd (fX11_in p2.toInt64 0 1 σ2) fun x5 σ6 =>
    if x5 = 0 then
      fX11_curve_22 p1 p2 σ6
    else
      if 0 ≤ (σ6.1 168 85) then
        bd (fX11_curveAt p1 p2 σ6) fun x10 σ11 =>
        fX11_curve_45 p1 p2 x10 σ11
      else
        fX11_curve_45 p1 p2 (-1000002) σ6
set_option maxHeartbeats 4000000 in
set_option maxRecDepth 100000 in
theorem pX11_curve {E : gE} {p1 : Int32} {p2 : Int32} {r : Int64} {σ' : gS} {σ : gS} (h : fX11_curve p1 p2 σ = some (r, σ')) : gG E mX11_curve 0 [(0, .ref 168), (1, .int p1), (2, .int p2)] [] σ (some (.long r)) σ' := by
  unfold fX11_curve at h
  refine g_iload_n dX11_curve_0 rfl 1 rfl ?_
  refine g_i2l dX11_curve_1 ?_
  refine g_lconst (v := 0) dX11_curve_2 (by decide) ?_
  refine g_ldc2 (v := 255) dX11_curve_3 wl_RX11_229 ?_
  obtain ⟨x1, σ2, y3, h⟩ := bd_some h
  refine g_callSr (as := [.long p1.toInt64, .long 0, .long 255]) (st := []) (zX11_in y3) dX11_curve_6 okX11_curve_220 (Nat.le_of_ble_eq_true rfl) ?_
  refine g_if_eq (t := 22) dX11_curve_9 (by decide) (fun c4 => ?_) (fun c4 => ?_)
  · replace h := if_t h c4
    refine g_sub [] rfl ?_
    exact pX11_curve_22 h
  · replace h := if_f h c4
    refine g_iload_n dX11_curve_12 rfl 2 rfl ?_
    refine g_i2l dX11_curve_13 ?_
    refine g_lconst (v := 0) dX11_curve_14 (by decide) ?_
    refine g_lconst (v := 1) dX11_curve_15 (by decide) ?_
    obtain ⟨x5, σ6, y7, h⟩ := bd_some h
    refine g_callSr (as := [.long p2.toInt64, .long 0, .long 1]) (st := []) (zX11_in y7) dX11_curve_16 okX11_curve_220 (Nat.le_of_ble_eq_true rfl) ?_
    refine g_if_ne (t := 26) dX11_curve_19 (by decide) (fun c8 => ?_) (fun c8 => ?_)
    · replace h := if_f h c8
      refine g_aload_n dX11_curve_26 rfl 0 rfl ?_
      refine g_getI dX11_curve_27 gi_168 rfl fl_RX11_182 ?_
      refine g_if_ge (t := 39) dX11_curve_30 (by decide) (fun c9 => ?_) (fun c9 => ?_)
      · replace h := if_t h c9
        refine g_aload_n dX11_curve_39 rfl 0 rfl ?_
        refine g_iload_n dX11_curve_40 rfl 1 rfl ?_
        refine g_iload_n dX11_curve_41 rfl 2 rfl ?_
        obtain ⟨x10, σ11, y12, h⟩ := bd_some h
        refine g_callVr (as := [.int p1, .int p2]) (st := []) (zX11_curveAt y12) dX11_curve_42 gi_168 rfl okX11_curve_516 (Nat.le_of_ble_eq_true rfl) ?_
        refine g_sub [] rfl ?_
        exact pX11_curve_45 h
      · replace h := if_f h c9
        refine g_ldc2 (v := (-1000002)) dX11_curve_33 wl_RX11_512 ?_
        refine g_goto (t := 45) dX11_curve_36 (by decide) ?_
        refine g_sub [] rfl ?_
        exact pX11_curve_45 h
    · replace h := if_t h c8
      refine g_sub [] rfl ?_
      exact pX11_curve_22 h
theorem zX11_curve {E : gE} {p1 : Int32} {p2 : Int32} {r : Int64} {σ σ' : gS} (h : fX11_curve p1 p2 σ = some (r, σ')) : gC E mX11_curve [.ref 168, .int p1, .int p2] σ (some (.long r)) σ' :=
  gC_of (by decide +kernel) rfl (Nat.le_of_ble_eq_true rfl) (pX11_curve h)
