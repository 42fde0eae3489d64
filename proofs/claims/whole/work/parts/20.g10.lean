theorem fl_RX11_155 : gFl RX11 155 11 73 := ⟨RX11, TX11, 101, rfl, by decide, ux_11, Or.inl (gm 1301 (by decide +kernel) rfl)⟩
theorem fl_RX11_146 : gFl RX11 146 11 70 := ⟨RX11, TX11, 101, rfl, by decide, ux_11, Or.inl (gm 1298 (by decide +kernel) rfl)⟩
theorem fl_RX11_459 : gFl RX11 459 11 69 := ⟨RX11, TX11, 101, rfl, by decide, ux_11, Or.inl (gm 1297 (by decide +kernel) rfl)⟩
theorem fl_RX11_149 : gFl RX11 149 11 71 := ⟨RX11, TX11, 101, rfl, by decide, ux_11, Or.inl (gm 1299 (by decide +kernel) rfl)⟩
theorem fl_RX11_152 : gFl RX11 152 11 72 := ⟨RX11, TX11, 101, rfl, by decide, ux_11, Or.inl (gm 1300 (by decide +kernel) rfl)⟩
theorem fl_RX11_456 : gFl RX11 456 11 77 := ⟨RX11, TX11, 101, rfl, by decide, ux_11, Or.inl (gm 1305 (by decide +kernel) rfl)⟩
theorem fp_RX11_459 : gFp RX11 459 11 69 .int := ⟨RX11, TX11, 101, rfl, by decide, ux_11, Or.inl (gm 1297 (by decide +kernel) rfl), rfl, by decide +kernel, ⟨tyX11, tyX11_ok⟩, nmX11⟩
theorem fl_RX11_13 : gFl RX11 13 11 2 := ⟨RX11, TX11, 101, rfl, by decide, ux_11, Or.inl (gm 1230 (by decide +kernel) rfl)⟩
theorem fl_RX11_17 : gFl RX11 17 11 3 := ⟨RX11, TX11, 101, rfl, by decide, ux_11, Or.inl (gm 1231 (by decide +kernel) rfl)⟩
theorem fl_RX11_161 : gFl RX11 161 11 75 := ⟨RX11, TX11, 101, rfl, by decide, ux_11, Or.inl (gm 1303 (by decide +kernel) rfl)⟩
theorem fl_RX11_54 : gFl RX11 54 11 19 := ⟨RX11, TX11, 101, rfl, by decide, ux_11, Or.inl (gm 1247 (by decide +kernel) rfl)⟩
def mX11_findOrder : gM := (yX11_findOrder, cX11_findOrder, RX11, 7, none, 1, 24)
theorem dX11_findOrder_0 : decode mX11_findOrder.2.1 0 = .ok (.aload_n 0, 1) := by decide +kernel
theorem dX11_findOrder_1 : decode mX11_findOrder.2.1 1 = .ok (.iconst 0, 1) := by decide +kernel
theorem dX11_findOrder_2 : decode mX11_findOrder.2.1 2 = .ok (.putfield 459, 3) := by decide +kernel
theorem dX11_findOrder_5 : decode mX11_findOrder.2.1 5 = .ok (.iconst 0, 1) := by decide +kernel
theorem dX11_findOrder_6 : decode mX11_findOrder.2.1 6 = .ok (.istore_n 1, 1) := by decide +kernel
theorem dX11_findOrder_7 : decode mX11_findOrder.2.1 7 = .ok (.iload_n 1, 1) := by decide +kernel
theorem dX11_findOrder_8 : decode mX11_findOrder.2.1 8 = .ok (.aload_n 0, 1) := by decide +kernel
theorem dX11_findOrder_9 : decode mX11_findOrder.2.1 9 = .ok (.getfield 374, 3) := by decide +kernel
theorem dX11_findOrder_12 : decode mX11_findOrder.2.1 12 = .ok (.if_icmp .ge 44, 3) := by decide +kernel
theorem dX11_findOrder_15 : decode mX11_findOrder.2.1 15 = .ok (.aload_n 0, 1) := by decide +kernel
theorem dX11_findOrder_16 : decode mX11_findOrder.2.1 16 = .ok (.getfield 158, 3) := by decide +kernel
theorem dX11_findOrder_19 : decode mX11_findOrder.2.1 19 = .ok (.iload_n 1, 1) := by decide +kernel
theorem dX11_findOrder_20 : decode mX11_findOrder.2.1 20 = .ok (.aload_n 0, 1) := by decide +kernel
theorem dX11_findOrder_21 : decode mX11_findOrder.2.1 21 = .ok (.getfield 20, 3) := by decide +kernel
theorem dX11_findOrder_24 : decode mX11_findOrder.2.1 24 = .ok (.iload_n 1, 1) := by decide +kernel
theorem dX11_findOrder_25 : decode mX11_findOrder.2.1 25 = .ok (.baload, 1) := by decide +kernel
theorem dX11_findOrder_26 : decode mX11_findOrder.2.1 26 = .ok (.ifCond .ne 11, 3) := by decide +kernel
theorem dX11_findOrder_29 : decode mX11_findOrder.2.1 29 = .ok (.iload_n 1, 1) := by decide +kernel
theorem dX11_findOrder_30 : decode mX11_findOrder.2.1 30 = .ok (.aload_n 0, 1) := by decide +kernel
theorem dX11_findOrder_31 : decode mX11_findOrder.2.1 31 = .ok (.getfield 54, 3) := by decide +kernel
theorem dX11_findOrder_34 : decode mX11_findOrder.2.1 34 = .ok (.if_icmp .ne 7, 3) := by decide +kernel
theorem dX11_findOrder_37 : decode mX11_findOrder.2.1 37 = .ok (.iconst 1, 1) := by decide +kernel
theorem dX11_findOrder_38 : decode mX11_findOrder.2.1 38 = .ok (.goto 4, 3) := by decide +kernel
theorem dX11_findOrder_41 : decode mX11_findOrder.2.1 41 = .ok (.iconst 0, 1) := by decide +kernel
theorem dX11_findOrder_42 : decode mX11_findOrder.2.1 42 = .ok (.bastore, 1) := by decide +kernel
theorem dX11_findOrder_43 : decode mX11_findOrder.2.1 43 = .ok (.aload_n 0, 1) := by decide +kernel
theorem dX11_findOrder_44 : decode mX11_findOrder.2.1 44 = .ok (.getfield 155, 3) := by decide +kernel
theorem dX11_findOrder_47 : decode mX11_findOrder.2.1 47 = .ok (.iload_n 1, 1) := by decide +kernel
theorem dX11_findOrder_48 : decode mX11_findOrder.2.1 48 = .ok (.iconst 0, 1) := by decide +kernel
theorem dX11_findOrder_49 : decode mX11_findOrder.2.1 49 = .ok (.bastore, 1) := by decide +kernel
theorem dX11_findOrder_50 : decode mX11_findOrder.2.1 50 = .ok (.iinc 1 1, 3) := by decide +kernel
theorem dX11_findOrder_53 : decode mX11_findOrder.2.1 53 = .ok (.goto (-46), 3) := by decide +kernel
theorem dX11_findOrder_56 : decode mX11_findOrder.2.1 56 = .ok (.aload_n 0, 1) := by decide +kernel
theorem dX11_findOrder_57 : decode mX11_findOrder.2.1 57 = .ok (.getfield 54, 3) := by decide +kernel
theorem dX11_findOrder_60 : decode mX11_findOrder.2.1 60 = .ok (.ifCond .lt 7, 3) := by decide +kernel
theorem dX11_findOrder_63 : decode mX11_findOrder.2.1 63 = .ok (.iconst 1, 1) := by decide +kernel
theorem dX11_findOrder_64 : decode mX11_findOrder.2.1 64 = .ok (.goto 4, 3) := by decide +kernel
theorem dX11_findOrder_67 : decode mX11_findOrder.2.1 67 = .ok (.iconst 0, 1) := by decide +kernel
theorem dX11_findOrder_68 : decode mX11_findOrder.2.1 68 = .ok (.istore_n 1, 1) := by decide +kernel
theorem dX11_findOrder_69 : decode mX11_findOrder.2.1 69 = .ok (.iload_n 1, 1) := by decide +kernel
theorem dX11_findOrder_70 : decode mX11_findOrder.2.1 70 = .ok (.ifCond .eq 208, 3) := by decide +kernel
theorem dX11_findOrder_73 : decode mX11_findOrder.2.1 73 = .ok (.iconst 0, 1) := by decide +kernel
theorem dX11_findOrder_74 : decode mX11_findOrder.2.1 74 = .ok (.istore_n 1, 1) := by decide +kernel
theorem dX11_findOrder_75 : decode mX11_findOrder.2.1 75 = .ok (.iconst 0, 1) := by decide +kernel
theorem dX11_findOrder_76 : decode mX11_findOrder.2.1 76 = .ok (.istore_n 2, 1) := by decide +kernel
theorem dX11_findOrder_77 : decode mX11_findOrder.2.1 77 = .ok (.iload_n 2, 1) := by decide +kernel
theorem dX11_findOrder_78 : decode mX11_findOrder.2.1 78 = .ok (.aload_n 0, 1) := by decide +kernel
theorem dX11_findOrder_79 : decode mX11_findOrder.2.1 79 = .ok (.getfield 374, 3) := by decide +kernel
theorem dX11_findOrder_82 : decode mX11_findOrder.2.1 82 = .ok (.if_icmp .ge 193, 3) := by decide +kernel
theorem dX11_findOrder_85 : decode mX11_findOrder.2.1 85 = .ok (.iload_n 1, 1) := by decide +kernel
theorem dX11_findOrder_86 : decode mX11_findOrder.2.1 86 = .ok (.ifCond .ne 189, 3) := by decide +kernel
theorem dX11_findOrder_89 : decode mX11_findOrder.2.1 89 = .ok (.aload_n 0, 1) := by decide +kernel
theorem dX11_findOrder_90 : decode mX11_findOrder.2.1 90 = .ok (.getfield 158, 3) := by decide +kernel
theorem dX11_findOrder_93 : decode mX11_findOrder.2.1 93 = .ok (.iload_n 2, 1) := by decide +kernel
theorem dX11_findOrder_94 : decode mX11_findOrder.2.1 94 = .ok (.baload, 1) := by decide +kernel
theorem dX11_findOrder_95 : decode mX11_findOrder.2.1 95 = .ok (.ifCond .ne 15, 3) := by decide +kernel
theorem dX11_findOrder_98 : decode mX11_findOrder.2.1 98 = .ok (.aload_n 0, 1) := by decide +kernel
theorem dX11_findOrder_99 : decode mX11_findOrder.2.1 99 = .ok (.iload_n 2, 1) := by decide +kernel
theorem dX11_findOrder_100 : decode mX11_findOrder.2.1 100 = .ok (.invokevirtual 462, 3) := by decide +kernel
theorem dX11_findOrder_103 : decode mX11_findOrder.2.1 103 = .ok (.ifCond .eq 7, 3) := by decide +kernel
theorem dX11_findOrder_106 : decode mX11_findOrder.2.1 106 = .ok (.iconst 1, 1) := by decide +kernel
theorem dX11_findOrder_107 : decode mX11_findOrder.2.1 107 = .ok (.goto 4, 3) := by decide +kernel
theorem dX11_findOrder_110 : decode mX11_findOrder.2.1 110 = .ok (.iconst 0, 1) := by decide +kernel
theorem dX11_findOrder_111 : decode mX11_findOrder.2.1 111 = .ok (.istore_n 1, 1) := by decide +kernel
theorem dX11_findOrder_112 : decode mX11_findOrder.2.1 112 = .ok (.iload_n 1, 1) := by decide +kernel
theorem dX11_findOrder_113 : decode mX11_findOrder.2.1 113 = .ok (.ifCond .eq 156, 3) := by decide +kernel
theorem dX11_findOrder_116 : decode mX11_findOrder.2.1 116 = .ok (.aload_n 0, 1) := by decide +kernel
theorem dX11_findOrder_117 : decode mX11_findOrder.2.1 117 = .ok (.getfield 158, 3) := by decide +kernel
theorem dX11_findOrder_120 : decode mX11_findOrder.2.1 120 = .ok (.iload_n 2, 1) := by decide +kernel
theorem dX11_findOrder_121 : decode mX11_findOrder.2.1 121 = .ok (.iconst 1, 1) := by decide +kernel
theorem dX11_findOrder_122 : decode mX11_findOrder.2.1 122 = .ok (.bastore, 1) := by decide +kernel
theorem dX11_findOrder_123 : decode mX11_findOrder.2.1 123 = .ok (.aload_n 0, 1) := by decide +kernel
theorem dX11_findOrder_124 : decode mX11_findOrder.2.1 124 = .ok (.getfield 155, 3) := by decide +kernel
theorem dX11_findOrder_127 : decode mX11_findOrder.2.1 127 = .ok (.iload_n 2, 1) := by decide +kernel
theorem dX11_findOrder_128 : decode mX11_findOrder.2.1 128 = .ok (.iconst 1, 1) := by decide +kernel
theorem dX11_findOrder_129 : decode mX11_findOrder.2.1 129 = .ok (.bastore, 1) := by decide +kernel
theorem dX11_findOrder_130 : decode mX11_findOrder.2.1 130 = .ok (.aload_n 0, 1) := by decide +kernel
theorem dX11_findOrder_131 : decode mX11_findOrder.2.1 131 = .ok (.getfield 146, 3) := by decide +kernel
theorem dX11_findOrder_134 : decode mX11_findOrder.2.1 134 = .ok (.aload_n 0, 1) := by decide +kernel
theorem dX11_findOrder_135 : decode mX11_findOrder.2.1 135 = .ok (.getfield 459, 3) := by decide +kernel
theorem dX11_findOrder_138 : decode mX11_findOrder.2.1 138 = .ok (.iload_n 2, 1) := by decide +kernel
theorem dX11_findOrder_139 : decode mX11_findOrder.2.1 139 = .ok (.iastore, 1) := by decide +kernel
theorem dX11_findOrder_140 : decode mX11_findOrder.2.1 140 = .ok (.aload_n 0, 1) := by decide +kernel
theorem dX11_findOrder_141 : decode mX11_findOrder.2.1 141 = .ok (.getfield 149, 3) := by decide +kernel
theorem dX11_findOrder_144 : decode mX11_findOrder.2.1 144 = .ok (.iload_n 2, 1) := by decide +kernel
theorem dX11_findOrder_145 : decode mX11_findOrder.2.1 145 = .ok (.aload_n 0, 1) := by decide +kernel
theorem dX11_findOrder_146 : decode mX11_findOrder.2.1 146 = .ok (.getfield 453, 3) := by decide +kernel
theorem dX11_findOrder_149 : decode mX11_findOrder.2.1 149 = .ok (.iastore, 1) := by decide +kernel
theorem dX11_findOrder_150 : decode mX11_findOrder.2.1 150 = .ok (.aload_n 0, 1) := by decide +kernel
theorem dX11_findOrder_151 : decode mX11_findOrder.2.1 151 = .ok (.getfield 152, 3) := by decide +kernel
theorem dX11_findOrder_154 : decode mX11_findOrder.2.1 154 = .ok (.iload_n 2, 1) := by decide +kernel
theorem dX11_findOrder_155 : decode mX11_findOrder.2.1 155 = .ok (.aload_n 0, 1) := by decide +kernel
theorem dX11_findOrder_156 : decode mX11_findOrder.2.1 156 = .ok (.getfield 456, 3) := by decide +kernel
theorem dX11_findOrder_159 : decode mX11_findOrder.2.1 159 = .ok (.iastore, 1) := by decide +kernel
theorem dX11_findOrder_160 : decode mX11_findOrder.2.1 160 = .ok (.aload_n 0, 1) := by decide +kernel
theorem dX11_findOrder_161 : decode mX11_findOrder.2.1 161 = .ok (.dup, 1) := by decide +kernel
theorem dX11_findOrder_162 : decode mX11_findOrder.2.1 162 = .ok (.getfield 459, 3) := by decide +kernel
theorem dX11_findOrder_165 : decode mX11_findOrder.2.1 165 = .ok (.iconst 1, 1) := by decide +kernel
theorem dX11_findOrder_166 : decode mX11_findOrder.2.1 166 = .ok (.iadd, 1) := by decide +kernel
theorem dX11_findOrder_167 : decode mX11_findOrder.2.1 167 = .ok (.putfield 459, 3) := by decide +kernel
theorem dX11_findOrder_170 : decode mX11_findOrder.2.1 170 = .ok (.aload_n 0, 1) := by decide +kernel
theorem dX11_findOrder_171 : decode mX11_findOrder.2.1 171 = .ok (.getfield 13, 3) := by decide +kernel
theorem dX11_findOrder_174 : decode mX11_findOrder.2.1 174 = .ok (.aload_n 0, 1) := by decide +kernel
theorem dX11_findOrder_175 : decode mX11_findOrder.2.1 175 = .ok (.getfield 456, 3) := by decide +kernel
theorem dX11_findOrder_178 : decode mX11_findOrder.2.1 178 = .ok (.iaload, 1) := by decide +kernel
theorem dX11_findOrder_179 : decode mX11_findOrder.2.1 179 = .ok (.aload_n 0, 1) := by decide +kernel
theorem dX11_findOrder_180 : decode mX11_findOrder.2.1 180 = .ok (.getfield 13, 3) := by decide +kernel
theorem dX11_findOrder_183 : decode mX11_findOrder.2.1 183 = .ok (.aload_n 0, 1) := by decide +kernel
theorem dX11_findOrder_184 : decode mX11_findOrder.2.1 184 = .ok (.getfield 453, 3) := by decide +kernel
theorem dX11_findOrder_187 : decode mX11_findOrder.2.1 187 = .ok (.iaload, 1) := by decide +kernel
theorem dX11_findOrder_188 : decode mX11_findOrder.2.1 188 = .ok (.isub, 1) := by decide +kernel
theorem dX11_findOrder_189 : decode mX11_findOrder.2.1 189 = .ok (.i2l, 1) := by decide +kernel
theorem dX11_findOrder_190 : decode mX11_findOrder.2.1 190 = .ok (.lstore_n 3, 1) := by decide +kernel
theorem dX11_findOrder_191 : decode mX11_findOrder.2.1 191 = .ok (.aload_n 0, 1) := by decide +kernel
theorem dX11_findOrder_192 : decode mX11_findOrder.2.1 192 = .ok (.getfield 17, 3) := by decide +kernel
theorem dX11_findOrder_195 : decode mX11_findOrder.2.1 195 = .ok (.aload_n 0, 1) := by decide +kernel
theorem dX11_findOrder_196 : decode mX11_findOrder.2.1 196 = .ok (.getfield 456, 3) := by decide +kernel
theorem dX11_findOrder_199 : decode mX11_findOrder.2.1 199 = .ok (.iaload, 1) := by decide +kernel
theorem dX11_findOrder_200 : decode mX11_findOrder.2.1 200 = .ok (.aload_n 0, 1) := by decide +kernel
theorem dX11_findOrder_201 : decode mX11_findOrder.2.1 201 = .ok (.getfield 17, 3) := by decide +kernel
theorem dX11_findOrder_204 : decode mX11_findOrder.2.1 204 = .ok (.aload_n 0, 1) := by decide +kernel
theorem dX11_findOrder_205 : decode mX11_findOrder.2.1 205 = .ok (.getfield 453, 3) := by decide +kernel
theorem dX11_findOrder_208 : decode mX11_findOrder.2.1 208 = .ok (.iaload, 1) := by decide +kernel
theorem dX11_findOrder_209 : decode mX11_findOrder.2.1 209 = .ok (.isub, 1) := by decide +kernel
theorem dX11_findOrder_210 : decode mX11_findOrder.2.1 210 = .ok (.i2l, 1) := by decide +kernel
theorem dX11_findOrder_211 : decode mX11_findOrder.2.1 211 = .ok (.lstore 5, 2) := by decide +kernel
theorem dX11_findOrder_213 : decode mX11_findOrder.2.1 213 = .ok (.aload_n 0, 1) := by decide +kernel
theorem dX11_findOrder_214 : decode mX11_findOrder.2.1 214 = .ok (.getfield 161, 3) := by decide +kernel
theorem dX11_findOrder_217 : decode mX11_findOrder.2.1 217 = .ok (.iload_n 2, 1) := by decide +kernel
theorem dX11_findOrder_218 : decode mX11_findOrder.2.1 218 = .ok (.lload_n 3, 1) := by decide +kernel
theorem dX11_findOrder_219 : decode mX11_findOrder.2.1 219 = .ok (.aload_n 0, 1) := by decide +kernel
theorem dX11_findOrder_220 : decode mX11_findOrder.2.1 220 = .ok (.getfield 17, 3) := by decide +kernel
theorem dX11_findOrder_223 : decode mX11_findOrder.2.1 223 = .ok (.iload_n 2, 1) := by decide +kernel
theorem dX11_findOrder_224 : decode mX11_findOrder.2.1 224 = .ok (.iaload, 1) := by decide +kernel
theorem dX11_findOrder_225 : decode mX11_findOrder.2.1 225 = .ok (.aload_n 0, 1) := by decide +kernel
theorem dX11_findOrder_226 : decode mX11_findOrder.2.1 226 = .ok (.getfield 17, 3) := by decide +kernel
theorem dX11_findOrder_229 : decode mX11_findOrder.2.1 229 = .ok (.aload_n 0, 1) := by decide +kernel
theorem dX11_findOrder_230 : decode mX11_findOrder.2.1 230 = .ok (.getfield 453, 3) := by decide +kernel
theorem dX11_findOrder_233 : decode mX11_findOrder.2.1 233 = .ok (.iaload, 1) := by decide +kernel
theorem dX11_findOrder_234 : decode mX11_findOrder.2.1 234 = .ok (.isub, 1) := by decide +kernel
theorem dX11_findOrder_235 : decode mX11_findOrder.2.1 235 = .ok (.i2l, 1) := by decide +kernel
theorem dX11_findOrder_236 : decode mX11_findOrder.2.1 236 = .ok (.lmul, 1) := by decide +kernel
theorem dX11_findOrder_237 : decode mX11_findOrder.2.1 237 = .ok (.lload 5, 2) := by decide +kernel
theorem dX11_findOrder_239 : decode mX11_findOrder.2.1 239 = .ok (.aload_n 0, 1) := by decide +kernel
theorem dX11_findOrder_240 : decode mX11_findOrder.2.1 240 = .ok (.getfield 13, 3) := by decide +kernel
theorem dX11_findOrder_243 : decode mX11_findOrder.2.1 243 = .ok (.iload_n 2, 1) := by decide +kernel
theorem dX11_findOrder_244 : decode mX11_findOrder.2.1 244 = .ok (.iaload, 1) := by decide +kernel
theorem dX11_findOrder_245 : decode mX11_findOrder.2.1 245 = .ok (.aload_n 0, 1) := by decide +kernel
theorem dX11_findOrder_246 : decode mX11_findOrder.2.1 246 = .ok (.getfield 13, 3) := by decide +kernel
theorem dX11_findOrder_249 : decode mX11_findOrder.2.1 249 = .ok (.aload_n 0, 1) := by decide +kernel
theorem dX11_findOrder_250 : decode mX11_findOrder.2.1 250 = .ok (.getfield 453, 3) := by decide +kernel
theorem dX11_findOrder_253 : decode mX11_findOrder.2.1 253 = .ok (.iaload, 1) := by decide +kernel
theorem dX11_findOrder_254 : decode mX11_findOrder.2.1 254 = .ok (.isub, 1) := by decide +kernel
theorem dX11_findOrder_255 : decode mX11_findOrder.2.1 255 = .ok (.i2l, 1) := by decide +kernel
theorem dX11_findOrder_256 : decode mX11_findOrder.2.1 256 = .ok (.lmul, 1) := by decide +kernel
theorem dX11_findOrder_257 : decode mX11_findOrder.2.1 257 = .ok (.lsub, 1) := by decide +kernel
theorem dX11_findOrder_258 : decode mX11_findOrder.2.1 258 = .ok (.lconst 0, 1) := by decide +kernel
theorem dX11_findOrder_259 : decode mX11_findOrder.2.1 259 = .ok (.lcmp, 1) := by decide +kernel
theorem dX11_findOrder_260 : decode mX11_findOrder.2.1 260 = .ok (.ifCond .lt 7, 3) := by decide +kernel
theorem dX11_findOrder_263 : decode mX11_findOrder.2.1 263 = .ok (.iconst 1, 1) := by decide +kernel
theorem dX11_findOrder_264 : decode mX11_findOrder.2.1 264 = .ok (.goto 4, 3) := by decide +kernel
theorem dX11_findOrder_267 : decode mX11_findOrder.2.1 267 = .ok (.iconst (-1), 1) := by decide +kernel
theorem dX11_findOrder_268 : decode mX11_findOrder.2.1 268 = .ok (.iastore, 1) := by decide +kernel
theorem dX11_findOrder_269 : decode mX11_findOrder.2.1 269 = .ok (.iinc 2 1, 3) := by decide +kernel
theorem dX11_findOrder_272 : decode mX11_findOrder.2.1 272 = .ok (.goto (-195), 3) := by decide +kernel
theorem dX11_findOrder_275 : decode mX11_findOrder.2.1 275 = .ok (.goto (-206), 3) := by decide +kernel
theorem dX11_findOrder_278 : decode mX11_findOrder.2.1 278 = .ok (.return_, 1) := by decide +kernel
theorem okX11_findOrder_462 : gOkV mX11_findOrder mX11_hasTwo 462 1 := ⟨List.forall_mem_cons.mpr ⟨(gm 1677 (by decide +kernel) rfl), List.forall_mem_cons.mpr ⟨(gm 1674 (by decide +kernel) rfl), List.forall_mem_cons.mpr ⟨(gm 1676 (by decide +kernel) rfl), List.forall_mem_cons.mpr ⟨(gm 86 (by decide +kernel) rfl), List.forall_mem_cons.mpr ⟨(gm 122 (by decide +kernel) rfl), fun _ h => absurd h List.not_mem_nil⟩⟩⟩⟩⟩, by decide +kernel, by decide +kernel, by decide +kernel⟩
def fX11_findOrder_42 (k7 : Int32 → gS → Option (Unit × gS)) (v1 : Int32) (s1 : Int32) (s2 : Int32) (σ : gS) : Option (Unit × gS) :=
  gg (¬ (s1 < 0 ∨ 24 ≤ s1.toNatClampNeg)) (
  bnd (gsI σ 214 s1.toNatClampNeg (vp_nar .boolean s2)) fun σ2 =>
  gg (¬ (v1 < 0 ∨ 24 ≤ v1.toNatClampNeg)) (
  bnd (gsI σ2 213 v1.toNatClampNeg (vp_nar .boolean 0)) fun σ4 =>
  bnd (v1 + 1) fun x5 =>
  k7 x5 σ4))
set_option maxHeartbeats 4000000 in
set_option maxRecDepth 100000 in
theorem pX11_findOrder_42 {E : gE} {k7 : Int32 → gS → Option (Unit × gS)} {r : Unit} {σ' : gS} {v1 : Int32} {s1 : Int32} {s2 : Int32} {σ : gS} (hk7 : ∀ (v1 : Int32) (σ : gS), k7 v1 σ = some (r, σ') → gG E mX11_findOrder 7 [(0, .ref 168), (1, .int v1)] [] σ (none) σ') (h : fX11_findOrder_42 k7 v1 s1 s2 σ = some (r, σ')) : gG E mX11_findOrder 42 [(0, .ref 168), (1, .int v1)] [.int s2, .int s1, .ref 214] σ (none) σ' := by
  unfold fX11_findOrder_42 at h
  obtain ⟨g1, h⟩ := gg_some h
  obtain ⟨σ2, eσ2, h⟩ := bnd_nm h
  refine g_zast dX11_findOrder_42 gi_214 g1 (g_st eσ2 ?_)
  refine g_aload_n dX11_findOrder_43 rfl 0 rfl ?_
  refine g_getC (n := 213) dX11_findOrder_44 gi_168 rfl fl_RX11_155 ?_
  refine g_iload_n dX11_findOrder_47 rfl 1 rfl ?_
  refine g_iconst (v := 0) dX11_findOrder_48 (by decide) ?_
  obtain ⟨g3, h⟩ := gg_some h
  obtain ⟨σ4, eσ4, h⟩ := bnd_nm h
  refine g_zast dX11_findOrder_49 gi_213 g3 (g_st eσ4 ?_)
  obtain ⟨x5, ex5, h⟩ := bnd_nm h
  refine g_iinc (j := 1) (v := x5) (lv' := [(1, .int x5), (0, .ref 168)]) dX11_findOrder_50 rfl (by rw [ex5]; rfl) (Nat.le_of_ble_eq_true rfl) rfl ?_
  refine g_goto (t := 7) dX11_findOrder_53 (by decide) ?_
  refine g_sub [1, 0] rfl ?_
  exact hk7 x5 σ4 h
def fX11_findOrder_37 (k7 : Int32 → gS → Option (Unit × gS)) (v1 : Int32) (s1 : Int32) (σ : gS) : Option (Unit × gS) :=
  fX11_findOrder_42 k7 v1 s1 1 σ
set_option maxHeartbeats 4000000 in
set_option maxRecDepth 100000 in
theorem pX11_findOrder_37 {E : gE} {k7 : Int32 → gS → Option (Unit × gS)} {r : Unit} {σ' : gS} {v1 : Int32} {s1 : Int32} {σ : gS} (hk7 : ∀ (v1 : Int32) (σ : gS), k7 v1 σ = some (r, σ') → gG E mX11_findOrder 7 [(0, .ref 168), (1, .int v1)] [] σ (none) σ') (h : fX11_findOrder_37 k7 v1 s1 σ = some (r, σ')) : gG E mX11_findOrder 37 [(0, .ref 168), (1, .int v1)] [.int s1, .ref 214] σ (none) σ' := by
  unfold fX11_findOrder_37 at h
  refine g_iconst (v := 1) dX11_findOrder_37 (by decide) ?_
  refine g_goto (t := 42) dX11_findOrder_38 (by decide) ?_
  exact pX11_findOrder_42 hk7 h
def fX11_findOrder_269 (k69 : Int32 → gS → Option (Unit × gS)) (k77 : Int32 → Int32 → gS → Option (Unit × gS)) (v1 : Int32) (v2 : Int32) (σ : gS) : Option (Unit × gS) :=
  bnd (v2 + 1) fun x1 =>
  k77 v1 x1 σ
set_option maxHeartbeats 4000000 in
set_option maxRecDepth 100000 in
theorem pX11_findOrder_269 {E : gE} {k69 : Int32 → gS → Option (Unit × gS)} {k77 : Int32 → Int32 → gS → Option (Unit × gS)} {r : Unit} {σ' : gS} {v1 : Int32} {v2 : Int32} {σ : gS} (hk69 : ∀ (v1 : Int32) (σ : gS), k69 v1 σ = some (r, σ') → gG E mX11_findOrder 69 [(0, .ref 168), (1, .int v1)] [] σ (none) σ') (hk77 : ∀ (v1 : Int32) (v2 : Int32) (σ : gS), k77 v1 v2 σ = some (r, σ') → gG E mX11_findOrder 77 [(0, .ref 168), (1, .int v1), (2, .int v2)] [] σ (none) σ') (h : fX11_findOrder_269 k69 k77 v1 v2 σ = some (r, σ')) : gG E mX11_findOrder 269 [(0, .ref 168), (1, .int v1), (2, .int v2)] [] σ (none) σ' := by
  unfold fX11_findOrder_269 at h
  obtain ⟨x1, ex1, h⟩ := bnd_nm h
  refine g_iinc (j := 2) (v := x1) (lv' := [(2, .int x1), (0, .ref 168), (1, .int v1)]) dX11_findOrder_269 rfl (by rw [ex1]; rfl) (Nat.le_of_ble_eq_true rfl) rfl ?_
  refine g_goto (t := 77) dX11_findOrder_272 (by decide) ?_
  refine g_sub [1, 2, 0] rfl ?_
  exact hk77 v1 x1 σ h
def fX11_findOrder_268 (k69 : Int32 → gS → Option (Unit × gS)) (k77 : Int32 → Int32 → gS → Option (Unit × gS)) (v1 : Int32) (v2 : Int32) (s1 : Int32) (s2 : Int32) (σ : gS) : Option (Unit × gS) :=
  gg (¬ (s1 < 0 ∨ 24 ≤ s1.toNatClampNeg)) (
  bnd (gsI σ 215 s1.toNatClampNeg s2) fun σ2 =>
  fX11_findOrder_269 k69 k77 v1 v2 σ2)
set_option maxHeartbeats 4000000 in
set_option maxRecDepth 100000 in
theorem pX11_findOrder_268 {E : gE} {k69 : Int32 → gS → Option (Unit × gS)} {k77 : Int32 → Int32 → gS → Option (Unit × gS)} {r : Unit} {σ' : gS} {v1 : Int32} {v2 : Int32} {s1 : Int32} {s2 : Int32} {σ : gS} (hk69 : ∀ (v1 : Int32) (σ : gS), k69 v1 σ = some (r, σ') → gG E mX11_findOrder 69 [(0, .ref 168), (1, .int v1)] [] σ (none) σ') (hk77 : ∀ (v1 : Int32) (v2 : Int32) (σ : gS), k77 v1 v2 σ = some (r, σ') → gG E mX11_findOrder 77 [(0, .ref 168), (1, .int v1), (2, .int v2)] [] σ (none) σ') (h : fX11_findOrder_268 k69 k77 v1 v2 s1 s2 σ = some (r, σ')) : gG E mX11_findOrder 268 [(0, .ref 168), (1, .int v1), (2, .int v2)] [.int s2, .int s1, .ref 215] σ (none) σ' := by
  unfold fX11_findOrder_268 at h
  obtain ⟨g1, h⟩ := gg_some h
  obtain ⟨σ2, eσ2, h⟩ := bnd_nm h
  refine g_iast dX11_findOrder_268 gi_215 g1 (g_st eσ2 ?_)
  exact pX11_findOrder_269 hk69 hk77 h
def fX11_findOrder_111 (k69 : Int32 → gS → Option (Unit × gS)) (k77 : Int32 → Int32 → gS → Option (Unit × gS)) (v2 : Int32) (s0 : Int32) (σ : gS) : Option (Unit × gS) :=
  if s0 = 0 then
    fX11_findOrder_269 k69 k77 s0 v2 σ
  else
    gg (¬ (v2 < 0 ∨ 24 ≤ v2.toNatClampNeg)) (
    bnd (gsI σ 214 v2.toNatClampNeg (vp_nar .boolean 1)) fun σ3 =>
    gg (¬ (v2 < 0 ∨ 24 ≤ v2.toNatClampNeg)) (
    bnd (gsI σ3 213 v2.toNatClampNeg (vp_nar .boolean 1)) fun σ5 =>
    gg (¬ (σ5.1 168 69 < 0 ∨ 24 ≤ (σ5.1 168 69).toNatClampNeg)) (
    bnd (gsI σ5 210 ((σ5.1 168 69).toNatClampNeg) v2) fun σ7 =>
    gg (¬ (v2 < 0 ∨ 24 ≤ v2.toNatClampNeg)) (
    bnd (gsI σ7 211 v2.toNatClampNeg (σ7.1 168 76)) fun σ9 =>
    gg (¬ (v2 < 0 ∨ 24 ≤ v2.toNatClampNeg)) (
    bnd (gsI σ9 212 v2.toNatClampNeg (σ9.1 168 77)) fun σ11 =>
    bnd (gsI σ11 168 69 ((σ11.1 168 69) + 1)) fun σ12 =>
    gg (¬ (σ12.1 168 77 < 0 ∨ 24 ≤ (σ12.1 168 77).toNatClampNeg)) (
    gg (¬ (σ12.1 168 76 < 0 ∨ 24 ≤ (σ12.1 168 76).toNatClampNeg)) (
    bnd (((σ12.1 170 ((σ12.1 168 77).toNatClampNeg)) - (σ12.1 170 ((σ12.1 168 76).toNatClampNeg))).toInt64) fun x15 =>
    gg (¬ (σ12.1 168 77 < 0 ∨ 24 ≤ (σ12.1 168 77).toNatClampNeg)) (
    gg (¬ (σ12.1 168 76 < 0 ∨ 24 ≤ (σ12.1 168 76).toNatClampNeg)) (
    bnd (((σ12.1 171 ((σ12.1 168 77).toNatClampNeg)) - (σ12.1 171 ((σ12.1 168 76).toNatClampNeg))).toInt64) fun x18 =>
    gg (¬ (v2 < 0 ∨ 24 ≤ v2.toNatClampNeg)) (
    gg (¬ (σ12.1 168 76 < 0 ∨ 24 ≤ (σ12.1 168 76).toNatClampNeg)) (
    gg (¬ (v2 < 0 ∨ 24 ≤ v2.toNatClampNeg)) (
    gg (¬ (σ12.1 168 76 < 0 ∨ 24 ≤ (σ12.1 168 76).toNatClampNeg)) (
    if (lg_cmp ((x15 * (((σ12.1 171 v2.toNatClampNeg) - (σ12.1 171 ((σ12.1 168 76).toNatClampNeg))).toInt64)) - (x18 * (((σ12.1 170 v2.toNatClampNeg) - (σ12.1 170 ((σ12.1 168 76).toNatClampNeg))).toInt64))) 0) < 0 then
      fX11_findOrder_268 k69 k77 s0 v2 v2 (-1) σ12
    else
      fX11_findOrder_268 k69 k77 s0 v2 v2 1 σ12)))))))))))))
set_option maxHeartbeats 4000000 in
set_option maxRecDepth 100000 in
theorem pX11_findOrder_111 {E : gE} {k69 : Int32 → gS → Option (Unit × gS)} {k77 : Int32 → Int32 → gS → Option (Unit × gS)} {r : Unit} {σ' : gS} {v2 : Int32} {s0 : Int32} {σ : gS} (hk69 : ∀ (v1 : Int32) (σ : gS), k69 v1 σ = some (r, σ') → gG E mX11_findOrder 69 [(0, .ref 168), (1, .int v1)] [] σ (none) σ') (hk77 : ∀ (v1 : Int32) (v2 : Int32) (σ : gS), k77 v1 v2 σ = some (r, σ') → gG E mX11_findOrder 77 [(0, .ref 168), (1, .int v1), (2, .int v2)] [] σ (none) σ') (h : fX11_findOrder_111 k69 k77 v2 s0 σ = some (r, σ')) : gG E mX11_findOrder 111 [(0, .ref 168), (2, .int v2)] [.int s0] σ (none) σ' := by
  unfold fX11_findOrder_111 at h
  refine g_istore_n (lv' := [(1, .int s0), (0, .ref 168), (2, .int v2)]) dX11_findOrder_111 rfl (Nat.le_of_ble_eq_true rfl) rfl ?_
  refine g_iload_n dX11_findOrder_112 rfl 0 rfl ?_
  refine g_if_eq (t := 269) dX11_findOrder_113 (by decide) (fun c1 => ?_) (fun c1 => ?_)
  · replace h := if_t h c1
    refine g_sub [1, 0, 2] rfl ?_
    exact pX11_findOrder_269 hk69 hk77 h
  · replace h := if_f h c1
    refine g_aload_n dX11_findOrder_116 rfl 1 rfl ?_
    refine g_getC (n := 214) dX11_findOrder_117 gi_168 rfl fl_RX11_158 ?_
    refine g_iload_n dX11_findOrder_120 rfl 2 rfl ?_
    refine g_iconst (v := 1) dX11_findOrder_121 (by decide) ?_
    obtain ⟨g2, h⟩ := gg_some h
    obtain ⟨σ3, eσ3, h⟩ := bnd_nm h
    refine g_zast dX11_findOrder_122 gi_214 g2 (g_st eσ3 ?_)
    refine g_aload_n dX11_findOrder_123 rfl 1 rfl ?_
    refine g_getC (n := 213) dX11_findOrder_124 gi_168 rfl fl_RX11_155 ?_
    refine g_iload_n dX11_findOrder_127 rfl 2 rfl ?_
    refine g_iconst (v := 1) dX11_findOrder_128 (by decide) ?_
    obtain ⟨g4, h⟩ := gg_some h
    obtain ⟨σ5, eσ5, h⟩ := bnd_nm h
    refine g_zast dX11_findOrder_129 gi_213 g4 (g_st eσ5 ?_)
    refine g_aload_n dX11_findOrder_130 rfl 1 rfl ?_
    refine g_getC (n := 210) dX11_findOrder_131 gi_168 rfl fl_RX11_146 ?_
    refine g_aload_n dX11_findOrder_134 rfl 1 rfl ?_
    refine g_getI dX11_findOrder_135 gi_168 rfl fl_RX11_459 ?_
    refine g_iload_n dX11_findOrder_138 rfl 2 rfl ?_
    obtain ⟨g6, h⟩ := gg_some h
    obtain ⟨σ7, eσ7, h⟩ := bnd_nm h
    refine g_iast dX11_findOrder_139 gi_210 g6 (g_st eσ7 ?_)
    refine g_aload_n dX11_findOrder_140 rfl 1 rfl ?_
    refine g_getC (n := 211) dX11_findOrder_141 gi_168 rfl fl_RX11_149 ?_
    refine g_iload_n dX11_findOrder_144 rfl 2 rfl ?_
    refine g_aload_n dX11_findOrder_145 rfl 1 rfl ?_
    refine g_getI dX11_findOrder_146 gi_168 rfl fl_RX11_453 ?_
    obtain ⟨g8, h⟩ := gg_some h
    obtain ⟨σ9, eσ9, h⟩ := bnd_nm h
    refine g_iast dX11_findOrder_149 gi_211 g8 (g_st eσ9 ?_)
    refine g_aload_n dX11_findOrder_150 rfl 1 rfl ?_
    refine g_getC (n := 212) dX11_findOrder_151 gi_168 rfl fl_RX11_152 ?_
    refine g_iload_n dX11_findOrder_154 rfl 2 rfl ?_
    refine g_aload_n dX11_findOrder_155 rfl 1 rfl ?_
    refine g_getI dX11_findOrder_156 gi_168 rfl fl_RX11_456 ?_
    obtain ⟨g10, h⟩ := gg_some h
    obtain ⟨σ11, eσ11, h⟩ := bnd_nm h
    refine g_iast dX11_findOrder_159 gi_212 g10 (g_st eσ11 ?_)
    refine g_aload_n dX11_findOrder_160 rfl 1 rfl ?_
    refine g_dup dX11_findOrder_161 rfl ?_
    refine g_getI dX11_findOrder_162 gi_168 rfl fl_RX11_459 ?_
    refine g_iconst (v := 1) dX11_findOrder_165 (by decide) ?_
    refine g_iadd dX11_findOrder_166 ?_
    obtain ⟨σ12, eσ12, h⟩ := bnd_nm h
    refine g_putI dX11_findOrder_167 gi_168 rfl fp_RX11_459 (g_st eσ12 ?_)
    refine g_aload_n dX11_findOrder_170 rfl 1 rfl ?_
    refine g_getC (n := 170) dX11_findOrder_171 gi_168 rfl fl_RX11_13 ?_
    refine g_aload_n dX11_findOrder_174 rfl 1 rfl ?_
    refine g_getI dX11_findOrder_175 gi_168 rfl fl_RX11_456 ?_
    obtain ⟨g13, h⟩ := gg_some h
    refine g_iald dX11_findOrder_178 gi_170 g13 ?_
    refine g_aload_n dX11_findOrder_179 rfl 1 rfl ?_
    refine g_getC (n := 170) dX11_findOrder_180 gi_168 rfl fl_RX11_13 ?_
    refine g_aload_n dX11_findOrder_183 rfl 1 rfl ?_
    refine g_getI dX11_findOrder_184 gi_168 rfl fl_RX11_453 ?_
    obtain ⟨g14, h⟩ := gg_some h
    refine g_iald dX11_findOrder_187 gi_170 g14 ?_
    refine g_isub dX11_findOrder_188 ?_
    refine g_i2l dX11_findOrder_189 ?_
    obtain ⟨x15, ex15, h⟩ := bnd_nm h
    refine g_topl ex15 ?_
    refine g_lstore_n (lv' := [(3, .long x15), (1, .int s0), (0, .ref 168), (2, .int v2)]) dX11_findOrder_190 rfl (Nat.le_of_ble_eq_true rfl) rfl ?_
    refine g_aload_n dX11_findOrder_191 rfl 2 rfl ?_
    refine g_getC (n := 171) dX11_findOrder_192 gi_168 rfl fl_RX11_17 ?_
    refine g_aload_n dX11_findOrder_195 rfl 2 rfl ?_
    refine g_getI dX11_findOrder_196 gi_168 rfl fl_RX11_456 ?_
    obtain ⟨g16, h⟩ := gg_some h
    refine g_iald dX11_findOrder_199 gi_171 g16 ?_
    refine g_aload_n dX11_findOrder_200 rfl 2 rfl ?_
    refine g_getC (n := 171) dX11_findOrder_201 gi_168 rfl fl_RX11_17 ?_
    refine g_aload_n dX11_findOrder_204 rfl 2 rfl ?_
    refine g_getI dX11_findOrder_205 gi_168 rfl fl_RX11_453 ?_
    obtain ⟨g17, h⟩ := gg_some h
    refine g_iald dX11_findOrder_208 gi_171 g17 ?_
    refine g_isub dX11_findOrder_209 ?_
    refine g_i2l dX11_findOrder_210 ?_
    obtain ⟨x18, ex18, h⟩ := bnd_nm h
    refine g_topl ex18 ?_
    refine g_lstore (lv' := [(5, .long x18), (3, .long x15), (1, .int s0), (0, .ref 168), (2, .int v2)]) dX11_findOrder_211 (Nat.le_of_ble_eq_true rfl) rfl ?_
    refine g_aload_n dX11_findOrder_213 rfl 3 rfl ?_
    refine g_getC (n := 215) dX11_findOrder_214 gi_168 rfl fl_RX11_161 ?_
    refine g_iload_n dX11_findOrder_217 rfl 4 rfl ?_
    refine g_lload_n dX11_findOrder_218 rfl 1 rfl ?_
    refine g_aload_n dX11_findOrder_219 rfl 3 rfl ?_
    refine g_getC (n := 171) dX11_findOrder_220 gi_168 rfl fl_RX11_17 ?_
    refine g_iload_n dX11_findOrder_223 rfl 4 rfl ?_
    obtain ⟨g19, h⟩ := gg_some h
    refine g_iald dX11_findOrder_224 gi_171 g19 ?_
    refine g_aload_n dX11_findOrder_225 rfl 3 rfl ?_
    refine g_getC (n := 171) dX11_findOrder_226 gi_168 rfl fl_RX11_17 ?_
    refine g_aload_n dX11_findOrder_229 rfl 3 rfl ?_
    refine g_getI dX11_findOrder_230 gi_168 rfl fl_RX11_453 ?_
    obtain ⟨g20, h⟩ := gg_some h
    refine g_iald dX11_findOrder_233 gi_171 g20 ?_
    refine g_isub dX11_findOrder_234 ?_
    refine g_i2l dX11_findOrder_235 ?_
    refine g_lmul dX11_findOrder_236 ?_
    refine g_lload dX11_findOrder_237 0 rfl ?_
    refine g_aload_n dX11_findOrder_239 rfl 3 rfl ?_
    refine g_getC (n := 170) dX11_findOrder_240 gi_168 rfl fl_RX11_13 ?_
    refine g_iload_n dX11_findOrder_243 rfl 4 rfl ?_
    obtain ⟨g21, h⟩ := gg_some h
    refine g_iald dX11_findOrder_244 gi_170 g21 ?_
    refine g_aload_n dX11_findOrder_245 rfl 3 rfl ?_
    refine g_getC (n := 170) dX11_findOrder_246 gi_168 rfl fl_RX11_13 ?_
    refine g_aload_n dX11_findOrder_249 rfl 3 rfl ?_
    refine g_getI dX11_findOrder_250 gi_168 rfl fl_RX11_453 ?_
    obtain ⟨g22, h⟩ := gg_some h
    refine g_iald dX11_findOrder_253 gi_170 g22 ?_
    refine g_isub dX11_findOrder_254 ?_
    refine g_i2l dX11_findOrder_255 ?_
    refine g_lmul dX11_findOrder_256 ?_
    refine g_lsub dX11_findOrder_257 ?_
    refine g_lconst (v := 0) dX11_findOrder_258 (by decide) ?_
    refine g_lcmp dX11_findOrder_259 ?_
    refine g_if_lt (t := 267) dX11_findOrder_260 (by decide) (fun c23 => ?_) (fun c23 => ?_)
    · replace h := if_t h c23
      refine g_iconst (v := (-1)) dX11_findOrder_267 (by decide) ?_
      refine g_sub [3, 2, 4] rfl ?_
      exact pX11_findOrder_268 hk69 hk77 h
    · replace h := if_f h c23
      refine g_iconst (v := 1) dX11_findOrder_263 (by decide) ?_
      refine g_goto (t := 268) dX11_findOrder_264 (by decide) ?_
      refine g_sub [3, 2, 4] rfl ?_
      exact pX11_findOrder_268 hk69 hk77 h
def fX11_findOrder_110 (k69 : Int32 → gS → Option (Unit × gS)) (k77 : Int32 → Int32 → gS → Option (Unit × gS)) (v2 : Int32) (σ : gS) : Option (Unit × gS) :=
  fX11_findOrder_111 k69 k77 v2 0 σ
set_option maxHeartbeats 4000000 in
set_option maxRecDepth 100000 in
theorem pX11_findOrder_110 {E : gE} {k69 : Int32 → gS → Option (Unit × gS)} {k77 : Int32 → Int32 → gS → Option (Unit × gS)} {r : Unit} {σ' : gS} {v2 : Int32} {σ : gS} (hk69 : ∀ (v1 : Int32) (σ : gS), k69 v1 σ = some (r, σ') → gG E mX11_findOrder 69 [(0, .ref 168), (1, .int v1)] [] σ (none) σ') (hk77 : ∀ (v1 : Int32) (v2 : Int32) (σ : gS), k77 v1 v2 σ = some (r, σ') → gG E mX11_findOrder 77 [(0, .ref 168), (1, .int v1), (2, .int v2)] [] σ (none) σ') (h : fX11_findOrder_110 k69 k77 v2 σ = some (r, σ')) : gG E mX11_findOrder 110 [(0, .ref 168), (2, .int v2)] [] σ (none) σ' := by
  unfold fX11_findOrder_110 at h
  refine g_iconst (v := 0) dX11_findOrder_110 (by decide) ?_
  exact pX11_findOrder_111 hk69 hk77 h
def fX11_findOrder_275 (k69 : Int32 → gS → Option (Unit × gS)) (v1 : Int32) (σ : gS) : Option (Unit × gS) :=
  k69 v1 σ
set_option maxHeartbeats 4000000 in
set_option maxRecDepth 100000 in
theorem pX11_findOrder_275 {E : gE} {k69 : Int32 → gS → Option (Unit × gS)} {r : Unit} {σ' : gS} {v1 : Int32} {σ : gS} (hk69 : ∀ (v1 : Int32) (σ : gS), k69 v1 σ = some (r, σ') → gG E mX11_findOrder 69 [(0, .ref 168), (1, .int v1)] [] σ (none) σ') (h : fX11_findOrder_275 k69 v1 σ = some (r, σ')) : gG E mX11_findOrder 275 [(0, .ref 168), (1, .int v1)] [] σ (none) σ' := by
  unfold fX11_findOrder_275 at h
  refine g_goto (t := 69) dX11_findOrder_275 (by decide) ?_
  exact hk69 v1 σ h
def fX11_findOrder_77 (k69 : Int32 → gS → Option (Unit × gS)) : Nat → Int32 → Int32 → gS → Option (Unit × gS)
  | 0, _, _, _ => none
  | n + 1, v1, v2, σ => if (σ.1 168 0) ≤ v2 then
    fX11_findOrder_275 k69 v1 σ
  else
    if v1 = 0 then
      gg (¬ (v2 < 0 ∨ 24 ≤ v2.toNatClampNeg)) (
      if (σ.1 214 v2.toNatClampNeg) = 0 then
        bd (fX11_hasTwo v2 σ) fun x5 σ6 =>
        if x5 = 0 then
          fX11_findOrder_110 k69 (fun v1 v2 σ => fX11_findOrder_77 k69 n v1 v2 σ) v2 σ6
        else
          fX11_findOrder_111 k69 (fun v1 v2 σ => fX11_findOrder_77 k69 n v1 v2 σ) v2 1 σ6
      else
        fX11_findOrder_110 k69 (fun v1 v2 σ => fX11_findOrder_77 k69 n v1 v2 σ) v2 σ)
    else
      fX11_findOrder_275 k69 v1 σ
set_option maxHeartbeats 4000000 in
set_option maxRecDepth 100000 in
theorem pX11_findOrder_77 {E : gE} {k69 : Int32 → gS → Option (Unit × gS)} {r : Unit} {σ' : gS} (hk69 : ∀ (v1 : Int32) (σ : gS), k69 v1 σ = some (r, σ') → gG E mX11_findOrder 69 [(0, .ref 168), (1, .int v1)] [] σ (none) σ') : ∀ (n : Nat) (v1 : Int32) (v2 : Int32) (σ : gS), fX11_findOrder_77 k69 n v1 v2 σ = some (r, σ') → gG E mX11_findOrder 77 [(0, .ref 168), (1, .int v1), (2, .int v2)] [] σ (none) σ' := by
  intro n
  induction n with
  | zero => intro v1 v2 σ h; exact absurd (show none = some (r, σ') from h) (by intro q; cases q)
  | succ n ih =>
  intro v1 v2 σ h
  unfold fX11_findOrder_77 at h
  refine g_iload_n dX11_findOrder_77 rfl 2 rfl ?_
  refine g_aload_n dX11_findOrder_78 rfl 0 rfl ?_
  refine g_getI dX11_findOrder_79 gi_168 rfl fl_RX11_374 ?_
  refine g_icmp_ge (t := 275) dX11_findOrder_82 (by decide) (fun c1 => ?_) (fun c1 => ?_)
  · replace h := if_t h c1
    refine g_sub [0, 1] rfl ?_
    exact pX11_findOrder_275 hk69 h
  · replace h := if_f h c1
    refine g_iload_n dX11_findOrder_85 rfl 1 rfl ?_
    refine g_if_ne (t := 275) dX11_findOrder_86 (by decide) (fun c2 => ?_) (fun c2 => ?_)
    · replace h := if_f h c2
      refine g_sub [0, 1] rfl ?_
      exact pX11_findOrder_275 hk69 h
    · replace h := if_t h c2
      refine g_aload_n dX11_findOrder_89 rfl 0 rfl ?_
      refine g_getC (n := 214) dX11_findOrder_90 gi_168 rfl fl_RX11_158 ?_
      refine g_iload_n dX11_findOrder_93 rfl 2 rfl ?_
      obtain ⟨g3, h⟩ := gg_some h
      refine g_zald dX11_findOrder_94 gi_214 g3 ?_
      refine g_if_ne (t := 110) dX11_findOrder_95 (by decide) (fun c4 => ?_) (fun c4 => ?_)
      · replace h := if_f h c4
        refine g_sub [0, 2] rfl ?_
        exact pX11_findOrder_110 hk69 (fun v1 v2 σ h => ih v1 v2 σ h) h
      · replace h := if_t h c4
        refine g_aload_n dX11_findOrder_98 rfl 0 rfl ?_
        refine g_iload_n dX11_findOrder_99 rfl 2 rfl ?_
        obtain ⟨x5, σ6, y7, h⟩ := bd_some h
        refine g_callVr (as := [.int v2]) (st := []) (zX11_hasTwo y7) dX11_findOrder_100 gi_168 rfl okX11_findOrder_462 (Nat.le_of_ble_eq_true rfl) ?_
        refine g_if_eq (t := 110) dX11_findOrder_103 (by decide) (fun c8 => ?_) (fun c8 => ?_)
        · replace h := if_t h c8
          refine g_sub [0, 2] rfl ?_
          exact pX11_findOrder_110 hk69 (fun v1 v2 σ h => ih v1 v2 σ h) h
        · replace h := if_f h c8
          refine g_iconst (v := 1) dX11_findOrder_106 (by decide) ?_
          refine g_goto (t := 111) dX11_findOrder_107 (by decide) ?_
          refine g_sub [0, 2] rfl ?_
          exact pX11_findOrder_111 hk69 (fun v1 v2 σ h => ih v1 v2 σ h) h
def fX11_findOrder_69 : Nat → Int32 → gS → Option (Unit × gS)
  | 0, _, _ => none
  | n + 1, v1, σ => if v1 = 0 then
    some ((), σ)
  else
    fX11_findOrder_77 (fun v1 σ => fX11_findOrder_69 n v1 σ) 2000 0 0 σ
set_option maxHeartbeats 4000000 in
set_option maxRecDepth 100000 in
theorem pX11_findOrder_69 {E : gE} {r : Unit} {σ' : gS} : ∀ (n : Nat) (v1 : Int32) (σ : gS), fX11_findOrder_69 n v1 σ = some (r, σ') → gG E mX11_findOrder 69 [(0, .ref 168), (1, .int v1)] [] σ (none) σ' := by
  intro n
  induction n with
  | zero => intro v1 σ h; exact absurd (show none = some (r, σ') from h) (by intro q; cases q)
  | succ n ih =>
  intro v1 σ h
  unfold fX11_findOrder_69 at h
  refine g_iload_n dX11_findOrder_69 rfl 1 rfl ?_
  refine g_if_eq (t := 278) dX11_findOrder_70 (by decide) (fun c1 => ?_) (fun c1 => ?_)
  · replace h := if_t h c1
    obtain ⟨rfl, rfl⟩ := so_inj h
    exact g_vret dX11_findOrder_278 rfl
  · replace h := if_f h c1
    refine g_iconst (v := 0) dX11_findOrder_73 (by decide) ?_
    refine g_istore_n (lv' := [(1, .int 0), (0, .ref 168)]) dX11_findOrder_74 rfl (Nat.le_of_ble_eq_true rfl) rfl ?_
    refine g_iconst (v := 0) dX11_findOrder_75 (by decide) ?_
    refine g_istore_n (lv' := [(2, .int 0), (1, .int 0), (0, .ref 168)]) dX11_findOrder_76 rfl (Nat.le_of_ble_eq_true rfl) rfl ?_
    refine g_sub [2, 1, 0] rfl ?_
    exact pX11_findOrder_77 (fun v1 σ h => ih v1 σ h) 2000 0 0 σ h
def fX11_findOrder_68 (s0 : Int32) (σ : gS) : Option (Unit × gS) :=
  fX11_findOrder_69 2000 s0 σ
set_option maxHeartbeats 4000000 in
set_option maxRecDepth 100000 in
theorem pX11_findOrder_68 {E : gE} {r : Unit} {σ' : gS} {s0 : Int32} {σ : gS} (h : fX11_findOrder_68 s0 σ = some (r, σ')) : gG E mX11_findOrder 68 [(0, .ref 168)] [.int s0] σ (none) σ' := by
  unfold fX11_findOrder_68 at h
  refine g_istore_n (lv' := [(1, .int s0), (0, .ref 168)]) dX11_findOrder_68 rfl (Nat.le_of_ble_eq_true rfl) rfl ?_
  refine g_sub [1, 0] rfl ?_
  exact pX11_findOrder_69 2000 s0 σ h
def fX11_findOrder_7 : Nat → Int32 → gS → Option (Unit × gS)
  | 0, _, _ => none
  | n + 1, v1, σ => if (σ.1 168 0) ≤ v1 then
    if (σ.1 168 19) < 0 then
      fX11_findOrder_68 0 σ
    else
      fX11_findOrder_68 1 σ
  else
    gg (¬ (v1 < 0 ∨ 24 ≤ v1.toNatClampNeg)) (
    if (σ.1 172 v1.toNatClampNeg) = 0 then
      if v1 = (σ.1 168 19) then
        fX11_findOrder_37 (fun v1 σ => fX11_findOrder_7 n v1 σ) v1 v1 σ
      else
        fX11_findOrder_42 (fun v1 σ => fX11_findOrder_7 n v1 σ) v1 v1 0 σ
    else
      fX11_findOrder_37 (fun v1 σ => fX11_findOrder_7 n v1 σ) v1 v1 σ)
set_option maxHeartbeats 4000000 in
set_option maxRecDepth 100000 in
theorem pX11_findOrder_7 {E : gE} {r : Unit} {σ' : gS} : ∀ (n : Nat) (v1 : Int32) (σ : gS), fX11_findOrder_7 n v1 σ = some (r, σ') → gG E mX11_findOrder 7 [(0, .ref 168), (1, .int v1)] [] σ (none) σ' := by
  intro n
  induction n with
  | zero => intro v1 σ h; exact absurd (show none = some (r, σ') from h) (by intro q; cases q)
  | succ n ih =>
  intro v1 σ h
  unfold fX11_findOrder_7 at h
  refine g_iload_n dX11_findOrder_7 rfl 1 rfl ?_
  refine g_aload_n dX11_findOrder_8 rfl 0 rfl ?_
  refine g_getI dX11_findOrder_9 gi_168 rfl fl_RX11_374 ?_
  refine g_icmp_ge (t := 56) dX11_findOrder_12 (by decide) (fun c1 => ?_) (fun c1 => ?_)
  · replace h := if_t h c1
    refine g_aload_n dX11_findOrder_56 rfl 0 rfl ?_
    refine g_getI dX11_findOrder_57 gi_168 rfl fl_RX11_54 ?_
    refine g_if_lt (t := 67) dX11_findOrder_60 (by decide) (fun c2 => ?_) (fun c2 => ?_)
    · replace h := if_t h c2
      refine g_iconst (v := 0) dX11_findOrder_67 (by decide) ?_
      refine g_sub [0] rfl ?_
      exact pX11_findOrder_68 h
    · replace h := if_f h c2
      refine g_iconst (v := 1) dX11_findOrder_63 (by decide) ?_
      refine g_goto (t := 68) dX11_findOrder_64 (by decide) ?_
      refine g_sub [0] rfl ?_
      exact pX11_findOrder_68 h
  · replace h := if_f h c1
    refine g_aload_n dX11_findOrder_15 rfl 0 rfl ?_
    refine g_getC (n := 214) dX11_findOrder_16 gi_168 rfl fl_RX11_158 ?_
    refine g_iload_n dX11_findOrder_19 rfl 1 rfl ?_
    refine g_aload_n dX11_findOrder_20 rfl 0 rfl ?_
    refine g_getC (n := 172) dX11_findOrder_21 gi_168 rfl fl_RX11_20 ?_
    refine g_iload_n dX11_findOrder_24 rfl 1 rfl ?_
    obtain ⟨g3, h⟩ := gg_some h
    refine g_zald dX11_findOrder_25 gi_172 g3 ?_
    refine g_if_ne (t := 37) dX11_findOrder_26 (by decide) (fun c4 => ?_) (fun c4 => ?_)
    · replace h := if_f h c4
      exact pX11_findOrder_37 (fun v1 σ h => ih v1 σ h) h
    · replace h := if_t h c4
      refine g_iload_n dX11_findOrder_29 rfl 1 rfl ?_
      refine g_aload_n dX11_findOrder_30 rfl 0 rfl ?_
      refine g_getI dX11_findOrder_31 gi_168 rfl fl_RX11_54 ?_
      refine g_icmp_ne (t := 41) dX11_findOrder_34 (by decide) (fun c5 => ?_) (fun c5 => ?_)
      · replace h := if_f h c5
        refine g_iconst (v := 0) dX11_findOrder_41 (by decide) ?_
        exact pX11_findOrder_42 (fun v1 σ h => ih v1 σ h) h
      · replace h := if_t h c5
        exact pX11_findOrder_37 (fun v1 σ h => ih v1 σ h) h
def fX11_findOrder (σ : gS) : Option (Unit × gS) :=
  bnd (gsI σ 168 69 0) fun σ1 =>
  fX11_findOrder_7 2000 0 σ1
set_option maxHeartbeats 4000000 in
set_option maxRecDepth 100000 in
theorem pX11_findOrder {E : gE} {r : Unit} {σ' : gS} {σ : gS} (h : fX11_findOrder σ = some (r, σ')) : gG E mX11_findOrder 0 [(0, .ref 168)] [] σ (none) σ' := by
  unfold fX11_findOrder at h
  refine g_aload_n dX11_findOrder_0 rfl 0 rfl ?_
  refine g_iconst (v := 0) dX11_findOrder_1 (by decide) ?_
  obtain ⟨σ1, eσ1, h⟩ := bnd_nm h
  refine g_putI dX11_findOrder_2 gi_168 rfl fp_RX11_459 (g_st eσ1 ?_)
  refine g_iconst (v := 0) dX11_findOrder_5 (by decide) ?_
  refine g_istore_n (lv' := [(1, .int 0), (0, .ref 168)]) dX11_findOrder_6 rfl (Nat.le_of_ble_eq_true rfl) rfl ?_
  refine g_sub [1, 0] rfl ?_
  exact pX11_findOrder_7 2000 0 σ1 h
theorem zX11_findOrder {E : gE} {r : Unit} {σ σ' : gS} (h : fX11_findOrder σ = some (r, σ')) : gC E mX11_findOrder [.ref 168] σ (none) σ' :=
  gC_of (by decide +kernel) rfl (Nat.le_of_ble_eq_true rfl) (pX11_findOrder h)
theorem fl_RX11_371 : gFl RX11 371 11 16 := ⟨RX11, TX11, 101, rfl, by decide, ux_11, Or.inl (gm 1244 (by decide +kernel) rfl)⟩
theorem fp_RX11_386 : gFp RX11 386 11 81 .boolean := ⟨RX11, TX11, 101, rfl, by decide, ux_11, Or.inl (gm 1309 (by decide +kernel) rfl), rfl, by decide +kernel, ⟨tyX11, tyX11_ok⟩, nmX11⟩
theorem fp_RX11_182 : gFp RX11 182 11 85 .int := ⟨RX11, TX11, 101, rfl, by decide, ux_11, Or.inl (gm 1313 (by decide +kernel) rfl), rfl, by decide +kernel, ⟨tyX11, tyX11_ok⟩, nmX11⟩
theorem fl_RX11_48 : gFl RX11 48 11 17 := ⟨RX11, TX11, 101, rfl, by decide, ux_11, Or.inl (gm 1245 (by decide +kernel) rfl)⟩
theorem fl_RX11_51 : gFl RX11 51 11 18 := ⟨RX11, TX11, 101, rfl, by decide, ux_11, Or.inl (gm 1246 (by decide +kernel) rfl)⟩
theorem fl_RX11_383 : gFl RX11 383 11 12 := ⟨RX11, TX11, 101, rfl, by decide, ux_11, Or.inl (gm 1240 (by decide +kernel) rfl)⟩
theorem fl_RX11_39 : gFl RX11 39 11 13 := ⟨RX11, TX11, 101, rfl, by decide, ux_11, Or.inl (gm 1241 (by decide +kernel) rfl)⟩
theorem fl_RX11_42 : gFl RX11 42 11 14 := ⟨RX11, TX11, 101, rfl, by decide, ux_11, Or.inl (gm 1242 (by decide +kernel) rfl)⟩
theorem fl_RX11_45 : gFl RX11 45 11 15 := ⟨RX11, TX11, 101, rfl, by decide, ux_11, Or.inl (gm 1243 (by decide +kernel) rfl)⟩
theorem fl_RX11_377 : gFl RX11 377 11 5 := ⟨RX11, TX11, 101, rfl, by decide, ux_11, Or.inl (gm 1233 (by decide +kernel) rfl)⟩
theorem fl_RX11_24 : gFl RX11 24 11 6 := ⟨RX11, TX11, 101, rfl, by decide, ux_11, Or.inl (gm 1234 (by decide +kernel) rfl)⟩
theorem fl_RX11_27 : gFl RX11 27 11 7 := ⟨RX11, TX11, 101, rfl, by decide, ux_11, Or.inl (gm 1235 (by decide +kernel) rfl)⟩
theorem fl_RX11_30 : gFl RX11 30 11 8 := ⟨RX11, TX11, 101, rfl, by decide, ux_11, Or.inl (gm 1236 (by decide +kernel) rfl)⟩
theorem fl_RX11_7 : gFl RX11 7 11 1 := ⟨RX11, TX11, 101, rfl, by decide, ux_11, Or.inl (gm 1229 (by decide +kernel) rfl)⟩
theorem fp_RX11_374 : gFp RX11 374 11 0 .int := ⟨RX11, TX11, 101, rfl, by decide, ux_11, Or.inl (gm 1228 (by decide +kernel) rfl), rfl, by decide +kernel, ⟨tyX11, tyX11_ok⟩, nmX11⟩
theorem fp_RX11_377 : gFp RX11 377 11 5 .int := ⟨RX11, TX11, 101, rfl, by decide, ux_11, Or.inl (gm 1233 (by decide +kernel) rfl), rfl, by decide +kernel, ⟨tyX11, tyX11_ok⟩, nmX11⟩
theorem fp_RX11_380 : gFp RX11 380 11 9 .int := ⟨RX11, TX11, 101, rfl, by decide, ux_11, Or.inl (gm 1237 (by decide +kernel) rfl), rfl, by decide +kernel, ⟨tyX11, tyX11_ok⟩, nmX11⟩
theorem fp_RX11_383 : gFp RX11 383 11 12 .int := ⟨RX11, TX11, 101, rfl, by decide, ux_11, Or.inl (gm 1240 (by decide +kernel) rfl), rfl, by decide +kernel, ⟨tyX11, tyX11_ok⟩, nmX11⟩
theorem fp_RX11_371 : gFp RX11 371 11 16 .int := ⟨RX11, TX11, 101, rfl, by decide, ux_11, Or.inl (gm 1244 (by decide +kernel) rfl), rfl, by decide +kernel, ⟨tyX11, tyX11_ok⟩, nmX11⟩
theorem fp_RX11_54 : gFp RX11 54 11 19 .int := ⟨RX11, TX11, 101, rfl, by decide, ux_11, Or.inl (gm 1247 (by decide +kernel) rfl), rfl, by decide +kernel, ⟨tyX11, tyX11_ok⟩, nmX11⟩
theorem fl_RX11_350 : gFl RX11 350 11 41 := ⟨RX11, TX11, 101, rfl, by decide, ux_11, Or.inl (gm 1269 (by decide +kernel) rfl)⟩
theorem fp_RX11_58 : gFp RX11 58 11 20 .int := ⟨RX11, TX11, 101, rfl, by decide, ux_11, Or.inl (gm 1248 (by decide +kernel) rfl), rfl, by decide +kernel, ⟨tyX11, tyX11_ok⟩, nmX11⟩
def mX11_take : gM := (yX11_take, cX11_take, RX11, 2, none, 3, 75)
theorem dX11_take_0 : decode mX11_take.2.1 0 = .ok (.aload_n 0, 1) := by decide +kernel
theorem dX11_take_1 : decode mX11_take.2.1 1 = .ok (.aload_n 0, 1) := by decide +kernel
theorem dX11_take_2 : decode mX11_take.2.1 2 = .ok (.getfield 295, 3) := by decide +kernel
theorem dX11_take_5 : decode mX11_take.2.1 5 = .ok (.putfield 374, 3) := by decide +kernel
theorem dX11_take_8 : decode mX11_take.2.1 8 = .ok (.aload_n 0, 1) := by decide +kernel
theorem dX11_take_9 : decode mX11_take.2.1 9 = .ok (.aload_n 0, 1) := by decide +kernel
theorem dX11_take_10 : decode mX11_take.2.1 10 = .ok (.getfield 298, 3) := by decide +kernel
theorem dX11_take_13 : decode mX11_take.2.1 13 = .ok (.putfield 377, 3) := by decide +kernel
theorem dX11_take_16 : decode mX11_take.2.1 16 = .ok (.aload_n 0, 1) := by decide +kernel
theorem dX11_take_17 : decode mX11_take.2.1 17 = .ok (.aload_n 0, 1) := by decide +kernel
theorem dX11_take_18 : decode mX11_take.2.1 18 = .ok (.getfield 325, 3) := by decide +kernel
theorem dX11_take_21 : decode mX11_take.2.1 21 = .ok (.putfield 380, 3) := by decide +kernel
theorem dX11_take_24 : decode mX11_take.2.1 24 = .ok (.aload_n 0, 1) := by decide +kernel
theorem dX11_take_25 : decode mX11_take.2.1 25 = .ok (.aload_n 0, 1) := by decide +kernel
theorem dX11_take_26 : decode mX11_take.2.1 26 = .ok (.getfield 344, 3) := by decide +kernel
theorem dX11_take_29 : decode mX11_take.2.1 29 = .ok (.putfield 383, 3) := by decide +kernel
theorem dX11_take_32 : decode mX11_take.2.1 32 = .ok (.aload_n 0, 1) := by decide +kernel
theorem dX11_take_33 : decode mX11_take.2.1 33 = .ok (.aload_n 0, 1) := by decide +kernel
theorem dX11_take_34 : decode mX11_take.2.1 34 = .ok (.getfield 307, 3) := by decide +kernel
theorem dX11_take_37 : decode mX11_take.2.1 37 = .ok (.putfield 371, 3) := by decide +kernel
theorem dX11_take_40 : decode mX11_take.2.1 40 = .ok (.aload_n 0, 1) := by decide +kernel
theorem dX11_take_41 : decode mX11_take.2.1 41 = .ok (.aload_n 0, 1) := by decide +kernel
theorem dX11_take_42 : decode mX11_take.2.1 42 = .ok (.getfield 347, 3) := by decide +kernel
theorem dX11_take_45 : decode mX11_take.2.1 45 = .ok (.putfield 54, 3) := by decide +kernel
theorem dX11_take_48 : decode mX11_take.2.1 48 = .ok (.aload_n 0, 1) := by decide +kernel
theorem dX11_take_49 : decode mX11_take.2.1 49 = .ok (.aload_n 0, 1) := by decide +kernel
theorem dX11_take_50 : decode mX11_take.2.1 50 = .ok (.getfield 350, 3) := by decide +kernel
theorem dX11_take_53 : decode mX11_take.2.1 53 = .ok (.putfield 58, 3) := by decide +kernel
theorem dX11_take_56 : decode mX11_take.2.1 56 = .ok (.iconst 0, 1) := by decide +kernel
theorem dX11_take_57 : decode mX11_take.2.1 57 = .ok (.istore_n 1, 1) := by decide +kernel
theorem dX11_take_58 : decode mX11_take.2.1 58 = .ok (.iload_n 1, 1) := by decide +kernel
theorem dX11_take_59 : decode mX11_take.2.1 59 = .ok (.aload_n 0, 1) := by decide +kernel
theorem dX11_take_60 : decode mX11_take.2.1 60 = .ok (.getfield 374, 3) := by decide +kernel
theorem dX11_take_63 : decode mX11_take.2.1 63 = .ok (.if_icmp .ge 57, 3) := by decide +kernel
theorem dX11_take_66 : decode mX11_take.2.1 66 = .ok (.aload_n 0, 1) := by decide +kernel
theorem dX11_take_67 : decode mX11_take.2.1 67 = .ok (.getfield 7, 3) := by decide +kernel
theorem dX11_take_70 : decode mX11_take.2.1 70 = .ok (.iload_n 1, 1) := by decide +kernel
theorem dX11_take_71 : decode mX11_take.2.1 71 = .ok (.aload_n 0, 1) := by decide +kernel
theorem dX11_take_72 : decode mX11_take.2.1 72 = .ok (.getfield 61, 3) := by decide +kernel
theorem dX11_take_75 : decode mX11_take.2.1 75 = .ok (.iload_n 1, 1) := by decide +kernel
theorem dX11_take_76 : decode mX11_take.2.1 76 = .ok (.laload, 1) := by decide +kernel
theorem dX11_take_77 : decode mX11_take.2.1 77 = .ok (.lastore, 1) := by decide +kernel
theorem dX11_take_78 : decode mX11_take.2.1 78 = .ok (.aload_n 0, 1) := by decide +kernel
theorem dX11_take_79 : decode mX11_take.2.1 79 = .ok (.getfield 13, 3) := by decide +kernel
theorem dX11_take_82 : decode mX11_take.2.1 82 = .ok (.iload_n 1, 1) := by decide +kernel
theorem dX11_take_83 : decode mX11_take.2.1 83 = .ok (.aload_n 0, 1) := by decide +kernel
theorem dX11_take_84 : decode mX11_take.2.1 84 = .ok (.getfield 64, 3) := by decide +kernel
theorem dX11_take_87 : decode mX11_take.2.1 87 = .ok (.iload_n 1, 1) := by decide +kernel
theorem dX11_take_88 : decode mX11_take.2.1 88 = .ok (.iaload, 1) := by decide +kernel
theorem dX11_take_89 : decode mX11_take.2.1 89 = .ok (.iastore, 1) := by decide +kernel
theorem dX11_take_90 : decode mX11_take.2.1 90 = .ok (.aload_n 0, 1) := by decide +kernel
theorem dX11_take_91 : decode mX11_take.2.1 91 = .ok (.getfield 17, 3) := by decide +kernel
theorem dX11_take_94 : decode mX11_take.2.1 94 = .ok (.iload_n 1, 1) := by decide +kernel
theorem dX11_take_95 : decode mX11_take.2.1 95 = .ok (.aload_n 0, 1) := by decide +kernel
theorem dX11_take_96 : decode mX11_take.2.1 96 = .ok (.getfield 67, 3) := by decide +kernel
theorem dX11_take_99 : decode mX11_take.2.1 99 = .ok (.iload_n 1, 1) := by decide +kernel
theorem dX11_take_100 : decode mX11_take.2.1 100 = .ok (.iaload, 1) := by decide +kernel
theorem dX11_take_101 : decode mX11_take.2.1 101 = .ok (.iastore, 1) := by decide +kernel
theorem dX11_take_102 : decode mX11_take.2.1 102 = .ok (.aload_n 0, 1) := by decide +kernel
theorem dX11_take_103 : decode mX11_take.2.1 103 = .ok (.getfield 20, 3) := by decide +kernel
theorem dX11_take_106 : decode mX11_take.2.1 106 = .ok (.iload_n 1, 1) := by decide +kernel
theorem dX11_take_107 : decode mX11_take.2.1 107 = .ok (.aload_n 0, 1) := by decide +kernel
theorem dX11_take_108 : decode mX11_take.2.1 108 = .ok (.getfield 70, 3) := by decide +kernel
theorem dX11_take_111 : decode mX11_take.2.1 111 = .ok (.iload_n 1, 1) := by decide +kernel
theorem dX11_take_112 : decode mX11_take.2.1 112 = .ok (.baload, 1) := by decide +kernel
theorem dX11_take_113 : decode mX11_take.2.1 113 = .ok (.bastore, 1) := by decide +kernel
theorem dX11_take_114 : decode mX11_take.2.1 114 = .ok (.iinc 1 1, 3) := by decide +kernel
theorem dX11_take_117 : decode mX11_take.2.1 117 = .ok (.goto (-59), 3) := by decide +kernel
theorem dX11_take_120 : decode mX11_take.2.1 120 = .ok (.iconst 0, 1) := by decide +kernel
theorem dX11_take_121 : decode mX11_take.2.1 121 = .ok (.istore_n 1, 1) := by decide +kernel
theorem dX11_take_122 : decode mX11_take.2.1 122 = .ok (.iload_n 1, 1) := by decide +kernel
theorem dX11_take_123 : decode mX11_take.2.1 123 = .ok (.aload_n 0, 1) := by decide +kernel
theorem dX11_take_124 : decode mX11_take.2.1 124 = .ok (.getfield 377, 3) := by decide +kernel
theorem dX11_take_127 : decode mX11_take.2.1 127 = .ok (.if_icmp .ge 45, 3) := by decide +kernel
theorem dX11_take_130 : decode mX11_take.2.1 130 = .ok (.aload_n 0, 1) := by decide +kernel
theorem dX11_take_131 : decode mX11_take.2.1 131 = .ok (.getfield 24, 3) := by decide +kernel
theorem dX11_take_134 : decode mX11_take.2.1 134 = .ok (.iload_n 1, 1) := by decide +kernel
theorem dX11_take_135 : decode mX11_take.2.1 135 = .ok (.aload_n 0, 1) := by decide +kernel
theorem dX11_take_136 : decode mX11_take.2.1 136 = .ok (.getfield 73, 3) := by decide +kernel
theorem dX11_take_139 : decode mX11_take.2.1 139 = .ok (.iload_n 1, 1) := by decide +kernel
theorem dX11_take_140 : decode mX11_take.2.1 140 = .ok (.laload, 1) := by decide +kernel
theorem dX11_take_141 : decode mX11_take.2.1 141 = .ok (.lastore, 1) := by decide +kernel
theorem dX11_take_142 : decode mX11_take.2.1 142 = .ok (.aload_n 0, 1) := by decide +kernel
theorem dX11_take_143 : decode mX11_take.2.1 143 = .ok (.getfield 27, 3) := by decide +kernel
theorem dX11_take_146 : decode mX11_take.2.1 146 = .ok (.iload_n 1, 1) := by decide +kernel
theorem dX11_take_147 : decode mX11_take.2.1 147 = .ok (.aload_n 0, 1) := by decide +kernel
theorem dX11_take_148 : decode mX11_take.2.1 148 = .ok (.getfield 76, 3) := by decide +kernel
theorem dX11_take_151 : decode mX11_take.2.1 151 = .ok (.iload_n 1, 1) := by decide +kernel
theorem dX11_take_152 : decode mX11_take.2.1 152 = .ok (.iaload, 1) := by decide +kernel
theorem dX11_take_153 : decode mX11_take.2.1 153 = .ok (.iastore, 1) := by decide +kernel
theorem dX11_take_154 : decode mX11_take.2.1 154 = .ok (.aload_n 0, 1) := by decide +kernel
theorem dX11_take_155 : decode mX11_take.2.1 155 = .ok (.getfield 30, 3) := by decide +kernel
theorem dX11_take_158 : decode mX11_take.2.1 158 = .ok (.iload_n 1, 1) := by decide +kernel
theorem dX11_take_159 : decode mX11_take.2.1 159 = .ok (.aload_n 0, 1) := by decide +kernel
theorem dX11_take_160 : decode mX11_take.2.1 160 = .ok (.getfield 79, 3) := by decide +kernel
theorem dX11_take_163 : decode mX11_take.2.1 163 = .ok (.iload_n 1, 1) := by decide +kernel
theorem dX11_take_164 : decode mX11_take.2.1 164 = .ok (.iaload, 1) := by decide +kernel
theorem dX11_take_165 : decode mX11_take.2.1 165 = .ok (.iastore, 1) := by decide +kernel
theorem dX11_take_166 : decode mX11_take.2.1 166 = .ok (.iinc 1 1, 3) := by decide +kernel
theorem dX11_take_169 : decode mX11_take.2.1 169 = .ok (.goto (-47), 3) := by decide +kernel
theorem dX11_take_172 : decode mX11_take.2.1 172 = .ok (.iconst 0, 1) := by decide +kernel
theorem dX11_take_173 : decode mX11_take.2.1 173 = .ok (.istore_n 1, 1) := by decide +kernel
theorem dX11_take_174 : decode mX11_take.2.1 174 = .ok (.iload_n 1, 1) := by decide +kernel
theorem dX11_take_175 : decode mX11_take.2.1 175 = .ok (.aload_n 0, 1) := by decide +kernel
theorem dX11_take_176 : decode mX11_take.2.1 176 = .ok (.getfield 380, 3) := by decide +kernel
theorem dX11_take_179 : decode mX11_take.2.1 179 = .ok (.if_icmp .ge 33, 3) := by decide +kernel
theorem dX11_take_182 : decode mX11_take.2.1 182 = .ok (.aload_n 0, 1) := by decide +kernel
theorem dX11_take_183 : decode mX11_take.2.1 183 = .ok (.getfield 33, 3) := by decide +kernel
theorem dX11_take_186 : decode mX11_take.2.1 186 = .ok (.iload_n 1, 1) := by decide +kernel
theorem dX11_take_187 : decode mX11_take.2.1 187 = .ok (.aload_n 0, 1) := by decide +kernel
theorem dX11_take_188 : decode mX11_take.2.1 188 = .ok (.getfield 82, 3) := by decide +kernel
theorem dX11_take_191 : decode mX11_take.2.1 191 = .ok (.iload_n 1, 1) := by decide +kernel
theorem dX11_take_192 : decode mX11_take.2.1 192 = .ok (.iaload, 1) := by decide +kernel
theorem dX11_take_193 : decode mX11_take.2.1 193 = .ok (.iastore, 1) := by decide +kernel
theorem dX11_take_194 : decode mX11_take.2.1 194 = .ok (.aload_n 0, 1) := by decide +kernel
theorem dX11_take_195 : decode mX11_take.2.1 195 = .ok (.getfield 36, 3) := by decide +kernel
theorem dX11_take_198 : decode mX11_take.2.1 198 = .ok (.iload_n 1, 1) := by decide +kernel
theorem dX11_take_199 : decode mX11_take.2.1 199 = .ok (.aload_n 0, 1) := by decide +kernel
theorem dX11_take_200 : decode mX11_take.2.1 200 = .ok (.getfield 85, 3) := by decide +kernel
theorem dX11_take_203 : decode mX11_take.2.1 203 = .ok (.iload_n 1, 1) := by decide +kernel
theorem dX11_take_204 : decode mX11_take.2.1 204 = .ok (.iaload, 1) := by decide +kernel
theorem dX11_take_205 : decode mX11_take.2.1 205 = .ok (.iastore, 1) := by decide +kernel
theorem dX11_take_206 : decode mX11_take.2.1 206 = .ok (.iinc 1 1, 3) := by decide +kernel
theorem dX11_take_209 : decode mX11_take.2.1 209 = .ok (.goto (-35), 3) := by decide +kernel
theorem dX11_take_212 : decode mX11_take.2.1 212 = .ok (.iconst 0, 1) := by decide +kernel
theorem dX11_take_213 : decode mX11_take.2.1 213 = .ok (.istore_n 1, 1) := by decide +kernel
theorem dX11_take_214 : decode mX11_take.2.1 214 = .ok (.iload_n 1, 1) := by decide +kernel
theorem dX11_take_215 : decode mX11_take.2.1 215 = .ok (.aload_n 0, 1) := by decide +kernel
theorem dX11_take_216 : decode mX11_take.2.1 216 = .ok (.getfield 383, 3) := by decide +kernel
theorem dX11_take_219 : decode mX11_take.2.1 219 = .ok (.if_icmp .ge 45, 3) := by decide +kernel
theorem dX11_take_222 : decode mX11_take.2.1 222 = .ok (.aload_n 0, 1) := by decide +kernel
theorem dX11_take_223 : decode mX11_take.2.1 223 = .ok (.getfield 39, 3) := by decide +kernel
theorem dX11_take_226 : decode mX11_take.2.1 226 = .ok (.iload_n 1, 1) := by decide +kernel
theorem dX11_take_227 : decode mX11_take.2.1 227 = .ok (.aload_n 0, 1) := by decide +kernel
theorem dX11_take_228 : decode mX11_take.2.1 228 = .ok (.getfield 88, 3) := by decide +kernel
theorem dX11_take_231 : decode mX11_take.2.1 231 = .ok (.iload_n 1, 1) := by decide +kernel
theorem dX11_take_232 : decode mX11_take.2.1 232 = .ok (.iaload, 1) := by decide +kernel
theorem dX11_take_233 : decode mX11_take.2.1 233 = .ok (.iastore, 1) := by decide +kernel
theorem dX11_take_234 : decode mX11_take.2.1 234 = .ok (.aload_n 0, 1) := by decide +kernel
theorem dX11_take_235 : decode mX11_take.2.1 235 = .ok (.getfield 42, 3) := by decide +kernel
theorem dX11_take_238 : decode mX11_take.2.1 238 = .ok (.iload_n 1, 1) := by decide +kernel
theorem dX11_take_239 : decode mX11_take.2.1 239 = .ok (.aload_n 0, 1) := by decide +kernel
theorem dX11_take_240 : decode mX11_take.2.1 240 = .ok (.getfield 91, 3) := by decide +kernel
theorem dX11_take_243 : decode mX11_take.2.1 243 = .ok (.iload_n 1, 1) := by decide +kernel
theorem dX11_take_244 : decode mX11_take.2.1 244 = .ok (.iaload, 1) := by decide +kernel
theorem dX11_take_245 : decode mX11_take.2.1 245 = .ok (.iastore, 1) := by decide +kernel
theorem dX11_take_246 : decode mX11_take.2.1 246 = .ok (.aload_n 0, 1) := by decide +kernel
theorem dX11_take_247 : decode mX11_take.2.1 247 = .ok (.getfield 45, 3) := by decide +kernel
theorem dX11_take_250 : decode mX11_take.2.1 250 = .ok (.iload_n 1, 1) := by decide +kernel
theorem dX11_take_251 : decode mX11_take.2.1 251 = .ok (.aload_n 0, 1) := by decide +kernel
theorem dX11_take_252 : decode mX11_take.2.1 252 = .ok (.getfield 94, 3) := by decide +kernel
theorem dX11_take_255 : decode mX11_take.2.1 255 = .ok (.iload_n 1, 1) := by decide +kernel
theorem dX11_take_256 : decode mX11_take.2.1 256 = .ok (.iaload, 1) := by decide +kernel
theorem dX11_take_257 : decode mX11_take.2.1 257 = .ok (.iastore, 1) := by decide +kernel
theorem dX11_take_258 : decode mX11_take.2.1 258 = .ok (.iinc 1 1, 3) := by decide +kernel
theorem dX11_take_261 : decode mX11_take.2.1 261 = .ok (.goto (-47), 3) := by decide +kernel
theorem dX11_take_264 : decode mX11_take.2.1 264 = .ok (.iconst 0, 1) := by decide +kernel
theorem dX11_take_265 : decode mX11_take.2.1 265 = .ok (.istore_n 1, 1) := by decide +kernel
theorem dX11_take_266 : decode mX11_take.2.1 266 = .ok (.iload_n 1, 1) := by decide +kernel
theorem dX11_take_267 : decode mX11_take.2.1 267 = .ok (.aload_n 0, 1) := by decide +kernel
theorem dX11_take_268 : decode mX11_take.2.1 268 = .ok (.getfield 371, 3) := by decide +kernel
theorem dX11_take_271 : decode mX11_take.2.1 271 = .ok (.if_icmp .ge 33, 3) := by decide +kernel
theorem dX11_take_274 : decode mX11_take.2.1 274 = .ok (.aload_n 0, 1) := by decide +kernel
theorem dX11_take_275 : decode mX11_take.2.1 275 = .ok (.getfield 48, 3) := by decide +kernel
theorem dX11_take_278 : decode mX11_take.2.1 278 = .ok (.iload_n 1, 1) := by decide +kernel
theorem dX11_take_279 : decode mX11_take.2.1 279 = .ok (.aload_n 0, 1) := by decide +kernel
theorem dX11_take_280 : decode mX11_take.2.1 280 = .ok (.getfield 97, 3) := by decide +kernel
theorem dX11_take_283 : decode mX11_take.2.1 283 = .ok (.iload_n 1, 1) := by decide +kernel
theorem dX11_take_284 : decode mX11_take.2.1 284 = .ok (.iaload, 1) := by decide +kernel
theorem dX11_take_285 : decode mX11_take.2.1 285 = .ok (.iastore, 1) := by decide +kernel
theorem dX11_take_286 : decode mX11_take.2.1 286 = .ok (.aload_n 0, 1) := by decide +kernel
theorem dX11_take_287 : decode mX11_take.2.1 287 = .ok (.getfield 51, 3) := by decide +kernel
theorem dX11_take_290 : decode mX11_take.2.1 290 = .ok (.iload_n 1, 1) := by decide +kernel
theorem dX11_take_291 : decode mX11_take.2.1 291 = .ok (.aload_n 0, 1) := by decide +kernel
theorem dX11_take_292 : decode mX11_take.2.1 292 = .ok (.getfield 100, 3) := by decide +kernel
theorem dX11_take_295 : decode mX11_take.2.1 295 = .ok (.iload_n 1, 1) := by decide +kernel
theorem dX11_take_296 : decode mX11_take.2.1 296 = .ok (.iaload, 1) := by decide +kernel
theorem dX11_take_297 : decode mX11_take.2.1 297 = .ok (.iastore, 1) := by decide +kernel
theorem dX11_take_298 : decode mX11_take.2.1 298 = .ok (.iinc 1 1, 3) := by decide +kernel
theorem dX11_take_301 : decode mX11_take.2.1 301 = .ok (.goto (-35), 3) := by decide +kernel
theorem dX11_take_304 : decode mX11_take.2.1 304 = .ok (.aload_n 0, 1) := by decide +kernel
theorem dX11_take_305 : decode mX11_take.2.1 305 = .ok (.iconst 0, 1) := by decide +kernel
theorem dX11_take_306 : decode mX11_take.2.1 306 = .ok (.putfield 386, 3) := by decide +kernel
theorem dX11_take_309 : decode mX11_take.2.1 309 = .ok (.aload_n 0, 1) := by decide +kernel
theorem dX11_take_310 : decode mX11_take.2.1 310 = .ok (.iconst (-1), 1) := by decide +kernel
theorem dX11_take_311 : decode mX11_take.2.1 311 = .ok (.putfield 182, 3) := by decide +kernel
theorem dX11_take_314 : decode mX11_take.2.1 314 = .ok (.aload_n 0, 1) := by decide +kernel
theorem dX11_take_315 : decode mX11_take.2.1 315 = .ok (.invokevirtual 390, 3) := by decide +kernel
theorem dX11_take_318 : decode mX11_take.2.1 318 = .ok (.aload_n 0, 1) := by decide +kernel
theorem dX11_take_319 : decode mX11_take.2.1 319 = .ok (.invokevirtual 393, 3) := by decide +kernel
theorem dX11_take_322 : decode mX11_take.2.1 322 = .ok (.return_, 1) := by decide +kernel
theorem okX11_take_390 : gOkV mX11_take mX11_findNeeded 390 0 := ⟨List.forall_mem_cons.mpr ⟨(gm 1657 (by decide +kernel) rfl), List.forall_mem_cons.mpr ⟨(gm 1654 (by decide +kernel) rfl), List.forall_mem_cons.mpr ⟨(gm 1656 (by decide +kernel) rfl), List.forall_mem_cons.mpr ⟨(gm 81 (by decide +kernel) rfl), List.forall_mem_cons.mpr ⟨(gm 122 (by decide +kernel) rfl), fun _ h => absurd h List.not_mem_nil⟩⟩⟩⟩⟩, by decide +kernel, by decide +kernel, by decide +kernel⟩
theorem okX11_take_393 : gOkV mX11_take mX11_findOrder 393 0 := ⟨List.forall_mem_cons.mpr ⟨(gm 1673 (by decide +kernel) rfl), List.forall_mem_cons.mpr ⟨(gm 1670 (by decide +kernel) rfl), List.forall_mem_cons.mpr ⟨(gm 1672 (by decide +kernel) rfl), List.forall_mem_cons.mpr ⟨(gm 85 (by decide +kernel) rfl), List.forall_mem_cons.mpr ⟨(gm 122 (by decide +kernel) rfl), fun _ h => absurd h List.not_mem_nil⟩⟩⟩⟩⟩, by decide +kernel, by decide +kernel, by decide +kernel⟩
def fX11_take_266 : Nat → Int32 → gS → Option (Unit × gS)
  | 0, _, _ => none
  | n + 1, v1, σ => if (σ.1 168 16) ≤ v1 then
    bnd (gsI σ 168 81 0) fun σ2 =>
    bnd (gsI σ2 168 85 (-1)) fun σ3 =>
    bd (fX11_findNeeded σ3) fun _ σ4 =>
    bd (fX11_findOrder σ4) fun _ σ6 =>
    some ((), σ6)
  else
    gg (¬ (v1 < 0 ∨ 130 ≤ v1.toNatClampNeg)) (
    gg (¬ (v1 < 0 ∨ 130 ≤ v1.toNatClampNeg)) (
    bnd (gsI σ 181 v1.toNatClampNeg (σ.1 195 v1.toNatClampNeg)) fun σ10 =>
    gg (¬ (v1 < 0 ∨ 130 ≤ v1.toNatClampNeg)) (
    gg (¬ (v1 < 0 ∨ 130 ≤ v1.toNatClampNeg)) (
    bnd (gsI σ10 182 v1.toNatClampNeg (σ10.1 196 v1.toNatClampNeg)) fun σ13 =>
    bnd (v1 + 1) fun x14 =>
    fX11_take_266 n x14 σ13))))
set_option maxHeartbeats 4000000 in
set_option maxRecDepth 100000 in
theorem pX11_take_266 {E : gE} {r : Unit} {σ' : gS} : ∀ (n : Nat) (v1 : Int32) (σ : gS), fX11_take_266 n v1 σ = some (r, σ') → gG E mX11_take 266 [(0, .ref 168), (1, .int v1)] [] σ (none) σ' := by
  intro n
  induction n with
  | zero => intro v1 σ h; exact absurd (show none = some (r, σ') from h) (by intro q; cases q)
  | succ n ih =>
  intro v1 σ h
  unfold fX11_take_266 at h
  refine g_iload_n dX11_take_266 rfl 1 rfl ?_
  refine g_aload_n dX11_take_267 rfl 0 rfl ?_
  refine g_getI dX11_take_268 gi_168 rfl fl_RX11_371 ?_
  refine g_icmp_ge (t := 304) dX11_take_271 (by decide) (fun c1 => ?_) (fun c1 => ?_)
  · replace h := if_t h c1
    refine g_aload_n dX11_take_304 rfl 0 rfl ?_
    refine g_iconst (v := 0) dX11_take_305 (by decide) ?_
    obtain ⟨σ2, eσ2, h⟩ := bnd_nm h
    refine g_putZ dX11_take_306 gi_168 rfl fp_RX11_386 (Or.inl rfl) (g_st eσ2 ?_)
    refine g_aload_n dX11_take_309 rfl 0 rfl ?_
    refine g_iconst (v := (-1)) dX11_take_310 (by decide) ?_
    obtain ⟨σ3, eσ3, h⟩ := bnd_nm h
    refine g_putI dX11_take_311 gi_168 rfl fp_RX11_182 (g_st eσ3 ?_)
    refine g_aload_n dX11_take_314 rfl 0 rfl ?_
    obtain ⟨_, σ4, y5, h⟩ := bd_some h
    refine g_callVv (as := []) (st := []) (zX11_findNeeded y5) dX11_take_315 gi_168 rfl okX11_take_390 (Nat.le_of_ble_eq_true rfl) ?_
    refine g_aload_n dX11_take_318 rfl 0 rfl ?_
    obtain ⟨_, σ6, y7, h⟩ := bd_some h
    refine g_callVv (as := []) (st := []) (zX11_findOrder y7) dX11_take_319 gi_168 rfl okX11_take_393 (Nat.le_of_ble_eq_true rfl) ?_
    obtain ⟨rfl, rfl⟩ := so_inj h
    exact g_vret dX11_take_322 rfl
  · replace h := if_f h c1
    refine g_aload_n dX11_take_274 rfl 0 rfl ?_
    refine g_getC (n := 181) dX11_take_275 gi_168 rfl fl_RX11_48 ?_
    refine g_iload_n dX11_take_278 rfl 1 rfl ?_
    refine g_aload_n dX11_take_279 rfl 0 rfl ?_
    refine g_getC (n := 195) dX11_take_280 gi_168 rfl fl_RX11_97 ?_
    refine g_iload_n dX11_take_283 rfl 1 rfl ?_
    obtain ⟨g8, h⟩ := gg_some h
    refine g_iald dX11_take_284 gi_195 g8 ?_
    obtain ⟨g9, h⟩ := gg_some h
    obtain ⟨σ10, eσ10, h⟩ := bnd_nm h
    refine g_iast dX11_take_285 gi_181 g9 (g_st eσ10 ?_)
    refine g_aload_n dX11_take_286 rfl 0 rfl ?_
    refine g_getC (n := 182) dX11_take_287 gi_168 rfl fl_RX11_51 ?_
    refine g_iload_n dX11_take_290 rfl 1 rfl ?_
    refine g_aload_n dX11_take_291 rfl 0 rfl ?_
    refine g_getC (n := 196) dX11_take_292 gi_168 rfl fl_RX11_100 ?_
    refine g_iload_n dX11_take_295 rfl 1 rfl ?_
    obtain ⟨g11, h⟩ := gg_some h
    refine g_iald dX11_take_296 gi_196 g11 ?_
    obtain ⟨g12, h⟩ := gg_some h
    obtain ⟨σ13, eσ13, h⟩ := bnd_nm h
    refine g_iast dX11_take_297 gi_182 g12 (g_st eσ13 ?_)
    obtain ⟨x14, ex14, h⟩ := bnd_nm h
    refine g_iinc (j := 1) (v := x14) (lv' := [(1, .int x14), (0, .ref 168)]) dX11_take_298 rfl (by rw [ex14]; rfl) (Nat.le_of_ble_eq_true rfl) rfl ?_
    refine g_goto (t := 266) dX11_take_301 (by decide) ?_
    refine g_sub [1, 0] rfl ?_
    exact ih x14 σ13 h
def fX11_take_214 : Nat → Int32 → gS → Option (Unit × gS)
  | 0, _, _ => none
  | n + 1, v1, σ => if (σ.1 168 12) ≤ v1 then
    fX11_take_266 2000 0 σ
  else
    gg (¬ (v1 < 0 ∨ 30 ≤ v1.toNatClampNeg)) (
    gg (¬ (v1 < 0 ∨ 30 ≤ v1.toNatClampNeg)) (
    bnd (gsI σ 178 v1.toNatClampNeg (σ.1 192 v1.toNatClampNeg)) fun σ4 =>
    gg (¬ (v1 < 0 ∨ 30 ≤ v1.toNatClampNeg)) (
    gg (¬ (v1 < 0 ∨ 30 ≤ v1.toNatClampNeg)) (
    bnd (gsI σ4 179 v1.toNatClampNeg (σ4.1 193 v1.toNatClampNeg)) fun σ7 =>
    gg (¬ (v1 < 0 ∨ 30 ≤ v1.toNatClampNeg)) (
    gg (¬ (v1 < 0 ∨ 30 ≤ v1.toNatClampNeg)) (
    bnd (gsI σ7 180 v1.toNatClampNeg (σ7.1 194 v1.toNatClampNeg)) fun σ10 =>
    bnd (v1 + 1) fun x11 =>
    fX11_take_214 n x11 σ10))))))
set_option maxHeartbeats 4000000 in
set_option maxRecDepth 100000 in
theorem pX11_take_214 {E : gE} {r : Unit} {σ' : gS} : ∀ (n : Nat) (v1 : Int32) (σ : gS), fX11_take_214 n v1 σ = some (r, σ') → gG E mX11_take 214 [(0, .ref 168), (1, .int v1)] [] σ (none) σ' := by
  intro n
  induction n with
  | zero => intro v1 σ h; exact absurd (show none = some (r, σ') from h) (by intro q; cases q)
  | succ n ih =>
  intro v1 σ h
  unfold fX11_take_214 at h
  refine g_iload_n dX11_take_214 rfl 1 rfl ?_
  refine g_aload_n dX11_take_215 rfl 0 rfl ?_
  refine g_getI dX11_take_216 gi_168 rfl fl_RX11_383 ?_
  refine g_icmp_ge (t := 264) dX11_take_219 (by decide) (fun c1 => ?_) (fun c1 => ?_)
  · replace h := if_t h c1
    refine g_iconst (v := 0) dX11_take_264 (by decide) ?_
    refine g_istore_n (lv' := [(1, .int 0), (0, .ref 168)]) dX11_take_265 rfl (Nat.le_of_ble_eq_true rfl) rfl ?_
    refine g_sub [1, 0] rfl ?_
    exact pX11_take_266 2000 0 σ h
  · replace h := if_f h c1
    refine g_aload_n dX11_take_222 rfl 0 rfl ?_
    refine g_getC (n := 178) dX11_take_223 gi_168 rfl fl_RX11_39 ?_
    refine g_iload_n dX11_take_226 rfl 1 rfl ?_
    refine g_aload_n dX11_take_227 rfl 0 rfl ?_
    refine g_getC (n := 192) dX11_take_228 gi_168 rfl fl_RX11_88 ?_
    refine g_iload_n dX11_take_231 rfl 1 rfl ?_
    obtain ⟨g2, h⟩ := gg_some h
    refine g_iald dX11_take_232 gi_192 g2 ?_
    obtain ⟨g3, h⟩ := gg_some h
    obtain ⟨σ4, eσ4, h⟩ := bnd_nm h
    refine g_iast dX11_take_233 gi_178 g3 (g_st eσ4 ?_)
    refine g_aload_n dX11_take_234 rfl 0 rfl ?_
    refine g_getC (n := 179) dX11_take_235 gi_168 rfl fl_RX11_42 ?_
    refine g_iload_n dX11_take_238 rfl 1 rfl ?_
    refine g_aload_n dX11_take_239 rfl 0 rfl ?_
    refine g_getC (n := 193) dX11_take_240 gi_168 rfl fl_RX11_91 ?_
    refine g_iload_n dX11_take_243 rfl 1 rfl ?_
    obtain ⟨g5, h⟩ := gg_some h
    refine g_iald dX11_take_244 gi_193 g5 ?_
    obtain ⟨g6, h⟩ := gg_some h
    obtain ⟨σ7, eσ7, h⟩ := bnd_nm h
    refine g_iast dX11_take_245 gi_179 g6 (g_st eσ7 ?_)
    refine g_aload_n dX11_take_246 rfl 0 rfl ?_
    refine g_getC (n := 180) dX11_take_247 gi_168 rfl fl_RX11_45 ?_
    refine g_iload_n dX11_take_250 rfl 1 rfl ?_
    refine g_aload_n dX11_take_251 rfl 0 rfl ?_
    refine g_getC (n := 194) dX11_take_252 gi_168 rfl fl_RX11_94 ?_
    refine g_iload_n dX11_take_255 rfl 1 rfl ?_
    obtain ⟨g8, h⟩ := gg_some h
    refine g_iald dX11_take_256 gi_194 g8 ?_
    obtain ⟨g9, h⟩ := gg_some h
    obtain ⟨σ10, eσ10, h⟩ := bnd_nm h
    refine g_iast dX11_take_257 gi_180 g9 (g_st eσ10 ?_)
    obtain ⟨x11, ex11, h⟩ := bnd_nm h
    refine g_iinc (j := 1) (v := x11) (lv' := [(1, .int x11), (0, .ref 168)]) dX11_take_258 rfl (by rw [ex11]; rfl) (Nat.le_of_ble_eq_true rfl) rfl ?_
    refine g_goto (t := 214) dX11_take_261 (by decide) ?_
    refine g_sub [1, 0] rfl ?_
    exact ih x11 σ10 h
def fX11_take_174 : Nat → Int32 → gS → Option (Unit × gS)
  | 0, _, _ => none
  | n + 1, v1, σ => if (σ.1 168 9) ≤ v1 then
    fX11_take_214 2000 0 σ
  else
    gg (¬ (v1 < 0 ∨ 60 ≤ v1.toNatClampNeg)) (
    gg (¬ (v1 < 0 ∨ 60 ≤ v1.toNatClampNeg)) (
    bnd (gsI σ 176 v1.toNatClampNeg (σ.1 190 v1.toNatClampNeg)) fun σ4 =>
    gg (¬ (v1 < 0 ∨ 60 ≤ v1.toNatClampNeg)) (
    gg (¬ (v1 < 0 ∨ 60 ≤ v1.toNatClampNeg)) (
    bnd (gsI σ4 177 v1.toNatClampNeg (σ4.1 191 v1.toNatClampNeg)) fun σ7 =>
    bnd (v1 + 1) fun x8 =>
    fX11_take_174 n x8 σ7))))
set_option maxHeartbeats 4000000 in
set_option maxRecDepth 100000 in
theorem pX11_take_174 {E : gE} {r : Unit} {σ' : gS} : ∀ (n : Nat) (v1 : Int32) (σ : gS), fX11_take_174 n v1 σ = some (r, σ') → gG E mX11_take 174 [(0, .ref 168), (1, .int v1)] [] σ (none) σ' := by
  intro n
  induction n with
  | zero => intro v1 σ h; exact absurd (show none = some (r, σ') from h) (by intro q; cases q)
  | succ n ih =>
  intro v1 σ h
  unfold fX11_take_174 at h
  refine g_iload_n dX11_take_174 rfl 1 rfl ?_
  refine g_aload_n dX11_take_175 rfl 0 rfl ?_
  refine g_getI dX11_take_176 gi_168 rfl fl_RX11_380 ?_
  refine g_icmp_ge (t := 212) dX11_take_179 (by decide) (fun c1 => ?_) (fun c1 => ?_)
  · replace h := if_t h c1
    refine g_iconst (v := 0) dX11_take_212 (by decide) ?_
    refine g_istore_n (lv' := [(1, .int 0), (0, .ref 168)]) dX11_take_213 rfl (Nat.le_of_ble_eq_true rfl) rfl ?_
    refine g_sub [1, 0] rfl ?_
    exact pX11_take_214 2000 0 σ h
  · replace h := if_f h c1
    refine g_aload_n dX11_take_182 rfl 0 rfl ?_
    refine g_getC (n := 176) dX11_take_183 gi_168 rfl fl_RX11_33 ?_
    refine g_iload_n dX11_take_186 rfl 1 rfl ?_
    refine g_aload_n dX11_take_187 rfl 0 rfl ?_
    refine g_getC (n := 190) dX11_take_188 gi_168 rfl fl_RX11_82 ?_
    refine g_iload_n dX11_take_191 rfl 1 rfl ?_
    obtain ⟨g2, h⟩ := gg_some h
    refine g_iald dX11_take_192 gi_190 g2 ?_
    obtain ⟨g3, h⟩ := gg_some h
    obtain ⟨σ4, eσ4, h⟩ := bnd_nm h
    refine g_iast dX11_take_193 gi_176 g3 (g_st eσ4 ?_)
    refine g_aload_n dX11_take_194 rfl 0 rfl ?_
    refine g_getC (n := 177) dX11_take_195 gi_168 rfl fl_RX11_36 ?_
    refine g_iload_n dX11_take_198 rfl 1 rfl ?_
    refine g_aload_n dX11_take_199 rfl 0 rfl ?_
    refine g_getC (n := 191) dX11_take_200 gi_168 rfl fl_RX11_85 ?_
    refine g_iload_n dX11_take_203 rfl 1 rfl ?_
    obtain ⟨g5, h⟩ := gg_some h
    refine g_iald dX11_take_204 gi_191 g5 ?_
    obtain ⟨g6, h⟩ := gg_some h
    obtain ⟨σ7, eσ7, h⟩ := bnd_nm h
    refine g_iast dX11_take_205 gi_177 g6 (g_st eσ7 ?_)
    obtain ⟨x8, ex8, h⟩ := bnd_nm h
    refine g_iinc (j := 1) (v := x8) (lv' := [(1, .int x8), (0, .ref 168)]) dX11_take_206 rfl (by rw [ex8]; rfl) (Nat.le_of_ble_eq_true rfl) rfl ?_
    refine g_goto (t := 174) dX11_take_209 (by decide) ?_
    refine g_sub [1, 0] rfl ?_
    exact ih x8 σ7 h
def fX11_take_122 : Nat → Int32 → gS → Option (Unit × gS)
  | 0, _, _ => none
  | n + 1, v1, σ => if (σ.1 168 5) ≤ v1 then
    fX11_take_174 2000 0 σ
  else
    gg (¬ (v1 < 0 ∨ 16 ≤ v1.toNatClampNeg)) (
    gg (¬ (v1 < 0 ∨ 16 ≤ v1.toNatClampNeg)) (
    bnd (gsJ σ 173 v1.toNatClampNeg (σ.2.1 187 v1.toNatClampNeg)) fun σ4 =>
    gg (¬ (v1 < 0 ∨ 16 ≤ v1.toNatClampNeg)) (
    gg (¬ (v1 < 0 ∨ 16 ≤ v1.toNatClampNeg)) (
    bnd (gsI σ4 174 v1.toNatClampNeg (σ4.1 188 v1.toNatClampNeg)) fun σ7 =>
    gg (¬ (v1 < 0 ∨ 16 ≤ v1.toNatClampNeg)) (
    gg (¬ (v1 < 0 ∨ 16 ≤ v1.toNatClampNeg)) (
    bnd (gsI σ7 175 v1.toNatClampNeg (σ7.1 189 v1.toNatClampNeg)) fun σ10 =>
    bnd (v1 + 1) fun x11 =>
    fX11_take_122 n x11 σ10))))))
set_option maxHeartbeats 4000000 in
set_option maxRecDepth 100000 in
theorem pX11_take_122 {E : gE} {r : Unit} {σ' : gS} : ∀ (n : Nat) (v1 : Int32) (σ : gS), fX11_take_122 n v1 σ = some (r, σ') → gG E mX11_take 122 [(0, .ref 168), (1, .int v1)] [] σ (none) σ' := by
  intro n
  induction n with
  | zero => intro v1 σ h; exact absurd (show none = some (r, σ') from h) (by intro q; cases q)
  | succ n ih =>
  intro v1 σ h
  unfold fX11_take_122 at h
  refine g_iload_n dX11_take_122 rfl 1 rfl ?_
  refine g_aload_n dX11_take_123 rfl 0 rfl ?_
  refine g_getI dX11_take_124 gi_168 rfl fl_RX11_377 ?_
  refine g_icmp_ge (t := 172) dX11_take_127 (by decide) (fun c1 => ?_) (fun c1 => ?_)
  · replace h := if_t h c1
    refine g_iconst (v := 0) dX11_take_172 (by decide) ?_
    refine g_istore_n (lv' := [(1, .int 0), (0, .ref 168)]) dX11_take_173 rfl (Nat.le_of_ble_eq_true rfl) rfl ?_
    refine g_sub [1, 0] rfl ?_
    exact pX11_take_174 2000 0 σ h
  · replace h := if_f h c1
    refine g_aload_n dX11_take_130 rfl 0 rfl ?_
    refine g_getC (n := 173) dX11_take_131 gi_168 rfl fl_RX11_24 ?_
    refine g_iload_n dX11_take_134 rfl 1 rfl ?_
    refine g_aload_n dX11_take_135 rfl 0 rfl ?_
    refine g_getC (n := 187) dX11_take_136 gi_168 rfl fl_RX11_73 ?_
    refine g_iload_n dX11_take_139 rfl 1 rfl ?_
    obtain ⟨g2, h⟩ := gg_some h
    refine g_lald dX11_take_140 gi_187 g2 ?_
    obtain ⟨g3, h⟩ := gg_some h
    obtain ⟨σ4, eσ4, h⟩ := bnd_nm h
    refine g_last dX11_take_141 gi_173 g3 (g_st eσ4 ?_)
    refine g_aload_n dX11_take_142 rfl 0 rfl ?_
    refine g_getC (n := 174) dX11_take_143 gi_168 rfl fl_RX11_27 ?_
    refine g_iload_n dX11_take_146 rfl 1 rfl ?_
    refine g_aload_n dX11_take_147 rfl 0 rfl ?_
    refine g_getC (n := 188) dX11_take_148 gi_168 rfl fl_RX11_76 ?_
    refine g_iload_n dX11_take_151 rfl 1 rfl ?_
    obtain ⟨g5, h⟩ := gg_some h
    refine g_iald dX11_take_152 gi_188 g5 ?_
    obtain ⟨g6, h⟩ := gg_some h
    obtain ⟨σ7, eσ7, h⟩ := bnd_nm h
    refine g_iast dX11_take_153 gi_174 g6 (g_st eσ7 ?_)
    refine g_aload_n dX11_take_154 rfl 0 rfl ?_
    refine g_getC (n := 175) dX11_take_155 gi_168 rfl fl_RX11_30 ?_
    refine g_iload_n dX11_take_158 rfl 1 rfl ?_
    refine g_aload_n dX11_take_159 rfl 0 rfl ?_
    refine g_getC (n := 189) dX11_take_160 gi_168 rfl fl_RX11_79 ?_
    refine g_iload_n dX11_take_163 rfl 1 rfl ?_
    obtain ⟨g8, h⟩ := gg_some h
    refine g_iald dX11_take_164 gi_189 g8 ?_
    obtain ⟨g9, h⟩ := gg_some h
    obtain ⟨σ10, eσ10, h⟩ := bnd_nm h
    refine g_iast dX11_take_165 gi_175 g9 (g_st eσ10 ?_)
    obtain ⟨x11, ex11, h⟩ := bnd_nm h
    refine g_iinc (j := 1) (v := x11) (lv' := [(1, .int x11), (0, .ref 168)]) dX11_take_166 rfl (by rw [ex11]; rfl) (Nat.le_of_ble_eq_true rfl) rfl ?_
    refine g_goto (t := 122) dX11_take_169 (by decide) ?_
    refine g_sub [1, 0] rfl ?_
    exact ih x11 σ10 h
def fX11_take_58 : Nat → Int32 → gS → Option (Unit × gS)
  | 0, _, _ => none
  | n + 1, v1, σ => if (σ.1 168 0) ≤ v1 then
    fX11_take_122 2000 0 σ
  else
    gg (¬ (v1 < 0 ∨ 24 ≤ v1.toNatClampNeg)) (
    gg (¬ (v1 < 0 ∨ 24 ≤ v1.toNatClampNeg)) (
    bnd (gsJ σ 169 v1.toNatClampNeg (σ.2.1 183 v1.toNatClampNeg)) fun σ4 =>
    gg (¬ (v1 < 0 ∨ 24 ≤ v1.toNatClampNeg)) (
    gg (¬ (v1 < 0 ∨ 24 ≤ v1.toNatClampNeg)) (
    bnd (gsI σ4 170 v1.toNatClampNeg (σ4.1 184 v1.toNatClampNeg)) fun σ7 =>
    gg (¬ (v1 < 0 ∨ 24 ≤ v1.toNatClampNeg)) (
    gg (¬ (v1 < 0 ∨ 24 ≤ v1.toNatClampNeg)) (
    bnd (gsI σ7 171 v1.toNatClampNeg (σ7.1 185 v1.toNatClampNeg)) fun σ10 =>
    gg (¬ (v1 < 0 ∨ 24 ≤ v1.toNatClampNeg)) (
    gg (¬ (v1 < 0 ∨ 24 ≤ v1.toNatClampNeg)) (
    bnd (gsI σ10 172 v1.toNatClampNeg (vp_nar .boolean (σ10.1 186 v1.toNatClampNeg))) fun σ13 =>
    bnd (v1 + 1) fun x14 =>
    fX11_take_58 n x14 σ13))))))))
set_option maxHeartbeats 4000000 in
set_option maxRecDepth 100000 in
theorem pX11_take_58 {E : gE} {r : Unit} {σ' : gS} : ∀ (n : Nat) (v1 : Int32) (σ : gS), fX11_take_58 n v1 σ = some (r, σ') → gG E mX11_take 58 [(0, .ref 168), (1, .int v1)] [] σ (none) σ' := by
  intro n
  induction n with
  | zero => intro v1 σ h; exact absurd (show none = some (r, σ') from h) (by intro q; cases q)
  | succ n ih =>
  intro v1 σ h
  unfold fX11_take_58 at h
  refine g_iload_n dX11_take_58 rfl 1 rfl ?_
  refine g_aload_n dX11_take_59 rfl 0 rfl ?_
  refine g_getI dX11_take_60 gi_168 rfl fl_RX11_374 ?_
  refine g_icmp_ge (t := 120) dX11_take_63 (by decide) (fun c1 => ?_) (fun c1 => ?_)
  · replace h := if_t h c1
    refine g_iconst (v := 0) dX11_take_120 (by decide) ?_
    refine g_istore_n (lv' := [(1, .int 0), (0, .ref 168)]) dX11_take_121 rfl (Nat.le_of_ble_eq_true rfl) rfl ?_
    refine g_sub [1, 0] rfl ?_
    exact pX11_take_122 2000 0 σ h
  · replace h := if_f h c1
    refine g_aload_n dX11_take_66 rfl 0 rfl ?_
    refine g_getC (n := 169) dX11_take_67 gi_168 rfl fl_RX11_7 ?_
    refine g_iload_n dX11_take_70 rfl 1 rfl ?_
    refine g_aload_n dX11_take_71 rfl 0 rfl ?_
    refine g_getC (n := 183) dX11_take_72 gi_168 rfl fl_RX11_61 ?_
    refine g_iload_n dX11_take_75 rfl 1 rfl ?_
    obtain ⟨g2, h⟩ := gg_some h
    refine g_lald dX11_take_76 gi_183 g2 ?_
    obtain ⟨g3, h⟩ := gg_some h
    obtain ⟨σ4, eσ4, h⟩ := bnd_nm h
    refine g_last dX11_take_77 gi_169 g3 (g_st eσ4 ?_)
    refine g_aload_n dX11_take_78 rfl 0 rfl ?_
    refine g_getC (n := 170) dX11_take_79 gi_168 rfl fl_RX11_13 ?_
    refine g_iload_n dX11_take_82 rfl 1 rfl ?_
    refine g_aload_n dX11_take_83 rfl 0 rfl ?_
    refine g_getC (n := 184) dX11_take_84 gi_168 rfl fl_RX11_64 ?_
    refine g_iload_n dX11_take_87 rfl 1 rfl ?_
    obtain ⟨g5, h⟩ := gg_some h
    refine g_iald dX11_take_88 gi_184 g5 ?_
    obtain ⟨g6, h⟩ := gg_some h
    obtain ⟨σ7, eσ7, h⟩ := bnd_nm h
    refine g_iast dX11_take_89 gi_170 g6 (g_st eσ7 ?_)
    refine g_aload_n dX11_take_90 rfl 0 rfl ?_
    refine g_getC (n := 171) dX11_take_91 gi_168 rfl fl_RX11_17 ?_
    refine g_iload_n dX11_take_94 rfl 1 rfl ?_
    refine g_aload_n dX11_take_95 rfl 0 rfl ?_
    refine g_getC (n := 185) dX11_take_96 gi_168 rfl fl_RX11_67 ?_
    refine g_iload_n dX11_take_99 rfl 1 rfl ?_
    obtain ⟨g8, h⟩ := gg_some h
    refine g_iald dX11_take_100 gi_185 g8 ?_
    obtain ⟨g9, h⟩ := gg_some h
    obtain ⟨σ10, eσ10, h⟩ := bnd_nm h
    refine g_iast dX11_take_101 gi_171 g9 (g_st eσ10 ?_)
    refine g_aload_n dX11_take_102 rfl 0 rfl ?_
    refine g_getC (n := 172) dX11_take_103 gi_168 rfl fl_RX11_20 ?_
    refine g_iload_n dX11_take_106 rfl 1 rfl ?_
    refine g_aload_n dX11_take_107 rfl 0 rfl ?_
    refine g_getC (n := 186) dX11_take_108 gi_168 rfl fl_RX11_70 ?_
    refine g_iload_n dX11_take_111 rfl 1 rfl ?_
    obtain ⟨g11, h⟩ := gg_some h
    refine g_zald dX11_take_112 gi_186 g11 ?_
    obtain ⟨g12, h⟩ := gg_some h
    obtain ⟨σ13, eσ13, h⟩ := bnd_nm h
    refine g_zast dX11_take_113 gi_172 g12 (g_st eσ13 ?_)
    obtain ⟨x14, ex14, h⟩ := bnd_nm h
    refine g_iinc (j := 1) (v := x14) (lv' := [(1, .int x14), (0, .ref 168)]) dX11_take_114 rfl (by rw [ex14]; rfl) (Nat.le_of_ble_eq_true rfl) rfl ?_
    refine g_goto (t := 58) dX11_take_117 (by decide) ?_
    refine g_sub [1, 0] rfl ?_
    exact ih x14 σ13 h
def fX11_take (σ : gS) : Option (Unit × gS) :=
  bnd (gsI σ 168 0 (σ.1 168 21)) fun σ1 =>
  bnd (gsI σ1 168 5 (σ1.1 168 26)) fun σ2 =>
  bnd (gsI σ2 168 9 (σ2.1 168 30)) fun σ3 =>
  bnd (gsI σ3 168 12 (σ3.1 168 33)) fun σ4 =>
  bnd (gsI σ4 168 16 (σ4.1 168 37)) fun σ5 =>
  bnd (gsI σ5 168 19 (σ5.1 168 40)) fun σ6 =>
  bnd (gsI σ6 168 20 (σ6.1 168 41)) fun σ7 =>
  fX11_take_58 2000 0 σ7
set_option maxHeartbeats 4000000 in
set_option maxRecDepth 100000 in
theorem pX11_take {E : gE} {r : Unit} {σ' : gS} {σ : gS} (h : fX11_take σ = some (r, σ')) : gG E mX11_take 0 [(0, .ref 168)] [] σ (none) σ' := by
  unfold fX11_take at h
  refine g_aload_n dX11_take_0 rfl 0 rfl ?_
  refine g_aload_n dX11_take_1 rfl 0 rfl ?_
  refine g_getI dX11_take_2 gi_168 rfl fl_RX11_295 ?_
  obtain ⟨σ1, eσ1, h⟩ := bnd_nm h
  refine g_putI dX11_take_5 gi_168 rfl fp_RX11_374 (g_st eσ1 ?_)
  refine g_aload_n dX11_take_8 rfl 0 rfl ?_
  refine g_aload_n dX11_take_9 rfl 0 rfl ?_
  refine g_getI dX11_take_10 gi_168 rfl fl_RX11_298 ?_
  obtain ⟨σ2, eσ2, h⟩ := bnd_nm h
  refine g_putI dX11_take_13 gi_168 rfl fp_RX11_377 (g_st eσ2 ?_)
  refine g_aload_n dX11_take_16 rfl 0 rfl ?_
  refine g_aload_n dX11_take_17 rfl 0 rfl ?_
  refine g_getI dX11_take_18 gi_168 rfl fl_RX11_325 ?_
  obtain ⟨σ3, eσ3, h⟩ := bnd_nm h
  refine g_putI dX11_take_21 gi_168 rfl fp_RX11_380 (g_st eσ3 ?_)
  refine g_aload_n dX11_take_24 rfl 0 rfl ?_
  refine g_aload_n dX11_take_25 rfl 0 rfl ?_
  refine g_getI dX11_take_26 gi_168 rfl fl_RX11_344 ?_
  obtain ⟨σ4, eσ4, h⟩ := bnd_nm h
  refine g_putI dX11_take_29 gi_168 rfl fp_RX11_383 (g_st eσ4 ?_)
  refine g_aload_n dX11_take_32 rfl 0 rfl ?_
  refine g_aload_n dX11_take_33 rfl 0 rfl ?_
  refine g_getI dX11_take_34 gi_168 rfl fl_RX11_307 ?_
  obtain ⟨σ5, eσ5, h⟩ := bnd_nm h
  refine g_putI dX11_take_37 gi_168 rfl fp_RX11_371 (g_st eσ5 ?_)
  refine g_aload_n dX11_take_40 rfl 0 rfl ?_
  refine g_aload_n dX11_take_41 rfl 0 rfl ?_
  refine g_getI dX11_take_42 gi_168 rfl fl_RX11_347 ?_
  obtain ⟨σ6, eσ6, h⟩ := bnd_nm h
  refine g_putI dX11_take_45 gi_168 rfl fp_RX11_54 (g_st eσ6 ?_)
  refine g_aload_n dX11_take_48 rfl 0 rfl ?_
  refine g_aload_n dX11_take_49 rfl 0 rfl ?_
  refine g_getI dX11_take_50 gi_168 rfl fl_RX11_350 ?_
  obtain ⟨σ7, eσ7, h⟩ := bnd_nm h
  refine g_putI dX11_take_53 gi_168 rfl fp_RX11_58 (g_st eσ7 ?_)
  refine g_iconst (v := 0) dX11_take_56 (by decide) ?_
  refine g_istore_n (lv' := [(1, .int 0), (0, .ref 168)]) dX11_take_57 rfl (Nat.le_of_ble_eq_true rfl) rfl ?_
  refine g_sub [1, 0] rfl ?_
  exact pX11_take_58 2000 0 σ7 h
theorem zX11_take {E : gE} {r : Unit} {σ σ' : gS} (h : fX11_take σ = some (r, σ')) : gC E mX11_take [.ref 168] σ (none) σ' :=
  gC_of (by decide +kernel) rfl (Nat.le_of_ble_eq_true rfl) (pX11_take h)
theorem wc_RX11_106 : Cond.constant RX11 106 (-1000000) ∈ gWS := (gm 1227 (by decide +kernel) rfl)
def mX11_read : gM := (yX11_read, cX11_read, RX11, 2, (some .int), 5, 119)
theorem dX11_read_0 : decode mX11_read.2.1 0 = .ok (.aload_n 0, 1) := by decide +kernel
theorem dX11_read_1 : decode mX11_read.2.1 1 = .ok (.iconst 0, 1) := by decide +kernel
theorem dX11_read_2 : decode mX11_read.2.1 2 = .ok (.putfield 231, 3) := by decide +kernel
theorem dX11_read_5 : decode mX11_read.2.1 5 = .ok (.aload_n 0, 1) := by decide +kernel
theorem dX11_read_6 : decode mX11_read.2.1 6 = .ok (.iconst 0, 1) := by decide +kernel
theorem dX11_read_7 : decode mX11_read.2.1 7 = .ok (.putfield 279, 3) := by decide +kernel
theorem dX11_read_10 : decode mX11_read.2.1 10 = .ok (.aload_n 0, 1) := by decide +kernel
theorem dX11_read_11 : decode mX11_read.2.1 11 = .ok (.ldc 106, 2) := by decide +kernel
theorem dX11_read_13 : decode mX11_read.2.1 13 = .ok (.putfield 107, 3) := by decide +kernel
theorem dX11_read_16 : decode mX11_read.2.1 16 = .ok (.aload_n 0, 1) := by decide +kernel
theorem dX11_read_17 : decode mX11_read.2.1 17 = .ok (.iconst 0, 1) := by decide +kernel
theorem dX11_read_18 : decode mX11_read.2.1 18 = .ok (.putfield 295, 3) := by decide +kernel
theorem dX11_read_21 : decode mX11_read.2.1 21 = .ok (.aload_n 0, 1) := by decide +kernel
theorem dX11_read_22 : decode mX11_read.2.1 22 = .ok (.iconst 0, 1) := by decide +kernel
theorem dX11_read_23 : decode mX11_read.2.1 23 = .ok (.putfield 298, 3) := by decide +kernel
theorem dX11_read_26 : decode mX11_read.2.1 26 = .ok (.aload_n 0, 1) := by decide +kernel
theorem dX11_read_27 : decode mX11_read.2.1 27 = .ok (.iconst 0, 1) := by decide +kernel
theorem dX11_read_28 : decode mX11_read.2.1 28 = .ok (.putfield 325, 3) := by decide +kernel
theorem dX11_read_31 : decode mX11_read.2.1 31 = .ok (.aload_n 0, 1) := by decide +kernel
theorem dX11_read_32 : decode mX11_read.2.1 32 = .ok (.iconst 0, 1) := by decide +kernel
theorem dX11_read_33 : decode mX11_read.2.1 33 = .ok (.putfield 344, 3) := by decide +kernel
theorem dX11_read_36 : decode mX11_read.2.1 36 = .ok (.aload_n 0, 1) := by decide +kernel
theorem dX11_read_37 : decode mX11_read.2.1 37 = .ok (.iconst 0, 1) := by decide +kernel
theorem dX11_read_38 : decode mX11_read.2.1 38 = .ok (.putfield 307, 3) := by decide +kernel
theorem dX11_read_41 : decode mX11_read.2.1 41 = .ok (.aload_n 0, 1) := by decide +kernel
theorem dX11_read_42 : decode mX11_read.2.1 42 = .ok (.iconst (-1), 1) := by decide +kernel
theorem dX11_read_43 : decode mX11_read.2.1 43 = .ok (.putfield 347, 3) := by decide +kernel
theorem dX11_read_46 : decode mX11_read.2.1 46 = .ok (.aload_n 0, 1) := by decide +kernel
theorem dX11_read_47 : decode mX11_read.2.1 47 = .ok (.iconst (-1), 1) := by decide +kernel
theorem dX11_read_48 : decode mX11_read.2.1 48 = .ok (.putfield 350, 3) := by decide +kernel
theorem dX11_read_51 : decode mX11_read.2.1 51 = .ok (.aload_n 0, 1) := by decide +kernel
theorem dX11_read_52 : decode mX11_read.2.1 52 = .ok (.invokevirtual 292, 3) := by decide +kernel
theorem dX11_read_55 : decode mX11_read.2.1 55 = .ok (.aload_n 0, 1) := by decide +kernel
theorem dX11_read_56 : decode mX11_read.2.1 56 = .ok (.invokevirtual 282, 3) := by decide +kernel
theorem dX11_read_59 : decode mX11_read.2.1 59 = .ok (.ifCond .eq 121, 3) := by decide +kernel
theorem dX11_read_62 : decode mX11_read.2.1 62 = .ok (.aload_n 0, 1) := by decide +kernel
theorem dX11_read_63 : decode mX11_read.2.1 63 = .ok (.getfield 253, 3) := by decide +kernel
theorem dX11_read_66 : decode mX11_read.2.1 66 = .ok (.ifCond .eq 114, 3) := by decide +kernel
theorem dX11_read_69 : decode mX11_read.2.1 69 = .ok (.aload_n 0, 1) := by decide +kernel
theorem dX11_read_70 : decode mX11_read.2.1 70 = .ok (.iconst 1, 1) := by decide +kernel
theorem dX11_read_71 : decode mX11_read.2.1 71 = .ok (.invokevirtual 289, 3) := by decide +kernel
theorem dX11_read_74 : decode mX11_read.2.1 74 = .ok (.aload_n 0, 1) := by decide +kernel
theorem dX11_read_75 : decode mX11_read.2.1 75 = .ok (.getfield 268, 3) := by decide +kernel
theorem dX11_read_78 : decode mX11_read.2.1 78 = .ok (.istore_n 1, 1) := by decide +kernel
theorem dX11_read_79 : decode mX11_read.2.1 79 = .ok (.aload_n 0, 1) := by decide +kernel
theorem dX11_read_80 : decode mX11_read.2.1 80 = .ok (.invokevirtual 282, 3) := by decide +kernel
theorem dX11_read_83 : decode mX11_read.2.1 83 = .ok (.ifCond .eq 14, 3) := by decide +kernel
theorem dX11_read_86 : decode mX11_read.2.1 86 = .ok (.iload_n 1, 1) := by decide +kernel
theorem dX11_read_87 : decode mX11_read.2.1 87 = .ok (.bipush 10, 2) := by decide +kernel
theorem dX11_read_89 : decode mX11_read.2.1 89 = .ok (.if_icmp .le 8, 3) := by decide +kernel
theorem dX11_read_92 : decode mX11_read.2.1 92 = .ok (.aload_n 0, 1) := by decide +kernel
theorem dX11_read_93 : decode mX11_read.2.1 93 = .ok (.iconst 2, 1) := by decide +kernel
theorem dX11_read_94 : decode mX11_read.2.1 94 = .ok (.invokevirtual 285, 3) := by decide +kernel
theorem dX11_read_97 : decode mX11_read.2.1 97 = .ok (.aload_n 0, 1) := by decide +kernel
theorem dX11_read_98 : decode mX11_read.2.1 98 = .ok (.invokevirtual 282, 3) := by decide +kernel
theorem dX11_read_101 : decode mX11_read.2.1 101 = .ok (.ifCond .eq 76, 3) := by decide +kernel
theorem dX11_read_104 : decode mX11_read.2.1 104 = .ok (.aload_n 0, 1) := by decide +kernel
theorem dX11_read_105 : decode mX11_read.2.1 105 = .ok (.invokevirtual 292, 3) := by decide +kernel
theorem dX11_read_108 : decode mX11_read.2.1 108 = .ok (.iload_n 1, 1) := by decide +kernel
theorem dX11_read_109 : decode mX11_read.2.1 109 = .ok (.iconst 3, 1) := by decide +kernel
theorem dX11_read_110 : decode mX11_read.2.1 110 = .ok (.if_icmp .ge 20, 3) := by decide +kernel
theorem dX11_read_113 : decode mX11_read.2.1 113 = .ok (.aload_n 0, 1) := by decide +kernel
theorem dX11_read_114 : decode mX11_read.2.1 114 = .ok (.iload_n 1, 1) := by decide +kernel
theorem dX11_read_115 : decode mX11_read.2.1 115 = .ok (.iconst 1, 1) := by decide +kernel
theorem dX11_read_116 : decode mX11_read.2.1 116 = .ok (.if_icmp .ne 7, 3) := by decide +kernel
theorem dX11_read_119 : decode mX11_read.2.1 119 = .ok (.iconst 1, 1) := by decide +kernel
theorem dX11_read_120 : decode mX11_read.2.1 120 = .ok (.goto 4, 3) := by decide +kernel
theorem dX11_read_123 : decode mX11_read.2.1 123 = .ok (.iconst 0, 1) := by decide +kernel
theorem dX11_read_124 : decode mX11_read.2.1 124 = .ok (.invokevirtual 353, 3) := by decide +kernel
theorem dX11_read_127 : decode mX11_read.2.1 127 = .ok (.goto 50, 3) := by decide +kernel
theorem dX11_read_130 : decode mX11_read.2.1 130 = .ok (.iload_n 1, 1) := by decide +kernel
theorem dX11_read_131 : decode mX11_read.2.1 131 = .ok (.bipush 6, 2) := by decide +kernel
theorem dX11_read_133 : decode mX11_read.2.1 133 = .ok (.if_icmp .ge 11, 3) := by decide +kernel
theorem dX11_read_136 : decode mX11_read.2.1 136 = .ok (.aload_n 0, 1) := by decide +kernel
theorem dX11_read_137 : decode mX11_read.2.1 137 = .ok (.iload_n 1, 1) := by decide +kernel
theorem dX11_read_138 : decode mX11_read.2.1 138 = .ok (.invokevirtual 356, 3) := by decide +kernel
theorem dX11_read_141 : decode mX11_read.2.1 141 = .ok (.goto 36, 3) := by decide +kernel
theorem dX11_read_144 : decode mX11_read.2.1 144 = .ok (.iload_n 1, 1) := by decide +kernel
theorem dX11_read_145 : decode mX11_read.2.1 145 = .ok (.bipush 6, 2) := by decide +kernel
theorem dX11_read_147 : decode mX11_read.2.1 147 = .ok (.if_icmp .ne 10, 3) := by decide +kernel
theorem dX11_read_150 : decode mX11_read.2.1 150 = .ok (.aload_n 0, 1) := by decide +kernel
theorem dX11_read_151 : decode mX11_read.2.1 151 = .ok (.invokevirtual 359, 3) := by decide +kernel
theorem dX11_read_154 : decode mX11_read.2.1 154 = .ok (.goto 23, 3) := by decide +kernel
theorem dX11_read_157 : decode mX11_read.2.1 157 = .ok (.iload_n 1, 1) := by decide +kernel
theorem dX11_read_158 : decode mX11_read.2.1 158 = .ok (.bipush 10, 2) := by decide +kernel
theorem dX11_read_160 : decode mX11_read.2.1 160 = .ok (.if_icmp .ge 13, 3) := by decide +kernel
theorem dX11_read_163 : decode mX11_read.2.1 163 = .ok (.aload_n 0, 1) := by decide +kernel
theorem dX11_read_164 : decode mX11_read.2.1 164 = .ok (.iload_n 1, 1) := by decide +kernel
theorem dX11_read_165 : decode mX11_read.2.1 165 = .ok (.iconst 3, 1) := by decide +kernel
theorem dX11_read_166 : decode mX11_read.2.1 166 = .ok (.isub, 1) := by decide +kernel
theorem dX11_read_167 : decode mX11_read.2.1 167 = .ok (.invokevirtual 362, 3) := by decide +kernel
theorem dX11_read_170 : decode mX11_read.2.1 170 = .ok (.goto 7, 3) := by decide +kernel
theorem dX11_read_173 : decode mX11_read.2.1 173 = .ok (.aload_n 0, 1) := by decide +kernel
theorem dX11_read_174 : decode mX11_read.2.1 174 = .ok (.invokevirtual 365, 3) := by decide +kernel
theorem dX11_read_177 : decode mX11_read.2.1 177 = .ok (.goto (-122), 3) := by decide +kernel
theorem dX11_read_180 : decode mX11_read.2.1 180 = .ok (.aload_n 0, 1) := by decide +kernel
theorem dX11_read_181 : decode mX11_read.2.1 181 = .ok (.iconst 0, 1) := by decide +kernel
theorem dX11_read_182 : decode mX11_read.2.1 182 = .ok (.putfield 225, 3) := by decide +kernel
theorem dX11_read_185 : decode mX11_read.2.1 185 = .ok (.aload_n 0, 1) := by decide +kernel
theorem dX11_read_186 : decode mX11_read.2.1 186 = .ok (.invokevirtual 282, 3) := by decide +kernel
theorem dX11_read_189 : decode mX11_read.2.1 189 = .ok (.ifCond .ne 11, 3) := by decide +kernel
theorem dX11_read_192 : decode mX11_read.2.1 192 = .ok (.bipush (-10), 2) := by decide +kernel
theorem dX11_read_194 : decode mX11_read.2.1 194 = .ok (.aload_n 0, 1) := by decide +kernel
theorem dX11_read_195 : decode mX11_read.2.1 195 = .ok (.getfield 279, 3) := by decide +kernel
theorem dX11_read_198 : decode mX11_read.2.1 198 = .ok (.isub, 1) := by decide +kernel
theorem dX11_read_199 : decode mX11_read.2.1 199 = .ok (.ireturn, 1) := by decide +kernel
theorem dX11_read_200 : decode mX11_read.2.1 200 = .ok (.aload_n 0, 1) := by decide +kernel
theorem dX11_read_201 : decode mX11_read.2.1 201 = .ok (.invokevirtual 368, 3) := by decide +kernel
theorem dX11_read_204 : decode mX11_read.2.1 204 = .ok (.aload_n 0, 1) := by decide +kernel
theorem dX11_read_205 : decode mX11_read.2.1 205 = .ok (.getfield 371, 3) := by decide +kernel
theorem dX11_read_208 : decode mX11_read.2.1 208 = .ok (.ireturn, 1) := by decide +kernel
theorem okX11_read_353 : gOkV mX11_read mX11_readJoint 353 1 := ⟨List.forall_mem_cons.mpr ⟨(gm 1589 (by decide +kernel) rfl), List.forall_mem_cons.mpr ⟨(gm 1586 (by decide +kernel) rfl), List.forall_mem_cons.mpr ⟨(gm 1588 (by decide +kernel) rfl), List.forall_mem_cons.mpr ⟨(gm 64 (by decide +kernel) rfl), List.forall_mem_cons.mpr ⟨(gm 122 (by decide +kernel) rfl), fun _ h => absurd h List.not_mem_nil⟩⟩⟩⟩⟩, by decide +kernel, by decide +kernel, by decide +kernel⟩
theorem okX11_read_282 : gOkV mX11_read mX11_good 282 0 := ⟨List.forall_mem_cons.mpr ⟨(gm 1577 (by decide +kernel) rfl), List.forall_mem_cons.mpr ⟨(gm 1574 (by decide +kernel) rfl), List.forall_mem_cons.mpr ⟨(gm 1576 (by decide +kernel) rfl), List.forall_mem_cons.mpr ⟨(gm 61 (by decide +kernel) rfl), List.forall_mem_cons.mpr ⟨(gm 122 (by decide +kernel) rfl), fun _ h => absurd h List.not_mem_nil⟩⟩⟩⟩⟩, by decide +kernel, by decide +kernel, by decide +kernel⟩
theorem okX11_read_292 : gOkV mX11_read mX11_next 292 0 := ⟨List.forall_mem_cons.mpr ⟨(gm 1550 (by decide +kernel) rfl), List.forall_mem_cons.mpr ⟨(gm 1547 (by decide +kernel) rfl), List.forall_mem_cons.mpr ⟨(gm 1549 (by decide +kernel) rfl), List.forall_mem_cons.mpr ⟨(gm 57 (by decide +kernel) rfl), List.forall_mem_cons.mpr ⟨(gm 122 (by decide +kernel) rfl), fun _ h => absurd h List.not_mem_nil⟩⟩⟩⟩⟩, by decide +kernel, by decide +kernel, by decide +kernel⟩
theorem okX11_read_365 : gOkV mX11_read mX11_readDrive 365 0 := ⟨List.forall_mem_cons.mpr ⟨(gm 1649 (by decide +kernel) rfl), List.forall_mem_cons.mpr ⟨(gm 1646 (by decide +kernel) rfl), List.forall_mem_cons.mpr ⟨(gm 1648 (by decide +kernel) rfl), List.forall_mem_cons.mpr ⟨(gm 79 (by decide +kernel) rfl), List.forall_mem_cons.mpr ⟨(gm 122 (by decide +kernel) rfl), fun _ h => absurd h List.not_mem_nil⟩⟩⟩⟩⟩, by decide +kernel, by decide +kernel, by decide +kernel⟩
theorem okX11_read_362 : gOkV mX11_read mX11_readCoupling 362 1 := ⟨List.forall_mem_cons.mpr ⟨(gm 1641 (by decide +kernel) rfl), List.forall_mem_cons.mpr ⟨(gm 1638 (by decide +kernel) rfl), List.forall_mem_cons.mpr ⟨(gm 1640 (by decide +kernel) rfl), List.forall_mem_cons.mpr ⟨(gm 77 (by decide +kernel) rfl), List.forall_mem_cons.mpr ⟨(gm 122 (by decide +kernel) rfl), fun _ h => absurd h List.not_mem_nil⟩⟩⟩⟩⟩, by decide +kernel, by decide +kernel, by decide +kernel⟩
theorem okX11_read_359 : gOkV mX11_read mX11_readWheel 359 0 := ⟨List.forall_mem_cons.mpr ⟨(gm 1633 (by decide +kernel) rfl), List.forall_mem_cons.mpr ⟨(gm 1630 (by decide +kernel) rfl), List.forall_mem_cons.mpr ⟨(gm 1632 (by decide +kernel) rfl), List.forall_mem_cons.mpr ⟨(gm 75 (by decide +kernel) rfl), List.forall_mem_cons.mpr ⟨(gm 122 (by decide +kernel) rfl), fun _ h => absurd h List.not_mem_nil⟩⟩⟩⟩⟩, by decide +kernel, by decide +kernel, by decide +kernel⟩
theorem okX11_read_356 : gOkV mX11_read mX11_readBars 356 1 := ⟨List.forall_mem_cons.mpr ⟨(gm 1617 (by decide +kernel) rfl), List.forall_mem_cons.mpr ⟨(gm 1614 (by decide +kernel) rfl), List.forall_mem_cons.mpr ⟨(gm 1616 (by decide +kernel) rfl), List.forall_mem_cons.mpr ⟨(gm 71 (by decide +kernel) rfl), List.forall_mem_cons.mpr ⟨(gm 122 (by decide +kernel) rfl), fun _ h => absurd h List.not_mem_nil⟩⟩⟩⟩⟩, by decide +kernel, by decide +kernel, by decide +kernel⟩
theorem okX11_read_368 : gOkV mX11_read mX11_take 368 0 := ⟨List.forall_mem_cons.mpr ⟨(gm 1653 (by decide +kernel) rfl), List.forall_mem_cons.mpr ⟨(gm 1650 (by decide +kernel) rfl), List.forall_mem_cons.mpr ⟨(gm 1652 (by decide +kernel) rfl), List.forall_mem_cons.mpr ⟨(gm 80 (by decide +kernel) rfl), List.forall_mem_cons.mpr ⟨(gm 122 (by decide +kernel) rfl), fun _ h => absurd h List.not_mem_nil⟩⟩⟩⟩⟩, by decide +kernel, by decide +kernel, by decide +kernel⟩
theorem okX11_read_289 : gOkV mX11_read mX11_want 289 1 := ⟨List.forall_mem_cons.mpr ⟨(gm 1581 (by decide +kernel) rfl), List.forall_mem_cons.mpr ⟨(gm 1578 (by decide +kernel) rfl), List.forall_mem_cons.mpr ⟨(gm 1580 (by decide +kernel) rfl), List.forall_mem_cons.mpr ⟨(gm 62 (by decide +kernel) rfl), List.forall_mem_cons.mpr ⟨(gm 122 (by decide +kernel) rfl), fun _ h => absurd h List.not_mem_nil⟩⟩⟩⟩⟩, by decide +kernel, by decide +kernel, by decide +kernel⟩
theorem okX11_read_285 : gOkV mX11_read mX11_bad 285 1 := ⟨List.forall_mem_cons.mpr ⟨(gm 1585 (by decide +kernel) rfl), List.forall_mem_cons.mpr ⟨(gm 1582 (by decide +kernel) rfl), List.forall_mem_cons.mpr ⟨(gm 1584 (by decide +kernel) rfl), List.forall_mem_cons.mpr ⟨(gm 63 (by decide +kernel) rfl), List.forall_mem_cons.mpr ⟨(gm 122 (by decide +kernel) rfl), fun _ h => absurd h List.not_mem_nil⟩⟩⟩⟩⟩, by decide +kernel, by decide +kernel, by decide +kernel⟩
def fX11_read_177 (k55 : gS → Option (Int32 × gS)) (σ : gS) : Option (Int32 × gS) :=
  k55 σ
set_option maxHeartbeats 4000000 in
set_option maxRecDepth 100000 in
theorem pX11_read_177 {E : gE} {k55 : gS → Option (Int32 × gS)} {r : Int32} {σ' : gS} {σ : gS} (hk55 : ∀ (σ : gS), k55 σ = some (r, σ') → gG E mX11_read 55 [(0, .ref 168)] [] σ (some (.int r)) σ') (h : fX11_read_177 k55 σ = some (r, σ')) : gG E mX11_read 177 [(0, .ref 168)] [] σ (some (.int r)) σ' := by
  unfold fX11_read_177 at h
  refine g_goto (t := 55) dX11_read_177 (by decide) ?_
  exact hk55 σ h
def fX11_read_124 (k55 : gS → Option (Int32 × gS)) (s1 : Int32) (σ : gS) : Option (Int32 × gS) :=
  bd (fX11_readJoint s1 σ) fun _ σ1 =>
  fX11_read_177 k55 σ1
set_option maxHeartbeats 4000000 in
set_option maxRecDepth 100000 in
theorem pX11_read_124 {E : gE} {k55 : gS → Option (Int32 × gS)} {r : Int32} {σ' : gS} {s1 : Int32} {σ : gS} (hk55 : ∀ (σ : gS), k55 σ = some (r, σ') → gG E mX11_read 55 [(0, .ref 168)] [] σ (some (.int r)) σ') (h : fX11_read_124 k55 s1 σ = some (r, σ')) : gG E mX11_read 124 [(0, .ref 168)] [.int s1, .ref 168] σ (some (.int r)) σ' := by
  unfold fX11_read_124 at h
  obtain ⟨_, σ1, y2, h⟩ := bd_some h
  refine g_callVv (as := [.int s1]) (st := []) (zX11_readJoint y2) dX11_read_124 gi_168 rfl okX11_read_353 (Nat.le_of_ble_eq_true rfl) ?_
  refine g_goto (t := 177) dX11_read_127 (by decide) ?_
  exact pX11_read_177 hk55 h
def fX11_read_97 (k55 : gS → Option (Int32 × gS)) (v1 : Int32) (σ : gS) : Option (Int32 × gS) :=
  bd (fX11_good σ) fun x1 σ2 =>
  if x1 = 0 then
    fX11_read_177 k55 σ2
  else
    bd (fX11_next σ2) fun _ σ5 =>
    if 3 ≤ v1 then
      if 6 ≤ v1 then
        if v1 = 6 then
          bd (fX11_readWheel σ5) fun _ σ15 =>
          fX11_read_177 k55 σ15
        else
          if 10 ≤ v1 then
            bd (fX11_readDrive σ5) fun _ σ11 =>
            fX11_read_177 k55 σ11
          else
            bd (fX11_readCoupling (v1 - 3) σ5) fun _ σ13 =>
            fX11_read_177 k55 σ13
      else
        bd (fX11_readBars v1 σ5) fun _ σ17 =>
        fX11_read_177 k55 σ17
    else
      if v1 = 1 then
        fX11_read_124 k55 1 σ5
      else
        fX11_read_124 k55 0 σ5
set_option maxHeartbeats 4000000 in
set_option maxRecDepth 100000 in
theorem pX11_read_97 {E : gE} {k55 : gS → Option (Int32 × gS)} {r : Int32} {σ' : gS} {v1 : Int32} {σ : gS} (hk55 : ∀ (σ : gS), k55 σ = some (r, σ') → gG E mX11_read 55 [(0, .ref 168)] [] σ (some (.int r)) σ') (h : fX11_read_97 k55 v1 σ = some (r, σ')) : gG E mX11_read 97 [(0, .ref 168), (1, .int v1)] [] σ (some (.int r)) σ' := by
  unfold fX11_read_97 at h
  refine g_aload_n dX11_read_97 rfl 0 rfl ?_
  obtain ⟨x1, σ2, y3, h⟩ := bd_some h
  refine g_callVr (as := []) (st := []) (zX11_good y3) dX11_read_98 gi_168 rfl okX11_read_282 (Nat.le_of_ble_eq_true rfl) ?_
  refine g_if_eq (t := 177) dX11_read_101 (by decide) (fun c4 => ?_) (fun c4 => ?_)
  · replace h := if_t h c4
    refine g_sub [0] rfl ?_
    exact pX11_read_177 hk55 h
  · replace h := if_f h c4
    refine g_aload_n dX11_read_104 rfl 0 rfl ?_
    obtain ⟨_, σ5, y6, h⟩ := bd_some h
    refine g_callVv (as := []) (st := []) (zX11_next y6) dX11_read_105 gi_168 rfl okX11_read_292 (Nat.le_of_ble_eq_true rfl) ?_
    refine g_iload_n dX11_read_108 rfl 1 rfl ?_
    refine g_iconst (v := 3) dX11_read_109 (by decide) ?_
    refine g_icmp_ge (t := 130) dX11_read_110 (by decide) (fun c7 => ?_) (fun c7 => ?_)
    · replace h := if_t h c7
      refine g_iload_n dX11_read_130 rfl 1 rfl ?_
      refine g_bipush (v := 6) dX11_read_131 (by decide) ?_
      refine g_icmp_ge (t := 144) dX11_read_133 (by decide) (fun c8 => ?_) (fun c8 => ?_)
      · replace h := if_t h c8
        refine g_iload_n dX11_read_144 rfl 1 rfl ?_
        refine g_bipush (v := 6) dX11_read_145 (by decide) ?_
        refine g_icmp_ne (t := 157) dX11_read_147 (by decide) (fun c9 => ?_) (fun c9 => ?_)
        · replace h := if_f h c9
          refine g_iload_n dX11_read_157 rfl 1 rfl ?_
          refine g_bipush (v := 10) dX11_read_158 (by decide) ?_
          refine g_icmp_ge (t := 173) dX11_read_160 (by decide) (fun c10 => ?_) (fun c10 => ?_)
          · replace h := if_t h c10
            refine g_aload_n dX11_read_173 rfl 0 rfl ?_
            obtain ⟨_, σ11, y12, h⟩ := bd_some h
            refine g_callVv (as := []) (st := []) (zX11_readDrive y12) dX11_read_174 gi_168 rfl okX11_read_365 (Nat.le_of_ble_eq_true rfl) ?_
            refine g_sub [0] rfl ?_
            exact pX11_read_177 hk55 h
          · replace h := if_f h c10
            refine g_aload_n dX11_read_163 rfl 0 rfl ?_
            refine g_iload_n dX11_read_164 rfl 1 rfl ?_
            refine g_iconst (v := 3) dX11_read_165 (by decide) ?_
            refine g_isub dX11_read_166 ?_
            obtain ⟨_, σ13, y14, h⟩ := bd_some h
            refine g_callVv (as := [.int (v1 - 3)]) (st := []) (zX11_readCoupling y14) dX11_read_167 gi_168 rfl okX11_read_362 (Nat.le_of_ble_eq_true rfl) ?_
            refine g_goto (t := 177) dX11_read_170 (by decide) ?_
            refine g_sub [0] rfl ?_
            exact pX11_read_177 hk55 h
        · replace h := if_t h c9
          refine g_aload_n dX11_read_150 rfl 0 rfl ?_
          obtain ⟨_, σ15, y16, h⟩ := bd_some h
          refine g_callVv (as := []) (st := []) (zX11_readWheel y16) dX11_read_151 gi_168 rfl okX11_read_359 (Nat.le_of_ble_eq_true rfl) ?_
          refine g_goto (t := 177) dX11_read_154 (by decide) ?_
          refine g_sub [0] rfl ?_
          exact pX11_read_177 hk55 h
      · replace h := if_f h c8
        refine g_aload_n dX11_read_136 rfl 0 rfl ?_
        refine g_iload_n dX11_read_137 rfl 1 rfl ?_
        obtain ⟨_, σ17, y18, h⟩ := bd_some h
        refine g_callVv (as := [.int v1]) (st := []) (zX11_readBars y18) dX11_read_138 gi_168 rfl okX11_read_356 (Nat.le_of_ble_eq_true rfl) ?_
        refine g_goto (t := 177) dX11_read_141 (by decide) ?_
        refine g_sub [0] rfl ?_
        exact pX11_read_177 hk55 h
    · replace h := if_f h c7
      refine g_aload_n dX11_read_113 rfl 0 rfl ?_
      refine g_iload_n dX11_read_114 rfl 1 rfl ?_
      refine g_iconst (v := 1) dX11_read_115 (by decide) ?_
      refine g_icmp_ne (t := 123) dX11_read_116 (by decide) (fun c19 => ?_) (fun c19 => ?_)
      · replace h := if_f h c19
        refine g_iconst (v := 0) dX11_read_123 (by decide) ?_
        refine g_sub [0] rfl ?_
        exact pX11_read_124 hk55 h
      · replace h := if_t h c19
        refine g_iconst (v := 1) dX11_read_119 (by decide) ?_
        refine g_goto (t := 124) dX11_read_120 (by decide) ?_
        refine g_sub [0] rfl ?_
        exact pX11_read_124 hk55 h
def fX11_read_180 (σ : gS) : Option (Int32 × gS) :=
  bnd (gsI σ 168 43 0) fun σ1 =>
  bd (fX11_good σ1) fun x2 σ3 =>
  if x2 = 0 then
    some ((-10) - (σ3.1 168 49), σ3)
  else
    bd (fX11_take σ3) fun _ σ6 =>
    some (σ6.1 168 16, σ6)
set_option maxHeartbeats 4000000 in
set_option maxRecDepth 100000 in
theorem pX11_read_180 {E : gE} {r : Int32} {σ' : gS} {σ : gS} (h : fX11_read_180 σ = some (r, σ')) : gG E mX11_read 180 [(0, .ref 168)] [] σ (some (.int r)) σ' := by
  unfold fX11_read_180 at h
  refine g_aload_n dX11_read_180 rfl 0 rfl ?_
  refine g_iconst (v := 0) dX11_read_181 (by decide) ?_
  obtain ⟨σ1, eσ1, h⟩ := bnd_nm h
  refine g_putI dX11_read_182 gi_168 rfl fp_RX11_225 (g_st eσ1 ?_)
  refine g_aload_n dX11_read_185 rfl 0 rfl ?_
  obtain ⟨x2, σ3, y4, h⟩ := bd_some h
  refine g_callVr (as := []) (st := []) (zX11_good y4) dX11_read_186 gi_168 rfl okX11_read_282 (Nat.le_of_ble_eq_true rfl) ?_
  refine g_if_ne (t := 200) dX11_read_189 (by decide) (fun c5 => ?_) (fun c5 => ?_)
  · replace h := if_f h c5
    refine g_aload_n dX11_read_200 rfl 0 rfl ?_
    obtain ⟨_, σ6, y7, h⟩ := bd_some h
    refine g_callVv (as := []) (st := []) (zX11_take y7) dX11_read_201 gi_168 rfl okX11_read_368 (Nat.le_of_ble_eq_true rfl) ?_
    refine g_aload_n dX11_read_204 rfl 0 rfl ?_
    refine g_getI dX11_read_205 gi_168 rfl fl_RX11_371 ?_
    obtain ⟨rfl, rfl⟩ := so_inj h
    exact g_iret dX11_read_208 rfl
  · replace h := if_t h c5
    refine g_bipush (v := (-10)) dX11_read_192 (by decide) ?_
    refine g_aload_n dX11_read_194 rfl 0 rfl ?_
    refine g_getI dX11_read_195 gi_168 rfl fl_RX11_279 ?_
    refine g_isub dX11_read_198 ?_
    obtain ⟨rfl, rfl⟩ := so_inj h
    exact g_iret dX11_read_199 rfl
def fX11_read_55 : Nat → gS → Option (Int32 × gS)
  | 0, _ => none
  | n + 1, σ => bd (fX11_good σ) fun x1 σ2 =>
  if x1 = 0 then
    fX11_read_180 σ2
  else
    if (σ2.1 168 45) = 0 then
      fX11_read_180 σ2
    else
      bd (fX11_want 1 σ2) fun _ σ6 =>
      bd (fX11_good σ6) fun x8 σ9 =>
      if x8 = 0 then
        fX11_read_97 (fun σ => fX11_read_55 n σ) (σ6.1 168 51) σ9
      else
        if (σ6.1 168 51) ≤ 10 then
          fX11_read_97 (fun σ => fX11_read_55 n σ) (σ6.1 168 51) σ9
        else
          bd (fX11_bad 2 σ9) fun _ σ13 =>
          fX11_read_97 (fun σ => fX11_read_55 n σ) (σ6.1 168 51) σ13
set_option maxHeartbeats 4000000 in
set_option maxRecDepth 100000 in
theorem pX11_read_55 {E : gE} {r : Int32} {σ' : gS} : ∀ (n : Nat) (σ : gS), fX11_read_55 n σ = some (r, σ') → gG E mX11_read 55 [(0, .ref 168)] [] σ (some (.int r)) σ' := by
  intro n
  induction n with
  | zero => intro σ h; exact absurd (show none = some (r, σ') from h) (by intro q; cases q)
  | succ n ih =>
  intro σ h
  unfold fX11_read_55 at h
  refine g_aload_n dX11_read_55 rfl 0 rfl ?_
  obtain ⟨x1, σ2, y3, h⟩ := bd_some h
  refine g_callVr (as := []) (st := []) (zX11_good y3) dX11_read_56 gi_168 rfl okX11_read_282 (Nat.le_of_ble_eq_true rfl) ?_
  refine g_if_eq (t := 180) dX11_read_59 (by decide) (fun c4 => ?_) (fun c4 => ?_)
  · replace h := if_t h c4
    exact pX11_read_180 h
  · replace h := if_f h c4
    refine g_aload_n dX11_read_62 rfl 0 rfl ?_
    refine g_getI dX11_read_63 gi_168 rfl fl_RX11_253 ?_
    refine g_if_eq (t := 180) dX11_read_66 (by decide) (fun c5 => ?_) (fun c5 => ?_)
    · replace h := if_t h c5
      exact pX11_read_180 h
    · replace h := if_f h c5
      refine g_aload_n dX11_read_69 rfl 0 rfl ?_
      refine g_iconst (v := 1) dX11_read_70 (by decide) ?_
      obtain ⟨_, σ6, y7, h⟩ := bd_some h
      refine g_callVv (as := [.int 1]) (st := []) (zX11_want y7) dX11_read_71 gi_168 rfl okX11_read_289 (Nat.le_of_ble_eq_true rfl) ?_
      refine g_aload_n dX11_read_74 rfl 0 rfl ?_
      refine g_getI dX11_read_75 gi_168 rfl fl_RX11_268 ?_
      refine g_istore_n (lv' := [(1, .int (σ6.1 168 51)), (0, .ref 168)]) dX11_read_78 rfl (Nat.le_of_ble_eq_true rfl) rfl ?_
      refine g_aload_n dX11_read_79 rfl 1 rfl ?_
      obtain ⟨x8, σ9, y10, h⟩ := bd_some h
      refine g_callVr (as := []) (st := []) (zX11_good y10) dX11_read_80 gi_168 rfl okX11_read_282 (Nat.le_of_ble_eq_true rfl) ?_
      refine g_if_eq (t := 97) dX11_read_83 (by decide) (fun c11 => ?_) (fun c11 => ?_)
      · replace h := if_t h c11
        refine g_sub [1, 0] rfl ?_
        exact pX11_read_97 (fun σ h => ih σ h) h
      · replace h := if_f h c11
        refine g_iload_n dX11_read_86 rfl 0 rfl ?_
        refine g_bipush (v := 10) dX11_read_87 (by decide) ?_
        refine g_icmp_le (t := 97) dX11_read_89 (by decide) (fun c12 => ?_) (fun c12 => ?_)
        · replace h := if_t h c12
          refine g_sub [1, 0] rfl ?_
          exact pX11_read_97 (fun σ h => ih σ h) h
        · replace h := if_f h c12
          refine g_aload_n dX11_read_92 rfl 1 rfl ?_
          refine g_iconst (v := 2) dX11_read_93 (by decide) ?_
          obtain ⟨_, σ13, y14, h⟩ := bd_some h
          refine g_callVv (as := [.int 2]) (st := []) (zX11_bad y14) dX11_read_94 gi_168 rfl okX11_read_285 (Nat.le_of_ble_eq_true rfl) ?_
          refine g_sub [1, 0] rfl ?_
          exact pX11_read_97 (fun σ h => ih σ h) h
def fX11_read (σ : gS) : Option (Int32 × gS) :=
  bnd (gsI σ 168 44 0) fun σ1 =>
  bnd (gsI σ1 168 49 0) fun σ2 =>
  bnd (gsI σ2 168 50 (-1000000)) fun σ3 =>
  bnd (gsI σ3 168 21 0) fun σ4 =>
  bnd (gsI σ4 168 26 0) fun σ5 =>
  bnd (gsI σ5 168 30 0) fun σ6 =>
  bnd (gsI σ6 168 33 0) fun σ7 =>
  bnd (gsI σ7 168 37 0) fun σ8 =>
  bnd (gsI σ8 168 40 (-1)) fun σ9 =>
  bnd (gsI σ9 168 41 (-1)) fun σ10 =>
  bd (fX11_next σ10) fun _ σ11 =>
  fX11_read_55 2000 σ11
set_option maxHeartbeats 4000000 in
set_option maxRecDepth 100000 in
theorem pX11_read {E : gE} {r : Int32} {σ' : gS} {σ : gS} (h : fX11_read σ = some (r, σ')) : gG E mX11_read 0 [(0, .ref 168)] [] σ (some (.int r)) σ' := by
  unfold fX11_read at h
  refine g_aload_n dX11_read_0 rfl 0 rfl ?_
  refine g_iconst (v := 0) dX11_read_1 (by decide) ?_
  obtain ⟨σ1, eσ1, h⟩ := bnd_nm h
  refine g_putI dX11_read_2 gi_168 rfl fp_RX11_231 (g_st eσ1 ?_)
  refine g_aload_n dX11_read_5 rfl 0 rfl ?_
  refine g_iconst (v := 0) dX11_read_6 (by decide) ?_
  obtain ⟨σ2, eσ2, h⟩ := bnd_nm h
  refine g_putI dX11_read_7 gi_168 rfl fp_RX11_279 (g_st eσ2 ?_)
  refine g_aload_n dX11_read_10 rfl 0 rfl ?_
  refine g_ldc (v := (-1000000)) dX11_read_11 wc_RX11_106 ?_
  obtain ⟨σ3, eσ3, h⟩ := bnd_nm h
  refine g_putI dX11_read_13 gi_168 rfl fp_RX11_107 (g_st eσ3 ?_)
  refine g_aload_n dX11_read_16 rfl 0 rfl ?_
  refine g_iconst (v := 0) dX11_read_17 (by decide) ?_
  obtain ⟨σ4, eσ4, h⟩ := bnd_nm h
  refine g_putI dX11_read_18 gi_168 rfl fp_RX11_295 (g_st eσ4 ?_)
  refine g_aload_n dX11_read_21 rfl 0 rfl ?_
  refine g_iconst (v := 0) dX11_read_22 (by decide) ?_
  obtain ⟨σ5, eσ5, h⟩ := bnd_nm h
  refine g_putI dX11_read_23 gi_168 rfl fp_RX11_298 (g_st eσ5 ?_)
  refine g_aload_n dX11_read_26 rfl 0 rfl ?_
  refine g_iconst (v := 0) dX11_read_27 (by decide) ?_
  obtain ⟨σ6, eσ6, h⟩ := bnd_nm h
  refine g_putI dX11_read_28 gi_168 rfl fp_RX11_325 (g_st eσ6 ?_)
  refine g_aload_n dX11_read_31 rfl 0 rfl ?_
  refine g_iconst (v := 0) dX11_read_32 (by decide) ?_
  obtain ⟨σ7, eσ7, h⟩ := bnd_nm h
  refine g_putI dX11_read_33 gi_168 rfl fp_RX11_344 (g_st eσ7 ?_)
  refine g_aload_n dX11_read_36 rfl 0 rfl ?_
  refine g_iconst (v := 0) dX11_read_37 (by decide) ?_
  obtain ⟨σ8, eσ8, h⟩ := bnd_nm h
  refine g_putI dX11_read_38 gi_168 rfl fp_RX11_307 (g_st eσ8 ?_)
  refine g_aload_n dX11_read_41 rfl 0 rfl ?_
  refine g_iconst (v := (-1)) dX11_read_42 (by decide) ?_
  obtain ⟨σ9, eσ9, h⟩ := bnd_nm h
  refine g_putI dX11_read_43 gi_168 rfl fp_RX11_347 (g_st eσ9 ?_)
  refine g_aload_n dX11_read_46 rfl 0 rfl ?_
  refine g_iconst (v := (-1)) dX11_read_47 (by decide) ?_
  obtain ⟨σ10, eσ10, h⟩ := bnd_nm h
  refine g_putI dX11_read_48 gi_168 rfl fp_RX11_350 (g_st eσ10 ?_)
  refine g_aload_n dX11_read_51 rfl 0 rfl ?_
  obtain ⟨_, σ11, y12, h⟩ := bd_some h
  refine g_callVv (as := []) (st := []) (zX11_next y12) dX11_read_52 gi_168 rfl okX11_read_292 (Nat.le_of_ble_eq_true rfl) ?_
  exact pX11_read_55 2000 σ11 h
theorem zX11_read {E : gE} {r : Int32} {σ σ' : gS} (h : fX11_read σ = some (r, σ')) : gC E mX11_read [.ref 168] σ (some (.int r)) σ' :=
  gC_of (by decide +kernel) rfl (Nat.le_of_ble_eq_true rfl) (pX11_read h)
theorem fl_RX11_107 : gFl RX11 107 11 50 := ⟨RX11, TX11, 101, rfl, by decide, ux_11, Or.inl (gm 1278 (by decide +kernel) rfl)⟩
def mX11_place : gM := (yX11_place, cX11_place, RX11, 1, (some .int), 0, 0)
theorem dX11_place_0 : decode mX11_place.2.1 0 = .ok (.aload_n 0, 1) := by decide +kernel
theorem dX11_place_1 : decode mX11_place.2.1 1 = .ok (.getfield 107, 3) := by decide +kernel
theorem dX11_place_4 : decode mX11_place.2.1 4 = .ok (.ireturn, 1) := by decide +kernel
def fX11_place (σ : gS) : Option (Int32 × gS) :=
  some (σ.1 168 50, σ)
set_option maxHeartbeats 4000000 in
set_option maxRecDepth 100000 in
theorem pX11_place {E : gE} {r : Int32} {σ' : gS} {σ : gS} (h : fX11_place σ = some (r, σ')) : gG E mX11_place 0 [(0, .ref 168)] [] σ (some (.int r)) σ' := by
  unfold fX11_place at h
  refine g_aload_n dX11_place_0 rfl 0 rfl ?_
  refine g_getI dX11_place_1 gi_168 rfl fl_RX11_107 ?_
  obtain ⟨rfl, rfl⟩ := so_inj h
  exact g_iret dX11_place_4 rfl
theorem zX11_place {E : gE} {r : Int32} {σ σ' : gS} (h : fX11_place σ = some (r, σ')) : gC E mX11_place [.ref 168] σ (some (.int r)) σ' :=
  gC_of (by decide +kernel) rfl (Nat.le_of_ble_eq_true rfl) (pX11_place h)
theorem wl_RX11_396 : Cond.constantLong RX11 396 3 ∈ gWS := (gm 1686 (by decide +kernel) rfl)
def mX11_part : gM := (yX11_part, cX11_part, RX11, 4, (some .int), 1, 25)
theorem dX11_part_0 : decode mX11_part.2.1 0 = .ok (.iload_n 1, 1) := by decide +kernel
theorem dX11_part_1 : decode mX11_part.2.1 1 = .ok (.i2l, 1) := by decide +kernel
theorem dX11_part_2 : decode mX11_part.2.1 2 = .ok (.lconst 0, 1) := by decide +kernel
theorem dX11_part_3 : decode mX11_part.2.1 3 = .ok (.aload_n 0, 1) := by decide +kernel
theorem dX11_part_4 : decode mX11_part.2.1 4 = .ok (.getfield 371, 3) := by decide +kernel
theorem dX11_part_7 : decode mX11_part.2.1 7 = .ok (.iconst 1, 1) := by decide +kernel
theorem dX11_part_8 : decode mX11_part.2.1 8 = .ok (.isub, 1) := by decide +kernel
theorem dX11_part_9 : decode mX11_part.2.1 9 = .ok (.i2l, 1) := by decide +kernel
theorem dX11_part_10 : decode mX11_part.2.1 10 = .ok (.invokestatic 220, 3) := by decide +kernel
theorem dX11_part_13 : decode mX11_part.2.1 13 = .ok (.ifCond .eq 15, 3) := by decide +kernel
theorem dX11_part_16 : decode mX11_part.2.1 16 = .ok (.iload_n 2, 1) := by decide +kernel
theorem dX11_part_17 : decode mX11_part.2.1 17 = .ok (.i2l, 1) := by decide +kernel
theorem dX11_part_18 : decode mX11_part.2.1 18 = .ok (.lconst 0, 1) := by decide +kernel
theorem dX11_part_19 : decode mX11_part.2.1 19 = .ok (.ldc2_w 396, 3) := by decide +kernel
theorem dX11_part_22 : decode mX11_part.2.1 22 = .ok (.invokestatic 220, 3) := by decide +kernel
theorem dX11_part_25 : decode mX11_part.2.1 25 = .ok (.ifCond .ne 6, 3) := by decide +kernel
theorem dX11_part_28 : decode mX11_part.2.1 28 = .ok (.ldc 224, 2) := by decide +kernel
theorem dX11_part_30 : decode mX11_part.2.1 30 = .ok (.ireturn, 1) := by decide +kernel
theorem dX11_part_31 : decode mX11_part.2.1 31 = .ok (.aload_n 0, 1) := by decide +kernel
theorem dX11_part_32 : decode mX11_part.2.1 32 = .ok (.getfield 51, 3) := by decide +kernel
theorem dX11_part_35 : decode mX11_part.2.1 35 = .ok (.iload_n 1, 1) := by decide +kernel
theorem dX11_part_36 : decode mX11_part.2.1 36 = .ok (.iaload, 1) := by decide +kernel
theorem dX11_part_37 : decode mX11_part.2.1 37 = .ok (.istore_n 3, 1) := by decide +kernel
theorem dX11_part_38 : decode mX11_part.2.1 38 = .ok (.iload_n 2, 1) := by decide +kernel
theorem dX11_part_39 : decode mX11_part.2.1 39 = .ok (.iconst 2, 1) := by decide +kernel
theorem dX11_part_40 : decode mX11_part.2.1 40 = .ok (.if_icmp .ge 18, 3) := by decide +kernel
theorem dX11_part_43 : decode mX11_part.2.1 43 = .ok (.iload_n 2, 1) := by decide +kernel
theorem dX11_part_44 : decode mX11_part.2.1 44 = .ok (.ifCond .ne 12, 3) := by decide +kernel
theorem dX11_part_47 : decode mX11_part.2.1 47 = .ok (.aload_n 0, 1) := by decide +kernel
theorem dX11_part_48 : decode mX11_part.2.1 48 = .ok (.getfield 48, 3) := by decide +kernel
theorem dX11_part_51 : decode mX11_part.2.1 51 = .ok (.iload_n 1, 1) := by decide +kernel
theorem dX11_part_52 : decode mX11_part.2.1 52 = .ok (.iaload, 1) := by decide +kernel
theorem dX11_part_53 : decode mX11_part.2.1 53 = .ok (.goto 4, 3) := by decide +kernel
theorem dX11_part_56 : decode mX11_part.2.1 56 = .ok (.iload_n 3, 1) := by decide +kernel
theorem dX11_part_57 : decode mX11_part.2.1 57 = .ok (.ireturn, 1) := by decide +kernel
theorem dX11_part_58 : decode mX11_part.2.1 58 = .ok (.aload_n 0, 1) := by decide +kernel
theorem dX11_part_59 : decode mX11_part.2.1 59 = .ok (.getfield 48, 3) := by decide +kernel
theorem dX11_part_62 : decode mX11_part.2.1 62 = .ok (.iload_n 1, 1) := by decide +kernel
theorem dX11_part_63 : decode mX11_part.2.1 63 = .ok (.iaload, 1) := by decide +kernel
theorem dX11_part_64 : decode mX11_part.2.1 64 = .ok (.tableswitch 95 0 3 #[32, 32, 53, 74], 32) := by decide +kernel
theorem dX11_part_96 : decode mX11_part.2.1 96 = .ok (.iload_n 2, 1) := by decide +kernel
theorem dX11_part_97 : decode mX11_part.2.1 97 = .ok (.iconst 2, 1) := by decide +kernel
theorem dX11_part_98 : decode mX11_part.2.1 98 = .ok (.if_icmp .ne 12, 3) := by decide +kernel
theorem dX11_part_101 : decode mX11_part.2.1 101 = .ok (.aload_n 0, 1) := by decide +kernel
theorem dX11_part_102 : decode mX11_part.2.1 102 = .ok (.getfield 13, 3) := by decide +kernel
theorem dX11_part_105 : decode mX11_part.2.1 105 = .ok (.iload_n 3, 1) := by decide +kernel
theorem dX11_part_106 : decode mX11_part.2.1 106 = .ok (.iaload, 1) := by decide +kernel
theorem dX11_part_107 : decode mX11_part.2.1 107 = .ok (.goto 9, 3) := by decide +kernel
theorem dX11_part_110 : decode mX11_part.2.1 110 = .ok (.aload_n 0, 1) := by decide +kernel
theorem dX11_part_111 : decode mX11_part.2.1 111 = .ok (.getfield 17, 3) := by decide +kernel
theorem dX11_part_114 : decode mX11_part.2.1 114 = .ok (.iload_n 3, 1) := by decide +kernel
theorem dX11_part_115 : decode mX11_part.2.1 115 = .ok (.iaload, 1) := by decide +kernel
theorem dX11_part_116 : decode mX11_part.2.1 116 = .ok (.ireturn, 1) := by decide +kernel
theorem dX11_part_117 : decode mX11_part.2.1 117 = .ok (.iload_n 2, 1) := by decide +kernel
theorem dX11_part_118 : decode mX11_part.2.1 118 = .ok (.iconst 2, 1) := by decide +kernel
theorem dX11_part_119 : decode mX11_part.2.1 119 = .ok (.if_icmp .ne 12, 3) := by decide +kernel
theorem dX11_part_122 : decode mX11_part.2.1 122 = .ok (.aload_n 0, 1) := by decide +kernel
theorem dX11_part_123 : decode mX11_part.2.1 123 = .ok (.getfield 33, 3) := by decide +kernel
theorem dX11_part_126 : decode mX11_part.2.1 126 = .ok (.iload_n 3, 1) := by decide +kernel
theorem dX11_part_127 : decode mX11_part.2.1 127 = .ok (.iaload, 1) := by decide +kernel
theorem dX11_part_128 : decode mX11_part.2.1 128 = .ok (.goto 9, 3) := by decide +kernel
theorem dX11_part_131 : decode mX11_part.2.1 131 = .ok (.aload_n 0, 1) := by decide +kernel
theorem dX11_part_132 : decode mX11_part.2.1 132 = .ok (.getfield 36, 3) := by decide +kernel
theorem dX11_part_135 : decode mX11_part.2.1 135 = .ok (.iload_n 3, 1) := by decide +kernel
theorem dX11_part_136 : decode mX11_part.2.1 136 = .ok (.iaload, 1) := by decide +kernel
theorem dX11_part_137 : decode mX11_part.2.1 137 = .ok (.ireturn, 1) := by decide +kernel
theorem dX11_part_138 : decode mX11_part.2.1 138 = .ok (.iload_n 2, 1) := by decide +kernel
theorem dX11_part_139 : decode mX11_part.2.1 139 = .ok (.iconst 2, 1) := by decide +kernel
theorem dX11_part_140 : decode mX11_part.2.1 140 = .ok (.if_icmp .ne 12, 3) := by decide +kernel
theorem dX11_part_143 : decode mX11_part.2.1 143 = .ok (.aload_n 0, 1) := by decide +kernel
theorem dX11_part_144 : decode mX11_part.2.1 144 = .ok (.getfield 27, 3) := by decide +kernel
theorem dX11_part_147 : decode mX11_part.2.1 147 = .ok (.iload_n 3, 1) := by decide +kernel
theorem dX11_part_148 : decode mX11_part.2.1 148 = .ok (.iaload, 1) := by decide +kernel
theorem dX11_part_149 : decode mX11_part.2.1 149 = .ok (.goto 9, 3) := by decide +kernel
theorem dX11_part_152 : decode mX11_part.2.1 152 = .ok (.aload_n 0, 1) := by decide +kernel
theorem dX11_part_153 : decode mX11_part.2.1 153 = .ok (.getfield 30, 3) := by decide +kernel
theorem dX11_part_156 : decode mX11_part.2.1 156 = .ok (.iload_n 3, 1) := by decide +kernel
theorem dX11_part_157 : decode mX11_part.2.1 157 = .ok (.iaload, 1) := by decide +kernel
theorem dX11_part_158 : decode mX11_part.2.1 158 = .ok (.ireturn, 1) := by decide +kernel
theorem dX11_part_159 : decode mX11_part.2.1 159 = .ok (.iload_n 2, 1) := by decide +kernel
theorem dX11_part_160 : decode mX11_part.2.1 160 = .ok (.iconst 2, 1) := by decide +kernel
theorem dX11_part_161 : decode mX11_part.2.1 161 = .ok (.if_icmp .ne 12, 3) := by decide +kernel
theorem dX11_part_164 : decode mX11_part.2.1 164 = .ok (.aload_n 0, 1) := by decide +kernel
theorem dX11_part_165 : decode mX11_part.2.1 165 = .ok (.getfield 42, 3) := by decide +kernel
theorem dX11_part_168 : decode mX11_part.2.1 168 = .ok (.iload_n 3, 1) := by decide +kernel
theorem dX11_part_169 : decode mX11_part.2.1 169 = .ok (.iaload, 1) := by decide +kernel
theorem dX11_part_170 : decode mX11_part.2.1 170 = .ok (.goto 9, 3) := by decide +kernel
theorem dX11_part_173 : decode mX11_part.2.1 173 = .ok (.aload_n 0, 1) := by decide +kernel
theorem dX11_part_174 : decode mX11_part.2.1 174 = .ok (.getfield 45, 3) := by decide +kernel
theorem dX11_part_177 : decode mX11_part.2.1 177 = .ok (.iload_n 3, 1) := by decide +kernel
theorem dX11_part_178 : decode mX11_part.2.1 178 = .ok (.iaload, 1) := by decide +kernel
theorem dX11_part_179 : decode mX11_part.2.1 179 = .ok (.ireturn, 1) := by decide +kernel
theorem okX11_part_220 : gOkS mX11_part mX11_in 220 3 := ⟨List.forall_mem_cons.mpr ⟨(gm 1539 (by decide +kernel) rfl), List.forall_mem_cons.mpr ⟨(gm 1537 (by decide +kernel) rfl), List.forall_mem_cons.mpr ⟨(gm 1538 (by decide +kernel) rfl), List.forall_mem_cons.mpr ⟨(gm 122 (by decide +kernel) rfl), fun _ h => absurd h List.not_mem_nil⟩⟩⟩⟩, by decide +kernel, by decide +kernel, by decide +kernel⟩
def fX11_part_28 (p1 : Int32) (p2 : Int32) (σ : gS) : Option (Int32 × gS) :=
  some ((-1000001), σ)
set_option maxHeartbeats 4000000 in
set_option maxRecDepth 100000 in
theorem pX11_part_28 {E : gE} {p1 : Int32} {p2 : Int32} {r : Int32} {σ' : gS} {σ : gS} (h : fX11_part_28 p1 p2 σ = some (r, σ')) : gG E mX11_part 28 [] [] σ (some (.int r)) σ' := by
  unfold fX11_part_28 at h
  refine g_ldc (v := (-1000001)) dX11_part_28 wc_RX11_224 ?_
  obtain ⟨rfl, rfl⟩ := so_inj h
  exact g_iret dX11_part_30 rfl
def fX11_part_57 (p1 : Int32) (p2 : Int32) (s0 : Int32) (σ : gS) : Option (Int32 × gS) :=
  some (s0, σ)
set_option maxHeartbeats 4000000 in
set_option maxRecDepth 100000 in
theorem pX11_part_57 {E : gE} {p1 : Int32} {p2 : Int32} {r : Int32} {σ' : gS} {s0 : Int32} {σ : gS} (h : fX11_part_57 p1 p2 s0 σ = some (r, σ')) : gG E mX11_part 57 [] [.int s0] σ (some (.int r)) σ' := by
  unfold fX11_part_57 at h
  obtain ⟨rfl, rfl⟩ := so_inj h
  exact g_iret dX11_part_57 rfl
def fX11_part_116 (p1 : Int32) (p2 : Int32) (s0 : Int32) (σ : gS) : Option (Int32 × gS) :=
  some (s0, σ)
set_option maxHeartbeats 4000000 in
set_option maxRecDepth 100000 in
theorem pX11_part_116 {E : gE} {p1 : Int32} {p2 : Int32} {r : Int32} {σ' : gS} {s0 : Int32} {σ : gS} (h : fX11_part_116 p1 p2 s0 σ = some (r, σ')) : gG E mX11_part 116 [] [.int s0] σ (some (.int r)) σ' := by
  unfold fX11_part_116 at h
  obtain ⟨rfl, rfl⟩ := so_inj h
  exact g_iret dX11_part_116 rfl
def fX11_part_96 (p1 : Int32) (p2 : Int32) (v3 : Int32) (σ : gS) : Option (Int32 × gS) :=
  if p2 = 2 then
    gg (¬ (v3 < 0 ∨ 24 ≤ v3.toNatClampNeg)) (
    fX11_part_116 p1 p2 (σ.1 170 v3.toNatClampNeg) σ)
  else
    gg (¬ (v3 < 0 ∨ 24 ≤ v3.toNatClampNeg)) (
    fX11_part_116 p1 p2 (σ.1 171 v3.toNatClampNeg) σ)
set_option maxHeartbeats 4000000 in
set_option maxRecDepth 100000 in
theorem pX11_part_96 {E : gE} {p1 : Int32} {p2 : Int32} {r : Int32} {σ' : gS} {v3 : Int32} {σ : gS} (h : fX11_part_96 p1 p2 v3 σ = some (r, σ')) : gG E mX11_part 96 [(0, .ref 168), (2, .int p2), (3, .int v3)] [] σ (some (.int r)) σ' := by
  unfold fX11_part_96 at h
  refine g_iload_n dX11_part_96 rfl 1 rfl ?_
  refine g_iconst (v := 2) dX11_part_97 (by decide) ?_
  refine g_icmp_ne (t := 110) dX11_part_98 (by decide) (fun c1 => ?_) (fun c1 => ?_)
  · replace h := if_f h c1
    refine g_aload_n dX11_part_110 rfl 0 rfl ?_
    refine g_getC (n := 171) dX11_part_111 gi_168 rfl fl_RX11_17 ?_
    refine g_iload_n dX11_part_114 rfl 2 rfl ?_
    obtain ⟨g2, h⟩ := gg_some h
    refine g_iald dX11_part_115 gi_171 g2 ?_
    refine g_sub [] rfl ?_
    exact pX11_part_116 h
  · replace h := if_t h c1
    refine g_aload_n dX11_part_101 rfl 0 rfl ?_
    refine g_getC (n := 170) dX11_part_102 gi_168 rfl fl_RX11_13 ?_
    refine g_iload_n dX11_part_105 rfl 2 rfl ?_
    obtain ⟨g3, h⟩ := gg_some h
    refine g_iald dX11_part_106 gi_170 g3 ?_
    refine g_goto (t := 116) dX11_part_107 (by decide) ?_
    refine g_sub [] rfl ?_
    exact pX11_part_116 h
def fX11_part_137 (p1 : Int32) (p2 : Int32) (s0 : Int32) (σ : gS) : Option (Int32 × gS) :=
  some (s0, σ)
set_option maxHeartbeats 4000000 in
set_option maxRecDepth 100000 in
theorem pX11_part_137 {E : gE} {p1 : Int32} {p2 : Int32} {r : Int32} {σ' : gS} {s0 : Int32} {σ : gS} (h : fX11_part_137 p1 p2 s0 σ = some (r, σ')) : gG E mX11_part 137 [] [.int s0] σ (some (.int r)) σ' := by
  unfold fX11_part_137 at h
  obtain ⟨rfl, rfl⟩ := so_inj h
  exact g_iret dX11_part_137 rfl
def fX11_part_158 (p1 : Int32) (p2 : Int32) (s0 : Int32) (σ : gS) : Option (Int32 × gS) :=
  some (s0, σ)
set_option maxHeartbeats 4000000 in
set_option maxRecDepth 100000 in
theorem pX11_part_158 {E : gE} {p1 : Int32} {p2 : Int32} {r : Int32} {σ' : gS} {s0 : Int32} {σ : gS} (h : fX11_part_158 p1 p2 s0 σ = some (r, σ')) : gG E mX11_part 158 [] [.int s0] σ (some (.int r)) σ' := by
  unfold fX11_part_158 at h
  obtain ⟨rfl, rfl⟩ := so_inj h
  exact g_iret dX11_part_158 rfl
def fX11_part_179 (p1 : Int32) (p2 : Int32) (s0 : Int32) (σ : gS) : Option (Int32 × gS) :=
  some (s0, σ)
set_option maxHeartbeats 4000000 in
set_option maxRecDepth 100000 in
theorem pX11_part_179 {E : gE} {p1 : Int32} {p2 : Int32} {r : Int32} {σ' : gS} {s0 : Int32} {σ : gS} (h : fX11_part_179 p1 p2 s0 σ = some (r, σ')) : gG E mX11_part 179 [] [.int s0] σ (some (.int r)) σ' := by
  unfold fX11_part_179 at h
  obtain ⟨rfl, rfl⟩ := so_inj h
  exact g_iret dX11_part_179 rfl
def fX11_part (p1 : Int32) (p2 : Int32) (σ : gS) : Option (Int32 × gS) :=
  bd (fX11_in p1.toInt64 0 (((σ.1 168 16) - 1).toInt64) σ) fun x1 σ2 =>
  if x1 = 0 then
    fX11_part_28 p1 p2 σ2
  else
    bd (fX11_in p2.toInt64 0 3 σ2) fun x5 σ6 =>
    if x5 = 0 then
      fX11_part_28 p1 p2 σ6
    else
      gg (¬ (p1 < 0 ∨ 130 ≤ p1.toNatClampNeg)) (
      if 2 ≤ p2 then
        gg (¬ (p1 < 0 ∨ 130 ≤ p1.toNatClampNeg)) (
        if (σ6.1 181 p1.toNatClampNeg) = 0 then
          fX11_part_96 p1 p2 (σ6.1 182 p1.toNatClampNeg) σ6
        else
          if (σ6.1 181 p1.toNatClampNeg) = 1 then
          fX11_part_96 p1 p2 (σ6.1 182 p1.toNatClampNeg) σ6
        else
          if (σ6.1 181 p1.toNatClampNeg) = 2 then
          if p2 = 2 then
                gg (¬ (σ6.1 182 p1.toNatClampNeg < 0 ∨ 60 ≤ (σ6.1 182 p1.toNatClampNeg).toNatClampNeg)) (
                fX11_part_137 p1 p2 (σ6.1 176 ((σ6.1 182 p1.toNatClampNeg).toNatClampNeg)) σ6)
              else
                gg (¬ (σ6.1 182 p1.toNatClampNeg < 0 ∨ 60 ≤ (σ6.1 182 p1.toNatClampNeg).toNatClampNeg)) (
                fX11_part_137 p1 p2 (σ6.1 177 ((σ6.1 182 p1.toNatClampNeg).toNatClampNeg)) σ6)
        else
          if (σ6.1 181 p1.toNatClampNeg) = 3 then
          if p2 = 2 then
                  gg (¬ (σ6.1 182 p1.toNatClampNeg < 0 ∨ 16 ≤ (σ6.1 182 p1.toNatClampNeg).toNatClampNeg)) (
                  fX11_part_158 p1 p2 (σ6.1 174 ((σ6.1 182 p1.toNatClampNeg).toNatClampNeg)) σ6)
                else
                  gg (¬ (σ6.1 182 p1.toNatClampNeg < 0 ∨ 16 ≤ (σ6.1 182 p1.toNatClampNeg).toNatClampNeg)) (
                  fX11_part_158 p1 p2 (σ6.1 175 ((σ6.1 182 p1.toNatClampNeg).toNatClampNeg)) σ6)
        else
          if p2 = 2 then
                  gg (¬ (σ6.1 182 p1.toNatClampNeg < 0 ∨ 30 ≤ (σ6.1 182 p1.toNatClampNeg).toNatClampNeg)) (
                  fX11_part_179 p1 p2 (σ6.1 179 ((σ6.1 182 p1.toNatClampNeg).toNatClampNeg)) σ6)
                else
                  gg (¬ (σ6.1 182 p1.toNatClampNeg < 0 ∨ 30 ≤ (σ6.1 182 p1.toNatClampNeg).toNatClampNeg)) (
                  fX11_part_179 p1 p2 (σ6.1 180 ((σ6.1 182 p1.toNatClampNeg).toNatClampNeg)) σ6))
      else
        if p2 = 0 then
          gg (¬ (p1 < 0 ∨ 130 ≤ p1.toNatClampNeg)) (
          fX11_part_57 p1 p2 (σ6.1 181 p1.toNatClampNeg) σ6)
        else
          fX11_part_57 p1 p2 (σ6.1 182 p1.toNatClampNeg) σ6)
set_option maxHeartbeats 4000000 in
set_option maxRecDepth 100000 in
theorem pX11_part {E : gE} {p1 : Int32} {p2 : Int32} {r : Int32} {σ' : gS} {σ : gS} (h : fX11_part p1 p2 σ = some (r, σ')) : gG E mX11_part 0 [(0, .ref 168), (1, .int p1), (2, .int p2)] [] σ (some (.int r)) σ' := by
  unfold fX11_part at h
  refine g_iload_n dX11_part_0 rfl 1 rfl ?_
  refine g_i2l dX11_part_1 ?_
  refine g_lconst (v := 0) dX11_part_2 (by decide) ?_
  refine g_aload_n dX11_part_3 rfl 0 rfl ?_
  refine g_getI dX11_part_4 gi_168 rfl fl_RX11_371 ?_
  refine g_iconst (v := 1) dX11_part_7 (by decide) ?_
  refine g_isub dX11_part_8 ?_
  refine g_i2l dX11_part_9 ?_
  obtain ⟨x1, σ2, y3, h⟩ := bd_some h
  refine g_callSr (as := [.long p1.toInt64, .long 0, .long (((σ.1 168 16) - 1).toInt64)]) (st := []) (zX11_in y3) dX11_part_10 okX11_part_220 (Nat.le_of_ble_eq_true rfl) ?_
  refine g_if_eq (t := 28) dX11_part_13 (by decide) (fun c4 => ?_) (fun c4 => ?_)
  · replace h := if_t h c4
    refine g_sub [] rfl ?_
    exact pX11_part_28 h
  · replace h := if_f h c4
    refine g_iload_n dX11_part_16 rfl 2 rfl ?_
    refine g_i2l dX11_part_17 ?_
    refine g_lconst (v := 0) dX11_part_18 (by decide) ?_
    refine g_ldc2 (v := 3) dX11_part_19 wl_RX11_396 ?_
    obtain ⟨x5, σ6, y7, h⟩ := bd_some h
    refine g_callSr (as := [.long p2.toInt64, .long 0, .long 3]) (st := []) (zX11_in y7) dX11_part_22 okX11_part_220 (Nat.le_of_ble_eq_true rfl) ?_
    refine g_if_ne (t := 31) dX11_part_25 (by decide) (fun c8 => ?_) (fun c8 => ?_)
    · replace h := if_f h c8
      refine g_aload_n dX11_part_31 rfl 0 rfl ?_
      refine g_getC (n := 182) dX11_part_32 gi_168 rfl fl_RX11_51 ?_
      refine g_iload_n dX11_part_35 rfl 1 rfl ?_
      obtain ⟨g9, h⟩ := gg_some h
      refine g_iald dX11_part_36 gi_182 g9 ?_
      refine g_istore_n (lv' := [(3, .int (σ6.1 182 p1.toNatClampNeg)), (0, .ref 168), (1, .int p1), (2, .int p2)]) dX11_part_37 rfl (Nat.le_of_ble_eq_true rfl) rfl ?_
      refine g_iload_n dX11_part_38 rfl 3 rfl ?_
      refine g_iconst (v := 2) dX11_part_39 (by decide) ?_
      refine g_icmp_ge (t := 58) dX11_part_40 (by decide) (fun c10 => ?_) (fun c10 => ?_)
      · replace h := if_t h c10
        refine g_aload_n dX11_part_58 rfl 1 rfl ?_
        refine g_getC (n := 181) dX11_part_59 gi_168 rfl fl_RX11_48 ?_
        refine g_iload_n dX11_part_62 rfl 2 rfl ?_
        obtain ⟨g11, h⟩ := gg_some h
        refine g_iald dX11_part_63 gi_181 g11 ?_
        by_cases c12 : (σ6.1 181 p1.toNatClampNeg) = 0
        · replace h := if_t h c12
          refine g_tabIn (off := 32) (t := 96) dX11_part_64 (by rw [c12]; decide) (by rw [c12]; decide) (by rw [c12]; first | done | rfl) (by decide) ?_
          refine g_sub [1, 3, 0] rfl ?_
          exact pX11_part_96 h
        · replace h := if_f h c12
          by_cases c13 : (σ6.1 181 p1.toNatClampNeg) = 1
          · replace h := if_t h c13
            refine g_tabIn (off := 32) (t := 96) dX11_part_64 (by rw [c13]; decide) (by rw [c13]; decide) (by rw [c13]; first | done | rfl) (by decide) ?_
            refine g_sub [1, 3, 0] rfl ?_
            exact pX11_part_96 h
          · replace h := if_f h c13
            by_cases c14 : (σ6.1 181 p1.toNatClampNeg) = 2
            · replace h := if_t h c14
              refine g_tabIn (off := 53) (t := 117) dX11_part_64 (by rw [c14]; decide) (by rw [c14]; decide) (by rw [c14]; first | done | rfl) (by decide) ?_
              refine g_iload_n dX11_part_117 rfl 3 rfl ?_
              refine g_iconst (v := 2) dX11_part_118 (by decide) ?_
              refine g_icmp_ne (t := 131) dX11_part_119 (by decide) (fun c15 => ?_) (fun c15 => ?_)
              · replace h := if_f h c15
                refine g_aload_n dX11_part_131 rfl 1 rfl ?_
                refine g_getC (n := 177) dX11_part_132 gi_168 rfl fl_RX11_36 ?_
                refine g_iload_n dX11_part_135 rfl 0 rfl ?_
                obtain ⟨g16, h⟩ := gg_some h
                refine g_iald dX11_part_136 gi_177 g16 ?_
                refine g_sub [] rfl ?_
                exact pX11_part_137 h
              · replace h := if_t h c15
                refine g_aload_n dX11_part_122 rfl 1 rfl ?_
                refine g_getC (n := 176) dX11_part_123 gi_168 rfl fl_RX11_33 ?_
                refine g_iload_n dX11_part_126 rfl 0 rfl ?_
                obtain ⟨g17, h⟩ := gg_some h
                refine g_iald dX11_part_127 gi_176 g17 ?_
                refine g_goto (t := 137) dX11_part_128 (by decide) ?_
                refine g_sub [] rfl ?_
                exact pX11_part_137 h
            · replace h := if_f h c14
              by_cases c18 : (σ6.1 181 p1.toNatClampNeg) = 3
              · replace h := if_t h c18
                refine g_tabIn (off := 74) (t := 138) dX11_part_64 (by rw [c18]; decide) (by rw [c18]; decide) (by rw [c18]; first | done | rfl) (by decide) ?_
                refine g_iload_n dX11_part_138 rfl 3 rfl ?_
                refine g_iconst (v := 2) dX11_part_139 (by decide) ?_
                refine g_icmp_ne (t := 152) dX11_part_140 (by decide) (fun c19 => ?_) (fun c19 => ?_)
                · replace h := if_f h c19
                  refine g_aload_n dX11_part_152 rfl 1 rfl ?_
                  refine g_getC (n := 175) dX11_part_153 gi_168 rfl fl_RX11_30 ?_
                  refine g_iload_n dX11_part_156 rfl 0 rfl ?_
                  obtain ⟨g20, h⟩ := gg_some h
                  refine g_iald dX11_part_157 gi_175 g20 ?_
                  refine g_sub [] rfl ?_
                  exact pX11_part_158 h
                · replace h := if_t h c19
                  refine g_aload_n dX11_part_143 rfl 1 rfl ?_
                  refine g_getC (n := 174) dX11_part_144 gi_168 rfl fl_RX11_27 ?_
                  refine g_iload_n dX11_part_147 rfl 0 rfl ?_
                  obtain ⟨g21, h⟩ := gg_some h
                  refine g_iald dX11_part_148 gi_174 g21 ?_
                  refine g_goto (t := 158) dX11_part_149 (by decide) ?_
                  refine g_sub [] rfl ?_
                  exact pX11_part_158 h
              · replace h := if_f h c18
                have nc12 := lv_neT (a := 0) c12 (by decide)
                have nc13 := lv_neT (a := 1) c13 (by decide)
                have nc14 := lv_neT (a := 2) c14 (by decide)
                have nc18 := lv_neT (a := 3) c18 (by decide)
                refine g_tabOut (t := 159) dX11_part_64 (by omega) (by decide) ?_
                refine g_iload_n dX11_part_159 rfl 3 rfl ?_
                refine g_iconst (v := 2) dX11_part_160 (by decide) ?_
                refine g_icmp_ne (t := 173) dX11_part_161 (by decide) (fun c22 => ?_) (fun c22 => ?_)
                · replace h := if_f h c22
                  refine g_aload_n dX11_part_173 rfl 1 rfl ?_
                  refine g_getC (n := 180) dX11_part_174 gi_168 rfl fl_RX11_45 ?_
                  refine g_iload_n dX11_part_177 rfl 0 rfl ?_
                  obtain ⟨g23, h⟩ := gg_some h
                  refine g_iald dX11_part_178 gi_180 g23 ?_
                  refine g_sub [] rfl ?_
                  exact pX11_part_179 h
                · replace h := if_t h c22
                  refine g_aload_n dX11_part_164 rfl 1 rfl ?_
                  refine g_getC (n := 179) dX11_part_165 gi_168 rfl fl_RX11_42 ?_
                  refine g_iload_n dX11_part_168 rfl 0 rfl ?_
                  obtain ⟨g24, h⟩ := gg_some h
                  refine g_iald dX11_part_169 gi_179 g24 ?_
                  refine g_goto (t := 179) dX11_part_170 (by decide) ?_
                  refine g_sub [] rfl ?_
                  exact pX11_part_179 h
      · replace h := if_f h c10
        refine g_iload_n dX11_part_43 rfl 3 rfl ?_
        refine g_if_ne (t := 56) dX11_part_44 (by decide) (fun c25 => ?_) (fun c25 => ?_)
        · replace h := if_f h c25
          refine g_iload_n dX11_part_56 rfl 0 rfl ?_
          refine g_sub [] rfl ?_
          exact pX11_part_57 h
        · replace h := if_t h c25
          refine g_aload_n dX11_part_47 rfl 1 rfl ?_
          refine g_getC (n := 181) dX11_part_48 gi_168 rfl fl_RX11_48 ?_
          refine g_iload_n dX11_part_51 rfl 2 rfl ?_
          obtain ⟨g26, h⟩ := gg_some h
          refine g_iald dX11_part_52 gi_181 g26 ?_
          refine g_goto (t := 57) dX11_part_53 (by decide) ?_
          refine g_sub [] rfl ?_
          exact pX11_part_57 h
    · replace h := if_t h c8
      refine g_sub [] rfl ?_
      exact pX11_part_28 h
theorem zX11_part {E : gE} {p1 : Int32} {p2 : Int32} {r : Int32} {σ σ' : gS} (h : fX11_part p1 p2 σ = some (r, σ')) : gC E mX11_part [.ref 168, .int p1, .int p2] σ (some (.int r)) σ' :=
  gC_of (by decide +kernel) rfl (Nat.le_of_ble_eq_true rfl) (pX11_part h)
def mX11_isBar : gM := (yX11_isBar, cX11_isBar, RX11, 2, (some .boolean), 1, 25)
theorem dX11_isBar_0 : decode mX11_isBar.2.1 0 = .ok (.iload_n 1, 1) := by decide +kernel
theorem dX11_isBar_1 : decode mX11_isBar.2.1 1 = .ok (.i2l, 1) := by decide +kernel
theorem dX11_isBar_2 : decode mX11_isBar.2.1 2 = .ok (.lconst 0, 1) := by decide +kernel
theorem dX11_isBar_3 : decode mX11_isBar.2.1 3 = .ok (.aload_n 0, 1) := by decide +kernel
theorem dX11_isBar_4 : decode mX11_isBar.2.1 4 = .ok (.getfield 380, 3) := by decide +kernel
theorem dX11_isBar_7 : decode mX11_isBar.2.1 7 = .ok (.iconst 1, 1) := by decide +kernel
theorem dX11_isBar_8 : decode mX11_isBar.2.1 8 = .ok (.isub, 1) := by decide +kernel
theorem dX11_isBar_9 : decode mX11_isBar.2.1 9 = .ok (.i2l, 1) := by decide +kernel
theorem dX11_isBar_10 : decode mX11_isBar.2.1 10 = .ok (.invokestatic 220, 3) := by decide +kernel
theorem dX11_isBar_13 : decode mX11_isBar.2.1 13 = .ok (.ireturn, 1) := by decide +kernel
theorem okX11_isBar_220 : gOkS mX11_isBar mX11_in 220 3 := ⟨List.forall_mem_cons.mpr ⟨(gm 1539 (by decide +kernel) rfl), List.forall_mem_cons.mpr ⟨(gm 1537 (by decide +kernel) rfl), List.forall_mem_cons.mpr ⟨(gm 1538 (by decide +kernel) rfl), List.forall_mem_cons.mpr ⟨(gm 122 (by decide +kernel) rfl), fun _ h => absurd h List.not_mem_nil⟩⟩⟩⟩, by decide +kernel, by decide +kernel, by decide +kernel⟩
def fX11_isBar (p1 : Int32) (σ : gS) : Option (Int32 × gS) :=
  bd (fX11_in p1.toInt64 0 (((σ.1 168 9) - 1).toInt64) σ) fun x1 σ2 =>
  gg (x1 = 0 ∨ x1 = 1) (
  some (x1, σ2))
set_option maxHeartbeats 4000000 in
set_option maxRecDepth 100000 in
theorem pX11_isBar {E : gE} {p1 : Int32} {r : Int32} {σ' : gS} {σ : gS} (h : fX11_isBar p1 σ = some (r, σ')) : gG E mX11_isBar 0 [(0, .ref 168), (1, .int p1)] [] σ (some (.int r)) σ' := by
  unfold fX11_isBar at h
  refine g_iload_n dX11_isBar_0 rfl 1 rfl ?_
  refine g_i2l dX11_isBar_1 ?_
  refine g_lconst (v := 0) dX11_isBar_2 (by decide) ?_
  refine g_aload_n dX11_isBar_3 rfl 0 rfl ?_
  refine g_getI dX11_isBar_4 gi_168 rfl fl_RX11_380 ?_
  refine g_iconst (v := 1) dX11_isBar_7 (by decide) ?_
  refine g_isub dX11_isBar_8 ?_
  refine g_i2l dX11_isBar_9 ?_
  obtain ⟨x1, σ2, y3, h⟩ := bd_some h
  refine g_callSr (as := [.long p1.toInt64, .long 0, .long (((σ.1 168 9) - 1).toInt64)]) (st := []) (zX11_in y3) dX11_isBar_10 okX11_isBar_220 (Nat.le_of_ble_eq_true rfl) ?_
  obtain ⟨g4, h⟩ := gg_some h
  obtain ⟨rfl, rfl⟩ := so_inj h
  exact g_zret dX11_isBar_13 rfl g4
theorem zX11_isBar {E : gE} {p1 : Int32} {r : Int32} {σ σ' : gS} (h : fX11_isBar p1 σ = some (r, σ')) : gC E mX11_isBar [.ref 168, .int p1] σ (some (.int r)) σ' :=
  gC_of (by decide +kernel) rfl (Nat.le_of_ble_eq_true rfl) (pX11_isBar h)
def mX11_isJoint : gM := (yX11_isJoint, cX11_isJoint, RX11, 2, (some .boolean), 1, 25)
theorem dX11_isJoint_0 : decode mX11_isJoint.2.1 0 = .ok (.iload_n 1, 1) := by decide +kernel
theorem dX11_isJoint_1 : decode mX11_isJoint.2.1 1 = .ok (.i2l, 1) := by decide +kernel
theorem dX11_isJoint_2 : decode mX11_isJoint.2.1 2 = .ok (.lconst 0, 1) := by decide +kernel
theorem dX11_isJoint_3 : decode mX11_isJoint.2.1 3 = .ok (.aload_n 0, 1) := by decide +kernel
theorem dX11_isJoint_4 : decode mX11_isJoint.2.1 4 = .ok (.getfield 374, 3) := by decide +kernel
theorem dX11_isJoint_7 : decode mX11_isJoint.2.1 7 = .ok (.iconst 1, 1) := by decide +kernel
theorem dX11_isJoint_8 : decode mX11_isJoint.2.1 8 = .ok (.isub, 1) := by decide +kernel
theorem dX11_isJoint_9 : decode mX11_isJoint.2.1 9 = .ok (.i2l, 1) := by decide +kernel
theorem dX11_isJoint_10 : decode mX11_isJoint.2.1 10 = .ok (.invokestatic 220, 3) := by decide +kernel
theorem dX11_isJoint_13 : decode mX11_isJoint.2.1 13 = .ok (.ireturn, 1) := by decide +kernel
theorem okX11_isJoint_220 : gOkS mX11_isJoint mX11_in 220 3 := ⟨List.forall_mem_cons.mpr ⟨(gm 1539 (by decide +kernel) rfl), List.forall_mem_cons.mpr ⟨(gm 1537 (by decide +kernel) rfl), List.forall_mem_cons.mpr ⟨(gm 1538 (by decide +kernel) rfl), List.forall_mem_cons.mpr ⟨(gm 122 (by decide +kernel) rfl), fun _ h => absurd h List.not_mem_nil⟩⟩⟩⟩, by decide +kernel, by decide +kernel, by decide +kernel⟩
def fX11_isJoint (p1 : Int32) (σ : gS) : Option (Int32 × gS) :=
  bd (fX11_in p1.toInt64 0 (((σ.1 168 0) - 1).toInt64) σ) fun x1 σ2 =>
  gg (x1 = 0 ∨ x1 = 1) (
  some (x1, σ2))
set_option maxHeartbeats 4000000 in
set_option maxRecDepth 100000 in
theorem pX11_isJoint {E : gE} {p1 : Int32} {r : Int32} {σ' : gS} {σ : gS} (h : fX11_isJoint p1 σ = some (r, σ')) : gG E mX11_isJoint 0 [(0, .ref 168), (1, .int p1)] [] σ (some (.int r)) σ' := by
  unfold fX11_isJoint at h
  refine g_iload_n dX11_isJoint_0 rfl 1 rfl ?_
  refine g_i2l dX11_isJoint_1 ?_
  refine g_lconst (v := 0) dX11_isJoint_2 (by decide) ?_
  refine g_aload_n dX11_isJoint_3 rfl 0 rfl ?_
  refine g_getI dX11_isJoint_4 gi_168 rfl fl_RX11_374 ?_
  refine g_iconst (v := 1) dX11_isJoint_7 (by decide) ?_
  refine g_isub dX11_isJoint_8 ?_
  refine g_i2l dX11_isJoint_9 ?_
  obtain ⟨x1, σ2, y3, h⟩ := bd_some h
  refine g_callSr (as := [.long p1.toInt64, .long 0, .long (((σ.1 168 0) - 1).toInt64)]) (st := []) (zX11_in y3) dX11_isJoint_10 okX11_isJoint_220 (Nat.le_of_ble_eq_true rfl) ?_
  obtain ⟨g4, h⟩ := gg_some h
  obtain ⟨rfl, rfl⟩ := so_inj h
  exact g_zret dX11_isJoint_13 rfl g4
theorem zX11_isJoint {E : gE} {p1 : Int32} {r : Int32} {σ σ' : gS} (h : fX11_isJoint p1 σ = some (r, σ')) : gC E mX11_isJoint [.ref 168, .int p1] σ (some (.int r)) σ' :=
  gC_of (by decide +kernel) rfl (Nat.le_of_ble_eq_true rfl) (pX11_isJoint h)
def mX11_needed : gM := (yX11_needed, cX11_needed, RX11, 2, (some .int), 2, 46)
theorem dX11_needed_0 : decode mX11_needed.2.1 0 = .ok (.aload_n 0, 1) := by decide +kernel
theorem dX11_needed_1 : decode mX11_needed.2.1 1 = .ok (.iload_n 1, 1) := by decide +kernel
theorem dX11_needed_2 : decode mX11_needed.2.1 2 = .ok (.invokevirtual 416, 3) := by decide +kernel
theorem dX11_needed_5 : decode mX11_needed.2.1 5 = .ok (.ifCond .ne 8, 3) := by decide +kernel
theorem dX11_needed_8 : decode mX11_needed.2.1 8 = .ok (.ldc 224, 2) := by decide +kernel
theorem dX11_needed_10 : decode mX11_needed.2.1 10 = .ok (.goto 22, 3) := by decide +kernel
theorem dX11_needed_13 : decode mX11_needed.2.1 13 = .ok (.aload_n 0, 1) := by decide +kernel
theorem dX11_needed_14 : decode mX11_needed.2.1 14 = .ok (.getfield 116, 3) := by decide +kernel
theorem dX11_needed_17 : decode mX11_needed.2.1 17 = .ok (.aload_n 0, 1) := by decide +kernel
theorem dX11_needed_18 : decode mX11_needed.2.1 18 = .ok (.getfield 407, 3) := by decide +kernel
theorem dX11_needed_21 : decode mX11_needed.2.1 21 = .ok (.iload_n 1, 1) := by decide +kernel
theorem dX11_needed_22 : decode mX11_needed.2.1 22 = .ok (.iadd, 1) := by decide +kernel
theorem dX11_needed_23 : decode mX11_needed.2.1 23 = .ok (.iaload, 1) := by decide +kernel
theorem dX11_needed_24 : decode mX11_needed.2.1 24 = .ok (.ifCond .lt 7, 3) := by decide +kernel
theorem dX11_needed_27 : decode mX11_needed.2.1 27 = .ok (.iconst 1, 1) := by decide +kernel
theorem dX11_needed_28 : decode mX11_needed.2.1 28 = .ok (.goto 4, 3) := by decide +kernel
theorem dX11_needed_31 : decode mX11_needed.2.1 31 = .ok (.iconst 0, 1) := by decide +kernel
theorem dX11_needed_32 : decode mX11_needed.2.1 32 = .ok (.ireturn, 1) := by decide +kernel
theorem okX11_needed_416 : gOkV mX11_needed mX11_isBar 416 1 := ⟨List.forall_mem_cons.mpr ⟨(gm 1694 (by decide +kernel) rfl), List.forall_mem_cons.mpr ⟨(gm 1691 (by decide +kernel) rfl), List.forall_mem_cons.mpr ⟨(gm 1693 (by decide +kernel) rfl), List.forall_mem_cons.mpr ⟨(gm 87 (by decide +kernel) rfl), List.forall_mem_cons.mpr ⟨(gm 122 (by decide +kernel) rfl), fun _ h => absurd h List.not_mem_nil⟩⟩⟩⟩⟩, by decide +kernel, by decide +kernel, by decide +kernel⟩
def fX11_needed_32 (p1 : Int32) (s0 : Int32) (σ : gS) : Option (Int32 × gS) :=
  some (s0, σ)
set_option maxHeartbeats 4000000 in
set_option maxRecDepth 100000 in
theorem pX11_needed_32 {E : gE} {p1 : Int32} {r : Int32} {σ' : gS} {s0 : Int32} {σ : gS} (h : fX11_needed_32 p1 s0 σ = some (r, σ')) : gG E mX11_needed 32 [] [.int s0] σ (some (.int r)) σ' := by
  unfold fX11_needed_32 at h
  obtain ⟨rfl, rfl⟩ := so_inj h
  exact g_iret dX11_needed_32 rfl
def fX11_needed (p1 : Int32) (σ : gS) : Option (Int32 × gS) :=
  bd (fX11_isBar p1 σ) fun x1 σ2 =>
  if x1 = 0 then
    fX11_needed_32 p1 (-1000001) σ2
  else
    bnd ((σ2.1 168 52) + p1) fun x5 =>
    gg (¬ (x5 < 0 ∨ 106 ≤ x5.toNatClampNeg)) (
    if (σ2.1 200 x5.toNatClampNeg) < 0 then
      fX11_needed_32 p1 0 σ2
    else
      fX11_needed_32 p1 1 σ2)
set_option maxHeartbeats 4000000 in
set_option maxRecDepth 100000 in
theorem pX11_needed {E : gE} {p1 : Int32} {r : Int32} {σ' : gS} {σ : gS} (h : fX11_needed p1 σ = some (r, σ')) : gG E mX11_needed 0 [(0, .ref 168), (1, .int p1)] [] σ (some (.int r)) σ' := by
  unfold fX11_needed at h
  refine g_aload_n dX11_needed_0 rfl 0 rfl ?_
  refine g_iload_n dX11_needed_1 rfl 1 rfl ?_
  obtain ⟨x1, σ2, y3, h⟩ := bd_some h
  refine g_callVr (as := [.int p1]) (st := []) (zX11_isBar y3) dX11_needed_2 gi_168 rfl okX11_needed_416 (Nat.le_of_ble_eq_true rfl) ?_
  refine g_if_ne (t := 13) dX11_needed_5 (by decide) (fun c4 => ?_) (fun c4 => ?_)
  · replace h := if_f h c4
    refine g_aload_n dX11_needed_13 rfl 0 rfl ?_
    refine g_getC (n := 200) dX11_needed_14 gi_168 rfl fl_RX11_116 ?_
    refine g_aload_n dX11_needed_17 rfl 0 rfl ?_
    refine g_getI dX11_needed_18 gi_168 rfl fl_RX11_407 ?_
    refine g_iload_n dX11_needed_21 rfl 1 rfl ?_
    refine g_iadd dX11_needed_22 ?_
    obtain ⟨x5, ex5, h⟩ := bnd_nm h
    refine g_topi ex5 ?_
    obtain ⟨g6, h⟩ := gg_some h
    refine g_iald dX11_needed_23 gi_200 g6 ?_
    refine g_if_lt (t := 31) dX11_needed_24 (by decide) (fun c7 => ?_) (fun c7 => ?_)
    · replace h := if_t h c7
      refine g_iconst (v := 0) dX11_needed_31 (by decide) ?_
      refine g_sub [] rfl ?_
      exact pX11_needed_32 h
    · replace h := if_f h c7
      refine g_iconst (v := 1) dX11_needed_27 (by decide) ?_
      refine g_goto (t := 32) dX11_needed_28 (by decide) ?_
      refine g_sub [] rfl ?_
      exact pX11_needed_32 h
  · replace h := if_t h c4
    refine g_ldc (v := (-1000001)) dX11_needed_8 wc_RX11_224 ?_
    refine g_goto (t := 32) dX11_needed_10 (by decide) ?_
    refine g_sub [] rfl ?_
    exact pX11_needed_32 h
theorem zX11_needed {E : gE} {p1 : Int32} {r : Int32} {σ σ' : gS} (h : fX11_needed p1 σ = some (r, σ')) : gC E mX11_needed [.ref 168, .int p1] σ (some (.int r)) σ' :=
  gC_of (by decide +kernel) rfl (Nat.le_of_ble_eq_true rfl) (pX11_needed h)
def mX11_together : gM := (yX11_together, cX11_together, RX11, 3, (some .int), 2, 46)
theorem dX11_together_0 : decode mX11_together.2.1 0 = .ok (.aload_n 0, 1) := by decide +kernel
theorem dX11_together_1 : decode mX11_together.2.1 1 = .ok (.iload_n 1, 1) := by decide +kernel
theorem dX11_together_2 : decode mX11_together.2.1 2 = .ok (.invokevirtual 420, 3) := by decide +kernel
theorem dX11_together_5 : decode mX11_together.2.1 5 = .ok (.ifCond .eq 11, 3) := by decide +kernel
theorem dX11_together_8 : decode mX11_together.2.1 8 = .ok (.aload_n 0, 1) := by decide +kernel
theorem dX11_together_9 : decode mX11_together.2.1 9 = .ok (.iload_n 2, 1) := by decide +kernel
theorem dX11_together_10 : decode mX11_together.2.1 10 = .ok (.invokevirtual 420, 3) := by decide +kernel
theorem dX11_together_13 : decode mX11_together.2.1 13 = .ok (.ifCond .ne 8, 3) := by decide +kernel
theorem dX11_together_16 : decode mX11_together.2.1 16 = .ok (.ldc 224, 2) := by decide +kernel
theorem dX11_together_18 : decode mX11_together.2.1 18 = .ok (.goto 22, 3) := by decide +kernel
theorem dX11_together_21 : decode mX11_together.2.1 21 = .ok (.aload_n 0, 1) := by decide +kernel
theorem dX11_together_22 : decode mX11_together.2.1 22 = .ok (.getfield 122, 3) := by decide +kernel
theorem dX11_together_25 : decode mX11_together.2.1 25 = .ok (.bipush 24, 2) := by decide +kernel
theorem dX11_together_27 : decode mX11_together.2.1 27 = .ok (.iload_n 1, 1) := by decide +kernel
theorem dX11_together_28 : decode mX11_together.2.1 28 = .ok (.imul, 1) := by decide +kernel
theorem dX11_together_29 : decode mX11_together.2.1 29 = .ok (.iload_n 2, 1) := by decide +kernel
theorem dX11_together_30 : decode mX11_together.2.1 30 = .ok (.iadd, 1) := by decide +kernel
theorem dX11_together_31 : decode mX11_together.2.1 31 = .ok (.baload, 1) := by decide +kernel
theorem dX11_together_32 : decode mX11_together.2.1 32 = .ok (.ifCond .eq 7, 3) := by decide +kernel
theorem dX11_together_35 : decode mX11_together.2.1 35 = .ok (.iconst 1, 1) := by decide +kernel
theorem dX11_together_36 : decode mX11_together.2.1 36 = .ok (.goto 4, 3) := by decide +kernel
theorem dX11_together_39 : decode mX11_together.2.1 39 = .ok (.iconst 0, 1) := by decide +kernel
theorem dX11_together_40 : decode mX11_together.2.1 40 = .ok (.ireturn, 1) := by decide +kernel
theorem okX11_together_420 : gOkV mX11_together mX11_isJoint 420 1 := ⟨List.forall_mem_cons.mpr ⟨(gm 1702 (by decide +kernel) rfl), List.forall_mem_cons.mpr ⟨(gm 1699 (by decide +kernel) rfl), List.forall_mem_cons.mpr ⟨(gm 1701 (by decide +kernel) rfl), List.forall_mem_cons.mpr ⟨(gm 88 (by decide +kernel) rfl), List.forall_mem_cons.mpr ⟨(gm 122 (by decide +kernel) rfl), fun _ h => absurd h List.not_mem_nil⟩⟩⟩⟩⟩, by decide +kernel, by decide +kernel, by decide +kernel⟩
def fX11_together_40 (p1 : Int32) (p2 : Int32) (s0 : Int32) (σ : gS) : Option (Int32 × gS) :=
  some (s0, σ)
set_option maxHeartbeats 4000000 in
set_option maxRecDepth 100000 in
theorem pX11_together_40 {E : gE} {p1 : Int32} {p2 : Int32} {r : Int32} {σ' : gS} {s0 : Int32} {σ : gS} (h : fX11_together_40 p1 p2 s0 σ = some (r, σ')) : gG E mX11_together 40 [] [.int s0] σ (some (.int r)) σ' := by
  unfold fX11_together_40 at h
  obtain ⟨rfl, rfl⟩ := so_inj h
  exact g_iret dX11_together_40 rfl
def fX11_together_16 (p1 : Int32) (p2 : Int32) (σ : gS) : Option (Int32 × gS) :=
  fX11_together_40 p1 p2 (-1000001) σ
set_option maxHeartbeats 4000000 in
set_option maxRecDepth 100000 in
theorem pX11_together_16 {E : gE} {p1 : Int32} {p2 : Int32} {r : Int32} {σ' : gS} {σ : gS} (h : fX11_together_16 p1 p2 σ = some (r, σ')) : gG E mX11_together 16 [] [] σ (some (.int r)) σ' := by
  unfold fX11_together_16 at h
  refine g_ldc (v := (-1000001)) dX11_together_16 wc_RX11_224 ?_
  refine g_goto (t := 40) dX11_together_18 (by decide) ?_
  exact pX11_together_40 h
def fX11_together (p1 : Int32) (p2 : Int32) (σ : gS) : Option (Int32 × gS) :=
  bd (fX11_isJoint p1 σ) fun x1 σ2 =>
  if x1 = 0 then
    fX11_together_16 p1 p2 σ2
  else
    bd (fX11_isJoint p2 σ2) fun x5 σ6 =>
    if x5 = 0 then
      fX11_together_16 p1 p2 σ6
    else
      bnd ((24 * p1) + p2) fun x9 =>
      gg (¬ (x9 < 0 ∨ 576 ≤ x9.toNatClampNeg)) (
      if (σ6.1 202 x9.toNatClampNeg) = 0 then
        fX11_together_40 p1 p2 0 σ6
      else
        fX11_together_40 p1 p2 1 σ6)
set_option maxHeartbeats 4000000 in
set_option maxRecDepth 100000 in
theorem pX11_together {E : gE} {p1 : Int32} {p2 : Int32} {r : Int32} {σ' : gS} {σ : gS} (h : fX11_together p1 p2 σ = some (r, σ')) : gG E mX11_together 0 [(0, .ref 168), (1, .int p1), (2, .int p2)] [] σ (some (.int r)) σ' := by
  unfold fX11_together at h
  refine g_aload_n dX11_together_0 rfl 0 rfl ?_
  refine g_iload_n dX11_together_1 rfl 1 rfl ?_
  obtain ⟨x1, σ2, y3, h⟩ := bd_some h
  refine g_callVr (as := [.int p1]) (st := []) (zX11_isJoint y3) dX11_together_2 gi_168 rfl okX11_together_420 (Nat.le_of_ble_eq_true rfl) ?_
  refine g_if_eq (t := 16) dX11_together_5 (by decide) (fun c4 => ?_) (fun c4 => ?_)
  · replace h := if_t h c4
    refine g_sub [] rfl ?_
    exact pX11_together_16 h
  · replace h := if_f h c4
    refine g_aload_n dX11_together_8 rfl 0 rfl ?_
    refine g_iload_n dX11_together_9 rfl 2 rfl ?_
    obtain ⟨x5, σ6, y7, h⟩ := bd_some h
    refine g_callVr (as := [.int p2]) (st := []) (zX11_isJoint y7) dX11_together_10 gi_168 rfl okX11_together_420 (Nat.le_of_ble_eq_true rfl) ?_
    refine g_if_ne (t := 21) dX11_together_13 (by decide) (fun c8 => ?_) (fun c8 => ?_)
    · replace h := if_f h c8
      refine g_aload_n dX11_together_21 rfl 0 rfl ?_
      refine g_getC (n := 202) dX11_together_22 gi_168 rfl fl_RX11_122 ?_
      refine g_bipush (v := 24) dX11_together_25 (by decide) ?_
      refine g_iload_n dX11_together_27 rfl 1 rfl ?_
      refine g_imul dX11_together_28 ?_
      refine g_iload_n dX11_together_29 rfl 2 rfl ?_
      refine g_iadd dX11_together_30 ?_
      obtain ⟨x9, ex9, h⟩ := bnd_nm h
      refine g_topi ex9 ?_
      obtain ⟨g10, h⟩ := gg_some h
      refine g_zald dX11_together_31 gi_202 g10 ?_
      refine g_if_eq (t := 39) dX11_together_32 (by decide) (fun c11 => ?_) (fun c11 => ?_)
      · replace h := if_t h c11
        refine g_iconst (v := 0) dX11_together_39 (by decide) ?_
        refine g_sub [] rfl ?_
        exact pX11_together_40 h
      · replace h := if_f h c11
        refine g_iconst (v := 1) dX11_together_35 (by decide) ?_
        refine g_goto (t := 40) dX11_together_36 (by decide) ?_
        refine g_sub [] rfl ?_
        exact pX11_together_40 h
    · replace h := if_t h c8
      refine g_sub [] rfl ?_
      exact pX11_together_16 h
theorem zX11_together {E : gE} {p1 : Int32} {p2 : Int32} {r : Int32} {σ σ' : gS} (h : fX11_together p1 p2 σ = some (r, σ')) : gC E mX11_together [.ref 168, .int p1, .int p2] σ (some (.int r)) σ' :=
  gC_of (by decide +kernel) rfl (Nat.le_of_ble_eq_true rfl) (pX11_together h)
def mX11_clusterOf : gM := (yX11_clusterOf, cX11_clusterOf, RX11, 3, (some .int), 0, 0)
theorem dX11_clusterOf_0 : decode mX11_clusterOf.2.1 0 = .ok (.iconst 0, 1) := by decide +kernel
theorem dX11_clusterOf_1 : decode mX11_clusterOf.2.1 1 = .ok (.istore_n 2, 1) := by decide +kernel
theorem dX11_clusterOf_2 : decode mX11_clusterOf.2.1 2 = .ok (.iload_n 2, 1) := by decide +kernel
theorem dX11_clusterOf_3 : decode mX11_clusterOf.2.1 3 = .ok (.iload_n 1, 1) := by decide +kernel
theorem dX11_clusterOf_4 : decode mX11_clusterOf.2.1 4 = .ok (.if_icmp .ge 107, 3) := by decide +kernel
theorem dX11_clusterOf_7 : decode mX11_clusterOf.2.1 7 = .ok (.aload_n 0, 1) := by decide +kernel
theorem dX11_clusterOf_8 : decode mX11_clusterOf.2.1 8 = .ok (.getfield 122, 3) := by decide +kernel
theorem dX11_clusterOf_11 : decode mX11_clusterOf.2.1 11 = .ok (.bipush 24, 2) := by decide +kernel
theorem dX11_clusterOf_13 : decode mX11_clusterOf.2.1 13 = .ok (.aload_n 0, 1) := by decide +kernel
theorem dX11_clusterOf_14 : decode mX11_clusterOf.2.1 14 = .ok (.getfield 33, 3) := by decide +kernel
theorem dX11_clusterOf_17 : decode mX11_clusterOf.2.1 17 = .ok (.iload_n 2, 1) := by decide +kernel
theorem dX11_clusterOf_18 : decode mX11_clusterOf.2.1 18 = .ok (.iaload, 1) := by decide +kernel
theorem dX11_clusterOf_19 : decode mX11_clusterOf.2.1 19 = .ok (.imul, 1) := by decide +kernel
theorem dX11_clusterOf_20 : decode mX11_clusterOf.2.1 20 = .ok (.aload_n 0, 1) := by decide +kernel
theorem dX11_clusterOf_21 : decode mX11_clusterOf.2.1 21 = .ok (.getfield 33, 3) := by decide +kernel
theorem dX11_clusterOf_24 : decode mX11_clusterOf.2.1 24 = .ok (.iload_n 1, 1) := by decide +kernel
theorem dX11_clusterOf_25 : decode mX11_clusterOf.2.1 25 = .ok (.iaload, 1) := by decide +kernel
theorem dX11_clusterOf_26 : decode mX11_clusterOf.2.1 26 = .ok (.iadd, 1) := by decide +kernel
theorem dX11_clusterOf_27 : decode mX11_clusterOf.2.1 27 = .ok (.baload, 1) := by decide +kernel
theorem dX11_clusterOf_28 : decode mX11_clusterOf.2.1 28 = .ok (.ifCond .eq 77, 3) := by decide +kernel
theorem dX11_clusterOf_31 : decode mX11_clusterOf.2.1 31 = .ok (.aload_n 0, 1) := by decide +kernel
theorem dX11_clusterOf_32 : decode mX11_clusterOf.2.1 32 = .ok (.getfield 122, 3) := by decide +kernel
theorem dX11_clusterOf_35 : decode mX11_clusterOf.2.1 35 = .ok (.bipush 24, 2) := by decide +kernel
theorem dX11_clusterOf_37 : decode mX11_clusterOf.2.1 37 = .ok (.aload_n 0, 1) := by decide +kernel
theorem dX11_clusterOf_38 : decode mX11_clusterOf.2.1 38 = .ok (.getfield 33, 3) := by decide +kernel
theorem dX11_clusterOf_41 : decode mX11_clusterOf.2.1 41 = .ok (.iload_n 2, 1) := by decide +kernel
theorem dX11_clusterOf_42 : decode mX11_clusterOf.2.1 42 = .ok (.iaload, 1) := by decide +kernel
theorem dX11_clusterOf_43 : decode mX11_clusterOf.2.1 43 = .ok (.imul, 1) := by decide +kernel
theorem dX11_clusterOf_44 : decode mX11_clusterOf.2.1 44 = .ok (.aload_n 0, 1) := by decide +kernel
theorem dX11_clusterOf_45 : decode mX11_clusterOf.2.1 45 = .ok (.getfield 36, 3) := by decide +kernel
theorem dX11_clusterOf_48 : decode mX11_clusterOf.2.1 48 = .ok (.iload_n 1, 1) := by decide +kernel
theorem dX11_clusterOf_49 : decode mX11_clusterOf.2.1 49 = .ok (.iaload, 1) := by decide +kernel
theorem dX11_clusterOf_50 : decode mX11_clusterOf.2.1 50 = .ok (.iadd, 1) := by decide +kernel
theorem dX11_clusterOf_51 : decode mX11_clusterOf.2.1 51 = .ok (.baload, 1) := by decide +kernel
theorem dX11_clusterOf_52 : decode mX11_clusterOf.2.1 52 = .ok (.ifCond .eq 53, 3) := by decide +kernel
theorem dX11_clusterOf_55 : decode mX11_clusterOf.2.1 55 = .ok (.aload_n 0, 1) := by decide +kernel
theorem dX11_clusterOf_56 : decode mX11_clusterOf.2.1 56 = .ok (.getfield 122, 3) := by decide +kernel
theorem dX11_clusterOf_59 : decode mX11_clusterOf.2.1 59 = .ok (.bipush 24, 2) := by decide +kernel
theorem dX11_clusterOf_61 : decode mX11_clusterOf.2.1 61 = .ok (.aload_n 0, 1) := by decide +kernel
theorem dX11_clusterOf_62 : decode mX11_clusterOf.2.1 62 = .ok (.getfield 36, 3) := by decide +kernel
theorem dX11_clusterOf_65 : decode mX11_clusterOf.2.1 65 = .ok (.iload_n 2, 1) := by decide +kernel
theorem dX11_clusterOf_66 : decode mX11_clusterOf.2.1 66 = .ok (.iaload, 1) := by decide +kernel
theorem dX11_clusterOf_67 : decode mX11_clusterOf.2.1 67 = .ok (.imul, 1) := by decide +kernel
theorem dX11_clusterOf_68 : decode mX11_clusterOf.2.1 68 = .ok (.aload_n 0, 1) := by decide +kernel
theorem dX11_clusterOf_69 : decode mX11_clusterOf.2.1 69 = .ok (.getfield 33, 3) := by decide +kernel
theorem dX11_clusterOf_72 : decode mX11_clusterOf.2.1 72 = .ok (.iload_n 1, 1) := by decide +kernel
theorem dX11_clusterOf_73 : decode mX11_clusterOf.2.1 73 = .ok (.iaload, 1) := by decide +kernel
theorem dX11_clusterOf_74 : decode mX11_clusterOf.2.1 74 = .ok (.iadd, 1) := by decide +kernel
theorem dX11_clusterOf_75 : decode mX11_clusterOf.2.1 75 = .ok (.baload, 1) := by decide +kernel
theorem dX11_clusterOf_76 : decode mX11_clusterOf.2.1 76 = .ok (.ifCond .eq 29, 3) := by decide +kernel
theorem dX11_clusterOf_79 : decode mX11_clusterOf.2.1 79 = .ok (.aload_n 0, 1) := by decide +kernel
theorem dX11_clusterOf_80 : decode mX11_clusterOf.2.1 80 = .ok (.getfield 122, 3) := by decide +kernel
theorem dX11_clusterOf_83 : decode mX11_clusterOf.2.1 83 = .ok (.bipush 24, 2) := by decide +kernel
theorem dX11_clusterOf_85 : decode mX11_clusterOf.2.1 85 = .ok (.aload_n 0, 1) := by decide +kernel
theorem dX11_clusterOf_86 : decode mX11_clusterOf.2.1 86 = .ok (.getfield 36, 3) := by decide +kernel
theorem dX11_clusterOf_89 : decode mX11_clusterOf.2.1 89 = .ok (.iload_n 2, 1) := by decide +kernel
theorem dX11_clusterOf_90 : decode mX11_clusterOf.2.1 90 = .ok (.iaload, 1) := by decide +kernel
theorem dX11_clusterOf_91 : decode mX11_clusterOf.2.1 91 = .ok (.imul, 1) := by decide +kernel
theorem dX11_clusterOf_92 : decode mX11_clusterOf.2.1 92 = .ok (.aload_n 0, 1) := by decide +kernel
theorem dX11_clusterOf_93 : decode mX11_clusterOf.2.1 93 = .ok (.getfield 36, 3) := by decide +kernel
theorem dX11_clusterOf_96 : decode mX11_clusterOf.2.1 96 = .ok (.iload_n 1, 1) := by decide +kernel
theorem dX11_clusterOf_97 : decode mX11_clusterOf.2.1 97 = .ok (.iaload, 1) := by decide +kernel
theorem dX11_clusterOf_98 : decode mX11_clusterOf.2.1 98 = .ok (.iadd, 1) := by decide +kernel
theorem dX11_clusterOf_99 : decode mX11_clusterOf.2.1 99 = .ok (.baload, 1) := by decide +kernel
theorem dX11_clusterOf_100 : decode mX11_clusterOf.2.1 100 = .ok (.ifCond .eq 5, 3) := by decide +kernel
theorem dX11_clusterOf_103 : decode mX11_clusterOf.2.1 103 = .ok (.iload_n 2, 1) := by decide +kernel
theorem dX11_clusterOf_104 : decode mX11_clusterOf.2.1 104 = .ok (.ireturn, 1) := by decide +kernel
theorem dX11_clusterOf_105 : decode mX11_clusterOf.2.1 105 = .ok (.iinc 2 1, 3) := by decide +kernel
theorem dX11_clusterOf_108 : decode mX11_clusterOf.2.1 108 = .ok (.goto (-106), 3) := by decide +kernel
theorem dX11_clusterOf_111 : decode mX11_clusterOf.2.1 111 = .ok (.iload_n 1, 1) := by decide +kernel
theorem dX11_clusterOf_112 : decode mX11_clusterOf.2.1 112 = .ok (.ireturn, 1) := by decide +kernel
def fX11_clusterOf_105 (p1 : Int32) (k2 : Int32 → gS → Option (Int32 × gS)) (v2 : Int32) (σ : gS) : Option (Int32 × gS) :=
  bnd (v2 + 1) fun x1 =>
  k2 x1 σ
set_option maxHeartbeats 4000000 in
set_option maxRecDepth 100000 in
theorem pX11_clusterOf_105 {E : gE} {p1 : Int32} {k2 : Int32 → gS → Option (Int32 × gS)} {r : Int32} {σ' : gS} {v2 : Int32} {σ : gS} (hk2 : ∀ (v2 : Int32) (σ : gS), k2 v2 σ = some (r, σ') → gG E mX11_clusterOf 2 [(0, .ref 168), (1, .int p1), (2, .int v2)] [] σ (some (.int r)) σ') (h : fX11_clusterOf_105 p1 k2 v2 σ = some (r, σ')) : gG E mX11_clusterOf 105 [(0, .ref 168), (1, .int p1), (2, .int v2)] [] σ (some (.int r)) σ' := by
  unfold fX11_clusterOf_105 at h
  obtain ⟨x1, ex1, h⟩ := bnd_nm h
  refine g_iinc (j := 2) (v := x1) (lv' := [(2, .int x1), (0, .ref 168), (1, .int p1)]) dX11_clusterOf_105 rfl (by rw [ex1]; rfl) (Nat.le_of_ble_eq_true rfl) rfl ?_
  refine g_goto (t := 2) dX11_clusterOf_108 (by decide) ?_
  refine g_sub [1, 2, 0] rfl ?_
  exact hk2 x1 σ h
def fX11_clusterOf_2 (p1 : Int32) : Nat → Int32 → gS → Option (Int32 × gS)
  | 0, _, _ => none
  | n + 1, v2, σ => if p1 ≤ v2 then
    some (p1, σ)
  else
    gg (¬ (v2 < 0 ∨ 60 ≤ v2.toNatClampNeg)) (
    gg (¬ (p1 < 0 ∨ 60 ≤ p1.toNatClampNeg)) (
    bnd ((24 * (σ.1 176 v2.toNatClampNeg)) + (σ.1 176 p1.toNatClampNeg)) fun x4 =>
    gg (¬ (x4 < 0 ∨ 576 ≤ x4.toNatClampNeg)) (
    if (σ.1 202 x4.toNatClampNeg) = 0 then
      fX11_clusterOf_105 p1 (fun v2 σ => fX11_clusterOf_2 p1 n v2 σ) v2 σ
    else
      gg (¬ (v2 < 0 ∨ 60 ≤ v2.toNatClampNeg)) (
      gg (¬ (p1 < 0 ∨ 60 ≤ p1.toNatClampNeg)) (
      bnd ((24 * (σ.1 176 v2.toNatClampNeg)) + (σ.1 177 p1.toNatClampNeg)) fun x9 =>
      gg (¬ (x9 < 0 ∨ 576 ≤ x9.toNatClampNeg)) (
      if (σ.1 202 x9.toNatClampNeg) = 0 then
        fX11_clusterOf_105 p1 (fun v2 σ => fX11_clusterOf_2 p1 n v2 σ) v2 σ
      else
        gg (¬ (v2 < 0 ∨ 60 ≤ v2.toNatClampNeg)) (
        gg (¬ (p1 < 0 ∨ 60 ≤ p1.toNatClampNeg)) (
        bnd ((24 * (σ.1 177 v2.toNatClampNeg)) + (σ.1 176 p1.toNatClampNeg)) fun x14 =>
        gg (¬ (x14 < 0 ∨ 576 ≤ x14.toNatClampNeg)) (
        if (σ.1 202 x14.toNatClampNeg) = 0 then
          fX11_clusterOf_105 p1 (fun v2 σ => fX11_clusterOf_2 p1 n v2 σ) v2 σ
        else
          gg (¬ (v2 < 0 ∨ 60 ≤ v2.toNatClampNeg)) (
          gg (¬ (p1 < 0 ∨ 60 ≤ p1.toNatClampNeg)) (
          bnd ((24 * (σ.1 177 v2.toNatClampNeg)) + (σ.1 177 p1.toNatClampNeg)) fun x19 =>
          gg (¬ (x19 < 0 ∨ 576 ≤ x19.toNatClampNeg)) (
          if (σ.1 202 x19.toNatClampNeg) = 0 then
            fX11_clusterOf_105 p1 (fun v2 σ => fX11_clusterOf_2 p1 n v2 σ) v2 σ
          else
            some (v2, σ)))))))))))))
set_option maxHeartbeats 4000000 in
set_option maxRecDepth 100000 in
theorem pX11_clusterOf_2 {E : gE} {p1 : Int32} {r : Int32} {σ' : gS} : ∀ (n : Nat) (v2 : Int32) (σ : gS), fX11_clusterOf_2 p1 n v2 σ = some (r, σ') → gG E mX11_clusterOf 2 [(0, .ref 168), (1, .int p1), (2, .int v2)] [] σ (some (.int r)) σ' := by
  intro n
  induction n with
  | zero => intro v2 σ h; exact absurd (show none = some (r, σ') from h) (by intro q; cases q)
  | succ n ih =>
  intro v2 σ h
  unfold fX11_clusterOf_2 at h
  refine g_iload_n dX11_clusterOf_2 rfl 2 rfl ?_
  refine g_iload_n dX11_clusterOf_3 rfl 1 rfl ?_
  refine g_icmp_ge (t := 111) dX11_clusterOf_4 (by decide) (fun c1 => ?_) (fun c1 => ?_)
  · replace h := if_t h c1
    refine g_iload_n dX11_clusterOf_111 rfl 1 rfl ?_
    obtain ⟨rfl, rfl⟩ := so_inj h
    exact g_iret dX11_clusterOf_112 rfl
  · replace h := if_f h c1
    refine g_aload_n dX11_clusterOf_7 rfl 0 rfl ?_
    refine g_getC (n := 202) dX11_clusterOf_8 gi_168 rfl fl_RX11_122 ?_
    refine g_bipush (v := 24) dX11_clusterOf_11 (by decide) ?_
    refine g_aload_n dX11_clusterOf_13 rfl 0 rfl ?_
    refine g_getC (n := 176) dX11_clusterOf_14 gi_168 rfl fl_RX11_33 ?_
    refine g_iload_n dX11_clusterOf_17 rfl 2 rfl ?_
    obtain ⟨g2, h⟩ := gg_some h
    refine g_iald dX11_clusterOf_18 gi_176 g2 ?_
    refine g_imul dX11_clusterOf_19 ?_
    refine g_aload_n dX11_clusterOf_20 rfl 0 rfl ?_
    refine g_getC (n := 176) dX11_clusterOf_21 gi_168 rfl fl_RX11_33 ?_
    refine g_iload_n dX11_clusterOf_24 rfl 1 rfl ?_
    obtain ⟨g3, h⟩ := gg_some h
    refine g_iald dX11_clusterOf_25 gi_176 g3 ?_
    refine g_iadd dX11_clusterOf_26 ?_
    obtain ⟨x4, ex4, h⟩ := bnd_nm h
    refine g_topi ex4 ?_
    obtain ⟨g5, h⟩ := gg_some h
    refine g_zald dX11_clusterOf_27 gi_202 g5 ?_
    refine g_if_eq (t := 105) dX11_clusterOf_28 (by decide) (fun c6 => ?_) (fun c6 => ?_)
    · replace h := if_t h c6
      exact pX11_clusterOf_105 (fun v2 σ h => ih v2 σ h) h
    · replace h := if_f h c6
      refine g_aload_n dX11_clusterOf_31 rfl 0 rfl ?_
      refine g_getC (n := 202) dX11_clusterOf_32 gi_168 rfl fl_RX11_122 ?_
      refine g_bipush (v := 24) dX11_clusterOf_35 (by decide) ?_
      refine g_aload_n dX11_clusterOf_37 rfl 0 rfl ?_
      refine g_getC (n := 176) dX11_clusterOf_38 gi_168 rfl fl_RX11_33 ?_
      refine g_iload_n dX11_clusterOf_41 rfl 2 rfl ?_
      obtain ⟨g7, h⟩ := gg_some h
      refine g_iald dX11_clusterOf_42 gi_176 g7 ?_
      refine g_imul dX11_clusterOf_43 ?_
      refine g_aload_n dX11_clusterOf_44 rfl 0 rfl ?_
      refine g_getC (n := 177) dX11_clusterOf_45 gi_168 rfl fl_RX11_36 ?_
      refine g_iload_n dX11_clusterOf_48 rfl 1 rfl ?_
      obtain ⟨g8, h⟩ := gg_some h
      refine g_iald dX11_clusterOf_49 gi_177 g8 ?_
      refine g_iadd dX11_clusterOf_50 ?_
      obtain ⟨x9, ex9, h⟩ := bnd_nm h
      refine g_topi ex9 ?_
      obtain ⟨g10, h⟩ := gg_some h
      refine g_zald dX11_clusterOf_51 gi_202 g10 ?_
      refine g_if_eq (t := 105) dX11_clusterOf_52 (by decide) (fun c11 => ?_) (fun c11 => ?_)
      · replace h := if_t h c11
        exact pX11_clusterOf_105 (fun v2 σ h => ih v2 σ h) h
      · replace h := if_f h c11
        refine g_aload_n dX11_clusterOf_55 rfl 0 rfl ?_
        refine g_getC (n := 202) dX11_clusterOf_56 gi_168 rfl fl_RX11_122 ?_
        refine g_bipush (v := 24) dX11_clusterOf_59 (by decide) ?_
        refine g_aload_n dX11_clusterOf_61 rfl 0 rfl ?_
        refine g_getC (n := 177) dX11_clusterOf_62 gi_168 rfl fl_RX11_36 ?_
        refine g_iload_n dX11_clusterOf_65 rfl 2 rfl ?_
        obtain ⟨g12, h⟩ := gg_some h
        refine g_iald dX11_clusterOf_66 gi_177 g12 ?_
        refine g_imul dX11_clusterOf_67 ?_
        refine g_aload_n dX11_clusterOf_68 rfl 0 rfl ?_
        refine g_getC (n := 176) dX11_clusterOf_69 gi_168 rfl fl_RX11_33 ?_
        refine g_iload_n dX11_clusterOf_72 rfl 1 rfl ?_
        obtain ⟨g13, h⟩ := gg_some h
        refine g_iald dX11_clusterOf_73 gi_176 g13 ?_
        refine g_iadd dX11_clusterOf_74 ?_
        obtain ⟨x14, ex14, h⟩ := bnd_nm h
        refine g_topi ex14 ?_
        obtain ⟨g15, h⟩ := gg_some h
        refine g_zald dX11_clusterOf_75 gi_202 g15 ?_
        refine g_if_eq (t := 105) dX11_clusterOf_76 (by decide) (fun c16 => ?_) (fun c16 => ?_)
        · replace h := if_t h c16
          exact pX11_clusterOf_105 (fun v2 σ h => ih v2 σ h) h
        · replace h := if_f h c16
          refine g_aload_n dX11_clusterOf_79 rfl 0 rfl ?_
          refine g_getC (n := 202) dX11_clusterOf_80 gi_168 rfl fl_RX11_122 ?_
          refine g_bipush (v := 24) dX11_clusterOf_83 (by decide) ?_
          refine g_aload_n dX11_clusterOf_85 rfl 0 rfl ?_
          refine g_getC (n := 177) dX11_clusterOf_86 gi_168 rfl fl_RX11_36 ?_
          refine g_iload_n dX11_clusterOf_89 rfl 2 rfl ?_
          obtain ⟨g17, h⟩ := gg_some h
          refine g_iald dX11_clusterOf_90 gi_177 g17 ?_
          refine g_imul dX11_clusterOf_91 ?_
          refine g_aload_n dX11_clusterOf_92 rfl 0 rfl ?_
          refine g_getC (n := 177) dX11_clusterOf_93 gi_168 rfl fl_RX11_36 ?_
          refine g_iload_n dX11_clusterOf_96 rfl 1 rfl ?_
          obtain ⟨g18, h⟩ := gg_some h
          refine g_iald dX11_clusterOf_97 gi_177 g18 ?_
          refine g_iadd dX11_clusterOf_98 ?_
          obtain ⟨x19, ex19, h⟩ := bnd_nm h
          refine g_topi ex19 ?_
          obtain ⟨g20, h⟩ := gg_some h
          refine g_zald dX11_clusterOf_99 gi_202 g20 ?_
          refine g_if_eq (t := 105) dX11_clusterOf_100 (by decide) (fun c21 => ?_) (fun c21 => ?_)
          · replace h := if_t h c21
            exact pX11_clusterOf_105 (fun v2 σ h => ih v2 σ h) h
          · replace h := if_f h c21
            refine g_iload_n dX11_clusterOf_103 rfl 2 rfl ?_
            obtain ⟨rfl, rfl⟩ := so_inj h
            exact g_iret dX11_clusterOf_104 rfl
def fX11_clusterOf (p1 : Int32) (σ : gS) : Option (Int32 × gS) :=
  fX11_clusterOf_2 p1 2000 0 σ
set_option maxHeartbeats 4000000 in
set_option maxRecDepth 100000 in
theorem pX11_clusterOf {E : gE} {p1 : Int32} {r : Int32} {σ' : gS} {σ : gS} (h : fX11_clusterOf p1 σ = some (r, σ')) : gG E mX11_clusterOf 0 [(0, .ref 168), (1, .int p1)] [] σ (some (.int r)) σ' := by
  unfold fX11_clusterOf at h
  refine g_iconst (v := 0) dX11_clusterOf_0 (by decide) ?_
  refine g_istore_n (lv' := [(2, .int 0), (0, .ref 168), (1, .int p1)]) dX11_clusterOf_1 rfl (Nat.le_of_ble_eq_true rfl) rfl ?_
  refine g_sub [1, 2, 0] rfl ?_
  exact pX11_clusterOf_2 2000 0 σ h
theorem zX11_clusterOf {E : gE} {p1 : Int32} {r : Int32} {σ σ' : gS} (h : fX11_clusterOf p1 σ = some (r, σ')) : gC E mX11_clusterOf [.ref 168, .int p1] σ (some (.int r)) σ' :=
  gC_of (by decide +kernel) rfl (Nat.le_of_ble_eq_true rfl) (pX11_clusterOf h)
def mX11_cluster : gM := (yX11_cluster, cX11_cluster, RX11, 2, (some .int), 2, 46)
theorem dX11_cluster_0 : decode mX11_cluster.2.1 0 = .ok (.aload_n 0, 1) := by decide +kernel
theorem dX11_cluster_1 : decode mX11_cluster.2.1 1 = .ok (.iload_n 1, 1) := by decide +kernel
theorem dX11_cluster_2 : decode mX11_cluster.2.1 2 = .ok (.invokevirtual 416, 3) := by decide +kernel
theorem dX11_cluster_5 : decode mX11_cluster.2.1 5 = .ok (.ifCond .eq 11, 3) := by decide +kernel
theorem dX11_cluster_8 : decode mX11_cluster.2.1 8 = .ok (.aload_n 0, 1) := by decide +kernel
theorem dX11_cluster_9 : decode mX11_cluster.2.1 9 = .ok (.iload_n 1, 1) := by decide +kernel
theorem dX11_cluster_10 : decode mX11_cluster.2.1 10 = .ok (.invokevirtual 423, 3) := by decide +kernel
theorem dX11_cluster_13 : decode mX11_cluster.2.1 13 = .ok (.goto 5, 3) := by decide +kernel
theorem dX11_cluster_16 : decode mX11_cluster.2.1 16 = .ok (.ldc 224, 2) := by decide +kernel
theorem dX11_cluster_18 : decode mX11_cluster.2.1 18 = .ok (.ireturn, 1) := by decide +kernel
theorem okX11_cluster_416 : gOkV mX11_cluster mX11_isBar 416 1 := ⟨List.forall_mem_cons.mpr ⟨(gm 1694 (by decide +kernel) rfl), List.forall_mem_cons.mpr ⟨(gm 1691 (by decide +kernel) rfl), List.forall_mem_cons.mpr ⟨(gm 1693 (by decide +kernel) rfl), List.forall_mem_cons.mpr ⟨(gm 87 (by decide +kernel) rfl), List.forall_mem_cons.mpr ⟨(gm 122 (by decide +kernel) rfl), fun _ h => absurd h List.not_mem_nil⟩⟩⟩⟩⟩, by decide +kernel, by decide +kernel, by decide +kernel⟩
theorem okX11_cluster_423 : gOkV mX11_cluster mX11_clusterOf 423 1 := ⟨List.forall_mem_cons.mpr ⟨(gm 1710 (by decide +kernel) rfl), List.forall_mem_cons.mpr ⟨(gm 1707 (by decide +kernel) rfl), List.forall_mem_cons.mpr ⟨(gm 1709 (by decide +kernel) rfl), List.forall_mem_cons.mpr ⟨(gm 89 (by decide +kernel) rfl), List.forall_mem_cons.mpr ⟨(gm 122 (by decide +kernel) rfl), fun _ h => absurd h List.not_mem_nil⟩⟩⟩⟩⟩, by decide +kernel, by decide +kernel, by decide +kernel⟩
def fX11_cluster_18 (p1 : Int32) (s0 : Int32) (σ : gS) : Option (Int32 × gS) :=
  some (s0, σ)
set_option maxHeartbeats 4000000 in
set_option maxRecDepth 100000 in
theorem pX11_cluster_18 {E : gE} {p1 : Int32} {r : Int32} {σ' : gS} {s0 : Int32} {σ : gS} (h : fX11_cluster_18 p1 s0 σ = some (r, σ')) : gG E mX11_cluster 18 [] [.int s0] σ (some (.int r)) σ' := by
  unfold fX11_cluster_18 at h
  obtain ⟨rfl, rfl⟩ := so_inj h
  exact g_iret dX11_cluster_18 rfl
def fX11_cluster (p1 : Int32) (σ : gS) : Option (Int32 × gS) :=
  bd (fX11_isBar p1 σ) fun x1 σ2 =>
  if x1 = 0 then
    fX11_cluster_18 p1 (-1000001) σ2
  else
    bd (fX11_clusterOf p1 σ2) fun x5 σ6 =>
    fX11_cluster_18 p1 x5 σ6
set_option maxHeartbeats 4000000 in
set_option maxRecDepth 100000 in
theorem pX11_cluster {E : gE} {p1 : Int32} {r : Int32} {σ' : gS} {σ : gS} (h : fX11_cluster p1 σ = some (r, σ')) : gG E mX11_cluster 0 [(0, .ref 168), (1, .int p1)] [] σ (some (.int r)) σ' := by
  unfold fX11_cluster at h
  refine g_aload_n dX11_cluster_0 rfl 0 rfl ?_
  refine g_iload_n dX11_cluster_1 rfl 1 rfl ?_
  obtain ⟨x1, σ2, y3, h⟩ := bd_some h
  refine g_callVr (as := [.int p1]) (st := []) (zX11_isBar y3) dX11_cluster_2 gi_168 rfl okX11_cluster_416 (Nat.le_of_ble_eq_true rfl) ?_
  refine g_if_eq (t := 16) dX11_cluster_5 (by decide) (fun c4 => ?_) (fun c4 => ?_)
  · replace h := if_t h c4
    refine g_ldc (v := (-1000001)) dX11_cluster_16 wc_RX11_224 ?_
    refine g_sub [] rfl ?_
    exact pX11_cluster_18 h
  · replace h := if_f h c4
    refine g_aload_n dX11_cluster_8 rfl 0 rfl ?_
    refine g_iload_n dX11_cluster_9 rfl 1 rfl ?_
    obtain ⟨x5, σ6, y7, h⟩ := bd_some h
    refine g_callVr (as := [.int p1]) (st := []) (zX11_clusterOf y7) dX11_cluster_10 gi_168 rfl okX11_cluster_423 (Nat.le_of_ble_eq_true rfl) ?_
    refine g_goto (t := 18) dX11_cluster_13 (by decide) ?_
    refine g_sub [] rfl ?_
    exact pX11_cluster_18 h
theorem zX11_cluster {E : gE} {p1 : Int32} {r : Int32} {σ σ' : gS} (h : fX11_cluster p1 σ = some (r, σ')) : gC E mX11_cluster [.ref 168, .int p1] σ (some (.int r)) σ' :=
  gC_of (by decide +kernel) rfl (Nat.le_of_ble_eq_true rfl) (pX11_cluster h)
