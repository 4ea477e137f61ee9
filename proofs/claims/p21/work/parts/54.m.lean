section
variable {p : Program} {l : Launch} {e : Env} {s : State} {m : MethodId} {args : Array Value} {below : List Frame} {meth : Method} {c : Code} {D : va_G} {kc : Nat → ClassId} {A : Nat → Prop}
abbrev b_SpeciesSolverModel_mayFollow : ByteArray := prog_9_method_38_code
abbrev y_SpeciesSolverModel_mayFollow : MethodName := ⟨"SpeciesSolverModel", "mayFollow", "(IIIIIZ)Z"⟩
theorem d_SpeciesSolverModel_mayFollow_0 : decode b_SpeciesSolverModel_mayFollow 0 = .ok (.aload_n 0, 1) := by decide +kernel
theorem d_SpeciesSolverModel_mayFollow_1 : decode b_SpeciesSolverModel_mayFollow 1 = .ok (.getfield 37, 3) := by decide +kernel
theorem d_SpeciesSolverModel_mayFollow_4 : decode b_SpeciesSolverModel_mayFollow 4 = .ok (.iload_n 2, 1) := by decide +kernel
theorem d_SpeciesSolverModel_mayFollow_5 : decode b_SpeciesSolverModel_mayFollow 5 = .ok (.iaload, 1) := by decide +kernel
theorem d_SpeciesSolverModel_mayFollow_6 : decode b_SpeciesSolverModel_mayFollow 6 = .ok (.istore 7, 2) := by decide +kernel
theorem d_SpeciesSolverModel_mayFollow_8 : decode b_SpeciesSolverModel_mayFollow 8 = .ok (.aload_n 0, 1) := by decide +kernel
theorem d_SpeciesSolverModel_mayFollow_9 : decode b_SpeciesSolverModel_mayFollow 9 = .ok (.getfield 37, 3) := by decide +kernel
theorem d_SpeciesSolverModel_mayFollow_12 : decode b_SpeciesSolverModel_mayFollow 12 = .ok (.iload 5, 2) := by decide +kernel
theorem d_SpeciesSolverModel_mayFollow_14 : decode b_SpeciesSolverModel_mayFollow 14 = .ok (.iaload, 1) := by decide +kernel
theorem d_SpeciesSolverModel_mayFollow_15 : decode b_SpeciesSolverModel_mayFollow 15 = .ok (.istore 8, 2) := by decide +kernel
theorem d_SpeciesSolverModel_mayFollow_17 : decode b_SpeciesSolverModel_mayFollow 17 = .ok (.aload_n 0, 1) := by decide +kernel
theorem d_SpeciesSolverModel_mayFollow_18 : decode b_SpeciesSolverModel_mayFollow 18 = .ok (.getfield 37, 3) := by decide +kernel
theorem d_SpeciesSolverModel_mayFollow_21 : decode b_SpeciesSolverModel_mayFollow 21 = .ok (.iload 4, 2) := by decide +kernel
theorem d_SpeciesSolverModel_mayFollow_23 : decode b_SpeciesSolverModel_mayFollow 23 = .ok (.iaload, 1) := by decide +kernel
theorem d_SpeciesSolverModel_mayFollow_24 : decode b_SpeciesSolverModel_mayFollow 24 = .ok (.istore 9, 2) := by decide +kernel
theorem d_SpeciesSolverModel_mayFollow_26 : decode b_SpeciesSolverModel_mayFollow 26 = .ok (.iconst 1, 1) := by decide +kernel
theorem d_SpeciesSolverModel_mayFollow_27 : decode b_SpeciesSolverModel_mayFollow 27 = .ok (.istore 10, 2) := by decide +kernel
theorem d_SpeciesSolverModel_mayFollow_29 : decode b_SpeciesSolverModel_mayFollow 29 = .ok (.iconst 0, 1) := by decide +kernel
theorem d_SpeciesSolverModel_mayFollow_30 : decode b_SpeciesSolverModel_mayFollow 30 = .ok (.istore 11, 2) := by decide +kernel
theorem d_SpeciesSolverModel_mayFollow_32 : decode b_SpeciesSolverModel_mayFollow 32 = .ok (.iload 11, 2) := by decide +kernel
theorem d_SpeciesSolverModel_mayFollow_34 : decode b_SpeciesSolverModel_mayFollow 34 = .ok (.aload_n 0, 1) := by decide +kernel
theorem d_SpeciesSolverModel_mayFollow_35 : decode b_SpeciesSolverModel_mayFollow 35 = .ok (.getfield 78, 3) := by decide +kernel
theorem d_SpeciesSolverModel_mayFollow_38 : decode b_SpeciesSolverModel_mayFollow 38 = .ok (.if_icmp .ge 158, 3) := by decide +kernel
theorem d_SpeciesSolverModel_mayFollow_41 : decode b_SpeciesSolverModel_mayFollow 41 = .ok (.iload 10, 2) := by decide +kernel
theorem d_SpeciesSolverModel_mayFollow_43 : decode b_SpeciesSolverModel_mayFollow 43 = .ok (.ifCond .eq 153, 3) := by decide +kernel
theorem d_SpeciesSolverModel_mayFollow_46 : decode b_SpeciesSolverModel_mayFollow 46 = .ok (.aload_n 0, 1) := by decide +kernel
theorem d_SpeciesSolverModel_mayFollow_47 : decode b_SpeciesSolverModel_mayFollow 47 = .ok (.getfield 24, 3) := by decide +kernel
theorem d_SpeciesSolverModel_mayFollow_50 : decode b_SpeciesSolverModel_mayFollow 50 = .ok (.iconst 0, 1) := by decide +kernel
theorem d_SpeciesSolverModel_mayFollow_51 : decode b_SpeciesSolverModel_mayFollow 51 = .ok (.baload, 1) := by decide +kernel
theorem d_SpeciesSolverModel_mayFollow_52 : decode b_SpeciesSolverModel_mayFollow 52 = .ok (.ifCond .eq 15, 3) := by decide +kernel
theorem d_SpeciesSolverModel_mayFollow_55 : decode b_SpeciesSolverModel_mayFollow 55 = .ok (.aload_n 0, 1) := by decide +kernel
theorem d_SpeciesSolverModel_mayFollow_56 : decode b_SpeciesSolverModel_mayFollow 56 = .ok (.iload 11, 2) := by decide +kernel
theorem d_SpeciesSolverModel_mayFollow_58 : decode b_SpeciesSolverModel_mayFollow 58 = .ok (.iload_n 1, 1) := by decide +kernel
theorem d_SpeciesSolverModel_mayFollow_59 : decode b_SpeciesSolverModel_mayFollow 59 = .ok (.iload 8, 2) := by decide +kernel
theorem d_SpeciesSolverModel_mayFollow_61 : decode b_SpeciesSolverModel_mayFollow 61 = .ok (.invokevirtual 140, 3) := by decide +kernel
theorem d_SpeciesSolverModel_mayFollow_64 : decode b_SpeciesSolverModel_mayFollow 64 = .ok (.ifCond .ne 74, 3) := by decide +kernel
theorem d_SpeciesSolverModel_mayFollow_67 : decode b_SpeciesSolverModel_mayFollow 67 = .ok (.aload_n 0, 1) := by decide +kernel
theorem d_SpeciesSolverModel_mayFollow_68 : decode b_SpeciesSolverModel_mayFollow 68 = .ok (.getfield 24, 3) := by decide +kernel
theorem d_SpeciesSolverModel_mayFollow_71 : decode b_SpeciesSolverModel_mayFollow 71 = .ok (.iconst 1, 1) := by decide +kernel
theorem d_SpeciesSolverModel_mayFollow_72 : decode b_SpeciesSolverModel_mayFollow 72 = .ok (.baload, 1) := by decide +kernel
theorem d_SpeciesSolverModel_mayFollow_73 : decode b_SpeciesSolverModel_mayFollow 73 = .ok (.ifCond .eq 17, 3) := by decide +kernel
theorem d_SpeciesSolverModel_mayFollow_76 : decode b_SpeciesSolverModel_mayFollow 76 = .ok (.aload_n 0, 1) := by decide +kernel
theorem d_SpeciesSolverModel_mayFollow_77 : decode b_SpeciesSolverModel_mayFollow 77 = .ok (.iload 11, 2) := by decide +kernel
theorem d_SpeciesSolverModel_mayFollow_79 : decode b_SpeciesSolverModel_mayFollow 79 = .ok (.iload_n 1, 1) := by decide +kernel
theorem d_SpeciesSolverModel_mayFollow_80 : decode b_SpeciesSolverModel_mayFollow 80 = .ok (.iload 9, 2) := by decide +kernel
theorem d_SpeciesSolverModel_mayFollow_82 : decode b_SpeciesSolverModel_mayFollow 82 = .ok (.iload 8, 2) := by decide +kernel
theorem d_SpeciesSolverModel_mayFollow_84 : decode b_SpeciesSolverModel_mayFollow 84 = .ok (.invokevirtual 143, 3) := by decide +kernel
theorem d_SpeciesSolverModel_mayFollow_87 : decode b_SpeciesSolverModel_mayFollow 87 = .ok (.ifCond .ne 51, 3) := by decide +kernel
theorem d_SpeciesSolverModel_mayFollow_90 : decode b_SpeciesSolverModel_mayFollow 90 = .ok (.aload_n 0, 1) := by decide +kernel
theorem d_SpeciesSolverModel_mayFollow_91 : decode b_SpeciesSolverModel_mayFollow 91 = .ok (.getfield 24, 3) := by decide +kernel
theorem d_SpeciesSolverModel_mayFollow_94 : decode b_SpeciesSolverModel_mayFollow 94 = .ok (.iconst 2, 1) := by decide +kernel
theorem d_SpeciesSolverModel_mayFollow_95 : decode b_SpeciesSolverModel_mayFollow 95 = .ok (.baload, 1) := by decide +kernel
theorem d_SpeciesSolverModel_mayFollow_96 : decode b_SpeciesSolverModel_mayFollow 96 = .ok (.ifCond .eq 17, 3) := by decide +kernel
theorem d_SpeciesSolverModel_mayFollow_99 : decode b_SpeciesSolverModel_mayFollow 99 = .ok (.aload_n 0, 1) := by decide +kernel
theorem d_SpeciesSolverModel_mayFollow_100 : decode b_SpeciesSolverModel_mayFollow 100 = .ok (.iload 11, 2) := by decide +kernel
theorem d_SpeciesSolverModel_mayFollow_102 : decode b_SpeciesSolverModel_mayFollow 102 = .ok (.iload_n 1, 1) := by decide +kernel
theorem d_SpeciesSolverModel_mayFollow_103 : decode b_SpeciesSolverModel_mayFollow 103 = .ok (.iload 9, 2) := by decide +kernel
theorem d_SpeciesSolverModel_mayFollow_105 : decode b_SpeciesSolverModel_mayFollow 105 = .ok (.iload 8, 2) := by decide +kernel
theorem d_SpeciesSolverModel_mayFollow_107 : decode b_SpeciesSolverModel_mayFollow 107 = .ok (.invokevirtual 146, 3) := by decide +kernel
theorem d_SpeciesSolverModel_mayFollow_110 : decode b_SpeciesSolverModel_mayFollow 110 = .ok (.ifCond .ne 28, 3) := by decide +kernel
theorem d_SpeciesSolverModel_mayFollow_113 : decode b_SpeciesSolverModel_mayFollow 113 = .ok (.aload_n 0, 1) := by decide +kernel
theorem d_SpeciesSolverModel_mayFollow_114 : decode b_SpeciesSolverModel_mayFollow 114 = .ok (.getfield 24, 3) := by decide +kernel
theorem d_SpeciesSolverModel_mayFollow_117 : decode b_SpeciesSolverModel_mayFollow 117 = .ok (.iconst 3, 1) := by decide +kernel
theorem d_SpeciesSolverModel_mayFollow_118 : decode b_SpeciesSolverModel_mayFollow 118 = .ok (.baload, 1) := by decide +kernel
theorem d_SpeciesSolverModel_mayFollow_119 : decode b_SpeciesSolverModel_mayFollow 119 = .ok (.ifCond .eq 15, 3) := by decide +kernel
theorem d_SpeciesSolverModel_mayFollow_122 : decode b_SpeciesSolverModel_mayFollow 122 = .ok (.aload_n 0, 1) := by decide +kernel
theorem d_SpeciesSolverModel_mayFollow_123 : decode b_SpeciesSolverModel_mayFollow 123 = .ok (.iload 11, 2) := by decide +kernel
theorem d_SpeciesSolverModel_mayFollow_125 : decode b_SpeciesSolverModel_mayFollow 125 = .ok (.iload_n 1, 1) := by decide +kernel
theorem d_SpeciesSolverModel_mayFollow_126 : decode b_SpeciesSolverModel_mayFollow 126 = .ok (.iload 8, 2) := by decide +kernel
theorem d_SpeciesSolverModel_mayFollow_128 : decode b_SpeciesSolverModel_mayFollow 128 = .ok (.invokevirtual 149, 3) := by decide +kernel
theorem d_SpeciesSolverModel_mayFollow_131 : decode b_SpeciesSolverModel_mayFollow 131 = .ok (.ifCond .ne 7, 3) := by decide +kernel
theorem d_SpeciesSolverModel_mayFollow_134 : decode b_SpeciesSolverModel_mayFollow 134 = .ok (.iconst 1, 1) := by decide +kernel
theorem d_SpeciesSolverModel_mayFollow_135 : decode b_SpeciesSolverModel_mayFollow 135 = .ok (.goto 4, 3) := by decide +kernel
theorem d_SpeciesSolverModel_mayFollow_138 : decode b_SpeciesSolverModel_mayFollow 138 = .ok (.iconst 0, 1) := by decide +kernel
theorem d_SpeciesSolverModel_mayFollow_139 : decode b_SpeciesSolverModel_mayFollow 139 = .ok (.istore 10, 2) := by decide +kernel
theorem d_SpeciesSolverModel_mayFollow_141 : decode b_SpeciesSolverModel_mayFollow 141 = .ok (.iload 10, 2) := by decide +kernel
theorem d_SpeciesSolverModel_mayFollow_143 : decode b_SpeciesSolverModel_mayFollow 143 = .ok (.aload_n 0, 1) := by decide +kernel
theorem d_SpeciesSolverModel_mayFollow_144 : decode b_SpeciesSolverModel_mayFollow 144 = .ok (.getfield 24, 3) := by decide +kernel
theorem d_SpeciesSolverModel_mayFollow_147 : decode b_SpeciesSolverModel_mayFollow 147 = .ok (.iconst 4, 1) := by decide +kernel
theorem d_SpeciesSolverModel_mayFollow_148 : decode b_SpeciesSolverModel_mayFollow 148 = .ok (.baload, 1) := by decide +kernel
theorem d_SpeciesSolverModel_mayFollow_149 : decode b_SpeciesSolverModel_mayFollow 149 = .ok (.ifCond .eq 33, 3) := by decide +kernel
theorem d_SpeciesSolverModel_mayFollow_152 : decode b_SpeciesSolverModel_mayFollow 152 = .ok (.iload_n 3, 1) := by decide +kernel
theorem d_SpeciesSolverModel_mayFollow_153 : decode b_SpeciesSolverModel_mayFollow 153 = .ok (.ifCond .le 29, 3) := by decide +kernel
theorem d_SpeciesSolverModel_mayFollow_156 : decode b_SpeciesSolverModel_mayFollow 156 = .ok (.aload_n 0, 1) := by decide +kernel
theorem d_SpeciesSolverModel_mayFollow_157 : decode b_SpeciesSolverModel_mayFollow 157 = .ok (.iload 11, 2) := by decide +kernel
theorem d_SpeciesSolverModel_mayFollow_159 : decode b_SpeciesSolverModel_mayFollow 159 = .ok (.iload_n 1, 1) := by decide +kernel
theorem d_SpeciesSolverModel_mayFollow_160 : decode b_SpeciesSolverModel_mayFollow 160 = .ok (.iconst 1, 1) := by decide +kernel
theorem d_SpeciesSolverModel_mayFollow_161 : decode b_SpeciesSolverModel_mayFollow 161 = .ok (.isub, 1) := by decide +kernel
theorem d_SpeciesSolverModel_mayFollow_162 : decode b_SpeciesSolverModel_mayFollow 162 = .ok (.aload_n 0, 1) := by decide +kernel
theorem d_SpeciesSolverModel_mayFollow_163 : decode b_SpeciesSolverModel_mayFollow 163 = .ok (.getfield 37, 3) := by decide +kernel
theorem d_SpeciesSolverModel_mayFollow_166 : decode b_SpeciesSolverModel_mayFollow 166 = .ok (.iload_n 2, 1) := by decide +kernel
theorem d_SpeciesSolverModel_mayFollow_167 : decode b_SpeciesSolverModel_mayFollow 167 = .ok (.iload_n 3, 1) := by decide +kernel
theorem d_SpeciesSolverModel_mayFollow_168 : decode b_SpeciesSolverModel_mayFollow 168 = .ok (.invokestatic 152, 3) := by decide +kernel
theorem d_SpeciesSolverModel_mayFollow_171 : decode b_SpeciesSolverModel_mayFollow 171 = .ok (.iaload, 1) := by decide +kernel
theorem d_SpeciesSolverModel_mayFollow_172 : decode b_SpeciesSolverModel_mayFollow 172 = .ok (.iload 7, 2) := by decide +kernel
theorem d_SpeciesSolverModel_mayFollow_174 : decode b_SpeciesSolverModel_mayFollow 174 = .ok (.iload 8, 2) := by decide +kernel
theorem d_SpeciesSolverModel_mayFollow_176 : decode b_SpeciesSolverModel_mayFollow 176 = .ok (.invokevirtual 155, 3) := by decide +kernel
theorem d_SpeciesSolverModel_mayFollow_179 : decode b_SpeciesSolverModel_mayFollow 179 = .ok (.ifCond .ne 7, 3) := by decide +kernel
theorem d_SpeciesSolverModel_mayFollow_182 : decode b_SpeciesSolverModel_mayFollow 182 = .ok (.iconst 1, 1) := by decide +kernel
theorem d_SpeciesSolverModel_mayFollow_183 : decode b_SpeciesSolverModel_mayFollow 183 = .ok (.goto 4, 3) := by decide +kernel
theorem d_SpeciesSolverModel_mayFollow_186 : decode b_SpeciesSolverModel_mayFollow 186 = .ok (.iconst 0, 1) := by decide +kernel
theorem d_SpeciesSolverModel_mayFollow_187 : decode b_SpeciesSolverModel_mayFollow 187 = .ok (.iand, 1) := by decide +kernel
theorem d_SpeciesSolverModel_mayFollow_188 : decode b_SpeciesSolverModel_mayFollow 188 = .ok (.istore 10, 2) := by decide +kernel
theorem d_SpeciesSolverModel_mayFollow_190 : decode b_SpeciesSolverModel_mayFollow 190 = .ok (.iinc 11 1, 3) := by decide +kernel
theorem d_SpeciesSolverModel_mayFollow_193 : decode b_SpeciesSolverModel_mayFollow 193 = .ok (.goto (-161), 3) := by decide +kernel
theorem d_SpeciesSolverModel_mayFollow_196 : decode b_SpeciesSolverModel_mayFollow 196 = .ok (.iload 10, 2) := by decide +kernel
theorem d_SpeciesSolverModel_mayFollow_198 : decode b_SpeciesSolverModel_mayFollow 198 = .ok (.aload_n 0, 1) := by decide +kernel
theorem d_SpeciesSolverModel_mayFollow_199 : decode b_SpeciesSolverModel_mayFollow 199 = .ok (.getfield 24, 3) := by decide +kernel
theorem d_SpeciesSolverModel_mayFollow_202 : decode b_SpeciesSolverModel_mayFollow 202 = .ok (.iconst 5, 1) := by decide +kernel
theorem d_SpeciesSolverModel_mayFollow_203 : decode b_SpeciesSolverModel_mayFollow 203 = .ok (.baload, 1) := by decide +kernel
theorem d_SpeciesSolverModel_mayFollow_204 : decode b_SpeciesSolverModel_mayFollow 204 = .ok (.ifCond .eq 14, 3) := by decide +kernel
theorem d_SpeciesSolverModel_mayFollow_207 : decode b_SpeciesSolverModel_mayFollow 207 = .ok (.aload_n 0, 1) := by decide +kernel
theorem d_SpeciesSolverModel_mayFollow_208 : decode b_SpeciesSolverModel_mayFollow 208 = .ok (.iload 7, 2) := by decide +kernel
theorem d_SpeciesSolverModel_mayFollow_210 : decode b_SpeciesSolverModel_mayFollow 210 = .ok (.iload 8, 2) := by decide +kernel
theorem d_SpeciesSolverModel_mayFollow_212 : decode b_SpeciesSolverModel_mayFollow 212 = .ok (.invokevirtual 159, 3) := by decide +kernel
theorem d_SpeciesSolverModel_mayFollow_215 : decode b_SpeciesSolverModel_mayFollow 215 = .ok (.ifCond .ne 42, 3) := by decide +kernel
theorem d_SpeciesSolverModel_mayFollow_218 : decode b_SpeciesSolverModel_mayFollow 218 = .ok (.aload_n 0, 1) := by decide +kernel
theorem d_SpeciesSolverModel_mayFollow_219 : decode b_SpeciesSolverModel_mayFollow 219 = .ok (.getfield 24, 3) := by decide +kernel
theorem d_SpeciesSolverModel_mayFollow_222 : decode b_SpeciesSolverModel_mayFollow 222 = .ok (.bipush 6, 2) := by decide +kernel
theorem d_SpeciesSolverModel_mayFollow_224 : decode b_SpeciesSolverModel_mayFollow 224 = .ok (.baload, 1) := by decide +kernel
theorem d_SpeciesSolverModel_mayFollow_225 : decode b_SpeciesSolverModel_mayFollow 225 = .ok (.ifCond .eq 28, 3) := by decide +kernel
theorem d_SpeciesSolverModel_mayFollow_228 : decode b_SpeciesSolverModel_mayFollow 228 = .ok (.iload_n 3, 1) := by decide +kernel
theorem d_SpeciesSolverModel_mayFollow_229 : decode b_SpeciesSolverModel_mayFollow 229 = .ok (.ifCond .le 24, 3) := by decide +kernel
theorem d_SpeciesSolverModel_mayFollow_232 : decode b_SpeciesSolverModel_mayFollow 232 = .ok (.aload_n 0, 1) := by decide +kernel
theorem d_SpeciesSolverModel_mayFollow_233 : decode b_SpeciesSolverModel_mayFollow 233 = .ok (.aload_n 0, 1) := by decide +kernel
theorem d_SpeciesSolverModel_mayFollow_234 : decode b_SpeciesSolverModel_mayFollow 234 = .ok (.getfield 37, 3) := by decide +kernel
theorem d_SpeciesSolverModel_mayFollow_237 : decode b_SpeciesSolverModel_mayFollow 237 = .ok (.iload_n 2, 1) := by decide +kernel
theorem d_SpeciesSolverModel_mayFollow_238 : decode b_SpeciesSolverModel_mayFollow 238 = .ok (.iload_n 3, 1) := by decide +kernel
theorem d_SpeciesSolverModel_mayFollow_239 : decode b_SpeciesSolverModel_mayFollow 239 = .ok (.invokestatic 152, 3) := by decide +kernel
theorem d_SpeciesSolverModel_mayFollow_242 : decode b_SpeciesSolverModel_mayFollow 242 = .ok (.iaload, 1) := by decide +kernel
theorem d_SpeciesSolverModel_mayFollow_243 : decode b_SpeciesSolverModel_mayFollow 243 = .ok (.iload 7, 2) := by decide +kernel
theorem d_SpeciesSolverModel_mayFollow_245 : decode b_SpeciesSolverModel_mayFollow 245 = .ok (.iload 8, 2) := by decide +kernel
theorem d_SpeciesSolverModel_mayFollow_247 : decode b_SpeciesSolverModel_mayFollow 247 = .ok (.invokevirtual 162, 3) := by decide +kernel
theorem d_SpeciesSolverModel_mayFollow_250 : decode b_SpeciesSolverModel_mayFollow 250 = .ok (.ifCond .ne 7, 3) := by decide +kernel
theorem d_SpeciesSolverModel_mayFollow_253 : decode b_SpeciesSolverModel_mayFollow 253 = .ok (.iconst 1, 1) := by decide +kernel
theorem d_SpeciesSolverModel_mayFollow_254 : decode b_SpeciesSolverModel_mayFollow 254 = .ok (.goto 4, 3) := by decide +kernel
theorem d_SpeciesSolverModel_mayFollow_257 : decode b_SpeciesSolverModel_mayFollow 257 = .ok (.iconst 0, 1) := by decide +kernel
theorem d_SpeciesSolverModel_mayFollow_258 : decode b_SpeciesSolverModel_mayFollow 258 = .ok (.iand, 1) := by decide +kernel
theorem d_SpeciesSolverModel_mayFollow_259 : decode b_SpeciesSolverModel_mayFollow 259 = .ok (.istore 10, 2) := by decide +kernel
theorem d_SpeciesSolverModel_mayFollow_261 : decode b_SpeciesSolverModel_mayFollow 261 = .ok (.iload 10, 2) := by decide +kernel
theorem d_SpeciesSolverModel_mayFollow_263 : decode b_SpeciesSolverModel_mayFollow 263 = .ok (.aload_n 0, 1) := by decide +kernel
theorem d_SpeciesSolverModel_mayFollow_264 : decode b_SpeciesSolverModel_mayFollow 264 = .ok (.getfield 24, 3) := by decide +kernel
theorem d_SpeciesSolverModel_mayFollow_267 : decode b_SpeciesSolverModel_mayFollow 267 = .ok (.bipush 7, 2) := by decide +kernel
theorem d_SpeciesSolverModel_mayFollow_269 : decode b_SpeciesSolverModel_mayFollow 269 = .ok (.baload, 1) := by decide +kernel
theorem d_SpeciesSolverModel_mayFollow_270 : decode b_SpeciesSolverModel_mayFollow 270 = .ok (.ifCond .eq 24, 3) := by decide +kernel
theorem d_SpeciesSolverModel_mayFollow_273 : decode b_SpeciesSolverModel_mayFollow 273 = .ok (.iload 5, 2) := by decide +kernel
theorem d_SpeciesSolverModel_mayFollow_275 : decode b_SpeciesSolverModel_mayFollow 275 = .ok (.iload_n 2, 1) := by decide +kernel
theorem d_SpeciesSolverModel_mayFollow_276 : decode b_SpeciesSolverModel_mayFollow 276 = .ok (.if_icmp .ne 18, 3) := by decide +kernel
theorem d_SpeciesSolverModel_mayFollow_279 : decode b_SpeciesSolverModel_mayFollow 279 = .ok (.iload_n 2, 1) := by decide +kernel
theorem d_SpeciesSolverModel_mayFollow_280 : decode b_SpeciesSolverModel_mayFollow 280 = .ok (.iload_n 3, 1) := by decide +kernel
theorem d_SpeciesSolverModel_mayFollow_281 : decode b_SpeciesSolverModel_mayFollow 281 = .ok (.invokestatic 137, 3) := by decide +kernel
theorem d_SpeciesSolverModel_mayFollow_284 : decode b_SpeciesSolverModel_mayFollow 284 = .ok (.aload_n 0, 1) := by decide +kernel
theorem d_SpeciesSolverModel_mayFollow_285 : decode b_SpeciesSolverModel_mayFollow 285 = .ok (.getfield 28, 3) := by decide +kernel
theorem d_SpeciesSolverModel_mayFollow_288 : decode b_SpeciesSolverModel_mayFollow 288 = .ok (.bipush 11, 2) := by decide +kernel
theorem d_SpeciesSolverModel_mayFollow_290 : decode b_SpeciesSolverModel_mayFollow 290 = .ok (.iaload, 1) := by decide +kernel
theorem d_SpeciesSolverModel_mayFollow_291 : decode b_SpeciesSolverModel_mayFollow 291 = .ok (.if_icmp .ge 7, 3) := by decide +kernel
theorem d_SpeciesSolverModel_mayFollow_294 : decode b_SpeciesSolverModel_mayFollow 294 = .ok (.iconst 1, 1) := by decide +kernel
theorem d_SpeciesSolverModel_mayFollow_295 : decode b_SpeciesSolverModel_mayFollow 295 = .ok (.goto 4, 3) := by decide +kernel
theorem d_SpeciesSolverModel_mayFollow_298 : decode b_SpeciesSolverModel_mayFollow 298 = .ok (.iconst 0, 1) := by decide +kernel
theorem d_SpeciesSolverModel_mayFollow_299 : decode b_SpeciesSolverModel_mayFollow 299 = .ok (.iand, 1) := by decide +kernel
theorem d_SpeciesSolverModel_mayFollow_300 : decode b_SpeciesSolverModel_mayFollow 300 = .ok (.istore 10, 2) := by decide +kernel
theorem d_SpeciesSolverModel_mayFollow_302 : decode b_SpeciesSolverModel_mayFollow 302 = .ok (.iload 6, 2) := by decide +kernel
theorem d_SpeciesSolverModel_mayFollow_304 : decode b_SpeciesSolverModel_mayFollow 304 = .ok (.ifCond .eq 61, 3) := by decide +kernel
theorem d_SpeciesSolverModel_mayFollow_307 : decode b_SpeciesSolverModel_mayFollow 307 = .ok (.iload_n 1, 1) := by decide +kernel
theorem d_SpeciesSolverModel_mayFollow_308 : decode b_SpeciesSolverModel_mayFollow 308 = .ok (.aload_n 0, 1) := by decide +kernel
theorem d_SpeciesSolverModel_mayFollow_309 : decode b_SpeciesSolverModel_mayFollow 309 = .ok (.invokevirtual 130, 3) := by decide +kernel
theorem d_SpeciesSolverModel_mayFollow_312 : decode b_SpeciesSolverModel_mayFollow 312 = .ok (.iconst 1, 1) := by decide +kernel
theorem d_SpeciesSolverModel_mayFollow_313 : decode b_SpeciesSolverModel_mayFollow 313 = .ok (.isub, 1) := by decide +kernel
theorem d_SpeciesSolverModel_mayFollow_314 : decode b_SpeciesSolverModel_mayFollow 314 = .ok (.if_icmp .ne 51, 3) := by decide +kernel
theorem d_SpeciesSolverModel_mayFollow_317 : decode b_SpeciesSolverModel_mayFollow 317 = .ok (.aload_n 0, 1) := by decide +kernel
theorem d_SpeciesSolverModel_mayFollow_318 : decode b_SpeciesSolverModel_mayFollow 318 = .ok (.getfield 24, 3) := by decide +kernel
theorem d_SpeciesSolverModel_mayFollow_321 : decode b_SpeciesSolverModel_mayFollow 321 = .ok (.bipush 9, 2) := by decide +kernel
theorem d_SpeciesSolverModel_mayFollow_323 : decode b_SpeciesSolverModel_mayFollow 323 = .ok (.baload, 1) := by decide +kernel
theorem d_SpeciesSolverModel_mayFollow_324 : decode b_SpeciesSolverModel_mayFollow 324 = .ok (.ifCond .eq 41, 3) := by decide +kernel
theorem d_SpeciesSolverModel_mayFollow_327 : decode b_SpeciesSolverModel_mayFollow 327 = .ok (.iload 10, 2) := by decide +kernel
theorem d_SpeciesSolverModel_mayFollow_329 : decode b_SpeciesSolverModel_mayFollow 329 = .ok (.aload_n 0, 1) := by decide +kernel
theorem d_SpeciesSolverModel_mayFollow_330 : decode b_SpeciesSolverModel_mayFollow 330 = .ok (.bipush 6, 2) := by decide +kernel
theorem d_SpeciesSolverModel_mayFollow_332 : decode b_SpeciesSolverModel_mayFollow 332 = .ok (.iload 8, 2) := by decide +kernel
theorem d_SpeciesSolverModel_mayFollow_334 : decode b_SpeciesSolverModel_mayFollow 334 = .ok (.aload_n 0, 1) := by decide +kernel
theorem d_SpeciesSolverModel_mayFollow_335 : decode b_SpeciesSolverModel_mayFollow 335 = .ok (.iconst 0, 1) := by decide +kernel
theorem d_SpeciesSolverModel_mayFollow_336 : decode b_SpeciesSolverModel_mayFollow 336 = .ok (.iload_n 1, 1) := by decide +kernel
theorem d_SpeciesSolverModel_mayFollow_337 : decode b_SpeciesSolverModel_mayFollow 337 = .ok (.invokevirtual 108, 3) := by decide +kernel
theorem d_SpeciesSolverModel_mayFollow_340 : decode b_SpeciesSolverModel_mayFollow 340 = .ok (.invokevirtual 115, 3) := by decide +kernel
theorem d_SpeciesSolverModel_mayFollow_343 : decode b_SpeciesSolverModel_mayFollow 343 = .ok (.ifCond .eq 18, 3) := by decide +kernel
theorem d_SpeciesSolverModel_mayFollow_346 : decode b_SpeciesSolverModel_mayFollow 346 = .ok (.aload_n 0, 1) := by decide +kernel
theorem d_SpeciesSolverModel_mayFollow_347 : decode b_SpeciesSolverModel_mayFollow 347 = .ok (.iload 7, 2) := by decide +kernel
theorem d_SpeciesSolverModel_mayFollow_349 : decode b_SpeciesSolverModel_mayFollow 349 = .ok (.iload 8, 2) := by decide +kernel
theorem d_SpeciesSolverModel_mayFollow_351 : decode b_SpeciesSolverModel_mayFollow 351 = .ok (.invokevirtual 123, 3) := by decide +kernel
theorem d_SpeciesSolverModel_mayFollow_354 : decode b_SpeciesSolverModel_mayFollow 354 = .ok (.ifCond .eq 7, 3) := by decide +kernel
theorem d_SpeciesSolverModel_mayFollow_357 : decode b_SpeciesSolverModel_mayFollow 357 = .ok (.iconst 1, 1) := by decide +kernel
theorem d_SpeciesSolverModel_mayFollow_358 : decode b_SpeciesSolverModel_mayFollow 358 = .ok (.goto 4, 3) := by decide +kernel
theorem d_SpeciesSolverModel_mayFollow_361 : decode b_SpeciesSolverModel_mayFollow 361 = .ok (.iconst 0, 1) := by decide +kernel
theorem d_SpeciesSolverModel_mayFollow_362 : decode b_SpeciesSolverModel_mayFollow 362 = .ok (.iand, 1) := by decide +kernel
theorem d_SpeciesSolverModel_mayFollow_363 : decode b_SpeciesSolverModel_mayFollow 363 = .ok (.istore 10, 2) := by decide +kernel
theorem d_SpeciesSolverModel_mayFollow_365 : decode b_SpeciesSolverModel_mayFollow 365 = .ok (.iload 10, 2) := by decide +kernel
theorem d_SpeciesSolverModel_mayFollow_367 : decode b_SpeciesSolverModel_mayFollow 367 = .ok (.ireturn, 1) := by decide +kernel
abbrev wd_SpeciesSolverModel_mayFollow (kc : Nat → ClassId) (ad : Nat → Nat) (md_thrown : Int32) (md_drafted : Int32) (md_lines : Int32) (md_n : Int32) (md_species : Int32) (md_above : Int32) (md_trialSize : Int32) (md_foundSize : Int32) (md_foundSpecies : Int32) (md_foundN : Int32) (md_foundCost : Int32) (md_chosen : Int32) (md_low : Int32) (md_many : Int64) (md_ties : Int64) (md_winnerCost : Int32) (md_allMany : Int64) (md_allTies : Int64) (md_faults : Int32) (md_given : Nat → Int32) (md_on : Nat → Int32) (md_numbers : Nat → Int32) (md_pitches : Nat → Int32) : va_W := [((ad 0), .inr (1, [.int md_thrown, .ref (ad 1), .int md_drafted, .ref (ad 2), .int md_lines, .int md_n, .int md_species, .int md_above, .ref (ad 3), .ref (ad 4), .ref (ad 5), .int md_trialSize, .ref (ad 6), .int md_foundSize, .int md_foundSpecies, .int md_foundN, .int md_foundCost, .ref (ad 7), .int md_chosen, .ref (ad 8), .ref (ad 9), .ref (ad 10), .int md_low, .long md_many, .long md_ties, .ref (ad 11), .ref (ad 12), .int md_winnerCost, .long md_allMany, .long md_allTies, .ref (ad 13), .ref (ad 14), .ref (ad 15), .ref (ad 16), .int md_faults])), ((ad 2), .inl (kc 0, 36, .inl md_given)), ((ad 3), .inl (kc 1, 11, .inl md_on)), ((ad 4), .inl (kc 0, 18, .inl md_numbers)), ((ad 7), .inl (kc 0, 8, .inl md_pitches))]
abbrev rm_SpeciesSolverModel_mayFollow : Room := { frames := 4, cells := 0, slots := 0, locals := 92 }
abbrev cw_SpeciesSolverModel_mayFollow : Cond := .code y_SpeciesSolverModel_mayFollow b_SpeciesSolverModel_mayFollow 12 (some .boolean)
abbrev ws_SpeciesSolverModel_mayFollow : List Cond := cw_SpeciesSolverModel_mayFollow :: GW
theorem hd_SpeciesSolverModel_mayFollow : y_SpeciesSolverModel_mayFollow.cls ≠ "java/lang/invoke/MethodHandle" ∧ y_SpeciesSolverModel_mayFollow.cls ≠ "java/lang/invoke/VarHandle" ∧ (parseMethodDescriptor y_SpeciesSolverModel_mayFollow.desc).map (fun d => d.parameters.length) = some 6 := by decide +kernel
def m_SpeciesSolverModel_mayFollow_299 (F : Nat) (md_lines : Int32) (md_n : Int32) (md_species : Int32) (md_above : Int32) (md_given : Nat → Int32) (md_on : Nat → Int32) (md_numbers : Nat → Int32) (md_pitches : Nat → Int32)   (x1 : Int32) (x6 : Int32) (x7 : Int32) (x8 : Int32) (t0 : Int32) (t1 : Int32) : Option (Int32) :=
  (if x6 = (0 : Int32) then
    (gb (t0 &&& t1) (some (t0 &&& t1)))
  else
    (bd (m_SpeciesSolverModel_size md_n md_species) (fun u3 => (if x1 = (u3 - (1 : Int32)) then
      (if (md_on (Int32.toNatClampNeg (9 : Int32))) = (0 : Int32) then
        (gb (t0 &&& t1) (some (t0 &&& t1)))
      else
        (bd (m_SpeciesSolverModel_at md_species md_given (0 : Int32) x1) (fun u9 => (bd (m_SpeciesSolverModel_isIn md_numbers (6 : Int32) x8 u9) (fun u11 => (if u11 = (0 : Int32) then
          (gb ((t0 &&& t1) &&& (0 : Int32)) (some ((t0 &&& t1) &&& (0 : Int32))))
        else
          (bd (m_SpeciesSolverModel_isStep md_numbers x7 x8) (fun u15 => (if u15 = (0 : Int32) then
            (gb ((t0 &&& t1) &&& (0 : Int32)) (some ((t0 &&& t1) &&& (0 : Int32))))
          else
            (gb ((t0 &&& t1) &&& (1 : Int32)) (some ((t0 &&& t1) &&& (1 : Int32)))))))))))))
    else
      (gb (t0 &&& t1) (some (t0 &&& t1)))))))
set_option maxHeartbeats 4000000 in
set_option maxRecDepth 100000 in
theorem l_SpeciesSolverModel_mayFollow_299 {r : Int32} {F : Nat} {ad : Nat → Nat} {md_thrown : Int32} {md_drafted : Int32} {md_lines : Int32} {md_n : Int32} {md_species : Int32} {md_above : Int32} {md_trialSize : Int32} {md_foundSize : Int32} {md_foundSpecies : Int32} {md_foundN : Int32} {md_foundCost : Int32} {md_chosen : Int32} {md_low : Int32} {md_many : Int64} {md_ties : Int64} {md_winnerCost : Int32} {md_allMany : Int64} {md_allTies : Int64} {md_faults : Int32} {md_given : Nat → Int32} {md_on : Nat → Int32} {md_numbers : Nat → Int32} {md_pitches : Nat → Int32}  {x1 : Int32} {x6 : Int32} {x7 : Int32} {x8 : Int32} {t0 : Int32} {t1 : Int32} {H : Heap} {locs : List Loc} {ls : Array Slot} (C : Cx p s m meth c args A D kc R_SpeciesSolverModel b_SpeciesSolverModel_mayFollow 12 (some .boolean))  (hm : m_SpeciesSolverModel_mayFollow_299 F md_lines md_n md_species md_above md_given md_on md_numbers md_pitches  x1 x6 x7 x8 t0 t1 = some r) (hZ : St D A s (wd_SpeciesSolverModel_mayFollow kc ad md_thrown md_drafted md_lines md_n md_species md_above md_trialSize md_foundSize md_foundSpecies md_foundN md_foundCost md_chosen md_low md_many md_ties md_winnerCost md_allMany md_allTies md_faults md_given md_on md_numbers md_pitches) H locs) (hl : lv_has ls 12 [(0, .ref (ad 0)), (1, .int x1), (6, .int x6), (7, .int x7), (8, .int x8)]) : W p l e rm_SpeciesSolverModel_mayFollow s m args below meth c H locs 0 0 (MQ below (Qi D A (wd_SpeciesSolverModel_mayFollow kc ad md_thrown md_drafted md_lines md_n md_species md_above md_trialSize md_foundSize md_foundSpecies md_foundN md_foundCost md_chosen md_low md_many md_ties md_winnerCost md_allMany md_allTies md_faults md_given md_on md_numbers md_pitches) r) args s 0 0 A) (F0 m 299 ls [.int t1, .int t0]) := by
  obtain ⟨hx, hb, hr, hts, hown, hml, hlocks, hK, hN, hA, hX⟩ := id C
  obtain ⟨hP, hD, hS⟩ := hZ
  unfold m_SpeciesSolverModel_mayFollow_299 at hm
  refine lv_iand hx hb d_SpeciesSolverModel_mayFollow_299 ?_
  refine lv_istore (lv' := [(10, .int (t0 &&& t1)), (0, .ref (ad 0)), (1, .int x1), (6, .int x6), (7, .int x7), (8, .int x8)]) hx hb d_SpeciesSolverModel_mayFollow_300 hl (by decide) rfl (fun ls hl => ?_)
  refine lv_iload hx hb d_SpeciesSolverModel_mayFollow_302 (lv_at hl 3 rfl) ?_
  refine lv_if_eq (tgt := 365) hx hb d_SpeciesSolverModel_mayFollow_304 (by decide) (fun c1 => ?_) (fun c1 => ?_)
  · replace hm := ifT hm c1
    refine lv_iload hx hb d_SpeciesSolverModel_mayFollow_365 (lv_at hl 0 rfl) ?_
    obtain ⟨hz2, hm⟩ := gb_some hm
    replace hm := Option.some.inj hm; subst hm
    exact zret_z (v := (t0 &&& t1)) C hP hD hS (gb_nar hz2) d_SpeciesSolverModel_mayFollow_367
  · replace hm := ifF hm c1
    refine lv_iload_n hx hb d_SpeciesSolverModel_mayFollow_307 rfl (lv_at hl 2 rfl) ?_
    refine lv_aload_n hx hb d_SpeciesSolverModel_mayFollow_308 rfl (lv_at hl 1 rfl) ?_
    obtain ⟨u3, hc4, hm⟩ := bd_some hm
    refine zV_i (n := 0) (wr := [((ad 2), .inl (kc 0, 36, .inl md_given)), ((ad 3), .inl (kc 1, 11, .inl md_on)), ((ad 4), .inl (kc 0, 18, .inl md_numbers)), ((ad 7), .inl (kc 0, 8, .inl md_pitches))]) (w1 := (wd_SpeciesSolverModel_size kc ad md_thrown md_drafted md_lines md_n md_species md_above md_trialSize md_foundSize md_foundSpecies md_foundN md_foundCost md_chosen md_low md_many md_ties md_winnerCost md_allMany md_allTies md_faults)) (ws1 := (wd_SpeciesSolverModel_mayFollow kc ad md_thrown md_drafted md_lines md_n md_species md_above md_trialSize md_foundSize md_foundSpecies md_foundN md_foundCost md_chosen md_low md_many md_ties md_winnerCost md_allMany md_allTies md_faults md_given md_on md_numbers md_pitches)) (As := []) (rest := [.int x1]) (ci := 1) (q0 := 0) (y := y_SpeciesSolverModel_size) ⟨hx, hb, hml, hown, hts⟩ (fun sz => c_SpeciesSolverModel_size hc4 sz) gw_995 gw_992 gw_994 gw_79 gw_118 hd_SpeciesSolverModel_size ⟨Nat.le_of_ble_eq_true rfl, Nat.le_of_ble_eq_true rfl⟩ ⟨rfl, rfl⟩ ⟨Nat.zero_le _, Nat.zero_le _⟩ hK hN hP hD hS hA hX [0] [1, 2, 3, 4] [4, 0, 1, 2, 3] rfl rfl (by decide) (by decide) (by decide) rfl (by decide) rfl rfl rfl hl.1 rfl (Nat.le_of_ble_eq_true rfl) d_SpeciesSolverModel_mayFollow_309 (fun H locs hP hD hS => ?_)
    refine lv_iconst (v := 1) hx hb d_SpeciesSolverModel_mayFollow_312 (by decide) ?_
    refine lv_isub hx hb d_SpeciesSolverModel_mayFollow_313 ?_
    refine lv_icmp_ne (tgt := 365) hx hb d_SpeciesSolverModel_mayFollow_314 (by decide) (fun c5 => ?_) (fun c5 => ?_)
    · replace hm := ifF hm c5
      refine lv_iload hx hb d_SpeciesSolverModel_mayFollow_365 (lv_at hl 0 rfl) ?_
      obtain ⟨hz6, hm⟩ := gb_some hm
      replace hm := Option.some.inj hm; subst hm
      exact zret_z (v := (t0 &&& t1)) C hP hD hS (gb_nar hz6) d_SpeciesSolverModel_mayFollow_367
    · replace hm := ifT hm c5
      refine lv_aload_n hx hb d_SpeciesSolverModel_mayFollow_317 rfl (lv_at hl 1 rfl) ?_
      refine va_get (D := D) (ci := 1) (v := .ref (ad 3)) (C := R_SpeciesSolverModel) (T := T_SpeciesSolverModel) (N := 35) hx hb hts inG_SpeciesSolverModel hown hK hP 0 rfl rfl 8 (by decide) (hts _ gw_826) (fun _ h9 => h9) rfl d_SpeciesSolverModel_mayFollow_318 ?_
      refine lv_bipush (v := 9) hx hb d_SpeciesSolverModel_mayFollow_321 (by decide) ?_
      refine va_zald hx hb hK hP 2 1 rfl rfl (in_lit (by decide)) d_SpeciesSolverModel_mayFollow_323 ?_
      refine lv_if_eq (tgt := 365) hx hb d_SpeciesSolverModel_mayFollow_324 (by decide) (fun c7 => ?_) (fun c7 => ?_)
      · replace hm := ifT hm c7
        refine lv_iload hx hb d_SpeciesSolverModel_mayFollow_365 (lv_at hl 0 rfl) ?_
        obtain ⟨hz8, hm⟩ := gb_some hm
        replace hm := Option.some.inj hm; subst hm
        exact zret_z (v := (t0 &&& t1)) C hP hD hS (gb_nar hz8) d_SpeciesSolverModel_mayFollow_367
      · replace hm := ifF hm c7
        refine lv_iload hx hb d_SpeciesSolverModel_mayFollow_327 (lv_at hl 0 rfl) ?_
        refine lv_aload_n hx hb d_SpeciesSolverModel_mayFollow_329 rfl (lv_at hl 1 rfl) ?_
        refine lv_bipush (v := 6) hx hb d_SpeciesSolverModel_mayFollow_330 (by decide) ?_
        refine lv_iload hx hb d_SpeciesSolverModel_mayFollow_332 (lv_at hl 5 rfl) ?_
        refine lv_aload_n hx hb d_SpeciesSolverModel_mayFollow_334 rfl (lv_at hl 1 rfl) ?_
        refine lv_iconst (v := 0) hx hb d_SpeciesSolverModel_mayFollow_335 (by decide) ?_
        refine lv_iload_n hx hb d_SpeciesSolverModel_mayFollow_336 rfl (lv_at hl 2 rfl) ?_
        obtain ⟨u9, hc10, hm⟩ := bd_some hm
        refine zV_i (n := 2) (wr := [((ad 3), .inl (kc 1, 11, .inl md_on)), ((ad 4), .inl (kc 0, 18, .inl md_numbers)), ((ad 7), .inl (kc 0, 8, .inl md_pitches))]) (w1 := (wd_SpeciesSolverModel_at kc ad md_thrown md_drafted md_lines md_n md_species md_above md_trialSize md_foundSize md_foundSpecies md_foundN md_foundCost md_chosen md_low md_many md_ties md_winnerCost md_allMany md_allTies md_faults md_given)) (ws1 := (wd_SpeciesSolverModel_mayFollow kc ad md_thrown md_drafted md_lines md_n md_species md_above md_trialSize md_foundSize md_foundSpecies md_foundN md_foundCost md_chosen md_low md_many md_ties md_winnerCost md_allMany md_allTies md_faults md_given md_on md_numbers md_pitches)) (As := [.int (0 : Int32), .int x1]) (rest := [.int x8, .int (6 : Int32), .ref (ad 0), .int (t0 &&& t1)]) (ci := 1) (q0 := 0) (y := y_SpeciesSolverModel_at) ⟨hx, hb, hml, hown, hts⟩ (fun sz => c_SpeciesSolverModel_at hc10 sz) gw_1022 gw_1019 gw_1021 gw_85 gw_118 hd_SpeciesSolverModel_at ⟨Nat.le_of_ble_eq_true rfl, Nat.le_of_ble_eq_true rfl⟩ ⟨rfl, rfl⟩ ⟨Nat.zero_le _, Nat.zero_le _⟩ hK hN hP hD hS hA hX [0, 1] [2, 3, 4] [3, 4, 0, 1, 2] rfl rfl (by decide) (by decide) (by decide) rfl (by decide) rfl rfl rfl hl.1 rfl (Nat.le_of_ble_eq_true rfl) d_SpeciesSolverModel_mayFollow_337 (fun H locs hP hD hS => ?_)
        obtain ⟨u11, hc12, hm⟩ := bd_some hm
        refine zV_i (n := 3) (wr := [((ad 2), .inl (kc 0, 36, .inl md_given)), ((ad 3), .inl (kc 1, 11, .inl md_on)), ((ad 7), .inl (kc 0, 8, .inl md_pitches))]) (w1 := (wd_SpeciesSolverModel_isIn kc ad md_thrown md_drafted md_lines md_n md_species md_above md_trialSize md_foundSize md_foundSpecies md_foundN md_foundCost md_chosen md_low md_many md_ties md_winnerCost md_allMany md_allTies md_faults md_numbers)) (ws1 := (wd_SpeciesSolverModel_mayFollow kc ad md_thrown md_drafted md_lines md_n md_species md_above md_trialSize md_foundSize md_foundSpecies md_foundN md_foundCost md_chosen md_low md_many md_ties md_winnerCost md_allMany md_allTies md_faults md_given md_on md_numbers md_pitches)) (As := [.int (6 : Int32), .int x8, .int u9]) (rest := [.int (t0 &&& t1)]) (ci := 1) (q0 := 0) (y := y_SpeciesSolverModel_isIn) ⟨hx, hb, hml, hown, hts⟩ (fun sz => c_SpeciesSolverModel_isIn hc12 sz) gw_1026 gw_1023 gw_1025 gw_86 gw_118 hd_SpeciesSolverModel_isIn ⟨Nat.le_of_ble_eq_true rfl, Nat.le_of_ble_eq_true rfl⟩ ⟨rfl, rfl⟩ ⟨Nat.zero_le _, Nat.zero_le _⟩ hK hN hP hD hS hA hX [0, 3] [1, 2, 4] [3, 0, 1, 4, 2] rfl rfl (by decide) (by decide) (by decide) rfl (by decide) rfl rfl rfl hl.1 rfl (Nat.le_of_ble_eq_true rfl) d_SpeciesSolverModel_mayFollow_340 (fun H locs hP hD hS => ?_)
        refine lv_if_eq (tgt := 361) hx hb d_SpeciesSolverModel_mayFollow_343 (by decide) (fun c13 => ?_) (fun c13 => ?_)
        · replace hm := ifT hm c13
          refine lv_iconst (v := 0) hx hb d_SpeciesSolverModel_mayFollow_361 (by decide) ?_
          refine lv_iand hx hb d_SpeciesSolverModel_mayFollow_362 ?_
          refine lv_istore (lv' := [(10, .int ((t0 &&& t1) &&& (0 : Int32))), (0, .ref (ad 0)), (1, .int x1), (6, .int x6), (7, .int x7), (8, .int x8)]) hx hb d_SpeciesSolverModel_mayFollow_363 hl (by decide) rfl (fun ls hl => ?_)
          refine lv_iload hx hb d_SpeciesSolverModel_mayFollow_365 (lv_at hl 0 rfl) ?_
          obtain ⟨hz14, hm⟩ := gb_some hm
          replace hm := Option.some.inj hm; subst hm
          exact zret_z (v := ((t0 &&& t1) &&& (0 : Int32))) C hP hD hS (gb_nar hz14) d_SpeciesSolverModel_mayFollow_367
        · replace hm := ifF hm c13
          refine lv_aload_n hx hb d_SpeciesSolverModel_mayFollow_346 rfl (lv_at hl 1 rfl) ?_
          refine lv_iload hx hb d_SpeciesSolverModel_mayFollow_347 (lv_at hl 4 rfl) ?_
          refine lv_iload hx hb d_SpeciesSolverModel_mayFollow_349 (lv_at hl 5 rfl) ?_
          obtain ⟨u15, hc16, hm⟩ := bd_some hm
          refine zV_i (n := 2) (wr := [((ad 2), .inl (kc 0, 36, .inl md_given)), ((ad 3), .inl (kc 1, 11, .inl md_on)), ((ad 7), .inl (kc 0, 8, .inl md_pitches))]) (w1 := (wd_SpeciesSolverModel_isStep kc ad md_thrown md_drafted md_lines md_n md_species md_above md_trialSize md_foundSize md_foundSpecies md_foundN md_foundCost md_chosen md_low md_many md_ties md_winnerCost md_allMany md_allTies md_faults md_numbers)) (ws1 := (wd_SpeciesSolverModel_mayFollow kc ad md_thrown md_drafted md_lines md_n md_species md_above md_trialSize md_foundSize md_foundSpecies md_foundN md_foundCost md_chosen md_low md_many md_ties md_winnerCost md_allMany md_allTies md_faults md_given md_on md_numbers md_pitches)) (As := [.int x7, .int x8]) (rest := [.int (t0 &&& t1)]) (ci := 1) (q0 := 0) (y := y_SpeciesSolverModel_isStep) ⟨hx, hb, hml, hown, hts⟩ (fun sz => c_SpeciesSolverModel_isStep hc16 sz) gw_1063 gw_1060 gw_1062 gw_93 gw_118 hd_SpeciesSolverModel_isStep ⟨Nat.le_of_ble_eq_true rfl, Nat.le_of_ble_eq_true rfl⟩ ⟨rfl, rfl⟩ ⟨Nat.zero_le _, Nat.zero_le _⟩ hK hN hP hD hS hA hX [0, 3] [1, 2, 4] [3, 0, 1, 4, 2] rfl rfl (by decide) (by decide) (by decide) rfl (by decide) rfl rfl rfl hl.1 rfl (Nat.le_of_ble_eq_true rfl) d_SpeciesSolverModel_mayFollow_351 (fun H locs hP hD hS => ?_)
          refine lv_if_eq (tgt := 361) hx hb d_SpeciesSolverModel_mayFollow_354 (by decide) (fun c17 => ?_) (fun c17 => ?_)
          · replace hm := ifT hm c17
            refine lv_iconst (v := 0) hx hb d_SpeciesSolverModel_mayFollow_361 (by decide) ?_
            refine lv_iand hx hb d_SpeciesSolverModel_mayFollow_362 ?_
            refine lv_istore (lv' := [(10, .int ((t0 &&& t1) &&& (0 : Int32))), (0, .ref (ad 0)), (1, .int x1), (6, .int x6), (7, .int x7), (8, .int x8)]) hx hb d_SpeciesSolverModel_mayFollow_363 hl (by decide) rfl (fun ls hl => ?_)
            refine lv_iload hx hb d_SpeciesSolverModel_mayFollow_365 (lv_at hl 0 rfl) ?_
            obtain ⟨hz18, hm⟩ := gb_some hm
            replace hm := Option.some.inj hm; subst hm
            exact zret_z (v := ((t0 &&& t1) &&& (0 : Int32))) C hP hD hS (gb_nar hz18) d_SpeciesSolverModel_mayFollow_367
          · replace hm := ifF hm c17
            refine lv_iconst (v := 1) hx hb d_SpeciesSolverModel_mayFollow_357 (by decide) ?_
            refine lv_goto (tgt := 362) hx hb d_SpeciesSolverModel_mayFollow_358 (by decide) ?_
            refine lv_iand hx hb d_SpeciesSolverModel_mayFollow_362 ?_
            refine lv_istore (lv' := [(10, .int ((t0 &&& t1) &&& (1 : Int32))), (0, .ref (ad 0)), (1, .int x1), (6, .int x6), (7, .int x7), (8, .int x8)]) hx hb d_SpeciesSolverModel_mayFollow_363 hl (by decide) rfl (fun ls hl => ?_)
            refine lv_iload hx hb d_SpeciesSolverModel_mayFollow_365 (lv_at hl 0 rfl) ?_
            obtain ⟨hz19, hm⟩ := gb_some hm
            replace hm := Option.some.inj hm; subst hm
            exact zret_z (v := ((t0 &&& t1) &&& (1 : Int32))) C hP hD hS (gb_nar hz19) d_SpeciesSolverModel_mayFollow_367
def m_SpeciesSolverModel_mayFollow_294 (F : Nat) (md_lines : Int32) (md_n : Int32) (md_species : Int32) (md_above : Int32) (md_given : Nat → Int32) (md_on : Nat → Int32) (md_numbers : Nat → Int32) (md_pitches : Nat → Int32)   (x1 : Int32) (x6 : Int32) (x7 : Int32) (x8 : Int32) (t0 : Int32) : Option (Int32) :=
  m_SpeciesSolverModel_mayFollow_299 F md_lines md_n md_species md_above md_given md_on md_numbers md_pitches  x1 x6 x7 x8 t0 (1 : Int32)
set_option maxHeartbeats 4000000 in
set_option maxRecDepth 100000 in
theorem l_SpeciesSolverModel_mayFollow_294 {r : Int32} {F : Nat} {ad : Nat → Nat} {md_thrown : Int32} {md_drafted : Int32} {md_lines : Int32} {md_n : Int32} {md_species : Int32} {md_above : Int32} {md_trialSize : Int32} {md_foundSize : Int32} {md_foundSpecies : Int32} {md_foundN : Int32} {md_foundCost : Int32} {md_chosen : Int32} {md_low : Int32} {md_many : Int64} {md_ties : Int64} {md_winnerCost : Int32} {md_allMany : Int64} {md_allTies : Int64} {md_faults : Int32} {md_given : Nat → Int32} {md_on : Nat → Int32} {md_numbers : Nat → Int32} {md_pitches : Nat → Int32}  {x1 : Int32} {x6 : Int32} {x7 : Int32} {x8 : Int32} {t0 : Int32} {H : Heap} {locs : List Loc} {ls : Array Slot} (C : Cx p s m meth c args A D kc R_SpeciesSolverModel b_SpeciesSolverModel_mayFollow 12 (some .boolean))  (hm : m_SpeciesSolverModel_mayFollow_294 F md_lines md_n md_species md_above md_given md_on md_numbers md_pitches  x1 x6 x7 x8 t0 = some r) (hZ : St D A s (wd_SpeciesSolverModel_mayFollow kc ad md_thrown md_drafted md_lines md_n md_species md_above md_trialSize md_foundSize md_foundSpecies md_foundN md_foundCost md_chosen md_low md_many md_ties md_winnerCost md_allMany md_allTies md_faults md_given md_on md_numbers md_pitches) H locs) (hl : lv_has ls 12 [(0, .ref (ad 0)), (1, .int x1), (6, .int x6), (7, .int x7), (8, .int x8)]) : W p l e rm_SpeciesSolverModel_mayFollow s m args below meth c H locs 0 0 (MQ below (Qi D A (wd_SpeciesSolverModel_mayFollow kc ad md_thrown md_drafted md_lines md_n md_species md_above md_trialSize md_foundSize md_foundSpecies md_foundN md_foundCost md_chosen md_low md_many md_ties md_winnerCost md_allMany md_allTies md_faults md_given md_on md_numbers md_pitches) r) args s 0 0 A) (F0 m 294 ls [.int t0]) := by
  obtain ⟨hx, hb, hr, hts, hown, hml, hlocks, hK, hN, hA, hX⟩ := id C
  obtain ⟨hP, hD, hS⟩ := hZ
  unfold m_SpeciesSolverModel_mayFollow_294 at hm
  refine lv_iconst (v := 1) hx hb d_SpeciesSolverModel_mayFollow_294 (by decide) ?_
  refine lv_goto (tgt := 299) hx hb d_SpeciesSolverModel_mayFollow_295 (by decide) ?_
  exact l_SpeciesSolverModel_mayFollow_299 C  hm ⟨hP, hD, hS⟩ (lv_sub hl [0, 1, 2, 3, 4] rfl)
def m_SpeciesSolverModel_mayFollow_258 (F : Nat) (md_lines : Int32) (md_n : Int32) (md_species : Int32) (md_above : Int32) (md_given : Nat → Int32) (md_on : Nat → Int32) (md_numbers : Nat → Int32) (md_pitches : Nat → Int32)   (x1 : Int32) (x2 : Int32) (x3 : Int32) (x5 : Int32) (x6 : Int32) (x7 : Int32) (x8 : Int32) (t0 : Int32) (t1 : Int32) : Option (Int32) :=
  (if (md_on (Int32.toNatClampNeg (7 : Int32))) = (0 : Int32) then
    m_SpeciesSolverModel_mayFollow_294 F md_lines md_n md_species md_above md_given md_on md_numbers md_pitches  x1 x6 x7 x8 (t0 &&& t1)
  else
    (if x5 = x2 then
      (bd (m_SpeciesSolverModel_runOf x2 x3) (fun u3 => (if (md_numbers (Int32.toNatClampNeg (11 : Int32))) ≤ u3 then
        m_SpeciesSolverModel_mayFollow_299 F md_lines md_n md_species md_above md_given md_on md_numbers md_pitches  x1 x6 x7 x8 (t0 &&& t1) (0 : Int32)
      else
        m_SpeciesSolverModel_mayFollow_294 F md_lines md_n md_species md_above md_given md_on md_numbers md_pitches  x1 x6 x7 x8 (t0 &&& t1))))
    else
      m_SpeciesSolverModel_mayFollow_294 F md_lines md_n md_species md_above md_given md_on md_numbers md_pitches  x1 x6 x7 x8 (t0 &&& t1)))
set_option maxHeartbeats 4000000 in
set_option maxRecDepth 100000 in
theorem l_SpeciesSolverModel_mayFollow_258 {r : Int32} {F : Nat} {ad : Nat → Nat} {md_thrown : Int32} {md_drafted : Int32} {md_lines : Int32} {md_n : Int32} {md_species : Int32} {md_above : Int32} {md_trialSize : Int32} {md_foundSize : Int32} {md_foundSpecies : Int32} {md_foundN : Int32} {md_foundCost : Int32} {md_chosen : Int32} {md_low : Int32} {md_many : Int64} {md_ties : Int64} {md_winnerCost : Int32} {md_allMany : Int64} {md_allTies : Int64} {md_faults : Int32} {md_given : Nat → Int32} {md_on : Nat → Int32} {md_numbers : Nat → Int32} {md_pitches : Nat → Int32}  {x1 : Int32} {x2 : Int32} {x3 : Int32} {x5 : Int32} {x6 : Int32} {x7 : Int32} {x8 : Int32} {t0 : Int32} {t1 : Int32} {H : Heap} {locs : List Loc} {ls : Array Slot} (C : Cx p s m meth c args A D kc R_SpeciesSolverModel b_SpeciesSolverModel_mayFollow 12 (some .boolean))  (hm : m_SpeciesSolverModel_mayFollow_258 F md_lines md_n md_species md_above md_given md_on md_numbers md_pitches  x1 x2 x3 x5 x6 x7 x8 t0 t1 = some r) (hZ : St D A s (wd_SpeciesSolverModel_mayFollow kc ad md_thrown md_drafted md_lines md_n md_species md_above md_trialSize md_foundSize md_foundSpecies md_foundN md_foundCost md_chosen md_low md_many md_ties md_winnerCost md_allMany md_allTies md_faults md_given md_on md_numbers md_pitches) H locs) (hl : lv_has ls 12 [(0, .ref (ad 0)), (1, .int x1), (2, .int x2), (3, .int x3), (5, .int x5), (6, .int x6), (7, .int x7), (8, .int x8)]) : W p l e rm_SpeciesSolverModel_mayFollow s m args below meth c H locs 0 0 (MQ below (Qi D A (wd_SpeciesSolverModel_mayFollow kc ad md_thrown md_drafted md_lines md_n md_species md_above md_trialSize md_foundSize md_foundSpecies md_foundN md_foundCost md_chosen md_low md_many md_ties md_winnerCost md_allMany md_allTies md_faults md_given md_on md_numbers md_pitches) r) args s 0 0 A) (F0 m 258 ls [.int t1, .int t0]) := by
  obtain ⟨hx, hb, hr, hts, hown, hml, hlocks, hK, hN, hA, hX⟩ := id C
  obtain ⟨hP, hD, hS⟩ := hZ
  unfold m_SpeciesSolverModel_mayFollow_258 at hm
  refine lv_iand hx hb d_SpeciesSolverModel_mayFollow_258 ?_
  refine lv_istore (lv' := [(10, .int (t0 &&& t1)), (0, .ref (ad 0)), (1, .int x1), (2, .int x2), (3, .int x3), (5, .int x5), (6, .int x6), (7, .int x7), (8, .int x8)]) hx hb d_SpeciesSolverModel_mayFollow_259 hl (by decide) rfl (fun ls hl => ?_)
  refine lv_iload hx hb d_SpeciesSolverModel_mayFollow_261 (lv_at hl 0 rfl) ?_
  refine lv_aload_n hx hb d_SpeciesSolverModel_mayFollow_263 rfl (lv_at hl 1 rfl) ?_
  refine va_get (D := D) (ci := 1) (v := .ref (ad 3)) (C := R_SpeciesSolverModel) (T := T_SpeciesSolverModel) (N := 35) hx hb hts inG_SpeciesSolverModel hown hK hP 0 rfl rfl 8 (by decide) (hts _ gw_826) (fun _ h9 => h9) rfl d_SpeciesSolverModel_mayFollow_264 ?_
  refine lv_bipush (v := 7) hx hb d_SpeciesSolverModel_mayFollow_267 (by decide) ?_
  refine va_zald hx hb hK hP 2 1 rfl rfl (in_lit (by decide)) d_SpeciesSolverModel_mayFollow_269 ?_
  refine lv_if_eq (tgt := 294) hx hb d_SpeciesSolverModel_mayFollow_270 (by decide) (fun c1 => ?_) (fun c1 => ?_)
  · replace hm := ifT hm c1
    exact l_SpeciesSolverModel_mayFollow_294 C  hm ⟨hP, hD, hS⟩ (lv_sub hl [1, 2, 6, 7, 8] rfl)
  · replace hm := ifF hm c1
    refine lv_iload hx hb d_SpeciesSolverModel_mayFollow_273 (lv_at hl 5 rfl) ?_
    refine lv_iload_n hx hb d_SpeciesSolverModel_mayFollow_275 rfl (lv_at hl 3 rfl) ?_
    refine lv_icmp_ne (tgt := 294) hx hb d_SpeciesSolverModel_mayFollow_276 (by decide) (fun c2 => ?_) (fun c2 => ?_)
    · replace hm := ifF hm c2
      exact l_SpeciesSolverModel_mayFollow_294 C  hm ⟨hP, hD, hS⟩ (lv_sub hl [1, 2, 6, 7, 8] rfl)
    · replace hm := ifT hm c2
      refine lv_iload_n hx hb d_SpeciesSolverModel_mayFollow_279 rfl (lv_at hl 3 rfl) ?_
      refine lv_iload_n hx hb d_SpeciesSolverModel_mayFollow_280 rfl (lv_at hl 4 rfl) ?_
      obtain ⟨u3, hc4, hm⟩ := bd_some hm
      refine zS_i (n := 2) (wr := [((ad 0), .inr (1, [.int md_thrown, .ref (ad 1), .int md_drafted, .ref (ad 2), .int md_lines, .int md_n, .int md_species, .int md_above, .ref (ad 3), .ref (ad 4), .ref (ad 5), .int md_trialSize, .ref (ad 6), .int md_foundSize, .int md_foundSpecies, .int md_foundN, .int md_foundCost, .ref (ad 7), .int md_chosen, .ref (ad 8), .ref (ad 9), .ref (ad 10), .int md_low, .long md_many, .long md_ties, .ref (ad 11), .ref (ad 12), .int md_winnerCost, .long md_allMany, .long md_allTies, .ref (ad 13), .ref (ad 14), .ref (ad 15), .ref (ad 16), .int md_faults])), ((ad 2), .inl (kc 0, 36, .inl md_given)), ((ad 3), .inl (kc 1, 11, .inl md_on)), ((ad 4), .inl (kc 0, 18, .inl md_numbers)), ((ad 7), .inl (kc 0, 8, .inl md_pitches))]) (w1 := (wd_SpeciesSolverModel_runOf kc )) (ws1 := (wd_SpeciesSolverModel_mayFollow kc ad md_thrown md_drafted md_lines md_n md_species md_above md_trialSize md_foundSize md_foundSpecies md_foundN md_foundCost md_chosen md_low md_many md_ties md_winnerCost md_allMany md_allTies md_faults md_given md_on md_numbers md_pitches)) (As := [.int x2, .int x3]) (rest := [.int (t0 &&& t1)]) (y := y_SpeciesSolverModel_runOf) ⟨hx, hb, hml, hown, hts⟩ (fun sz => c_SpeciesSolverModel_runOf hc4 sz) gw_1074 gw_1072 gw_1073 gw_118 rfl hd_SpeciesSolverModel_runOf ⟨Nat.le_of_ble_eq_true rfl, Nat.le_of_ble_eq_true rfl⟩ ⟨rfl, rfl⟩ ⟨Nat.zero_le _, Nat.zero_le _⟩ hK hN hP hD hS hA hX [] [0, 1, 2, 3, 4] [0, 1, 2, 3, 4] rfl rfl (by decide) (by decide) (by decide) rfl (by decide) rfl hl.1 rfl (Nat.le_of_ble_eq_true rfl) d_SpeciesSolverModel_mayFollow_281 (fun H locs hP hD hS => ?_)
      refine lv_aload_n hx hb d_SpeciesSolverModel_mayFollow_284 rfl (lv_at hl 1 rfl) ?_
      refine va_get (D := D) (ci := 1) (v := .ref (ad 4)) (C := R_SpeciesSolverModel) (T := T_SpeciesSolverModel) (N := 35) hx hb hts inG_SpeciesSolverModel hown hK hP 0 rfl rfl 9 (by decide) (hts _ gw_827) (fun _ h9 => h9) rfl d_SpeciesSolverModel_mayFollow_285 ?_
      refine lv_bipush (v := 11) hx hb d_SpeciesSolverModel_mayFollow_288 (by decide) ?_
      refine va_iald hx hb hK hP 3 0 rfl rfl (in_lit (by decide)) d_SpeciesSolverModel_mayFollow_290 ?_
      refine lv_icmp_ge (tgt := 298) hx hb d_SpeciesSolverModel_mayFollow_291 (by decide) (fun c5 => ?_) (fun c5 => ?_)
      · replace hm := ifT hm c5
        refine lv_iconst (v := 0) hx hb d_SpeciesSolverModel_mayFollow_298 (by decide) ?_
        exact l_SpeciesSolverModel_mayFollow_299 C  hm ⟨hP, hD, hS⟩ (lv_sub hl [1, 2, 6, 7, 8] rfl)
      · replace hm := ifF hm c5
        exact l_SpeciesSolverModel_mayFollow_294 C  hm ⟨hP, hD, hS⟩ (lv_sub hl [1, 2, 6, 7, 8] rfl)
def m_SpeciesSolverModel_mayFollow_257 (F : Nat) (md_lines : Int32) (md_n : Int32) (md_species : Int32) (md_above : Int32) (md_given : Nat → Int32) (md_on : Nat → Int32) (md_numbers : Nat → Int32) (md_pitches : Nat → Int32)   (x1 : Int32) (x2 : Int32) (x3 : Int32) (x5 : Int32) (x6 : Int32) (x7 : Int32) (x8 : Int32) (t0 : Int32) : Option (Int32) :=
  m_SpeciesSolverModel_mayFollow_258 F md_lines md_n md_species md_above md_given md_on md_numbers md_pitches  x1 x2 x3 x5 x6 x7 x8 t0 (0 : Int32)
set_option maxHeartbeats 4000000 in
set_option maxRecDepth 100000 in
theorem l_SpeciesSolverModel_mayFollow_257 {r : Int32} {F : Nat} {ad : Nat → Nat} {md_thrown : Int32} {md_drafted : Int32} {md_lines : Int32} {md_n : Int32} {md_species : Int32} {md_above : Int32} {md_trialSize : Int32} {md_foundSize : Int32} {md_foundSpecies : Int32} {md_foundN : Int32} {md_foundCost : Int32} {md_chosen : Int32} {md_low : Int32} {md_many : Int64} {md_ties : Int64} {md_winnerCost : Int32} {md_allMany : Int64} {md_allTies : Int64} {md_faults : Int32} {md_given : Nat → Int32} {md_on : Nat → Int32} {md_numbers : Nat → Int32} {md_pitches : Nat → Int32}  {x1 : Int32} {x2 : Int32} {x3 : Int32} {x5 : Int32} {x6 : Int32} {x7 : Int32} {x8 : Int32} {t0 : Int32} {H : Heap} {locs : List Loc} {ls : Array Slot} (C : Cx p s m meth c args A D kc R_SpeciesSolverModel b_SpeciesSolverModel_mayFollow 12 (some .boolean))  (hm : m_SpeciesSolverModel_mayFollow_257 F md_lines md_n md_species md_above md_given md_on md_numbers md_pitches  x1 x2 x3 x5 x6 x7 x8 t0 = some r) (hZ : St D A s (wd_SpeciesSolverModel_mayFollow kc ad md_thrown md_drafted md_lines md_n md_species md_above md_trialSize md_foundSize md_foundSpecies md_foundN md_foundCost md_chosen md_low md_many md_ties md_winnerCost md_allMany md_allTies md_faults md_given md_on md_numbers md_pitches) H locs) (hl : lv_has ls 12 [(0, .ref (ad 0)), (1, .int x1), (2, .int x2), (3, .int x3), (5, .int x5), (6, .int x6), (7, .int x7), (8, .int x8)]) : W p l e rm_SpeciesSolverModel_mayFollow s m args below meth c H locs 0 0 (MQ below (Qi D A (wd_SpeciesSolverModel_mayFollow kc ad md_thrown md_drafted md_lines md_n md_species md_above md_trialSize md_foundSize md_foundSpecies md_foundN md_foundCost md_chosen md_low md_many md_ties md_winnerCost md_allMany md_allTies md_faults md_given md_on md_numbers md_pitches) r) args s 0 0 A) (F0 m 257 ls [.int t0]) := by
  obtain ⟨hx, hb, hr, hts, hown, hml, hlocks, hK, hN, hA, hX⟩ := id C
  obtain ⟨hP, hD, hS⟩ := hZ
  unfold m_SpeciesSolverModel_mayFollow_257 at hm
  refine lv_iconst (v := 0) hx hb d_SpeciesSolverModel_mayFollow_257 (by decide) ?_
  exact l_SpeciesSolverModel_mayFollow_258 C  hm ⟨hP, hD, hS⟩ (lv_sub hl [0, 1, 2, 3, 4, 5, 6, 7] rfl)
def m_SpeciesSolverModel_mayFollow_253 (F : Nat) (md_lines : Int32) (md_n : Int32) (md_species : Int32) (md_above : Int32) (md_given : Nat → Int32) (md_on : Nat → Int32) (md_numbers : Nat → Int32) (md_pitches : Nat → Int32)   (x1 : Int32) (x2 : Int32) (x3 : Int32) (x5 : Int32) (x6 : Int32) (x7 : Int32) (x8 : Int32) (t0 : Int32) : Option (Int32) :=
  m_SpeciesSolverModel_mayFollow_258 F md_lines md_n md_species md_above md_given md_on md_numbers md_pitches  x1 x2 x3 x5 x6 x7 x8 t0 (1 : Int32)
set_option maxHeartbeats 4000000 in
set_option maxRecDepth 100000 in
theorem l_SpeciesSolverModel_mayFollow_253 {r : Int32} {F : Nat} {ad : Nat → Nat} {md_thrown : Int32} {md_drafted : Int32} {md_lines : Int32} {md_n : Int32} {md_species : Int32} {md_above : Int32} {md_trialSize : Int32} {md_foundSize : Int32} {md_foundSpecies : Int32} {md_foundN : Int32} {md_foundCost : Int32} {md_chosen : Int32} {md_low : Int32} {md_many : Int64} {md_ties : Int64} {md_winnerCost : Int32} {md_allMany : Int64} {md_allTies : Int64} {md_faults : Int32} {md_given : Nat → Int32} {md_on : Nat → Int32} {md_numbers : Nat → Int32} {md_pitches : Nat → Int32}  {x1 : Int32} {x2 : Int32} {x3 : Int32} {x5 : Int32} {x6 : Int32} {x7 : Int32} {x8 : Int32} {t0 : Int32} {H : Heap} {locs : List Loc} {ls : Array Slot} (C : Cx p s m meth c args A D kc R_SpeciesSolverModel b_SpeciesSolverModel_mayFollow 12 (some .boolean))  (hm : m_SpeciesSolverModel_mayFollow_253 F md_lines md_n md_species md_above md_given md_on md_numbers md_pitches  x1 x2 x3 x5 x6 x7 x8 t0 = some r) (hZ : St D A s (wd_SpeciesSolverModel_mayFollow kc ad md_thrown md_drafted md_lines md_n md_species md_above md_trialSize md_foundSize md_foundSpecies md_foundN md_foundCost md_chosen md_low md_many md_ties md_winnerCost md_allMany md_allTies md_faults md_given md_on md_numbers md_pitches) H locs) (hl : lv_has ls 12 [(0, .ref (ad 0)), (1, .int x1), (2, .int x2), (3, .int x3), (5, .int x5), (6, .int x6), (7, .int x7), (8, .int x8)]) : W p l e rm_SpeciesSolverModel_mayFollow s m args below meth c H locs 0 0 (MQ below (Qi D A (wd_SpeciesSolverModel_mayFollow kc ad md_thrown md_drafted md_lines md_n md_species md_above md_trialSize md_foundSize md_foundSpecies md_foundN md_foundCost md_chosen md_low md_many md_ties md_winnerCost md_allMany md_allTies md_faults md_given md_on md_numbers md_pitches) r) args s 0 0 A) (F0 m 253 ls [.int t0]) := by
  obtain ⟨hx, hb, hr, hts, hown, hml, hlocks, hK, hN, hA, hX⟩ := id C
  obtain ⟨hP, hD, hS⟩ := hZ
  unfold m_SpeciesSolverModel_mayFollow_253 at hm
  refine lv_iconst (v := 1) hx hb d_SpeciesSolverModel_mayFollow_253 (by decide) ?_
  refine lv_goto (tgt := 258) hx hb d_SpeciesSolverModel_mayFollow_254 (by decide) ?_
  exact l_SpeciesSolverModel_mayFollow_258 C  hm ⟨hP, hD, hS⟩ (lv_sub hl [0, 1, 2, 3, 4, 5, 6, 7] rfl)
def m_SpeciesSolverModel_mayFollow_218 (F : Nat) (md_lines : Int32) (md_n : Int32) (md_species : Int32) (md_above : Int32) (md_given : Nat → Int32) (md_on : Nat → Int32) (md_numbers : Nat → Int32) (md_pitches : Nat → Int32)   (x1 : Int32) (x2 : Int32) (x3 : Int32) (x5 : Int32) (x6 : Int32) (x7 : Int32) (x8 : Int32) (t0 : Int32) : Option (Int32) :=
  (if (md_on (Int32.toNatClampNeg (6 : Int32))) = (0 : Int32) then
    m_SpeciesSolverModel_mayFollow_253 F md_lines md_n md_species md_above md_given md_on md_numbers md_pitches  x1 x2 x3 x5 x6 x7 x8 t0
  else
    (if x3 ≤ (0 : Int32) then
      m_SpeciesSolverModel_mayFollow_253 F md_lines md_n md_species md_above md_given md_on md_numbers md_pitches  x1 x2 x3 x5 x6 x7 x8 t0
    else
      (bd (m_SpeciesSolverModel_before x2 x3) (fun u3 => (gd u3 8 (bd (m_SpeciesSolverModel_rule6 md_numbers (md_pitches (Int32.toNatClampNeg u3)) x7 x8) (fun u6 => (if u6 = (0 : Int32) then
        m_SpeciesSolverModel_mayFollow_253 F md_lines md_n md_species md_above md_given md_on md_numbers md_pitches  x1 x2 x3 x5 x6 x7 x8 t0
      else
        m_SpeciesSolverModel_mayFollow_257 F md_lines md_n md_species md_above md_given md_on md_numbers md_pitches  x1 x2 x3 x5 x6 x7 x8 t0))))))))
set_option maxHeartbeats 4000000 in
set_option maxRecDepth 100000 in
theorem l_SpeciesSolverModel_mayFollow_218 {r : Int32} {F : Nat} {ad : Nat → Nat} {md_thrown : Int32} {md_drafted : Int32} {md_lines : Int32} {md_n : Int32} {md_species : Int32} {md_above : Int32} {md_trialSize : Int32} {md_foundSize : Int32} {md_foundSpecies : Int32} {md_foundN : Int32} {md_foundCost : Int32} {md_chosen : Int32} {md_low : Int32} {md_many : Int64} {md_ties : Int64} {md_winnerCost : Int32} {md_allMany : Int64} {md_allTies : Int64} {md_faults : Int32} {md_given : Nat → Int32} {md_on : Nat → Int32} {md_numbers : Nat → Int32} {md_pitches : Nat → Int32}  {x1 : Int32} {x2 : Int32} {x3 : Int32} {x5 : Int32} {x6 : Int32} {x7 : Int32} {x8 : Int32} {t0 : Int32} {H : Heap} {locs : List Loc} {ls : Array Slot} (C : Cx p s m meth c args A D kc R_SpeciesSolverModel b_SpeciesSolverModel_mayFollow 12 (some .boolean))  (hm : m_SpeciesSolverModel_mayFollow_218 F md_lines md_n md_species md_above md_given md_on md_numbers md_pitches  x1 x2 x3 x5 x6 x7 x8 t0 = some r) (hZ : St D A s (wd_SpeciesSolverModel_mayFollow kc ad md_thrown md_drafted md_lines md_n md_species md_above md_trialSize md_foundSize md_foundSpecies md_foundN md_foundCost md_chosen md_low md_many md_ties md_winnerCost md_allMany md_allTies md_faults md_given md_on md_numbers md_pitches) H locs) (hl : lv_has ls 12 [(0, .ref (ad 0)), (1, .int x1), (2, .int x2), (3, .int x3), (5, .int x5), (6, .int x6), (7, .int x7), (8, .int x8)]) : W p l e rm_SpeciesSolverModel_mayFollow s m args below meth c H locs 0 0 (MQ below (Qi D A (wd_SpeciesSolverModel_mayFollow kc ad md_thrown md_drafted md_lines md_n md_species md_above md_trialSize md_foundSize md_foundSpecies md_foundN md_foundCost md_chosen md_low md_many md_ties md_winnerCost md_allMany md_allTies md_faults md_given md_on md_numbers md_pitches) r) args s 0 0 A) (F0 m 218 ls [.int t0]) := by
  obtain ⟨hx, hb, hr, hts, hown, hml, hlocks, hK, hN, hA, hX⟩ := id C
  obtain ⟨hP, hD, hS⟩ := hZ
  unfold m_SpeciesSolverModel_mayFollow_218 at hm
  refine lv_aload_n hx hb d_SpeciesSolverModel_mayFollow_218 rfl (lv_at hl 0 rfl) ?_
  refine va_get (D := D) (ci := 1) (v := .ref (ad 3)) (C := R_SpeciesSolverModel) (T := T_SpeciesSolverModel) (N := 35) hx hb hts inG_SpeciesSolverModel hown hK hP 0 rfl rfl 8 (by decide) (hts _ gw_826) (fun _ h9 => h9) rfl d_SpeciesSolverModel_mayFollow_219 ?_
  refine lv_bipush (v := 6) hx hb d_SpeciesSolverModel_mayFollow_222 (by decide) ?_
  refine va_zald hx hb hK hP 2 1 rfl rfl (in_lit (by decide)) d_SpeciesSolverModel_mayFollow_224 ?_
  refine lv_if_eq (tgt := 253) hx hb d_SpeciesSolverModel_mayFollow_225 (by decide) (fun c1 => ?_) (fun c1 => ?_)
  · replace hm := ifT hm c1
    exact l_SpeciesSolverModel_mayFollow_253 C  hm ⟨hP, hD, hS⟩ (lv_sub hl [0, 1, 2, 3, 4, 5, 6, 7] rfl)
  · replace hm := ifF hm c1
    refine lv_iload_n hx hb d_SpeciesSolverModel_mayFollow_228 rfl (lv_at hl 3 rfl) ?_
    refine lv_if_le (tgt := 253) hx hb d_SpeciesSolverModel_mayFollow_229 (by decide) (fun c2 => ?_) (fun c2 => ?_)
    · replace hm := ifT hm c2
      exact l_SpeciesSolverModel_mayFollow_253 C  hm ⟨hP, hD, hS⟩ (lv_sub hl [0, 1, 2, 3, 4, 5, 6, 7] rfl)
    · replace hm := ifF hm c2
      refine lv_aload_n hx hb d_SpeciesSolverModel_mayFollow_232 rfl (lv_at hl 0 rfl) ?_
      refine lv_aload_n hx hb d_SpeciesSolverModel_mayFollow_233 rfl (lv_at hl 0 rfl) ?_
      refine va_get (D := D) (ci := 1) (v := .ref (ad 7)) (C := R_SpeciesSolverModel) (T := T_SpeciesSolverModel) (N := 35) hx hb hts inG_SpeciesSolverModel hown hK hP 0 rfl rfl 17 (by decide) (hts _ gw_835) (fun _ h9 => h9) rfl d_SpeciesSolverModel_mayFollow_234 ?_
      refine lv_iload_n hx hb d_SpeciesSolverModel_mayFollow_237 rfl (lv_at hl 2 rfl) ?_
      refine lv_iload_n hx hb d_SpeciesSolverModel_mayFollow_238 rfl (lv_at hl 3 rfl) ?_
      obtain ⟨u3, hc4, hm⟩ := bd_some hm
      refine zS_i (n := 2) (wr := [((ad 0), .inr (1, [.int md_thrown, .ref (ad 1), .int md_drafted, .ref (ad 2), .int md_lines, .int md_n, .int md_species, .int md_above, .ref (ad 3), .ref (ad 4), .ref (ad 5), .int md_trialSize, .ref (ad 6), .int md_foundSize, .int md_foundSpecies, .int md_foundN, .int md_foundCost, .ref (ad 7), .int md_chosen, .ref (ad 8), .ref (ad 9), .ref (ad 10), .int md_low, .long md_many, .long md_ties, .ref (ad 11), .ref (ad 12), .int md_winnerCost, .long md_allMany, .long md_allTies, .ref (ad 13), .ref (ad 14), .ref (ad 15), .ref (ad 16), .int md_faults])), ((ad 2), .inl (kc 0, 36, .inl md_given)), ((ad 3), .inl (kc 1, 11, .inl md_on)), ((ad 4), .inl (kc 0, 18, .inl md_numbers)), ((ad 7), .inl (kc 0, 8, .inl md_pitches))]) (w1 := (wd_SpeciesSolverModel_before kc )) (ws1 := (wd_SpeciesSolverModel_mayFollow kc ad md_thrown md_drafted md_lines md_n md_species md_above md_trialSize md_foundSize md_foundSpecies md_foundN md_foundCost md_chosen md_low md_many md_ties md_winnerCost md_allMany md_allTies md_faults md_given md_on md_numbers md_pitches)) (As := [.int x2, .int x3]) (rest := [.ref (ad 7), .ref (ad 0), .int t0]) (y := y_SpeciesSolverModel_before) ⟨hx, hb, hml, hown, hts⟩ (fun sz => c_SpeciesSolverModel_before hc4 sz) gw_1051 gw_1049 gw_1050 gw_118 rfl hd_SpeciesSolverModel_before ⟨Nat.le_of_ble_eq_true rfl, Nat.le_of_ble_eq_true rfl⟩ ⟨rfl, rfl⟩ ⟨Nat.zero_le _, Nat.zero_le _⟩ hK hN hP hD hS hA hX [] [0, 1, 2, 3, 4] [0, 1, 2, 3, 4] rfl rfl (by decide) (by decide) (by decide) rfl (by decide) rfl hl.1 rfl (Nat.le_of_ble_eq_true rfl) d_SpeciesSolverModel_mayFollow_239 (fun H locs hP hD hS => ?_)
      obtain ⟨hi5, hm⟩ := gd_some hm
      refine va_iald hx hb hK hP 4 0 rfl rfl hi5 d_SpeciesSolverModel_mayFollow_242 ?_
      refine lv_iload hx hb d_SpeciesSolverModel_mayFollow_243 (lv_at hl 6 rfl) ?_
      refine lv_iload hx hb d_SpeciesSolverModel_mayFollow_245 (lv_at hl 7 rfl) ?_
      obtain ⟨u6, hc7, hm⟩ := bd_some hm
      refine zV_i (n := 3) (wr := [((ad 2), .inl (kc 0, 36, .inl md_given)), ((ad 3), .inl (kc 1, 11, .inl md_on)), ((ad 7), .inl (kc 0, 8, .inl md_pitches))]) (w1 := (wd_SpeciesSolverModel_rule6 kc ad md_thrown md_drafted md_lines md_n md_species md_above md_trialSize md_foundSize md_foundSpecies md_foundN md_foundCost md_chosen md_low md_many md_ties md_winnerCost md_allMany md_allTies md_faults md_numbers)) (ws1 := (wd_SpeciesSolverModel_mayFollow kc ad md_thrown md_drafted md_lines md_n md_species md_above md_trialSize md_foundSize md_foundSpecies md_foundN md_foundCost md_chosen md_low md_many md_ties md_winnerCost md_allMany md_allTies md_faults md_given md_on md_numbers md_pitches)) (As := [.int (md_pitches (Int32.toNatClampNeg u3)), .int x7, .int x8]) (rest := [.int t0]) (ci := 1) (q0 := 0) (y := y_SpeciesSolverModel_rule6) ⟨hx, hb, hml, hown, hts⟩ (fun sz => c_SpeciesSolverModel_rule6 hc7 sz) gw_1071 gw_1068 gw_1070 gw_95 gw_118 hd_SpeciesSolverModel_rule6 ⟨Nat.le_of_ble_eq_true rfl, Nat.le_of_ble_eq_true rfl⟩ ⟨rfl, rfl⟩ ⟨Nat.zero_le _, Nat.zero_le _⟩ hK hN hP hD hS hA hX [0, 3] [1, 2, 4] [3, 0, 1, 4, 2] rfl rfl (by decide) (by decide) (by decide) rfl (by decide) rfl rfl rfl hl.1 rfl (Nat.le_of_ble_eq_true rfl) d_SpeciesSolverModel_mayFollow_247 (fun H locs hP hD hS => ?_)
      refine lv_if_ne (tgt := 257) hx hb d_SpeciesSolverModel_mayFollow_250 (by decide) (fun c8 => ?_) (fun c8 => ?_)
      · replace hm := ifF hm c8
        exact l_SpeciesSolverModel_mayFollow_257 C  hm ⟨hP, hD, hS⟩ (lv_sub hl [0, 1, 2, 3, 4, 5, 6, 7] rfl)
      · replace hm := ifT hm c8
        exact l_SpeciesSolverModel_mayFollow_253 C  hm ⟨hP, hD, hS⟩ (lv_sub hl [0, 1, 2, 3, 4, 5, 6, 7] rfl)
def m_SpeciesSolverModel_mayFollow_196 (F : Nat) (md_lines : Int32) (md_n : Int32) (md_species : Int32) (md_above : Int32) (md_given : Nat → Int32) (md_on : Nat → Int32) (md_numbers : Nat → Int32) (md_pitches : Nat → Int32)   (x1 : Int32) (x2 : Int32) (x3 : Int32) (x5 : Int32) (x6 : Int32) (x7 : Int32) (x8 : Int32) (x10 : Int32) : Option (Int32) :=
  (if (md_on (Int32.toNatClampNeg (5 : Int32))) = (0 : Int32) then
    m_SpeciesSolverModel_mayFollow_218 F md_lines md_n md_species md_above md_given md_on md_numbers md_pitches  x1 x2 x3 x5 x6 x7 x8 x10
  else
    (bd (m_SpeciesSolverModel_rule5 md_numbers x7 x8) (fun u2 => (if u2 = (0 : Int32) then
      m_SpeciesSolverModel_mayFollow_218 F md_lines md_n md_species md_above md_given md_on md_numbers md_pitches  x1 x2 x3 x5 x6 x7 x8 x10
    else
      m_SpeciesSolverModel_mayFollow_257 F md_lines md_n md_species md_above md_given md_on md_numbers md_pitches  x1 x2 x3 x5 x6 x7 x8 x10))))
set_option maxHeartbeats 4000000 in
set_option maxRecDepth 100000 in
theorem l_SpeciesSolverModel_mayFollow_196 {r : Int32} {F : Nat} {ad : Nat → Nat} {md_thrown : Int32} {md_drafted : Int32} {md_lines : Int32} {md_n : Int32} {md_species : Int32} {md_above : Int32} {md_trialSize : Int32} {md_foundSize : Int32} {md_foundSpecies : Int32} {md_foundN : Int32} {md_foundCost : Int32} {md_chosen : Int32} {md_low : Int32} {md_many : Int64} {md_ties : Int64} {md_winnerCost : Int32} {md_allMany : Int64} {md_allTies : Int64} {md_faults : Int32} {md_given : Nat → Int32} {md_on : Nat → Int32} {md_numbers : Nat → Int32} {md_pitches : Nat → Int32}  {x1 : Int32} {x2 : Int32} {x3 : Int32} {x5 : Int32} {x6 : Int32} {x7 : Int32} {x8 : Int32} {x10 : Int32} {H : Heap} {locs : List Loc} {ls : Array Slot} (C : Cx p s m meth c args A D kc R_SpeciesSolverModel b_SpeciesSolverModel_mayFollow 12 (some .boolean))  (hm : m_SpeciesSolverModel_mayFollow_196 F md_lines md_n md_species md_above md_given md_on md_numbers md_pitches  x1 x2 x3 x5 x6 x7 x8 x10 = some r) (hZ : St D A s (wd_SpeciesSolverModel_mayFollow kc ad md_thrown md_drafted md_lines md_n md_species md_above md_trialSize md_foundSize md_foundSpecies md_foundN md_foundCost md_chosen md_low md_many md_ties md_winnerCost md_allMany md_allTies md_faults md_given md_on md_numbers md_pitches) H locs) (hl : lv_has ls 12 [(0, .ref (ad 0)), (1, .int x1), (2, .int x2), (3, .int x3), (5, .int x5), (6, .int x6), (7, .int x7), (8, .int x8), (10, .int x10)]) : W p l e rm_SpeciesSolverModel_mayFollow s m args below meth c H locs 0 0 (MQ below (Qi D A (wd_SpeciesSolverModel_mayFollow kc ad md_thrown md_drafted md_lines md_n md_species md_above md_trialSize md_foundSize md_foundSpecies md_foundN md_foundCost md_chosen md_low md_many md_ties md_winnerCost md_allMany md_allTies md_faults md_given md_on md_numbers md_pitches) r) args s 0 0 A) (F0 m 196 ls []) := by
  obtain ⟨hx, hb, hr, hts, hown, hml, hlocks, hK, hN, hA, hX⟩ := id C
  obtain ⟨hP, hD, hS⟩ := hZ
  unfold m_SpeciesSolverModel_mayFollow_196 at hm
  refine lv_iload hx hb d_SpeciesSolverModel_mayFollow_196 (lv_at hl 8 rfl) ?_
  refine lv_aload_n hx hb d_SpeciesSolverModel_mayFollow_198 rfl (lv_at hl 0 rfl) ?_
  refine va_get (D := D) (ci := 1) (v := .ref (ad 3)) (C := R_SpeciesSolverModel) (T := T_SpeciesSolverModel) (N := 35) hx hb hts inG_SpeciesSolverModel hown hK hP 0 rfl rfl 8 (by decide) (hts _ gw_826) (fun _ h9 => h9) rfl d_SpeciesSolverModel_mayFollow_199 ?_
  refine lv_iconst (v := 5) hx hb d_SpeciesSolverModel_mayFollow_202 (by decide) ?_
  refine va_zald hx hb hK hP 2 1 rfl rfl (in_lit (by decide)) d_SpeciesSolverModel_mayFollow_203 ?_
  refine lv_if_eq (tgt := 218) hx hb d_SpeciesSolverModel_mayFollow_204 (by decide) (fun c1 => ?_) (fun c1 => ?_)
  · replace hm := ifT hm c1
    exact l_SpeciesSolverModel_mayFollow_218 C  hm ⟨hP, hD, hS⟩ (lv_sub hl [0, 1, 2, 3, 4, 5, 6, 7] rfl)
  · replace hm := ifF hm c1
    refine lv_aload_n hx hb d_SpeciesSolverModel_mayFollow_207 rfl (lv_at hl 0 rfl) ?_
    refine lv_iload hx hb d_SpeciesSolverModel_mayFollow_208 (lv_at hl 6 rfl) ?_
    refine lv_iload hx hb d_SpeciesSolverModel_mayFollow_210 (lv_at hl 7 rfl) ?_
    obtain ⟨u2, hc3, hm⟩ := bd_some hm
    refine zV_i (n := 2) (wr := [((ad 2), .inl (kc 0, 36, .inl md_given)), ((ad 3), .inl (kc 1, 11, .inl md_on)), ((ad 7), .inl (kc 0, 8, .inl md_pitches))]) (w1 := (wd_SpeciesSolverModel_rule5 kc ad md_thrown md_drafted md_lines md_n md_species md_above md_trialSize md_foundSize md_foundSpecies md_foundN md_foundCost md_chosen md_low md_many md_ties md_winnerCost md_allMany md_allTies md_faults md_numbers)) (ws1 := (wd_SpeciesSolverModel_mayFollow kc ad md_thrown md_drafted md_lines md_n md_species md_above md_trialSize md_foundSize md_foundSpecies md_foundN md_foundCost md_chosen md_low md_many md_ties md_winnerCost md_allMany md_allTies md_faults md_given md_on md_numbers md_pitches)) (As := [.int x7, .int x8]) (rest := [.int x10]) (ci := 1) (q0 := 0) (y := y_SpeciesSolverModel_rule5) ⟨hx, hb, hml, hown, hts⟩ (fun sz => c_SpeciesSolverModel_rule5 hc3 sz) gw_1067 gw_1064 gw_1066 gw_94 gw_118 hd_SpeciesSolverModel_rule5 ⟨Nat.le_of_ble_eq_true rfl, Nat.le_of_ble_eq_true rfl⟩ ⟨rfl, rfl⟩ ⟨Nat.zero_le _, Nat.zero_le _⟩ hK hN hP hD hS hA hX [0, 3] [1, 2, 4] [3, 0, 1, 4, 2] rfl rfl (by decide) (by decide) (by decide) rfl (by decide) rfl rfl rfl hl.1 rfl (Nat.le_of_ble_eq_true rfl) d_SpeciesSolverModel_mayFollow_212 (fun H locs hP hD hS => ?_)
    refine lv_if_ne (tgt := 257) hx hb d_SpeciesSolverModel_mayFollow_215 (by decide) (fun c4 => ?_) (fun c4 => ?_)
    · replace hm := ifF hm c4
      exact l_SpeciesSolverModel_mayFollow_257 C  hm ⟨hP, hD, hS⟩ (lv_sub hl [0, 1, 2, 3, 4, 5, 6, 7] rfl)
    · replace hm := ifT hm c4
      exact l_SpeciesSolverModel_mayFollow_218 C  hm ⟨hP, hD, hS⟩ (lv_sub hl [0, 1, 2, 3, 4, 5, 6, 7] rfl)
def m_SpeciesSolverModel_mayFollow_187 (F : Nat) (md_lines : Int32) (md_n : Int32) (md_species : Int32) (md_above : Int32) (md_given : Nat → Int32) (md_on : Nat → Int32) (md_numbers : Nat → Int32) (md_pitches : Nat → Int32) (k32 : Int32 → Int32 → Int32 → Int32 → Int32 → Int32 → Int32 → Int32 → Int32 → Int32 → Option (Int32))  (x1 : Int32) (x2 : Int32) (x3 : Int32) (x5 : Int32) (x6 : Int32) (x7 : Int32) (x8 : Int32) (x9 : Int32) (x11 : Int32) (t0 : Int32) (t1 : Int32) : Option (Int32) :=
  k32 x1 x2 x3 x5 x6 x7 x8 x9 (t0 &&& t1) (x11 + 1)
set_option maxHeartbeats 4000000 in
set_option maxRecDepth 100000 in
theorem l_SpeciesSolverModel_mayFollow_187 {r : Int32} {F : Nat} {ad : Nat → Nat} {md_thrown : Int32} {md_drafted : Int32} {md_lines : Int32} {md_n : Int32} {md_species : Int32} {md_above : Int32} {md_trialSize : Int32} {md_foundSize : Int32} {md_foundSpecies : Int32} {md_foundN : Int32} {md_foundCost : Int32} {md_chosen : Int32} {md_low : Int32} {md_many : Int64} {md_ties : Int64} {md_winnerCost : Int32} {md_allMany : Int64} {md_allTies : Int64} {md_faults : Int32} {md_given : Nat → Int32} {md_on : Nat → Int32} {md_numbers : Nat → Int32} {md_pitches : Nat → Int32} {k32 : Int32 → Int32 → Int32 → Int32 → Int32 → Int32 → Int32 → Int32 → Int32 → Int32 → Option (Int32)} {x1 : Int32} {x2 : Int32} {x3 : Int32} {x5 : Int32} {x6 : Int32} {x7 : Int32} {x8 : Int32} {x9 : Int32} {x11 : Int32} {t0 : Int32} {t1 : Int32} {H : Heap} {locs : List Loc} {ls : Array Slot} (C : Cx p s m meth c args A D kc R_SpeciesSolverModel b_SpeciesSolverModel_mayFollow 12 (some .boolean)) (hk32 : (∀  (x1 : Int32) (x2 : Int32) (x3 : Int32) (x5 : Int32) (x6 : Int32) (x7 : Int32) (x8 : Int32) (x9 : Int32) (x10 : Int32) (x11 : Int32) (H : Heap) (locs : List Loc) (ls : Array Slot), k32 x1 x2 x3 x5 x6 x7 x8 x9 x10 x11 = some r → St D A s (wd_SpeciesSolverModel_mayFollow kc ad md_thrown md_drafted md_lines md_n md_species md_above md_trialSize md_foundSize md_foundSpecies md_foundN md_foundCost md_chosen md_low md_many md_ties md_winnerCost md_allMany md_allTies md_faults md_given md_on md_numbers md_pitches) H locs → lv_has ls 12 [(0, .ref (ad 0)), (1, .int x1), (2, .int x2), (3, .int x3), (5, .int x5), (6, .int x6), (7, .int x7), (8, .int x8), (9, .int x9), (10, .int x10), (11, .int x11)] → W p l e rm_SpeciesSolverModel_mayFollow s m args below meth c H locs 0 0 (MQ below (Qi D A (wd_SpeciesSolverModel_mayFollow kc ad md_thrown md_drafted md_lines md_n md_species md_above md_trialSize md_foundSize md_foundSpecies md_foundN md_foundCost md_chosen md_low md_many md_ties md_winnerCost md_allMany md_allTies md_faults md_given md_on md_numbers md_pitches) r) args s 0 0 A) (F0 m 32 ls []))) (hm : m_SpeciesSolverModel_mayFollow_187 F md_lines md_n md_species md_above md_given md_on md_numbers md_pitches k32 x1 x2 x3 x5 x6 x7 x8 x9 x11 t0 t1 = some r) (hZ : St D A s (wd_SpeciesSolverModel_mayFollow kc ad md_thrown md_drafted md_lines md_n md_species md_above md_trialSize md_foundSize md_foundSpecies md_foundN md_foundCost md_chosen md_low md_many md_ties md_winnerCost md_allMany md_allTies md_faults md_given md_on md_numbers md_pitches) H locs) (hl : lv_has ls 12 [(0, .ref (ad 0)), (1, .int x1), (2, .int x2), (3, .int x3), (5, .int x5), (6, .int x6), (7, .int x7), (8, .int x8), (9, .int x9), (11, .int x11)]) : W p l e rm_SpeciesSolverModel_mayFollow s m args below meth c H locs 0 0 (MQ below (Qi D A (wd_SpeciesSolverModel_mayFollow kc ad md_thrown md_drafted md_lines md_n md_species md_above md_trialSize md_foundSize md_foundSpecies md_foundN md_foundCost md_chosen md_low md_many md_ties md_winnerCost md_allMany md_allTies md_faults md_given md_on md_numbers md_pitches) r) args s 0 0 A) (F0 m 187 ls [.int t1, .int t0]) := by
  obtain ⟨hx, hb, hr, hts, hown, hml, hlocks, hK, hN, hA, hX⟩ := id C
  obtain ⟨hP, hD, hS⟩ := hZ
  unfold m_SpeciesSolverModel_mayFollow_187 at hm
  refine lv_iand hx hb d_SpeciesSolverModel_mayFollow_187 ?_
  refine lv_istore (lv' := [(10, .int (t0 &&& t1)), (0, .ref (ad 0)), (1, .int x1), (2, .int x2), (3, .int x3), (5, .int x5), (6, .int x6), (7, .int x7), (8, .int x8), (9, .int x9), (11, .int x11)]) hx hb d_SpeciesSolverModel_mayFollow_188 hl (by decide) rfl (fun ls hl => ?_)
  refine lv_iinc (v := (x11 + 1)) (lv' := [(11, .int (x11 + 1)), (10, .int (t0 &&& t1)), (0, .ref (ad 0)), (1, .int x1), (2, .int x2), (3, .int x3), (5, .int x5), (6, .int x6), (7, .int x7), (8, .int x8), (9, .int x9)]) hx hb d_SpeciesSolverModel_mayFollow_190 hl (k := 10) rfl rfl (by decide) rfl (fun ls hl => ?_)
  refine lv_goto (tgt := 32) hx hb d_SpeciesSolverModel_mayFollow_193 (by decide) ?_
  exact hk32 x1 x2 x3 x5 x6 x7 x8 x9 (t0 &&& t1) (x11 + 1) _ _ _ hm ⟨hP, hD, hS⟩ (lv_sub hl [2, 3, 4, 5, 6, 7, 8, 9, 10, 1, 0] rfl)
def m_SpeciesSolverModel_mayFollow_182 (F : Nat) (md_lines : Int32) (md_n : Int32) (md_species : Int32) (md_above : Int32) (md_given : Nat → Int32) (md_on : Nat → Int32) (md_numbers : Nat → Int32) (md_pitches : Nat → Int32) (k32 : Int32 → Int32 → Int32 → Int32 → Int32 → Int32 → Int32 → Int32 → Int32 → Int32 → Option (Int32))  (x1 : Int32) (x2 : Int32) (x3 : Int32) (x5 : Int32) (x6 : Int32) (x7 : Int32) (x8 : Int32) (x9 : Int32) (x11 : Int32) (t0 : Int32) : Option (Int32) :=
  m_SpeciesSolverModel_mayFollow_187 F md_lines md_n md_species md_above md_given md_on md_numbers md_pitches k32 x1 x2 x3 x5 x6 x7 x8 x9 x11 t0 (1 : Int32)
set_option maxHeartbeats 4000000 in
set_option maxRecDepth 100000 in
theorem l_SpeciesSolverModel_mayFollow_182 {r : Int32} {F : Nat} {ad : Nat → Nat} {md_thrown : Int32} {md_drafted : Int32} {md_lines : Int32} {md_n : Int32} {md_species : Int32} {md_above : Int32} {md_trialSize : Int32} {md_foundSize : Int32} {md_foundSpecies : Int32} {md_foundN : Int32} {md_foundCost : Int32} {md_chosen : Int32} {md_low : Int32} {md_many : Int64} {md_ties : Int64} {md_winnerCost : Int32} {md_allMany : Int64} {md_allTies : Int64} {md_faults : Int32} {md_given : Nat → Int32} {md_on : Nat → Int32} {md_numbers : Nat → Int32} {md_pitches : Nat → Int32} {k32 : Int32 → Int32 → Int32 → Int32 → Int32 → Int32 → Int32 → Int32 → Int32 → Int32 → Option (Int32)} {x1 : Int32} {x2 : Int32} {x3 : Int32} {x5 : Int32} {x6 : Int32} {x7 : Int32} {x8 : Int32} {x9 : Int32} {x11 : Int32} {t0 : Int32} {H : Heap} {locs : List Loc} {ls : Array Slot} (C : Cx p s m meth c args A D kc R_SpeciesSolverModel b_SpeciesSolverModel_mayFollow 12 (some .boolean)) (hk32 : (∀  (x1 : Int32) (x2 : Int32) (x3 : Int32) (x5 : Int32) (x6 : Int32) (x7 : Int32) (x8 : Int32) (x9 : Int32) (x10 : Int32) (x11 : Int32) (H : Heap) (locs : List Loc) (ls : Array Slot), k32 x1 x2 x3 x5 x6 x7 x8 x9 x10 x11 = some r → St D A s (wd_SpeciesSolverModel_mayFollow kc ad md_thrown md_drafted md_lines md_n md_species md_above md_trialSize md_foundSize md_foundSpecies md_foundN md_foundCost md_chosen md_low md_many md_ties md_winnerCost md_allMany md_allTies md_faults md_given md_on md_numbers md_pitches) H locs → lv_has ls 12 [(0, .ref (ad 0)), (1, .int x1), (2, .int x2), (3, .int x3), (5, .int x5), (6, .int x6), (7, .int x7), (8, .int x8), (9, .int x9), (10, .int x10), (11, .int x11)] → W p l e rm_SpeciesSolverModel_mayFollow s m args below meth c H locs 0 0 (MQ below (Qi D A (wd_SpeciesSolverModel_mayFollow kc ad md_thrown md_drafted md_lines md_n md_species md_above md_trialSize md_foundSize md_foundSpecies md_foundN md_foundCost md_chosen md_low md_many md_ties md_winnerCost md_allMany md_allTies md_faults md_given md_on md_numbers md_pitches) r) args s 0 0 A) (F0 m 32 ls []))) (hm : m_SpeciesSolverModel_mayFollow_182 F md_lines md_n md_species md_above md_given md_on md_numbers md_pitches k32 x1 x2 x3 x5 x6 x7 x8 x9 x11 t0 = some r) (hZ : St D A s (wd_SpeciesSolverModel_mayFollow kc ad md_thrown md_drafted md_lines md_n md_species md_above md_trialSize md_foundSize md_foundSpecies md_foundN md_foundCost md_chosen md_low md_many md_ties md_winnerCost md_allMany md_allTies md_faults md_given md_on md_numbers md_pitches) H locs) (hl : lv_has ls 12 [(0, .ref (ad 0)), (1, .int x1), (2, .int x2), (3, .int x3), (5, .int x5), (6, .int x6), (7, .int x7), (8, .int x8), (9, .int x9), (11, .int x11)]) : W p l e rm_SpeciesSolverModel_mayFollow s m args below meth c H locs 0 0 (MQ below (Qi D A (wd_SpeciesSolverModel_mayFollow kc ad md_thrown md_drafted md_lines md_n md_species md_above md_trialSize md_foundSize md_foundSpecies md_foundN md_foundCost md_chosen md_low md_many md_ties md_winnerCost md_allMany md_allTies md_faults md_given md_on md_numbers md_pitches) r) args s 0 0 A) (F0 m 182 ls [.int t0]) := by
  obtain ⟨hx, hb, hr, hts, hown, hml, hlocks, hK, hN, hA, hX⟩ := id C
  obtain ⟨hP, hD, hS⟩ := hZ
  unfold m_SpeciesSolverModel_mayFollow_182 at hm
  refine lv_iconst (v := 1) hx hb d_SpeciesSolverModel_mayFollow_182 (by decide) ?_
  refine lv_goto (tgt := 187) hx hb d_SpeciesSolverModel_mayFollow_183 (by decide) ?_
  exact l_SpeciesSolverModel_mayFollow_187 C hk32 hm ⟨hP, hD, hS⟩ (lv_sub hl [0, 1, 2, 3, 4, 5, 6, 7, 8, 9] rfl)
def m_SpeciesSolverModel_mayFollow_139 (F : Nat) (md_lines : Int32) (md_n : Int32) (md_species : Int32) (md_above : Int32) (md_given : Nat → Int32) (md_on : Nat → Int32) (md_numbers : Nat → Int32) (md_pitches : Nat → Int32) (k32 : Int32 → Int32 → Int32 → Int32 → Int32 → Int32 → Int32 → Int32 → Int32 → Int32 → Option (Int32))  (x1 : Int32) (x2 : Int32) (x3 : Int32) (x5 : Int32) (x6 : Int32) (x7 : Int32) (x8 : Int32) (x9 : Int32) (x11 : Int32) (t0 : Int32) : Option (Int32) :=
  (if (md_on (Int32.toNatClampNeg (4 : Int32))) = (0 : Int32) then
    m_SpeciesSolverModel_mayFollow_182 F md_lines md_n md_species md_above md_given md_on md_numbers md_pitches k32 x1 x2 x3 x5 x6 x7 x8 x9 x11 t0
  else
    (if x3 ≤ (0 : Int32) then
      m_SpeciesSolverModel_mayFollow_182 F md_lines md_n md_species md_above md_given md_on md_numbers md_pitches k32 x1 x2 x3 x5 x6 x7 x8 x9 x11 t0
    else
      (bd (m_SpeciesSolverModel_before x2 x3) (fun u3 => (gd u3 8 (bd (m_SpeciesSolverModel_rule4 md_species md_given md_numbers x11 (x1 - (1 : Int32)) (md_pitches (Int32.toNatClampNeg u3)) x7 x8) (fun u6 => (if u6 = (0 : Int32) then
        m_SpeciesSolverModel_mayFollow_182 F md_lines md_n md_species md_above md_given md_on md_numbers md_pitches k32 x1 x2 x3 x5 x6 x7 x8 x9 x11 t0
      else
        m_SpeciesSolverModel_mayFollow_187 F md_lines md_n md_species md_above md_given md_on md_numbers md_pitches k32 x1 x2 x3 x5 x6 x7 x8 x9 x11 t0 (0 : Int32)))))))))
set_option maxHeartbeats 4000000 in
set_option maxRecDepth 100000 in
theorem l_SpeciesSolverModel_mayFollow_139 {r : Int32} {F : Nat} {ad : Nat → Nat} {md_thrown : Int32} {md_drafted : Int32} {md_lines : Int32} {md_n : Int32} {md_species : Int32} {md_above : Int32} {md_trialSize : Int32} {md_foundSize : Int32} {md_foundSpecies : Int32} {md_foundN : Int32} {md_foundCost : Int32} {md_chosen : Int32} {md_low : Int32} {md_many : Int64} {md_ties : Int64} {md_winnerCost : Int32} {md_allMany : Int64} {md_allTies : Int64} {md_faults : Int32} {md_given : Nat → Int32} {md_on : Nat → Int32} {md_numbers : Nat → Int32} {md_pitches : Nat → Int32} {k32 : Int32 → Int32 → Int32 → Int32 → Int32 → Int32 → Int32 → Int32 → Int32 → Int32 → Option (Int32)} {x1 : Int32} {x2 : Int32} {x3 : Int32} {x5 : Int32} {x6 : Int32} {x7 : Int32} {x8 : Int32} {x9 : Int32} {x11 : Int32} {t0 : Int32} {H : Heap} {locs : List Loc} {ls : Array Slot} (C : Cx p s m meth c args A D kc R_SpeciesSolverModel b_SpeciesSolverModel_mayFollow 12 (some .boolean)) (hk32 : (∀  (x1 : Int32) (x2 : Int32) (x3 : Int32) (x5 : Int32) (x6 : Int32) (x7 : Int32) (x8 : Int32) (x9 : Int32) (x10 : Int32) (x11 : Int32) (H : Heap) (locs : List Loc) (ls : Array Slot), k32 x1 x2 x3 x5 x6 x7 x8 x9 x10 x11 = some r → St D A s (wd_SpeciesSolverModel_mayFollow kc ad md_thrown md_drafted md_lines md_n md_species md_above md_trialSize md_foundSize md_foundSpecies md_foundN md_foundCost md_chosen md_low md_many md_ties md_winnerCost md_allMany md_allTies md_faults md_given md_on md_numbers md_pitches) H locs → lv_has ls 12 [(0, .ref (ad 0)), (1, .int x1), (2, .int x2), (3, .int x3), (5, .int x5), (6, .int x6), (7, .int x7), (8, .int x8), (9, .int x9), (10, .int x10), (11, .int x11)] → W p l e rm_SpeciesSolverModel_mayFollow s m args below meth c H locs 0 0 (MQ below (Qi D A (wd_SpeciesSolverModel_mayFollow kc ad md_thrown md_drafted md_lines md_n md_species md_above md_trialSize md_foundSize md_foundSpecies md_foundN md_foundCost md_chosen md_low md_many md_ties md_winnerCost md_allMany md_allTies md_faults md_given md_on md_numbers md_pitches) r) args s 0 0 A) (F0 m 32 ls []))) (hm : m_SpeciesSolverModel_mayFollow_139 F md_lines md_n md_species md_above md_given md_on md_numbers md_pitches k32 x1 x2 x3 x5 x6 x7 x8 x9 x11 t0 = some r) (hZ : St D A s (wd_SpeciesSolverModel_mayFollow kc ad md_thrown md_drafted md_lines md_n md_species md_above md_trialSize md_foundSize md_foundSpecies md_foundN md_foundCost md_chosen md_low md_many md_ties md_winnerCost md_allMany md_allTies md_faults md_given md_on md_numbers md_pitches) H locs) (hl : lv_has ls 12 [(0, .ref (ad 0)), (1, .int x1), (2, .int x2), (3, .int x3), (5, .int x5), (6, .int x6), (7, .int x7), (8, .int x8), (9, .int x9), (11, .int x11)]) : W p l e rm_SpeciesSolverModel_mayFollow s m args below meth c H locs 0 0 (MQ below (Qi D A (wd_SpeciesSolverModel_mayFollow kc ad md_thrown md_drafted md_lines md_n md_species md_above md_trialSize md_foundSize md_foundSpecies md_foundN md_foundCost md_chosen md_low md_many md_ties md_winnerCost md_allMany md_allTies md_faults md_given md_on md_numbers md_pitches) r) args s 0 0 A) (F0 m 139 ls [.int t0]) := by
  obtain ⟨hx, hb, hr, hts, hown, hml, hlocks, hK, hN, hA, hX⟩ := id C
  obtain ⟨hP, hD, hS⟩ := hZ
  unfold m_SpeciesSolverModel_mayFollow_139 at hm
  refine lv_istore (lv' := [(10, .int t0), (0, .ref (ad 0)), (1, .int x1), (2, .int x2), (3, .int x3), (5, .int x5), (6, .int x6), (7, .int x7), (8, .int x8), (9, .int x9), (11, .int x11)]) hx hb d_SpeciesSolverModel_mayFollow_139 hl (by decide) rfl (fun ls hl => ?_)
  refine lv_iload hx hb d_SpeciesSolverModel_mayFollow_141 (lv_at hl 0 rfl) ?_
  refine lv_aload_n hx hb d_SpeciesSolverModel_mayFollow_143 rfl (lv_at hl 1 rfl) ?_
  refine va_get (D := D) (ci := 1) (v := .ref (ad 3)) (C := R_SpeciesSolverModel) (T := T_SpeciesSolverModel) (N := 35) hx hb hts inG_SpeciesSolverModel hown hK hP 0 rfl rfl 8 (by decide) (hts _ gw_826) (fun _ h9 => h9) rfl d_SpeciesSolverModel_mayFollow_144 ?_
  refine lv_iconst (v := 4) hx hb d_SpeciesSolverModel_mayFollow_147 (by decide) ?_
  refine va_zald hx hb hK hP 2 1 rfl rfl (in_lit (by decide)) d_SpeciesSolverModel_mayFollow_148 ?_
  refine lv_if_eq (tgt := 182) hx hb d_SpeciesSolverModel_mayFollow_149 (by decide) (fun c1 => ?_) (fun c1 => ?_)
  · replace hm := ifT hm c1
    exact l_SpeciesSolverModel_mayFollow_182 C hk32 hm ⟨hP, hD, hS⟩ (lv_sub hl [1, 2, 3, 4, 5, 6, 7, 8, 9, 10] rfl)
  · replace hm := ifF hm c1
    refine lv_iload_n hx hb d_SpeciesSolverModel_mayFollow_152 rfl (lv_at hl 4 rfl) ?_
    refine lv_if_le (tgt := 182) hx hb d_SpeciesSolverModel_mayFollow_153 (by decide) (fun c2 => ?_) (fun c2 => ?_)
    · replace hm := ifT hm c2
      exact l_SpeciesSolverModel_mayFollow_182 C hk32 hm ⟨hP, hD, hS⟩ (lv_sub hl [1, 2, 3, 4, 5, 6, 7, 8, 9, 10] rfl)
    · replace hm := ifF hm c2
      refine lv_aload_n hx hb d_SpeciesSolverModel_mayFollow_156 rfl (lv_at hl 1 rfl) ?_
      refine lv_iload hx hb d_SpeciesSolverModel_mayFollow_157 (lv_at hl 10 rfl) ?_
      refine lv_iload_n hx hb d_SpeciesSolverModel_mayFollow_159 rfl (lv_at hl 2 rfl) ?_
      refine lv_iconst (v := 1) hx hb d_SpeciesSolverModel_mayFollow_160 (by decide) ?_
      refine lv_isub hx hb d_SpeciesSolverModel_mayFollow_161 ?_
      refine lv_aload_n hx hb d_SpeciesSolverModel_mayFollow_162 rfl (lv_at hl 1 rfl) ?_
      refine va_get (D := D) (ci := 1) (v := .ref (ad 7)) (C := R_SpeciesSolverModel) (T := T_SpeciesSolverModel) (N := 35) hx hb hts inG_SpeciesSolverModel hown hK hP 0 rfl rfl 17 (by decide) (hts _ gw_835) (fun _ h9 => h9) rfl d_SpeciesSolverModel_mayFollow_163 ?_
      refine lv_iload_n hx hb d_SpeciesSolverModel_mayFollow_166 rfl (lv_at hl 3 rfl) ?_
      refine lv_iload_n hx hb d_SpeciesSolverModel_mayFollow_167 rfl (lv_at hl 4 rfl) ?_
      obtain ⟨u3, hc4, hm⟩ := bd_some hm
      refine zS_i (n := 2) (wr := [((ad 0), .inr (1, [.int md_thrown, .ref (ad 1), .int md_drafted, .ref (ad 2), .int md_lines, .int md_n, .int md_species, .int md_above, .ref (ad 3), .ref (ad 4), .ref (ad 5), .int md_trialSize, .ref (ad 6), .int md_foundSize, .int md_foundSpecies, .int md_foundN, .int md_foundCost, .ref (ad 7), .int md_chosen, .ref (ad 8), .ref (ad 9), .ref (ad 10), .int md_low, .long md_many, .long md_ties, .ref (ad 11), .ref (ad 12), .int md_winnerCost, .long md_allMany, .long md_allTies, .ref (ad 13), .ref (ad 14), .ref (ad 15), .ref (ad 16), .int md_faults])), ((ad 2), .inl (kc 0, 36, .inl md_given)), ((ad 3), .inl (kc 1, 11, .inl md_on)), ((ad 4), .inl (kc 0, 18, .inl md_numbers)), ((ad 7), .inl (kc 0, 8, .inl md_pitches))]) (w1 := (wd_SpeciesSolverModel_before kc )) (ws1 := (wd_SpeciesSolverModel_mayFollow kc ad md_thrown md_drafted md_lines md_n md_species md_above md_trialSize md_foundSize md_foundSpecies md_foundN md_foundCost md_chosen md_low md_many md_ties md_winnerCost md_allMany md_allTies md_faults md_given md_on md_numbers md_pitches)) (As := [.int x2, .int x3]) (rest := [.ref (ad 7), .int (x1 - (1 : Int32)), .int x11, .ref (ad 0), .int t0]) (y := y_SpeciesSolverModel_before) ⟨hx, hb, hml, hown, hts⟩ (fun sz => c_SpeciesSolverModel_before hc4 sz) gw_1051 gw_1049 gw_1050 gw_118 rfl hd_SpeciesSolverModel_before ⟨Nat.le_of_ble_eq_true rfl, Nat.le_of_ble_eq_true rfl⟩ ⟨rfl, rfl⟩ ⟨Nat.zero_le _, Nat.zero_le _⟩ hK hN hP hD hS hA hX [] [0, 1, 2, 3, 4] [0, 1, 2, 3, 4] rfl rfl (by decide) (by decide) (by decide) rfl (by decide) rfl hl.1 rfl (Nat.le_of_ble_eq_true rfl) d_SpeciesSolverModel_mayFollow_168 (fun H locs hP hD hS => ?_)
      obtain ⟨hi5, hm⟩ := gd_some hm
      refine va_iald hx hb hK hP 4 0 rfl rfl hi5 d_SpeciesSolverModel_mayFollow_171 ?_
      refine lv_iload hx hb d_SpeciesSolverModel_mayFollow_172 (lv_at hl 7 rfl) ?_
      refine lv_iload hx hb d_SpeciesSolverModel_mayFollow_174 (lv_at hl 8 rfl) ?_
      obtain ⟨u6, hc7, hm⟩ := bd_some hm
      refine zV_i (n := 5) (wr := [((ad 3), .inl (kc 1, 11, .inl md_on)), ((ad 7), .inl (kc 0, 8, .inl md_pitches))]) (w1 := (wd_SpeciesSolverModel_rule4 kc ad md_thrown md_drafted md_lines md_n md_species md_above md_trialSize md_foundSize md_foundSpecies md_foundN md_foundCost md_chosen md_low md_many md_ties md_winnerCost md_allMany md_allTies md_faults md_given md_numbers)) (ws1 := (wd_SpeciesSolverModel_mayFollow kc ad md_thrown md_drafted md_lines md_n md_species md_above md_trialSize md_foundSize md_foundSpecies md_foundN md_foundCost md_chosen md_low md_many md_ties md_winnerCost md_allMany md_allTies md_faults md_given md_on md_numbers md_pitches)) (As := [.int x11, .int (x1 - (1 : Int32)), .int (md_pitches (Int32.toNatClampNeg u3)), .int x7, .int x8]) (rest := [.int t0]) (ci := 1) (q0 := 0) (y := y_SpeciesSolverModel_rule4) ⟨hx, hb, hml, hown, hts⟩ (fun sz => c_SpeciesSolverModel_rule4 hc7 sz) gw_1055 gw_1052 gw_1054 gw_91 gw_118 hd_SpeciesSolverModel_rule4 ⟨Nat.le_of_ble_eq_true rfl, Nat.le_of_ble_eq_true rfl⟩ ⟨rfl, rfl⟩ ⟨Nat.zero_le _, Nat.zero_le _⟩ hK hN hP hD hS hA hX [0, 1, 3] [2, 4] [2, 3, 0, 4, 1] rfl rfl (by decide) (by decide) (by decide) rfl (by decide) rfl rfl rfl hl.1 rfl (Nat.le_of_ble_eq_true rfl) d_SpeciesSolverModel_mayFollow_176 (fun H locs hP hD hS => ?_)
      refine lv_if_ne (tgt := 186) hx hb d_SpeciesSolverModel_mayFollow_179 (by decide) (fun c8 => ?_) (fun c8 => ?_)
      · replace hm := ifF hm c8
        refine lv_iconst (v := 0) hx hb d_SpeciesSolverModel_mayFollow_186 (by decide) ?_
        exact l_SpeciesSolverModel_mayFollow_187 C hk32 hm ⟨hP, hD, hS⟩ (lv_sub hl [1, 2, 3, 4, 5, 6, 7, 8, 9, 10] rfl)
      · replace hm := ifT hm c8
        exact l_SpeciesSolverModel_mayFollow_182 C hk32 hm ⟨hP, hD, hS⟩ (lv_sub hl [1, 2, 3, 4, 5, 6, 7, 8, 9, 10] rfl)
def m_SpeciesSolverModel_mayFollow_138 (F : Nat) (md_lines : Int32) (md_n : Int32) (md_species : Int32) (md_above : Int32) (md_given : Nat → Int32) (md_on : Nat → Int32) (md_numbers : Nat → Int32) (md_pitches : Nat → Int32) (k32 : Int32 → Int32 → Int32 → Int32 → Int32 → Int32 → Int32 → Int32 → Int32 → Int32 → Option (Int32))  (x1 : Int32) (x2 : Int32) (x3 : Int32) (x5 : Int32) (x6 : Int32) (x7 : Int32) (x8 : Int32) (x9 : Int32) (x11 : Int32) : Option (Int32) :=
  m_SpeciesSolverModel_mayFollow_139 F md_lines md_n md_species md_above md_given md_on md_numbers md_pitches k32 x1 x2 x3 x5 x6 x7 x8 x9 x11 (0 : Int32)
set_option maxHeartbeats 4000000 in
set_option maxRecDepth 100000 in
theorem l_SpeciesSolverModel_mayFollow_138 {r : Int32} {F : Nat} {ad : Nat → Nat} {md_thrown : Int32} {md_drafted : Int32} {md_lines : Int32} {md_n : Int32} {md_species : Int32} {md_above : Int32} {md_trialSize : Int32} {md_foundSize : Int32} {md_foundSpecies : Int32} {md_foundN : Int32} {md_foundCost : Int32} {md_chosen : Int32} {md_low : Int32} {md_many : Int64} {md_ties : Int64} {md_winnerCost : Int32} {md_allMany : Int64} {md_allTies : Int64} {md_faults : Int32} {md_given : Nat → Int32} {md_on : Nat → Int32} {md_numbers : Nat → Int32} {md_pitches : Nat → Int32} {k32 : Int32 → Int32 → Int32 → Int32 → Int32 → Int32 → Int32 → Int32 → Int32 → Int32 → Option (Int32)} {x1 : Int32} {x2 : Int32} {x3 : Int32} {x5 : Int32} {x6 : Int32} {x7 : Int32} {x8 : Int32} {x9 : Int32} {x11 : Int32} {H : Heap} {locs : List Loc} {ls : Array Slot} (C : Cx p s m meth c args A D kc R_SpeciesSolverModel b_SpeciesSolverModel_mayFollow 12 (some .boolean)) (hk32 : (∀  (x1 : Int32) (x2 : Int32) (x3 : Int32) (x5 : Int32) (x6 : Int32) (x7 : Int32) (x8 : Int32) (x9 : Int32) (x10 : Int32) (x11 : Int32) (H : Heap) (locs : List Loc) (ls : Array Slot), k32 x1 x2 x3 x5 x6 x7 x8 x9 x10 x11 = some r → St D A s (wd_SpeciesSolverModel_mayFollow kc ad md_thrown md_drafted md_lines md_n md_species md_above md_trialSize md_foundSize md_foundSpecies md_foundN md_foundCost md_chosen md_low md_many md_ties md_winnerCost md_allMany md_allTies md_faults md_given md_on md_numbers md_pitches) H locs → lv_has ls 12 [(0, .ref (ad 0)), (1, .int x1), (2, .int x2), (3, .int x3), (5, .int x5), (6, .int x6), (7, .int x7), (8, .int x8), (9, .int x9), (10, .int x10), (11, .int x11)] → W p l e rm_SpeciesSolverModel_mayFollow s m args below meth c H locs 0 0 (MQ below (Qi D A (wd_SpeciesSolverModel_mayFollow kc ad md_thrown md_drafted md_lines md_n md_species md_above md_trialSize md_foundSize md_foundSpecies md_foundN md_foundCost md_chosen md_low md_many md_ties md_winnerCost md_allMany md_allTies md_faults md_given md_on md_numbers md_pitches) r) args s 0 0 A) (F0 m 32 ls []))) (hm : m_SpeciesSolverModel_mayFollow_138 F md_lines md_n md_species md_above md_given md_on md_numbers md_pitches k32 x1 x2 x3 x5 x6 x7 x8 x9 x11 = some r) (hZ : St D A s (wd_SpeciesSolverModel_mayFollow kc ad md_thrown md_drafted md_lines md_n md_species md_above md_trialSize md_foundSize md_foundSpecies md_foundN md_foundCost md_chosen md_low md_many md_ties md_winnerCost md_allMany md_allTies md_faults md_given md_on md_numbers md_pitches) H locs) (hl : lv_has ls 12 [(0, .ref (ad 0)), (1, .int x1), (2, .int x2), (3, .int x3), (5, .int x5), (6, .int x6), (7, .int x7), (8, .int x8), (9, .int x9), (11, .int x11)]) : W p l e rm_SpeciesSolverModel_mayFollow s m args below meth c H locs 0 0 (MQ below (Qi D A (wd_SpeciesSolverModel_mayFollow kc ad md_thrown md_drafted md_lines md_n md_species md_above md_trialSize md_foundSize md_foundSpecies md_foundN md_foundCost md_chosen md_low md_many md_ties md_winnerCost md_allMany md_allTies md_faults md_given md_on md_numbers md_pitches) r) args s 0 0 A) (F0 m 138 ls []) := by
  obtain ⟨hx, hb, hr, hts, hown, hml, hlocks, hK, hN, hA, hX⟩ := id C
  obtain ⟨hP, hD, hS⟩ := hZ
  unfold m_SpeciesSolverModel_mayFollow_138 at hm
  refine lv_iconst (v := 0) hx hb d_SpeciesSolverModel_mayFollow_138 (by decide) ?_
  exact l_SpeciesSolverModel_mayFollow_139 C hk32 hm ⟨hP, hD, hS⟩ (lv_sub hl [0, 1, 2, 3, 4, 5, 6, 7, 8, 9] rfl)
def m_SpeciesSolverModel_mayFollow_134 (F : Nat) (md_lines : Int32) (md_n : Int32) (md_species : Int32) (md_above : Int32) (md_given : Nat → Int32) (md_on : Nat → Int32) (md_numbers : Nat → Int32) (md_pitches : Nat → Int32) (k32 : Int32 → Int32 → Int32 → Int32 → Int32 → Int32 → Int32 → Int32 → Int32 → Int32 → Option (Int32))  (x1 : Int32) (x2 : Int32) (x3 : Int32) (x5 : Int32) (x6 : Int32) (x7 : Int32) (x8 : Int32) (x9 : Int32) (x11 : Int32) : Option (Int32) :=
  m_SpeciesSolverModel_mayFollow_139 F md_lines md_n md_species md_above md_given md_on md_numbers md_pitches k32 x1 x2 x3 x5 x6 x7 x8 x9 x11 (1 : Int32)
set_option maxHeartbeats 4000000 in
set_option maxRecDepth 100000 in
theorem l_SpeciesSolverModel_mayFollow_134 {r : Int32} {F : Nat} {ad : Nat → Nat} {md_thrown : Int32} {md_drafted : Int32} {md_lines : Int32} {md_n : Int32} {md_species : Int32} {md_above : Int32} {md_trialSize : Int32} {md_foundSize : Int32} {md_foundSpecies : Int32} {md_foundN : Int32} {md_foundCost : Int32} {md_chosen : Int32} {md_low : Int32} {md_many : Int64} {md_ties : Int64} {md_winnerCost : Int32} {md_allMany : Int64} {md_allTies : Int64} {md_faults : Int32} {md_given : Nat → Int32} {md_on : Nat → Int32} {md_numbers : Nat → Int32} {md_pitches : Nat → Int32} {k32 : Int32 → Int32 → Int32 → Int32 → Int32 → Int32 → Int32 → Int32 → Int32 → Int32 → Option (Int32)} {x1 : Int32} {x2 : Int32} {x3 : Int32} {x5 : Int32} {x6 : Int32} {x7 : Int32} {x8 : Int32} {x9 : Int32} {x11 : Int32} {H : Heap} {locs : List Loc} {ls : Array Slot} (C : Cx p s m meth c args A D kc R_SpeciesSolverModel b_SpeciesSolverModel_mayFollow 12 (some .boolean)) (hk32 : (∀  (x1 : Int32) (x2 : Int32) (x3 : Int32) (x5 : Int32) (x6 : Int32) (x7 : Int32) (x8 : Int32) (x9 : Int32) (x10 : Int32) (x11 : Int32) (H : Heap) (locs : List Loc) (ls : Array Slot), k32 x1 x2 x3 x5 x6 x7 x8 x9 x10 x11 = some r → St D A s (wd_SpeciesSolverModel_mayFollow kc ad md_thrown md_drafted md_lines md_n md_species md_above md_trialSize md_foundSize md_foundSpecies md_foundN md_foundCost md_chosen md_low md_many md_ties md_winnerCost md_allMany md_allTies md_faults md_given md_on md_numbers md_pitches) H locs → lv_has ls 12 [(0, .ref (ad 0)), (1, .int x1), (2, .int x2), (3, .int x3), (5, .int x5), (6, .int x6), (7, .int x7), (8, .int x8), (9, .int x9), (10, .int x10), (11, .int x11)] → W p l e rm_SpeciesSolverModel_mayFollow s m args below meth c H locs 0 0 (MQ below (Qi D A (wd_SpeciesSolverModel_mayFollow kc ad md_thrown md_drafted md_lines md_n md_species md_above md_trialSize md_foundSize md_foundSpecies md_foundN md_foundCost md_chosen md_low md_many md_ties md_winnerCost md_allMany md_allTies md_faults md_given md_on md_numbers md_pitches) r) args s 0 0 A) (F0 m 32 ls []))) (hm : m_SpeciesSolverModel_mayFollow_134 F md_lines md_n md_species md_above md_given md_on md_numbers md_pitches k32 x1 x2 x3 x5 x6 x7 x8 x9 x11 = some r) (hZ : St D A s (wd_SpeciesSolverModel_mayFollow kc ad md_thrown md_drafted md_lines md_n md_species md_above md_trialSize md_foundSize md_foundSpecies md_foundN md_foundCost md_chosen md_low md_many md_ties md_winnerCost md_allMany md_allTies md_faults md_given md_on md_numbers md_pitches) H locs) (hl : lv_has ls 12 [(0, .ref (ad 0)), (1, .int x1), (2, .int x2), (3, .int x3), (5, .int x5), (6, .int x6), (7, .int x7), (8, .int x8), (9, .int x9), (11, .int x11)]) : W p l e rm_SpeciesSolverModel_mayFollow s m args below meth c H locs 0 0 (MQ below (Qi D A (wd_SpeciesSolverModel_mayFollow kc ad md_thrown md_drafted md_lines md_n md_species md_above md_trialSize md_foundSize md_foundSpecies md_foundN md_foundCost md_chosen md_low md_many md_ties md_winnerCost md_allMany md_allTies md_faults md_given md_on md_numbers md_pitches) r) args s 0 0 A) (F0 m 134 ls []) := by
  obtain ⟨hx, hb, hr, hts, hown, hml, hlocks, hK, hN, hA, hX⟩ := id C
  obtain ⟨hP, hD, hS⟩ := hZ
  unfold m_SpeciesSolverModel_mayFollow_134 at hm
  refine lv_iconst (v := 1) hx hb d_SpeciesSolverModel_mayFollow_134 (by decide) ?_
  refine lv_goto (tgt := 139) hx hb d_SpeciesSolverModel_mayFollow_135 (by decide) ?_
  exact l_SpeciesSolverModel_mayFollow_139 C hk32 hm ⟨hP, hD, hS⟩ (lv_sub hl [0, 1, 2, 3, 4, 5, 6, 7, 8, 9] rfl)
def m_SpeciesSolverModel_mayFollow_113 (F : Nat) (md_lines : Int32) (md_n : Int32) (md_species : Int32) (md_above : Int32) (md_given : Nat → Int32) (md_on : Nat → Int32) (md_numbers : Nat → Int32) (md_pitches : Nat → Int32) (k32 : Int32 → Int32 → Int32 → Int32 → Int32 → Int32 → Int32 → Int32 → Int32 → Int32 → Option (Int32))  (x1 : Int32) (x2 : Int32) (x3 : Int32) (x5 : Int32) (x6 : Int32) (x7 : Int32) (x8 : Int32) (x9 : Int32) (x11 : Int32) : Option (Int32) :=
  (if (md_on (Int32.toNatClampNeg (3 : Int32))) = (0 : Int32) then
    m_SpeciesSolverModel_mayFollow_134 F md_lines md_n md_species md_above md_given md_on md_numbers md_pitches k32 x1 x2 x3 x5 x6 x7 x8 x9 x11
  else
    (bd (m_SpeciesSolverModel_rule3 md_species md_above md_given x11 x1 x8) (fun u2 => (if u2 = (0 : Int32) then
      m_SpeciesSolverModel_mayFollow_134 F md_lines md_n md_species md_above md_given md_on md_numbers md_pitches k32 x1 x2 x3 x5 x6 x7 x8 x9 x11
    else
      m_SpeciesSolverModel_mayFollow_138 F md_lines md_n md_species md_above md_given md_on md_numbers md_pitches k32 x1 x2 x3 x5 x6 x7 x8 x9 x11))))
set_option maxHeartbeats 4000000 in
set_option maxRecDepth 100000 in
theorem l_SpeciesSolverModel_mayFollow_113 {r : Int32} {F : Nat} {ad : Nat → Nat} {md_thrown : Int32} {md_drafted : Int32} {md_lines : Int32} {md_n : Int32} {md_species : Int32} {md_above : Int32} {md_trialSize : Int32} {md_foundSize : Int32} {md_foundSpecies : Int32} {md_foundN : Int32} {md_foundCost : Int32} {md_chosen : Int32} {md_low : Int32} {md_many : Int64} {md_ties : Int64} {md_winnerCost : Int32} {md_allMany : Int64} {md_allTies : Int64} {md_faults : Int32} {md_given : Nat → Int32} {md_on : Nat → Int32} {md_numbers : Nat → Int32} {md_pitches : Nat → Int32} {k32 : Int32 → Int32 → Int32 → Int32 → Int32 → Int32 → Int32 → Int32 → Int32 → Int32 → Option (Int32)} {x1 : Int32} {x2 : Int32} {x3 : Int32} {x5 : Int32} {x6 : Int32} {x7 : Int32} {x8 : Int32} {x9 : Int32} {x11 : Int32} {H : Heap} {locs : List Loc} {ls : Array Slot} (C : Cx p s m meth c args A D kc R_SpeciesSolverModel b_SpeciesSolverModel_mayFollow 12 (some .boolean)) (hk32 : (∀  (x1 : Int32) (x2 : Int32) (x3 : Int32) (x5 : Int32) (x6 : Int32) (x7 : Int32) (x8 : Int32) (x9 : Int32) (x10 : Int32) (x11 : Int32) (H : Heap) (locs : List Loc) (ls : Array Slot), k32 x1 x2 x3 x5 x6 x7 x8 x9 x10 x11 = some r → St D A s (wd_SpeciesSolverModel_mayFollow kc ad md_thrown md_drafted md_lines md_n md_species md_above md_trialSize md_foundSize md_foundSpecies md_foundN md_foundCost md_chosen md_low md_many md_ties md_winnerCost md_allMany md_allTies md_faults md_given md_on md_numbers md_pitches) H locs → lv_has ls 12 [(0, .ref (ad 0)), (1, .int x1), (2, .int x2), (3, .int x3), (5, .int x5), (6, .int x6), (7, .int x7), (8, .int x8), (9, .int x9), (10, .int x10), (11, .int x11)] → W p l e rm_SpeciesSolverModel_mayFollow s m args below meth c H locs 0 0 (MQ below (Qi D A (wd_SpeciesSolverModel_mayFollow kc ad md_thrown md_drafted md_lines md_n md_species md_above md_trialSize md_foundSize md_foundSpecies md_foundN md_foundCost md_chosen md_low md_many md_ties md_winnerCost md_allMany md_allTies md_faults md_given md_on md_numbers md_pitches) r) args s 0 0 A) (F0 m 32 ls []))) (hm : m_SpeciesSolverModel_mayFollow_113 F md_lines md_n md_species md_above md_given md_on md_numbers md_pitches k32 x1 x2 x3 x5 x6 x7 x8 x9 x11 = some r) (hZ : St D A s (wd_SpeciesSolverModel_mayFollow kc ad md_thrown md_drafted md_lines md_n md_species md_above md_trialSize md_foundSize md_foundSpecies md_foundN md_foundCost md_chosen md_low md_many md_ties md_winnerCost md_allMany md_allTies md_faults md_given md_on md_numbers md_pitches) H locs) (hl : lv_has ls 12 [(0, .ref (ad 0)), (1, .int x1), (2, .int x2), (3, .int x3), (5, .int x5), (6, .int x6), (7, .int x7), (8, .int x8), (9, .int x9), (11, .int x11)]) : W p l e rm_SpeciesSolverModel_mayFollow s m args below meth c H locs 0 0 (MQ below (Qi D A (wd_SpeciesSolverModel_mayFollow kc ad md_thrown md_drafted md_lines md_n md_species md_above md_trialSize md_foundSize md_foundSpecies md_foundN md_foundCost md_chosen md_low md_many md_ties md_winnerCost md_allMany md_allTies md_faults md_given md_on md_numbers md_pitches) r) args s 0 0 A) (F0 m 113 ls []) := by
  obtain ⟨hx, hb, hr, hts, hown, hml, hlocks, hK, hN, hA, hX⟩ := id C
  obtain ⟨hP, hD, hS⟩ := hZ
  unfold m_SpeciesSolverModel_mayFollow_113 at hm
  refine lv_aload_n hx hb d_SpeciesSolverModel_mayFollow_113 rfl (lv_at hl 0 rfl) ?_
  refine va_get (D := D) (ci := 1) (v := .ref (ad 3)) (C := R_SpeciesSolverModel) (T := T_SpeciesSolverModel) (N := 35) hx hb hts inG_SpeciesSolverModel hown hK hP 0 rfl rfl 8 (by decide) (hts _ gw_826) (fun _ h9 => h9) rfl d_SpeciesSolverModel_mayFollow_114 ?_
  refine lv_iconst (v := 3) hx hb d_SpeciesSolverModel_mayFollow_117 (by decide) ?_
  refine va_zald hx hb hK hP 2 1 rfl rfl (in_lit (by decide)) d_SpeciesSolverModel_mayFollow_118 ?_
  refine lv_if_eq (tgt := 134) hx hb d_SpeciesSolverModel_mayFollow_119 (by decide) (fun c1 => ?_) (fun c1 => ?_)
  · replace hm := ifT hm c1
    exact l_SpeciesSolverModel_mayFollow_134 C hk32 hm ⟨hP, hD, hS⟩ (lv_sub hl [0, 1, 2, 3, 4, 5, 6, 7, 8, 9] rfl)
  · replace hm := ifF hm c1
    refine lv_aload_n hx hb d_SpeciesSolverModel_mayFollow_122 rfl (lv_at hl 0 rfl) ?_
    refine lv_iload hx hb d_SpeciesSolverModel_mayFollow_123 (lv_at hl 9 rfl) ?_
    refine lv_iload_n hx hb d_SpeciesSolverModel_mayFollow_125 rfl (lv_at hl 1 rfl) ?_
    refine lv_iload hx hb d_SpeciesSolverModel_mayFollow_126 (lv_at hl 7 rfl) ?_
    obtain ⟨u2, hc3, hm⟩ := bd_some hm
    refine zV_i (n := 3) (wr := [((ad 3), .inl (kc 1, 11, .inl md_on)), ((ad 4), .inl (kc 0, 18, .inl md_numbers)), ((ad 7), .inl (kc 0, 8, .inl md_pitches))]) (w1 := (wd_SpeciesSolverModel_rule3 kc ad md_thrown md_drafted md_lines md_n md_species md_above md_trialSize md_foundSize md_foundSpecies md_foundN md_foundCost md_chosen md_low md_many md_ties md_winnerCost md_allMany md_allTies md_faults md_given)) (ws1 := (wd_SpeciesSolverModel_mayFollow kc ad md_thrown md_drafted md_lines md_n md_species md_above md_trialSize md_foundSize md_foundSpecies md_foundN md_foundCost md_chosen md_low md_many md_ties md_winnerCost md_allMany md_allTies md_faults md_given md_on md_numbers md_pitches)) (As := [.int x11, .int x1, .int x8]) (rest := []) (ci := 1) (q0 := 0) (y := y_SpeciesSolverModel_rule3) ⟨hx, hb, hml, hown, hts⟩ (fun sz => c_SpeciesSolverModel_rule3 hc3 sz) gw_1048 gw_1045 gw_1047 gw_90 gw_118 hd_SpeciesSolverModel_rule3 ⟨Nat.le_of_ble_eq_true rfl, Nat.le_of_ble_eq_true rfl⟩ ⟨rfl, rfl⟩ ⟨Nat.zero_le _, Nat.zero_le _⟩ hK hN hP hD hS hA hX [0, 1] [2, 3, 4] [3, 4, 0, 1, 2] rfl rfl (by decide) (by decide) (by decide) rfl (by decide) rfl rfl rfl hl.1 rfl (Nat.le_of_ble_eq_true rfl) d_SpeciesSolverModel_mayFollow_128 (fun H locs hP hD hS => ?_)
    refine lv_if_ne (tgt := 138) hx hb d_SpeciesSolverModel_mayFollow_131 (by decide) (fun c4 => ?_) (fun c4 => ?_)
    · replace hm := ifF hm c4
      exact l_SpeciesSolverModel_mayFollow_138 C hk32 hm ⟨hP, hD, hS⟩ (lv_sub hl [0, 1, 2, 3, 4, 5, 6, 7, 8, 9] rfl)
    · replace hm := ifT hm c4
      exact l_SpeciesSolverModel_mayFollow_134 C hk32 hm ⟨hP, hD, hS⟩ (lv_sub hl [0, 1, 2, 3, 4, 5, 6, 7, 8, 9] rfl)
def m_SpeciesSolverModel_mayFollow_90 (F : Nat) (md_lines : Int32) (md_n : Int32) (md_species : Int32) (md_above : Int32) (md_given : Nat → Int32) (md_on : Nat → Int32) (md_numbers : Nat → Int32) (md_pitches : Nat → Int32) (k32 : Int32 → Int32 → Int32 → Int32 → Int32 → Int32 → Int32 → Int32 → Int32 → Int32 → Option (Int32))  (x1 : Int32) (x2 : Int32) (x3 : Int32) (x5 : Int32) (x6 : Int32) (x7 : Int32) (x8 : Int32) (x9 : Int32) (x11 : Int32) : Option (Int32) :=
  (if (md_on (Int32.toNatClampNeg (2 : Int32))) = (0 : Int32) then
    m_SpeciesSolverModel_mayFollow_113 F md_lines md_n md_species md_above md_given md_on md_numbers md_pitches k32 x1 x2 x3 x5 x6 x7 x8 x9 x11
  else
    (bd (m_SpeciesSolverModel_rule2 md_species md_given md_numbers x11 x1 x9 x8) (fun u2 => (if u2 = (0 : Int32) then
      m_SpeciesSolverModel_mayFollow_113 F md_lines md_n md_species md_above md_given md_on md_numbers md_pitches k32 x1 x2 x3 x5 x6 x7 x8 x9 x11
    else
      m_SpeciesSolverModel_mayFollow_138 F md_lines md_n md_species md_above md_given md_on md_numbers md_pitches k32 x1 x2 x3 x5 x6 x7 x8 x9 x11))))
set_option maxHeartbeats 4000000 in
set_option maxRecDepth 100000 in
theorem l_SpeciesSolverModel_mayFollow_90 {r : Int32} {F : Nat} {ad : Nat → Nat} {md_thrown : Int32} {md_drafted : Int32} {md_lines : Int32} {md_n : Int32} {md_species : Int32} {md_above : Int32} {md_trialSize : Int32} {md_foundSize : Int32} {md_foundSpecies : Int32} {md_foundN : Int32} {md_foundCost : Int32} {md_chosen : Int32} {md_low : Int32} {md_many : Int64} {md_ties : Int64} {md_winnerCost : Int32} {md_allMany : Int64} {md_allTies : Int64} {md_faults : Int32} {md_given : Nat → Int32} {md_on : Nat → Int32} {md_numbers : Nat → Int32} {md_pitches : Nat → Int32} {k32 : Int32 → Int32 → Int32 → Int32 → Int32 → Int32 → Int32 → Int32 → Int32 → Int32 → Option (Int32)} {x1 : Int32} {x2 : Int32} {x3 : Int32} {x5 : Int32} {x6 : Int32} {x7 : Int32} {x8 : Int32} {x9 : Int32} {x11 : Int32} {H : Heap} {locs : List Loc} {ls : Array Slot} (C : Cx p s m meth c args A D kc R_SpeciesSolverModel b_SpeciesSolverModel_mayFollow 12 (some .boolean)) (hk32 : (∀  (x1 : Int32) (x2 : Int32) (x3 : Int32) (x5 : Int32) (x6 : Int32) (x7 : Int32) (x8 : Int32) (x9 : Int32) (x10 : Int32) (x11 : Int32) (H : Heap) (locs : List Loc) (ls : Array Slot), k32 x1 x2 x3 x5 x6 x7 x8 x9 x10 x11 = some r → St D A s (wd_SpeciesSolverModel_mayFollow kc ad md_thrown md_drafted md_lines md_n md_species md_above md_trialSize md_foundSize md_foundSpecies md_foundN md_foundCost md_chosen md_low md_many md_ties md_winnerCost md_allMany md_allTies md_faults md_given md_on md_numbers md_pitches) H locs → lv_has ls 12 [(0, .ref (ad 0)), (1, .int x1), (2, .int x2), (3, .int x3), (5, .int x5), (6, .int x6), (7, .int x7), (8, .int x8), (9, .int x9), (10, .int x10), (11, .int x11)] → W p l e rm_SpeciesSolverModel_mayFollow s m args below meth c H locs 0 0 (MQ below (Qi D A (wd_SpeciesSolverModel_mayFollow kc ad md_thrown md_drafted md_lines md_n md_species md_above md_trialSize md_foundSize md_foundSpecies md_foundN md_foundCost md_chosen md_low md_many md_ties md_winnerCost md_allMany md_allTies md_faults md_given md_on md_numbers md_pitches) r) args s 0 0 A) (F0 m 32 ls []))) (hm : m_SpeciesSolverModel_mayFollow_90 F md_lines md_n md_species md_above md_given md_on md_numbers md_pitches k32 x1 x2 x3 x5 x6 x7 x8 x9 x11 = some r) (hZ : St D A s (wd_SpeciesSolverModel_mayFollow kc ad md_thrown md_drafted md_lines md_n md_species md_above md_trialSize md_foundSize md_foundSpecies md_foundN md_foundCost md_chosen md_low md_many md_ties md_winnerCost md_allMany md_allTies md_faults md_given md_on md_numbers md_pitches) H locs) (hl : lv_has ls 12 [(0, .ref (ad 0)), (1, .int x1), (2, .int x2), (3, .int x3), (5, .int x5), (6, .int x6), (7, .int x7), (8, .int x8), (9, .int x9), (11, .int x11)]) : W p l e rm_SpeciesSolverModel_mayFollow s m args below meth c H locs 0 0 (MQ below (Qi D A (wd_SpeciesSolverModel_mayFollow kc ad md_thrown md_drafted md_lines md_n md_species md_above md_trialSize md_foundSize md_foundSpecies md_foundN md_foundCost md_chosen md_low md_many md_ties md_winnerCost md_allMany md_allTies md_faults md_given md_on md_numbers md_pitches) r) args s 0 0 A) (F0 m 90 ls []) := by
  obtain ⟨hx, hb, hr, hts, hown, hml, hlocks, hK, hN, hA, hX⟩ := id C
  obtain ⟨hP, hD, hS⟩ := hZ
  unfold m_SpeciesSolverModel_mayFollow_90 at hm
  refine lv_aload_n hx hb d_SpeciesSolverModel_mayFollow_90 rfl (lv_at hl 0 rfl) ?_
  refine va_get (D := D) (ci := 1) (v := .ref (ad 3)) (C := R_SpeciesSolverModel) (T := T_SpeciesSolverModel) (N := 35) hx hb hts inG_SpeciesSolverModel hown hK hP 0 rfl rfl 8 (by decide) (hts _ gw_826) (fun _ h9 => h9) rfl d_SpeciesSolverModel_mayFollow_91 ?_
  refine lv_iconst (v := 2) hx hb d_SpeciesSolverModel_mayFollow_94 (by decide) ?_
  refine va_zald hx hb hK hP 2 1 rfl rfl (in_lit (by decide)) d_SpeciesSolverModel_mayFollow_95 ?_
  refine lv_if_eq (tgt := 113) hx hb d_SpeciesSolverModel_mayFollow_96 (by decide) (fun c1 => ?_) (fun c1 => ?_)
  · replace hm := ifT hm c1
    exact l_SpeciesSolverModel_mayFollow_113 C hk32 hm ⟨hP, hD, hS⟩ (lv_sub hl [0, 1, 2, 3, 4, 5, 6, 7, 8, 9] rfl)
  · replace hm := ifF hm c1
    refine lv_aload_n hx hb d_SpeciesSolverModel_mayFollow_99 rfl (lv_at hl 0 rfl) ?_
    refine lv_iload hx hb d_SpeciesSolverModel_mayFollow_100 (lv_at hl 9 rfl) ?_
    refine lv_iload_n hx hb d_SpeciesSolverModel_mayFollow_102 rfl (lv_at hl 1 rfl) ?_
    refine lv_iload hx hb d_SpeciesSolverModel_mayFollow_103 (lv_at hl 8 rfl) ?_
    refine lv_iload hx hb d_SpeciesSolverModel_mayFollow_105 (lv_at hl 7 rfl) ?_
    obtain ⟨u2, hc3, hm⟩ := bd_some hm
    refine zV_i (n := 4) (wr := [((ad 3), .inl (kc 1, 11, .inl md_on)), ((ad 7), .inl (kc 0, 8, .inl md_pitches))]) (w1 := (wd_SpeciesSolverModel_rule2 kc ad md_thrown md_drafted md_lines md_n md_species md_above md_trialSize md_foundSize md_foundSpecies md_foundN md_foundCost md_chosen md_low md_many md_ties md_winnerCost md_allMany md_allTies md_faults md_given md_numbers)) (ws1 := (wd_SpeciesSolverModel_mayFollow kc ad md_thrown md_drafted md_lines md_n md_species md_above md_trialSize md_foundSize md_foundSpecies md_foundN md_foundCost md_chosen md_low md_many md_ties md_winnerCost md_allMany md_allTies md_faults md_given md_on md_numbers md_pitches)) (As := [.int x11, .int x1, .int x9, .int x8]) (rest := []) (ci := 1) (q0 := 0) (y := y_SpeciesSolverModel_rule2) ⟨hx, hb, hml, hown, hts⟩ (fun sz => c_SpeciesSolverModel_rule2 hc3 sz) gw_1044 gw_1041 gw_1043 gw_89 gw_118 hd_SpeciesSolverModel_rule2 ⟨Nat.le_of_ble_eq_true rfl, Nat.le_of_ble_eq_true rfl⟩ ⟨rfl, rfl⟩ ⟨Nat.zero_le _, Nat.zero_le _⟩ hK hN hP hD hS hA hX [0, 1, 3] [2, 4] [2, 3, 0, 4, 1] rfl rfl (by decide) (by decide) (by decide) rfl (by decide) rfl rfl rfl hl.1 rfl (Nat.le_of_ble_eq_true rfl) d_SpeciesSolverModel_mayFollow_107 (fun H locs hP hD hS => ?_)
    refine lv_if_ne (tgt := 138) hx hb d_SpeciesSolverModel_mayFollow_110 (by decide) (fun c4 => ?_) (fun c4 => ?_)
    · replace hm := ifF hm c4
      exact l_SpeciesSolverModel_mayFollow_138 C hk32 hm ⟨hP, hD, hS⟩ (lv_sub hl [0, 1, 2, 3, 4, 5, 6, 7, 8, 9] rfl)
    · replace hm := ifT hm c4
      exact l_SpeciesSolverModel_mayFollow_113 C hk32 hm ⟨hP, hD, hS⟩ (lv_sub hl [0, 1, 2, 3, 4, 5, 6, 7, 8, 9] rfl)
def m_SpeciesSolverModel_mayFollow_67 (F : Nat) (md_lines : Int32) (md_n : Int32) (md_species : Int32) (md_above : Int32) (md_given : Nat → Int32) (md_on : Nat → Int32) (md_numbers : Nat → Int32) (md_pitches : Nat → Int32) (k32 : Int32 → Int32 → Int32 → Int32 → Int32 → Int32 → Int32 → Int32 → Int32 → Int32 → Option (Int32))  (x1 : Int32) (x2 : Int32) (x3 : Int32) (x5 : Int32) (x6 : Int32) (x7 : Int32) (x8 : Int32) (x9 : Int32) (x11 : Int32) : Option (Int32) :=
  (if (md_on (Int32.toNatClampNeg (1 : Int32))) = (0 : Int32) then
    m_SpeciesSolverModel_mayFollow_90 F md_lines md_n md_species md_above md_given md_on md_numbers md_pitches k32 x1 x2 x3 x5 x6 x7 x8 x9 x11
  else
    (bd (m_SpeciesSolverModel_rule1 md_species md_given md_numbers x11 x1 x9 x8) (fun u2 => (if u2 = (0 : Int32) then
      m_SpeciesSolverModel_mayFollow_90 F md_lines md_n md_species md_above md_given md_on md_numbers md_pitches k32 x1 x2 x3 x5 x6 x7 x8 x9 x11
    else
      m_SpeciesSolverModel_mayFollow_138 F md_lines md_n md_species md_above md_given md_on md_numbers md_pitches k32 x1 x2 x3 x5 x6 x7 x8 x9 x11))))
set_option maxHeartbeats 4000000 in
set_option maxRecDepth 100000 in
theorem l_SpeciesSolverModel_mayFollow_67 {r : Int32} {F : Nat} {ad : Nat → Nat} {md_thrown : Int32} {md_drafted : Int32} {md_lines : Int32} {md_n : Int32} {md_species : Int32} {md_above : Int32} {md_trialSize : Int32} {md_foundSize : Int32} {md_foundSpecies : Int32} {md_foundN : Int32} {md_foundCost : Int32} {md_chosen : Int32} {md_low : Int32} {md_many : Int64} {md_ties : Int64} {md_winnerCost : Int32} {md_allMany : Int64} {md_allTies : Int64} {md_faults : Int32} {md_given : Nat → Int32} {md_on : Nat → Int32} {md_numbers : Nat → Int32} {md_pitches : Nat → Int32} {k32 : Int32 → Int32 → Int32 → Int32 → Int32 → Int32 → Int32 → Int32 → Int32 → Int32 → Option (Int32)} {x1 : Int32} {x2 : Int32} {x3 : Int32} {x5 : Int32} {x6 : Int32} {x7 : Int32} {x8 : Int32} {x9 : Int32} {x11 : Int32} {H : Heap} {locs : List Loc} {ls : Array Slot} (C : Cx p s m meth c args A D kc R_SpeciesSolverModel b_SpeciesSolverModel_mayFollow 12 (some .boolean)) (hk32 : (∀  (x1 : Int32) (x2 : Int32) (x3 : Int32) (x5 : Int32) (x6 : Int32) (x7 : Int32) (x8 : Int32) (x9 : Int32) (x10 : Int32) (x11 : Int32) (H : Heap) (locs : List Loc) (ls : Array Slot), k32 x1 x2 x3 x5 x6 x7 x8 x9 x10 x11 = some r → St D A s (wd_SpeciesSolverModel_mayFollow kc ad md_thrown md_drafted md_lines md_n md_species md_above md_trialSize md_foundSize md_foundSpecies md_foundN md_foundCost md_chosen md_low md_many md_ties md_winnerCost md_allMany md_allTies md_faults md_given md_on md_numbers md_pitches) H locs → lv_has ls 12 [(0, .ref (ad 0)), (1, .int x1), (2, .int x2), (3, .int x3), (5, .int x5), (6, .int x6), (7, .int x7), (8, .int x8), (9, .int x9), (10, .int x10), (11, .int x11)] → W p l e rm_SpeciesSolverModel_mayFollow s m args below meth c H locs 0 0 (MQ below (Qi D A (wd_SpeciesSolverModel_mayFollow kc ad md_thrown md_drafted md_lines md_n md_species md_above md_trialSize md_foundSize md_foundSpecies md_foundN md_foundCost md_chosen md_low md_many md_ties md_winnerCost md_allMany md_allTies md_faults md_given md_on md_numbers md_pitches) r) args s 0 0 A) (F0 m 32 ls []))) (hm : m_SpeciesSolverModel_mayFollow_67 F md_lines md_n md_species md_above md_given md_on md_numbers md_pitches k32 x1 x2 x3 x5 x6 x7 x8 x9 x11 = some r) (hZ : St D A s (wd_SpeciesSolverModel_mayFollow kc ad md_thrown md_drafted md_lines md_n md_species md_above md_trialSize md_foundSize md_foundSpecies md_foundN md_foundCost md_chosen md_low md_many md_ties md_winnerCost md_allMany md_allTies md_faults md_given md_on md_numbers md_pitches) H locs) (hl : lv_has ls 12 [(0, .ref (ad 0)), (1, .int x1), (2, .int x2), (3, .int x3), (5, .int x5), (6, .int x6), (7, .int x7), (8, .int x8), (9, .int x9), (11, .int x11)]) : W p l e rm_SpeciesSolverModel_mayFollow s m args below meth c H locs 0 0 (MQ below (Qi D A (wd_SpeciesSolverModel_mayFollow kc ad md_thrown md_drafted md_lines md_n md_species md_above md_trialSize md_foundSize md_foundSpecies md_foundN md_foundCost md_chosen md_low md_many md_ties md_winnerCost md_allMany md_allTies md_faults md_given md_on md_numbers md_pitches) r) args s 0 0 A) (F0 m 67 ls []) := by
  obtain ⟨hx, hb, hr, hts, hown, hml, hlocks, hK, hN, hA, hX⟩ := id C
  obtain ⟨hP, hD, hS⟩ := hZ
  unfold m_SpeciesSolverModel_mayFollow_67 at hm
  refine lv_aload_n hx hb d_SpeciesSolverModel_mayFollow_67 rfl (lv_at hl 0 rfl) ?_
  refine va_get (D := D) (ci := 1) (v := .ref (ad 3)) (C := R_SpeciesSolverModel) (T := T_SpeciesSolverModel) (N := 35) hx hb hts inG_SpeciesSolverModel hown hK hP 0 rfl rfl 8 (by decide) (hts _ gw_826) (fun _ h9 => h9) rfl d_SpeciesSolverModel_mayFollow_68 ?_
  refine lv_iconst (v := 1) hx hb d_SpeciesSolverModel_mayFollow_71 (by decide) ?_
  refine va_zald hx hb hK hP 2 1 rfl rfl (in_lit (by decide)) d_SpeciesSolverModel_mayFollow_72 ?_
  refine lv_if_eq (tgt := 90) hx hb d_SpeciesSolverModel_mayFollow_73 (by decide) (fun c1 => ?_) (fun c1 => ?_)
  · replace hm := ifT hm c1
    exact l_SpeciesSolverModel_mayFollow_90 C hk32 hm ⟨hP, hD, hS⟩ (lv_sub hl [0, 1, 2, 3, 4, 5, 6, 7, 8, 9] rfl)
  · replace hm := ifF hm c1
    refine lv_aload_n hx hb d_SpeciesSolverModel_mayFollow_76 rfl (lv_at hl 0 rfl) ?_
    refine lv_iload hx hb d_SpeciesSolverModel_mayFollow_77 (lv_at hl 9 rfl) ?_
    refine lv_iload_n hx hb d_SpeciesSolverModel_mayFollow_79 rfl (lv_at hl 1 rfl) ?_
    refine lv_iload hx hb d_SpeciesSolverModel_mayFollow_80 (lv_at hl 8 rfl) ?_
    refine lv_iload hx hb d_SpeciesSolverModel_mayFollow_82 (lv_at hl 7 rfl) ?_
    obtain ⟨u2, hc3, hm⟩ := bd_some hm
    refine zV_i (n := 4) (wr := [((ad 3), .inl (kc 1, 11, .inl md_on)), ((ad 7), .inl (kc 0, 8, .inl md_pitches))]) (w1 := (wd_SpeciesSolverModel_rule1 kc ad md_thrown md_drafted md_lines md_n md_species md_above md_trialSize md_foundSize md_foundSpecies md_foundN md_foundCost md_chosen md_low md_many md_ties md_winnerCost md_allMany md_allTies md_faults md_given md_numbers)) (ws1 := (wd_SpeciesSolverModel_mayFollow kc ad md_thrown md_drafted md_lines md_n md_species md_above md_trialSize md_foundSize md_foundSpecies md_foundN md_foundCost md_chosen md_low md_many md_ties md_winnerCost md_allMany md_allTies md_faults md_given md_on md_numbers md_pitches)) (As := [.int x11, .int x1, .int x9, .int x8]) (rest := []) (ci := 1) (q0 := 0) (y := y_SpeciesSolverModel_rule1) ⟨hx, hb, hml, hown, hts⟩ (fun sz => c_SpeciesSolverModel_rule1 hc3 sz) gw_1033 gw_1030 gw_1032 gw_87 gw_118 hd_SpeciesSolverModel_rule1 ⟨Nat.le_of_ble_eq_true rfl, Nat.le_of_ble_eq_true rfl⟩ ⟨rfl, rfl⟩ ⟨Nat.zero_le _, Nat.zero_le _⟩ hK hN hP hD hS hA hX [0, 1, 3] [2, 4] [2, 3, 0, 4, 1] rfl rfl (by decide) (by decide) (by decide) rfl (by decide) rfl rfl rfl hl.1 rfl (Nat.le_of_ble_eq_true rfl) d_SpeciesSolverModel_mayFollow_84 (fun H locs hP hD hS => ?_)
    refine lv_if_ne (tgt := 138) hx hb d_SpeciesSolverModel_mayFollow_87 (by decide) (fun c4 => ?_) (fun c4 => ?_)
    · replace hm := ifF hm c4
      exact l_SpeciesSolverModel_mayFollow_138 C hk32 hm ⟨hP, hD, hS⟩ (lv_sub hl [0, 1, 2, 3, 4, 5, 6, 7, 8, 9] rfl)
    · replace hm := ifT hm c4
      exact l_SpeciesSolverModel_mayFollow_90 C hk32 hm ⟨hP, hD, hS⟩ (lv_sub hl [0, 1, 2, 3, 4, 5, 6, 7, 8, 9] rfl)
def m_SpeciesSolverModel_mayFollow_32b (F : Nat) (md_lines : Int32) (md_n : Int32) (md_species : Int32) (md_above : Int32) (md_given : Nat → Int32) (md_on : Nat → Int32) (md_numbers : Nat → Int32) (md_pitches : Nat → Int32) (k32 : Int32 → Int32 → Int32 → Int32 → Int32 → Int32 → Int32 → Int32 → Int32 → Int32 → Option (Int32))  (x1 : Int32) (x2 : Int32) (x3 : Int32) (x5 : Int32) (x6 : Int32) (x7 : Int32) (x8 : Int32) (x9 : Int32) (x10 : Int32) (x11 : Int32) : Option (Int32) :=
  (if md_lines ≤ x11 then
    m_SpeciesSolverModel_mayFollow_196 F md_lines md_n md_species md_above md_given md_on md_numbers md_pitches  x1 x2 x3 x5 x6 x7 x8 x10
  else
    (if x10 = (0 : Int32) then
      m_SpeciesSolverModel_mayFollow_196 F md_lines md_n md_species md_above md_given md_on md_numbers md_pitches  x1 x2 x3 x5 x6 x7 x8 x10
    else
      (if (md_on (Int32.toNatClampNeg (0 : Int32))) = (0 : Int32) then
        m_SpeciesSolverModel_mayFollow_67 F md_lines md_n md_species md_above md_given md_on md_numbers md_pitches k32 x1 x2 x3 x5 x6 x7 x8 x9 x11
      else
        (bd (m_SpeciesSolverModel_rule0 md_species md_given md_numbers x11 x1 x8) (fun u4 => (if u4 = (0 : Int32) then
          m_SpeciesSolverModel_mayFollow_67 F md_lines md_n md_species md_above md_given md_on md_numbers md_pitches k32 x1 x2 x3 x5 x6 x7 x8 x9 x11
        else
          m_SpeciesSolverModel_mayFollow_138 F md_lines md_n md_species md_above md_given md_on md_numbers md_pitches k32 x1 x2 x3 x5 x6 x7 x8 x9 x11))))))
set_option maxHeartbeats 4000000 in
set_option maxRecDepth 100000 in
theorem l_SpeciesSolverModel_mayFollow_32 {r : Int32} {F : Nat} {ad : Nat → Nat} {md_thrown : Int32} {md_drafted : Int32} {md_lines : Int32} {md_n : Int32} {md_species : Int32} {md_above : Int32} {md_trialSize : Int32} {md_foundSize : Int32} {md_foundSpecies : Int32} {md_foundN : Int32} {md_foundCost : Int32} {md_chosen : Int32} {md_low : Int32} {md_many : Int64} {md_ties : Int64} {md_winnerCost : Int32} {md_allMany : Int64} {md_allTies : Int64} {md_faults : Int32} {md_given : Nat → Int32} {md_on : Nat → Int32} {md_numbers : Nat → Int32} {md_pitches : Nat → Int32} {k32 : Int32 → Int32 → Int32 → Int32 → Int32 → Int32 → Int32 → Int32 → Int32 → Int32 → Option (Int32)} {x1 : Int32} {x2 : Int32} {x3 : Int32} {x5 : Int32} {x6 : Int32} {x7 : Int32} {x8 : Int32} {x9 : Int32} {x10 : Int32} {x11 : Int32} {H : Heap} {locs : List Loc} {ls : Array Slot} (C : Cx p s m meth c args A D kc R_SpeciesSolverModel b_SpeciesSolverModel_mayFollow 12 (some .boolean)) (hk32 : (∀  (x1 : Int32) (x2 : Int32) (x3 : Int32) (x5 : Int32) (x6 : Int32) (x7 : Int32) (x8 : Int32) (x9 : Int32) (x10 : Int32) (x11 : Int32) (H : Heap) (locs : List Loc) (ls : Array Slot), k32 x1 x2 x3 x5 x6 x7 x8 x9 x10 x11 = some r → St D A s (wd_SpeciesSolverModel_mayFollow kc ad md_thrown md_drafted md_lines md_n md_species md_above md_trialSize md_foundSize md_foundSpecies md_foundN md_foundCost md_chosen md_low md_many md_ties md_winnerCost md_allMany md_allTies md_faults md_given md_on md_numbers md_pitches) H locs → lv_has ls 12 [(0, .ref (ad 0)), (1, .int x1), (2, .int x2), (3, .int x3), (5, .int x5), (6, .int x6), (7, .int x7), (8, .int x8), (9, .int x9), (10, .int x10), (11, .int x11)] → W p l e rm_SpeciesSolverModel_mayFollow s m args below meth c H locs 0 0 (MQ below (Qi D A (wd_SpeciesSolverModel_mayFollow kc ad md_thrown md_drafted md_lines md_n md_species md_above md_trialSize md_foundSize md_foundSpecies md_foundN md_foundCost md_chosen md_low md_many md_ties md_winnerCost md_allMany md_allTies md_faults md_given md_on md_numbers md_pitches) r) args s 0 0 A) (F0 m 32 ls []))) (hm : m_SpeciesSolverModel_mayFollow_32b F md_lines md_n md_species md_above md_given md_on md_numbers md_pitches k32 x1 x2 x3 x5 x6 x7 x8 x9 x10 x11 = some r) (hZ : St D A s (wd_SpeciesSolverModel_mayFollow kc ad md_thrown md_drafted md_lines md_n md_species md_above md_trialSize md_foundSize md_foundSpecies md_foundN md_foundCost md_chosen md_low md_many md_ties md_winnerCost md_allMany md_allTies md_faults md_given md_on md_numbers md_pitches) H locs) (hl : lv_has ls 12 [(0, .ref (ad 0)), (1, .int x1), (2, .int x2), (3, .int x3), (5, .int x5), (6, .int x6), (7, .int x7), (8, .int x8), (9, .int x9), (10, .int x10), (11, .int x11)]) : W p l e rm_SpeciesSolverModel_mayFollow s m args below meth c H locs 0 0 (MQ below (Qi D A (wd_SpeciesSolverModel_mayFollow kc ad md_thrown md_drafted md_lines md_n md_species md_above md_trialSize md_foundSize md_foundSpecies md_foundN md_foundCost md_chosen md_low md_many md_ties md_winnerCost md_allMany md_allTies md_faults md_given md_on md_numbers md_pitches) r) args s 0 0 A) (F0 m 32 ls []) := by
  obtain ⟨hx, hb, hr, hts, hown, hml, hlocks, hK, hN, hA, hX⟩ := id C
  obtain ⟨hP, hD, hS⟩ := hZ
  unfold m_SpeciesSolverModel_mayFollow_32b at hm
  refine lv_iload hx hb d_SpeciesSolverModel_mayFollow_32 (lv_at hl 10 rfl) ?_
  refine lv_aload_n hx hb d_SpeciesSolverModel_mayFollow_34 rfl (lv_at hl 0 rfl) ?_
  refine va_get (D := D) (ci := 1) (v := .int md_lines) (C := R_SpeciesSolverModel) (T := T_SpeciesSolverModel) (N := 35) hx hb hts inG_SpeciesSolverModel hown hK hP 0 rfl rfl 4 (by decide) (hts _ gw_822) (fun _ h9 => h9) rfl d_SpeciesSolverModel_mayFollow_35 ?_
  refine lv_icmp_ge (tgt := 196) hx hb d_SpeciesSolverModel_mayFollow_38 (by decide) (fun c1 => ?_) (fun c1 => ?_)
  · replace hm := ifT hm c1
    exact l_SpeciesSolverModel_mayFollow_196 C  hm ⟨hP, hD, hS⟩ (lv_sub hl [0, 1, 2, 3, 4, 5, 6, 7, 9] rfl)
  · replace hm := ifF hm c1
    refine lv_iload hx hb d_SpeciesSolverModel_mayFollow_41 (lv_at hl 9 rfl) ?_
    refine lv_if_eq (tgt := 196) hx hb d_SpeciesSolverModel_mayFollow_43 (by decide) (fun c2 => ?_) (fun c2 => ?_)
    · replace hm := ifT hm c2
      exact l_SpeciesSolverModel_mayFollow_196 C  hm ⟨hP, hD, hS⟩ (lv_sub hl [0, 1, 2, 3, 4, 5, 6, 7, 9] rfl)
    · replace hm := ifF hm c2
      refine lv_aload_n hx hb d_SpeciesSolverModel_mayFollow_46 rfl (lv_at hl 0 rfl) ?_
      refine va_get (D := D) (ci := 1) (v := .ref (ad 3)) (C := R_SpeciesSolverModel) (T := T_SpeciesSolverModel) (N := 35) hx hb hts inG_SpeciesSolverModel hown hK hP 0 rfl rfl 8 (by decide) (hts _ gw_826) (fun _ h9 => h9) rfl d_SpeciesSolverModel_mayFollow_47 ?_
      refine lv_iconst (v := 0) hx hb d_SpeciesSolverModel_mayFollow_50 (by decide) ?_
      refine va_zald hx hb hK hP 2 1 rfl rfl (in_lit (by decide)) d_SpeciesSolverModel_mayFollow_51 ?_
      refine lv_if_eq (tgt := 67) hx hb d_SpeciesSolverModel_mayFollow_52 (by decide) (fun c3 => ?_) (fun c3 => ?_)
      · replace hm := ifT hm c3
        exact l_SpeciesSolverModel_mayFollow_67 C hk32 hm ⟨hP, hD, hS⟩ (lv_sub hl [0, 1, 2, 3, 4, 5, 6, 7, 8, 10] rfl)
      · replace hm := ifF hm c3
        refine lv_aload_n hx hb d_SpeciesSolverModel_mayFollow_55 rfl (lv_at hl 0 rfl) ?_
        refine lv_iload hx hb d_SpeciesSolverModel_mayFollow_56 (lv_at hl 10 rfl) ?_
        refine lv_iload_n hx hb d_SpeciesSolverModel_mayFollow_58 rfl (lv_at hl 1 rfl) ?_
        refine lv_iload hx hb d_SpeciesSolverModel_mayFollow_59 (lv_at hl 7 rfl) ?_
        obtain ⟨u4, hc5, hm⟩ := bd_some hm
        refine zV_i (n := 3) (wr := [((ad 3), .inl (kc 1, 11, .inl md_on)), ((ad 7), .inl (kc 0, 8, .inl md_pitches))]) (w1 := (wd_SpeciesSolverModel_rule0 kc ad md_thrown md_drafted md_lines md_n md_species md_above md_trialSize md_foundSize md_foundSpecies md_foundN md_foundCost md_chosen md_low md_many md_ties md_winnerCost md_allMany md_allTies md_faults md_given md_numbers)) (ws1 := (wd_SpeciesSolverModel_mayFollow kc ad md_thrown md_drafted md_lines md_n md_species md_above md_trialSize md_foundSize md_foundSpecies md_foundN md_foundCost md_chosen md_low md_many md_ties md_winnerCost md_allMany md_allTies md_faults md_given md_on md_numbers md_pitches)) (As := [.int x11, .int x1, .int x8]) (rest := []) (ci := 1) (q0 := 0) (y := y_SpeciesSolverModel_rule0) ⟨hx, hb, hml, hown, hts⟩ (fun sz => c_SpeciesSolverModel_rule0 hc5 sz) gw_1018 gw_1015 gw_1017 gw_84 gw_118 hd_SpeciesSolverModel_rule0 ⟨Nat.le_of_ble_eq_true rfl, Nat.le_of_ble_eq_true rfl⟩ ⟨rfl, rfl⟩ ⟨Nat.zero_le _, Nat.zero_le _⟩ hK hN hP hD hS hA hX [0, 1, 3] [2, 4] [2, 3, 0, 4, 1] rfl rfl (by decide) (by decide) (by decide) rfl (by decide) rfl rfl rfl hl.1 rfl (Nat.le_of_ble_eq_true rfl) d_SpeciesSolverModel_mayFollow_61 (fun H locs hP hD hS => ?_)
        refine lv_if_ne (tgt := 138) hx hb d_SpeciesSolverModel_mayFollow_64 (by decide) (fun c6 => ?_) (fun c6 => ?_)
        · replace hm := ifF hm c6
          exact l_SpeciesSolverModel_mayFollow_138 C hk32 hm ⟨hP, hD, hS⟩ (lv_sub hl [0, 1, 2, 3, 4, 5, 6, 7, 8, 10] rfl)
        · replace hm := ifT hm c6
          exact l_SpeciesSolverModel_mayFollow_67 C hk32 hm ⟨hP, hD, hS⟩ (lv_sub hl [0, 1, 2, 3, 4, 5, 6, 7, 8, 10] rfl)
def m_SpeciesSolverModel_mayFollow_32 (F : Nat) (md_lines : Int32) (md_n : Int32) (md_species : Int32) (md_above : Int32) (md_given : Nat → Int32) (md_on : Nat → Int32) (md_numbers : Nat → Int32) (md_pitches : Nat → Int32)  : Nat → Int32 → Int32 → Int32 → Int32 → Int32 → Int32 → Int32 → Int32 → Int32 → Int32 → Option (Int32)
  | 0 => fun _ _ _ _ _ _ _ _ _ _ => none
  | n + 1 => m_SpeciesSolverModel_mayFollow_32b F md_lines md_n md_species md_above md_given md_on md_numbers md_pitches  (m_SpeciesSolverModel_mayFollow_32 F md_lines md_n md_species md_above md_given md_on md_numbers md_pitches  n)
set_option maxHeartbeats 4000000 in
set_option maxRecDepth 100000 in
theorem lp_SpeciesSolverModel_mayFollow_32 {r : Int32} {F : Nat} {ad : Nat → Nat} {md_thrown : Int32} {md_drafted : Int32} {md_lines : Int32} {md_n : Int32} {md_species : Int32} {md_above : Int32} {md_trialSize : Int32} {md_foundSize : Int32} {md_foundSpecies : Int32} {md_foundN : Int32} {md_foundCost : Int32} {md_chosen : Int32} {md_low : Int32} {md_many : Int64} {md_ties : Int64} {md_winnerCost : Int32} {md_allMany : Int64} {md_allTies : Int64} {md_faults : Int32} {md_given : Nat → Int32} {md_on : Nat → Int32} {md_numbers : Nat → Int32} {md_pitches : Nat → Int32}  (C : Cx p s m meth c args A D kc R_SpeciesSolverModel b_SpeciesSolverModel_mayFollow 12 (some .boolean))  : ∀ (n : Nat)  (x1 : Int32) (x2 : Int32) (x3 : Int32) (x5 : Int32) (x6 : Int32) (x7 : Int32) (x8 : Int32) (x9 : Int32) (x10 : Int32) (x11 : Int32) (H : Heap) (locs : List Loc) (ls : Array Slot), m_SpeciesSolverModel_mayFollow_32 F md_lines md_n md_species md_above md_given md_on md_numbers md_pitches  n x1 x2 x3 x5 x6 x7 x8 x9 x10 x11 = some r → St D A s (wd_SpeciesSolverModel_mayFollow kc ad md_thrown md_drafted md_lines md_n md_species md_above md_trialSize md_foundSize md_foundSpecies md_foundN md_foundCost md_chosen md_low md_many md_ties md_winnerCost md_allMany md_allTies md_faults md_given md_on md_numbers md_pitches) H locs → lv_has ls 12 [(0, .ref (ad 0)), (1, .int x1), (2, .int x2), (3, .int x3), (5, .int x5), (6, .int x6), (7, .int x7), (8, .int x8), (9, .int x9), (10, .int x10), (11, .int x11)] → W p l e rm_SpeciesSolverModel_mayFollow s m args below meth c H locs 0 0 (MQ below (Qi D A (wd_SpeciesSolverModel_mayFollow kc ad md_thrown md_drafted md_lines md_n md_species md_above md_trialSize md_foundSize md_foundSpecies md_foundN md_foundCost md_chosen md_low md_many md_ties md_winnerCost md_allMany md_allTies md_faults md_given md_on md_numbers md_pitches) r) args s 0 0 A) (F0 m 32 ls []) := by
  intro n
  induction n with
  | zero => intro x1 x2 x3 x5 x6 x7 x8 x9 x10 x11 H locs ls hm; cases hm
  | succ n ih => intro x1 x2 x3 x5 x6 x7 x8 x9 x10 x11 H locs ls hm hZ hl; exact l_SpeciesSolverModel_mayFollow_32 C  ih hm hZ hl
def m_SpeciesSolverModel_mayFollow (F : Nat) (md_lines : Int32) (md_n : Int32) (md_species : Int32) (md_above : Int32) (md_given : Nat → Int32) (md_on : Nat → Int32) (md_numbers : Nat → Int32) (md_pitches : Nat → Int32)  (a1 : Int32) (a2 : Int32) (a3 : Int32) (a4 : Int32) (a5 : Int32) (a6 : Int32) : Option (Int32) :=
  (gd a2 8 (gd a5 8 (gd a4 8 (m_SpeciesSolverModel_mayFollow_32 F md_lines md_n md_species md_above md_given md_on md_numbers md_pitches  F a1 a2 a3 a5 a6 (md_pitches (Int32.toNatClampNeg a2)) (md_pitches (Int32.toNatClampNeg a5)) (md_pitches (Int32.toNatClampNeg a4)) (1 : Int32) (0 : Int32)))))
set_option maxHeartbeats 4000000 in
set_option maxRecDepth 100000 in
theorem e_SpeciesSolverModel_mayFollow {r : Int32} {F : Nat} {ad : Nat → Nat} {md_thrown : Int32} {md_drafted : Int32} {md_lines : Int32} {md_n : Int32} {md_species : Int32} {md_above : Int32} {md_trialSize : Int32} {md_foundSize : Int32} {md_foundSpecies : Int32} {md_foundN : Int32} {md_foundCost : Int32} {md_chosen : Int32} {md_low : Int32} {md_many : Int64} {md_ties : Int64} {md_winnerCost : Int32} {md_allMany : Int64} {md_allTies : Int64} {md_faults : Int32} {md_given : Nat → Int32} {md_on : Nat → Int32} {md_numbers : Nat → Int32} {md_pitches : Nat → Int32} {a1 : Int32} {a2 : Int32} {a3 : Int32} {a4 : Int32} {a5 : Int32} {a6 : Int32} {H : Heap} {locs : List Loc} {ls : Array Slot} (C : Cx p s m meth c args A D kc R_SpeciesSolverModel b_SpeciesSolverModel_mayFollow 12 (some .boolean)) (hm : m_SpeciesSolverModel_mayFollow F md_lines md_n md_species md_above md_given md_on md_numbers md_pitches a1 a2 a3 a4 a5 a6 = some r) (hZ : St D A s (wd_SpeciesSolverModel_mayFollow kc ad md_thrown md_drafted md_lines md_n md_species md_above md_trialSize md_foundSize md_foundSpecies md_foundN md_foundCost md_chosen md_low md_many md_ties md_winnerCost md_allMany md_allTies md_faults md_given md_on md_numbers md_pitches) H locs) (hl : lv_has ls 12 [(0, .ref (ad 0)), (1, .int a1), (2, .int a2), (3, .int a3), (4, .int a4), (5, .int a5), (6, .int a6)]) : W p l e rm_SpeciesSolverModel_mayFollow s m args below meth c H locs 0 0 (MQ below (Qi D A (wd_SpeciesSolverModel_mayFollow kc ad md_thrown md_drafted md_lines md_n md_species md_above md_trialSize md_foundSize md_foundSpecies md_foundN md_foundCost md_chosen md_low md_many md_ties md_winnerCost md_allMany md_allTies md_faults md_given md_on md_numbers md_pitches) r) args s 0 0 A) (F0 m 0 ls []) := by
  obtain ⟨hx, hb, hr, hts, hown, hml, hlocks, hK, hN, hA, hX⟩ := id C
  obtain ⟨hP, hD, hS⟩ := hZ
  unfold m_SpeciesSolverModel_mayFollow at hm
  refine lv_aload_n hx hb d_SpeciesSolverModel_mayFollow_0 rfl (lv_at hl 0 rfl) ?_
  refine va_get (D := D) (ci := 1) (v := .ref (ad 7)) (C := R_SpeciesSolverModel) (T := T_SpeciesSolverModel) (N := 35) hx hb hts inG_SpeciesSolverModel hown hK hP 0 rfl rfl 17 (by decide) (hts _ gw_835) (fun _ h9 => h9) rfl d_SpeciesSolverModel_mayFollow_1 ?_
  refine lv_iload_n hx hb d_SpeciesSolverModel_mayFollow_4 rfl (lv_at hl 2 rfl) ?_
  obtain ⟨hi1, hm⟩ := gd_some hm
  refine va_iald hx hb hK hP 4 0 rfl rfl hi1 d_SpeciesSolverModel_mayFollow_5 ?_
  refine lv_istore (lv' := [(7, .int (md_pitches (Int32.toNatClampNeg a2))), (0, .ref (ad 0)), (1, .int a1), (2, .int a2), (3, .int a3), (4, .int a4), (5, .int a5), (6, .int a6)]) hx hb d_SpeciesSolverModel_mayFollow_6 hl (by decide) rfl (fun ls hl => ?_)
  refine lv_aload_n hx hb d_SpeciesSolverModel_mayFollow_8 rfl (lv_at hl 1 rfl) ?_
  refine va_get (D := D) (ci := 1) (v := .ref (ad 7)) (C := R_SpeciesSolverModel) (T := T_SpeciesSolverModel) (N := 35) hx hb hts inG_SpeciesSolverModel hown hK hP 0 rfl rfl 17 (by decide) (hts _ gw_835) (fun _ h9 => h9) rfl d_SpeciesSolverModel_mayFollow_9 ?_
  refine lv_iload hx hb d_SpeciesSolverModel_mayFollow_12 (lv_at hl 6 rfl) ?_
  obtain ⟨hi2, hm⟩ := gd_some hm
  refine va_iald hx hb hK hP 4 0 rfl rfl hi2 d_SpeciesSolverModel_mayFollow_14 ?_
  refine lv_istore (lv' := [(8, .int (md_pitches (Int32.toNatClampNeg a5))), (7, .int (md_pitches (Int32.toNatClampNeg a2))), (0, .ref (ad 0)), (1, .int a1), (2, .int a2), (3, .int a3), (4, .int a4), (5, .int a5), (6, .int a6)]) hx hb d_SpeciesSolverModel_mayFollow_15 hl (by decide) rfl (fun ls hl => ?_)
  refine lv_aload_n hx hb d_SpeciesSolverModel_mayFollow_17 rfl (lv_at hl 2 rfl) ?_
  refine va_get (D := D) (ci := 1) (v := .ref (ad 7)) (C := R_SpeciesSolverModel) (T := T_SpeciesSolverModel) (N := 35) hx hb hts inG_SpeciesSolverModel hown hK hP 0 rfl rfl 17 (by decide) (hts _ gw_835) (fun _ h9 => h9) rfl d_SpeciesSolverModel_mayFollow_18 ?_
  refine lv_iload hx hb d_SpeciesSolverModel_mayFollow_21 (lv_at hl 6 rfl) ?_
  obtain ⟨hi3, hm⟩ := gd_some hm
  refine va_iald hx hb hK hP 4 0 rfl rfl hi3 d_SpeciesSolverModel_mayFollow_23 ?_
  refine lv_istore (lv' := [(9, .int (md_pitches (Int32.toNatClampNeg a4))), (8, .int (md_pitches (Int32.toNatClampNeg a5))), (7, .int (md_pitches (Int32.toNatClampNeg a2))), (0, .ref (ad 0)), (1, .int a1), (2, .int a2), (3, .int a3), (4, .int a4), (5, .int a5), (6, .int a6)]) hx hb d_SpeciesSolverModel_mayFollow_24 hl (by decide) rfl (fun ls hl => ?_)
  refine lv_iconst (v := 1) hx hb d_SpeciesSolverModel_mayFollow_26 (by decide) ?_
  refine lv_istore (lv' := [(10, .int (1 : Int32)), (9, .int (md_pitches (Int32.toNatClampNeg a4))), (8, .int (md_pitches (Int32.toNatClampNeg a5))), (7, .int (md_pitches (Int32.toNatClampNeg a2))), (0, .ref (ad 0)), (1, .int a1), (2, .int a2), (3, .int a3), (4, .int a4), (5, .int a5), (6, .int a6)]) hx hb d_SpeciesSolverModel_mayFollow_27 hl (by decide) rfl (fun ls hl => ?_)
  refine lv_iconst (v := 0) hx hb d_SpeciesSolverModel_mayFollow_29 (by decide) ?_
  refine lv_istore (lv' := [(11, .int (0 : Int32)), (10, .int (1 : Int32)), (9, .int (md_pitches (Int32.toNatClampNeg a4))), (8, .int (md_pitches (Int32.toNatClampNeg a5))), (7, .int (md_pitches (Int32.toNatClampNeg a2))), (0, .ref (ad 0)), (1, .int a1), (2, .int a2), (3, .int a3), (4, .int a4), (5, .int a5), (6, .int a6)]) hx hb d_SpeciesSolverModel_mayFollow_30 hl (by decide) rfl (fun ls hl => ?_)
  exact lp_SpeciesSolverModel_mayFollow_32 C  F a1 a2 a3 a5 a6 (md_pitches (Int32.toNatClampNeg a2)) (md_pitches (Int32.toNatClampNeg a5)) (md_pitches (Int32.toNatClampNeg a4)) (1 : Int32) (0 : Int32) _ _ _ hm ⟨hP, hD, hS⟩ (lv_sub hl [5, 6, 7, 8, 10, 11, 4, 3, 2, 1, 0] rfl)
set_option maxHeartbeats 4000000 in
set_option maxRecDepth 100000 in
theorem c_SpeciesSolverModel_mayFollow {l : Launch} {D : va_G} {kc : Nat → ClassId} {r : Int32} {F : Nat} {ad : Nat → Nat} {md_thrown : Int32} {md_drafted : Int32} {md_lines : Int32} {md_n : Int32} {md_species : Int32} {md_above : Int32} {md_trialSize : Int32} {md_foundSize : Int32} {md_foundSpecies : Int32} {md_foundN : Int32} {md_foundCost : Int32} {md_chosen : Int32} {md_low : Int32} {md_many : Int64} {md_ties : Int64} {md_winnerCost : Int32} {md_allMany : Int64} {md_allTies : Int64} {md_faults : Int32} {md_given : Nat → Int32} {md_on : Nat → Int32} {md_numbers : Nat → Int32} {md_pitches : Nat → Int32} {a1 : Int32} {a2 : Int32} {a3 : Int32} {a4 : Int32} {a5 : Int32} {a6 : Int32} (hm : m_SpeciesSolverModel_mayFollow F md_lines md_n md_species md_above md_given md_on md_numbers md_pitches a1 a2 a3 a4 a5 a6 = some r) (sz : Nat) : Ci l y_SpeciesSolverModel_mayFollow ws_SpeciesSolverModel_mayFollow rm_SpeciesSolverModel_mayFollow D kc sz [.ref (ad 0), .int a1, .int a2, .int a3, .int a4, .int a5, .int a6] (wd_SpeciesSolverModel_mayFollow kc ad md_thrown md_drafted md_lines md_n md_species md_above md_trialSize md_foundSize md_foundSpecies md_foundN md_foundCost md_chosen md_low md_many md_ties md_winnerCost md_allMany md_allTies md_faults md_given md_on md_numbers md_pitches) (wd_SpeciesSolverModel_mayFollow kc ad md_thrown md_drafted md_lines md_n md_species md_above md_trialSize md_foundSize md_foundSpecies md_foundN md_foundCost md_chosen md_low md_many md_ties md_winnerCost md_allMany md_allTies md_faults md_given md_on md_numbers md_pitches) r :=
  Cz_of (Qf := fun A => (Qi D A (wd_SpeciesSolverModel_mayFollow kc ad md_thrown md_drafted md_lines md_n md_species md_above md_trialSize md_foundSize md_foundSpecies md_foundN md_foundCost md_chosen md_low md_many md_ties md_winnerCost md_allMany md_allTies md_faults md_given md_on md_numbers md_pitches) r)) (cc := b_SpeciesSolverModel_mayFollow) (maxL := 12) (ret := (some .boolean)) (by decide) rfl rfl (fun C hZ hl => e_SpeciesSolverModel_mayFollow C hm hZ hl)
end
