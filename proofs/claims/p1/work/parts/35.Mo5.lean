-- ClauseLedgerModel.put(III)I
abbrev b_Mo_put : ByteArray := prog_14_method_47_code
def y_Mo_put : MethodName := ⟨"ClauseLedgerModel", "put", "(III)I"⟩
theorem hd_Mo_put : y_Mo_put.cls ≠ "java/lang/invoke/MethodHandle" ∧ y_Mo_put.cls ≠ "java/lang/invoke/VarHandle" ∧ (parseMethodDescriptor y_Mo_put.desc).map (fun d => d.parameters.length) = some 3 := by decide +kernel
theorem d_Mo_put_0 : decode b_Mo_put 0 = .ok (.iconst 0, 1) := by decide +kernel
theorem d_Mo_put_1 : decode b_Mo_put 1 = .ok (.istore 4, 2) := by decide +kernel
theorem d_Mo_put_3 : decode b_Mo_put 3 = .ok (.iload 4, 2) := by decide +kernel
theorem d_Mo_put_5 : decode b_Mo_put 5 = .ok (.iload_n 1, 1) := by decide +kernel
theorem d_Mo_put_6 : decode b_Mo_put 6 = .ok (.if_icmp .gt 51, 3) := by decide +kernel
theorem d_Mo_put_9 : decode b_Mo_put 9 = .ok (.aload_n 0, 1) := by decide +kernel
theorem d_Mo_put_10 : decode b_Mo_put 10 = .ok (.getfield 90, 3) := by decide +kernel
theorem d_Mo_put_13 : decode b_Mo_put 13 = .ok (.iload 4, 2) := by decide +kernel
theorem d_Mo_put_15 : decode b_Mo_put 15 = .ok (.aload_n 0, 1) := by decide +kernel
theorem d_Mo_put_16 : decode b_Mo_put 16 = .ok (.getfield 50, 3) := by decide +kernel
theorem d_Mo_put_19 : decode b_Mo_put 19 = .ok (.iload 4, 2) := by decide +kernel
theorem d_Mo_put_21 : decode b_Mo_put 21 = .ok (.iaload, 1) := by decide +kernel
theorem d_Mo_put_22 : decode b_Mo_put 22 = .ok (.iload_n 2, 1) := by decide +kernel
theorem d_Mo_put_23 : decode b_Mo_put 23 = .ok (.ishr, 1) := by decide +kernel
theorem d_Mo_put_24 : decode b_Mo_put 24 = .ok (.iconst 1, 1) := by decide +kernel
theorem d_Mo_put_25 : decode b_Mo_put 25 = .ok (.iand, 1) := by decide +kernel
theorem d_Mo_put_26 : decode b_Mo_put 26 = .ok (.ifCond .ne 8, 3) := by decide +kernel
theorem d_Mo_put_29 : decode b_Mo_put 29 = .ok (.iload 4, 2) := by decide +kernel
theorem d_Mo_put_31 : decode b_Mo_put 31 = .ok (.goto 19, 3) := by decide +kernel
theorem d_Mo_put_34 : decode b_Mo_put 34 = .ok (.aload_n 0, 1) := by decide +kernel
theorem d_Mo_put_35 : decode b_Mo_put 35 = .ok (.getfield 26, 3) := by decide +kernel
theorem d_Mo_put_38 : decode b_Mo_put 38 = .ok (.iload 4, 2) := by decide +kernel
theorem d_Mo_put_40 : decode b_Mo_put 40 = .ok (.iaload, 1) := by decide +kernel
theorem d_Mo_put_41 : decode b_Mo_put 41 = .ok (.iconst 1, 1) := by decide +kernel
theorem d_Mo_put_42 : decode b_Mo_put 42 = .ok (.if_icmp .ne 7, 3) := by decide +kernel
theorem d_Mo_put_45 : decode b_Mo_put 45 = .ok (.iload_n 3, 1) := by decide +kernel
theorem d_Mo_put_46 : decode b_Mo_put 46 = .ok (.goto 4, 3) := by decide +kernel
theorem d_Mo_put_49 : decode b_Mo_put 49 = .ok (.iconst (-1), 1) := by decide +kernel
theorem d_Mo_put_50 : decode b_Mo_put 50 = .ok (.iastore, 1) := by decide +kernel
theorem d_Mo_put_51 : decode b_Mo_put 51 = .ok (.iinc 4 1, 3) := by decide +kernel
theorem d_Mo_put_54 : decode b_Mo_put 54 = .ok (.goto (-51), 3) := by decide +kernel
theorem d_Mo_put_57 : decode b_Mo_put 57 = .ok (.aload_n 0, 1) := by decide +kernel
theorem d_Mo_put_58 : decode b_Mo_put 58 = .ok (.iconst 0, 1) := by decide +kernel
theorem d_Mo_put_59 : decode b_Mo_put 59 = .ok (.putfield 173, 3) := by decide +kernel
theorem d_Mo_put_62 : decode b_Mo_put 62 = .ok (.iload_n 1, 1) := by decide +kernel
theorem d_Mo_put_63 : decode b_Mo_put 63 = .ok (.istore 4, 2) := by decide +kernel
theorem d_Mo_put_65 : decode b_Mo_put 65 = .ok (.iconst 0, 1) := by decide +kernel
theorem d_Mo_put_66 : decode b_Mo_put 66 = .ok (.istore 5, 2) := by decide +kernel
theorem d_Mo_put_68 : decode b_Mo_put 68 = .ok (.iload 5, 2) := by decide +kernel
theorem d_Mo_put_70 : decode b_Mo_put 70 = .ok (.sipush 4000, 3) := by decide +kernel
theorem d_Mo_put_73 : decode b_Mo_put 73 = .ok (.if_icmp .ge 245, 3) := by decide +kernel
theorem d_Mo_put_76 : decode b_Mo_put 76 = .ok (.aload_n 0, 1) := by decide +kernel
theorem d_Mo_put_77 : decode b_Mo_put 77 = .ok (.getfield 90, 3) := by decide +kernel
theorem d_Mo_put_80 : decode b_Mo_put 80 = .ok (.iload_n 1, 1) := by decide +kernel
theorem d_Mo_put_81 : decode b_Mo_put 81 = .ok (.iaload, 1) := by decide +kernel
theorem d_Mo_put_82 : decode b_Mo_put 82 = .ok (.ifCond .ge 236, 3) := by decide +kernel
theorem d_Mo_put_85 : decode b_Mo_put 85 = .ok (.aload_n 0, 1) := by decide +kernel
theorem d_Mo_put_86 : decode b_Mo_put 86 = .ok (.getfield 35, 3) := by decide +kernel
theorem d_Mo_put_89 : decode b_Mo_put 89 = .ok (.iload 4, 2) := by decide +kernel
theorem d_Mo_put_91 : decode b_Mo_put 91 = .ok (.iaload, 1) := by decide +kernel
theorem d_Mo_put_92 : decode b_Mo_put 92 = .ok (.istore 6, 2) := by decide +kernel
theorem d_Mo_put_94 : decode b_Mo_put 94 = .ok (.aload_n 0, 1) := by decide +kernel
theorem d_Mo_put_95 : decode b_Mo_put 95 = .ok (.getfield 38, 3) := by decide +kernel
theorem d_Mo_put_98 : decode b_Mo_put 98 = .ok (.iload 4, 2) := by decide +kernel
theorem d_Mo_put_100 : decode b_Mo_put 100 = .ok (.iaload, 1) := by decide +kernel
theorem d_Mo_put_101 : decode b_Mo_put 101 = .ok (.istore 7, 2) := by decide +kernel
theorem d_Mo_put_103 : decode b_Mo_put 103 = .ok (.iload 6, 2) := by decide +kernel
theorem d_Mo_put_105 : decode b_Mo_put 105 = .ok (.ifCond .lt 13, 3) := by decide +kernel
theorem d_Mo_put_108 : decode b_Mo_put 108 = .ok (.aload_n 0, 1) := by decide +kernel
theorem d_Mo_put_109 : decode b_Mo_put 109 = .ok (.getfield 90, 3) := by decide +kernel
theorem d_Mo_put_112 : decode b_Mo_put 112 = .ok (.iload 6, 2) := by decide +kernel
theorem d_Mo_put_114 : decode b_Mo_put 114 = .ok (.iaload, 1) := by decide +kernel
theorem d_Mo_put_115 : decode b_Mo_put 115 = .ok (.ifCond .lt 18, 3) := by decide +kernel
theorem d_Mo_put_118 : decode b_Mo_put 118 = .ok (.iload 7, 2) := by decide +kernel
theorem d_Mo_put_120 : decode b_Mo_put 120 = .ok (.ifCond .lt 61, 3) := by decide +kernel
theorem d_Mo_put_123 : decode b_Mo_put 123 = .ok (.aload_n 0, 1) := by decide +kernel
theorem d_Mo_put_124 : decode b_Mo_put 124 = .ok (.getfield 90, 3) := by decide +kernel
theorem d_Mo_put_127 : decode b_Mo_put 127 = .ok (.iload 7, 2) := by decide +kernel
theorem d_Mo_put_129 : decode b_Mo_put 129 = .ok (.iaload, 1) := by decide +kernel
theorem d_Mo_put_130 : decode b_Mo_put 130 = .ok (.ifCond .ge 51, 3) := by decide +kernel
theorem d_Mo_put_133 : decode b_Mo_put 133 = .ok (.aload_n 0, 1) := by decide +kernel
theorem d_Mo_put_134 : decode b_Mo_put 134 = .ok (.getfield 84, 3) := by decide +kernel
theorem d_Mo_put_137 : decode b_Mo_put 137 = .ok (.aload_n 0, 1) := by decide +kernel
theorem d_Mo_put_138 : decode b_Mo_put 138 = .ok (.getfield 173, 3) := by decide +kernel
theorem d_Mo_put_141 : decode b_Mo_put 141 = .ok (.iload 4, 2) := by decide +kernel
theorem d_Mo_put_143 : decode b_Mo_put 143 = .ok (.iastore, 1) := by decide +kernel
theorem d_Mo_put_144 : decode b_Mo_put 144 = .ok (.aload_n 0, 1) := by decide +kernel
theorem d_Mo_put_145 : decode b_Mo_put 145 = .ok (.dup, 1) := by decide +kernel
theorem d_Mo_put_146 : decode b_Mo_put 146 = .ok (.getfield 173, 3) := by decide +kernel
theorem d_Mo_put_149 : decode b_Mo_put 149 = .ok (.iconst 1, 1) := by decide +kernel
theorem d_Mo_put_150 : decode b_Mo_put 150 = .ok (.iadd, 1) := by decide +kernel
theorem d_Mo_put_151 : decode b_Mo_put 151 = .ok (.putfield 173, 3) := by decide +kernel
theorem d_Mo_put_154 : decode b_Mo_put 154 = .ok (.iload 6, 2) := by decide +kernel
theorem d_Mo_put_156 : decode b_Mo_put 156 = .ok (.ifCond .lt 18, 3) := by decide +kernel
theorem d_Mo_put_159 : decode b_Mo_put 159 = .ok (.aload_n 0, 1) := by decide +kernel
theorem d_Mo_put_160 : decode b_Mo_put 160 = .ok (.getfield 90, 3) := by decide +kernel
theorem d_Mo_put_163 : decode b_Mo_put 163 = .ok (.iload 6, 2) := by decide +kernel
theorem d_Mo_put_165 : decode b_Mo_put 165 = .ok (.iaload, 1) := by decide +kernel
theorem d_Mo_put_166 : decode b_Mo_put 166 = .ok (.ifCond .ge 8, 3) := by decide +kernel
theorem d_Mo_put_169 : decode b_Mo_put 169 = .ok (.iload 6, 2) := by decide +kernel
theorem d_Mo_put_171 : decode b_Mo_put 171 = .ok (.goto 5, 3) := by decide +kernel
theorem d_Mo_put_174 : decode b_Mo_put 174 = .ok (.iload 7, 2) := by decide +kernel
theorem d_Mo_put_176 : decode b_Mo_put 176 = .ok (.istore 4, 2) := by decide +kernel
theorem d_Mo_put_178 : decode b_Mo_put 178 = .ok (.goto 134, 3) := by decide +kernel
theorem d_Mo_put_181 : decode b_Mo_put 181 = .ok (.iload 6, 2) := by decide +kernel
theorem d_Mo_put_183 : decode b_Mo_put 183 = .ok (.ifCond .ge 7, 3) := by decide +kernel
theorem d_Mo_put_186 : decode b_Mo_put 186 = .ok (.iconst (-1), 1) := by decide +kernel
theorem d_Mo_put_187 : decode b_Mo_put 187 = .ok (.goto 10, 3) := by decide +kernel
theorem d_Mo_put_190 : decode b_Mo_put 190 = .ok (.aload_n 0, 1) := by decide +kernel
theorem d_Mo_put_191 : decode b_Mo_put 191 = .ok (.getfield 90, 3) := by decide +kernel
theorem d_Mo_put_194 : decode b_Mo_put 194 = .ok (.iload 6, 2) := by decide +kernel
theorem d_Mo_put_196 : decode b_Mo_put 196 = .ok (.iaload, 1) := by decide +kernel
theorem d_Mo_put_197 : decode b_Mo_put 197 = .ok (.istore 8, 2) := by decide +kernel
theorem d_Mo_put_199 : decode b_Mo_put 199 = .ok (.iload 7, 2) := by decide +kernel
theorem d_Mo_put_201 : decode b_Mo_put 201 = .ok (.ifCond .ge 7, 3) := by decide +kernel
theorem d_Mo_put_204 : decode b_Mo_put 204 = .ok (.iconst (-1), 1) := by decide +kernel
theorem d_Mo_put_205 : decode b_Mo_put 205 = .ok (.goto 10, 3) := by decide +kernel
theorem d_Mo_put_208 : decode b_Mo_put 208 = .ok (.aload_n 0, 1) := by decide +kernel
theorem d_Mo_put_209 : decode b_Mo_put 209 = .ok (.getfield 90, 3) := by decide +kernel
theorem d_Mo_put_212 : decode b_Mo_put 212 = .ok (.iload 7, 2) := by decide +kernel
theorem d_Mo_put_214 : decode b_Mo_put 214 = .ok (.iaload, 1) := by decide +kernel
theorem d_Mo_put_215 : decode b_Mo_put 215 = .ok (.istore 9, 2) := by decide +kernel
theorem d_Mo_put_217 : decode b_Mo_put 217 = .ok (.aload_n 0, 1) := by decide +kernel
theorem d_Mo_put_218 : decode b_Mo_put 218 = .ok (.getfield 90, 3) := by decide +kernel
theorem d_Mo_put_221 : decode b_Mo_put 221 = .ok (.iload 4, 2) := by decide +kernel
theorem d_Mo_put_223 : decode b_Mo_put 223 = .ok (.aload_n 0, 1) := by decide +kernel
theorem d_Mo_put_224 : decode b_Mo_put 224 = .ok (.aload_n 0, 1) := by decide +kernel
theorem d_Mo_put_225 : decode b_Mo_put 225 = .ok (.getfield 26, 3) := by decide +kernel
theorem d_Mo_put_228 : decode b_Mo_put 228 = .ok (.iload 4, 2) := by decide +kernel
theorem d_Mo_put_230 : decode b_Mo_put 230 = .ok (.iaload, 1) := by decide +kernel
theorem d_Mo_put_231 : decode b_Mo_put 231 = .ok (.aload_n 0, 1) := by decide +kernel
theorem d_Mo_put_232 : decode b_Mo_put 232 = .ok (.getfield 29, 3) := by decide +kernel
theorem d_Mo_put_235 : decode b_Mo_put 235 = .ok (.iload 4, 2) := by decide +kernel
theorem d_Mo_put_237 : decode b_Mo_put 237 = .ok (.iaload, 1) := by decide +kernel
theorem d_Mo_put_238 : decode b_Mo_put 238 = .ok (.iload 8, 2) := by decide +kernel
theorem d_Mo_put_240 : decode b_Mo_put 240 = .ok (.iload 9, 2) := by decide +kernel
theorem d_Mo_put_242 : decode b_Mo_put 242 = .ok (.aload_n 0, 1) := by decide +kernel
theorem d_Mo_put_243 : decode b_Mo_put 243 = .ok (.getfield 41, 3) := by decide +kernel
theorem d_Mo_put_246 : decode b_Mo_put 246 = .ok (.iload 4, 2) := by decide +kernel
theorem d_Mo_put_248 : decode b_Mo_put 248 = .ok (.iaload, 1) := by decide +kernel
theorem d_Mo_put_249 : decode b_Mo_put 249 = .ok (.aload_n 0, 1) := by decide +kernel
theorem d_Mo_put_250 : decode b_Mo_put 250 = .ok (.getfield 44, 3) := by decide +kernel
theorem d_Mo_put_253 : decode b_Mo_put 253 = .ok (.iload 4, 2) := by decide +kernel
theorem d_Mo_put_255 : decode b_Mo_put 255 = .ok (.iaload, 1) := by decide +kernel
theorem d_Mo_put_256 : decode b_Mo_put 256 = .ok (.aload_n 0, 1) := by decide +kernel
theorem d_Mo_put_257 : decode b_Mo_put 257 = .ok (.getfield 47, 3) := by decide +kernel
theorem d_Mo_put_260 : decode b_Mo_put 260 = .ok (.iload 4, 2) := by decide +kernel
theorem d_Mo_put_262 : decode b_Mo_put 262 = .ok (.iaload, 1) := by decide +kernel
theorem d_Mo_put_263 : decode b_Mo_put 263 = .ok (.invokevirtual 112, 3) := by decide +kernel
theorem d_Mo_put_266 : decode b_Mo_put 266 = .ok (.iastore, 1) := by decide +kernel
theorem d_Mo_put_267 : decode b_Mo_put 267 = .ok (.aload_n 0, 1) := by decide +kernel
theorem d_Mo_put_268 : decode b_Mo_put 268 = .ok (.dup, 1) := by decide +kernel
theorem d_Mo_put_269 : decode b_Mo_put 269 = .ok (.getfield 173, 3) := by decide +kernel
theorem d_Mo_put_272 : decode b_Mo_put 272 = .ok (.aload_n 0, 1) := by decide +kernel
theorem d_Mo_put_273 : decode b_Mo_put 273 = .ok (.getfield 173, 3) := by decide +kernel
theorem d_Mo_put_276 : decode b_Mo_put 276 = .ok (.ifCond .le 7, 3) := by decide +kernel
theorem d_Mo_put_279 : decode b_Mo_put 279 = .ok (.iconst 1, 1) := by decide +kernel
theorem d_Mo_put_280 : decode b_Mo_put 280 = .ok (.goto 4, 3) := by decide +kernel
theorem d_Mo_put_283 : decode b_Mo_put 283 = .ok (.iconst 0, 1) := by decide +kernel
theorem d_Mo_put_284 : decode b_Mo_put 284 = .ok (.isub, 1) := by decide +kernel
theorem d_Mo_put_285 : decode b_Mo_put 285 = .ok (.putfield 173, 3) := by decide +kernel
theorem d_Mo_put_288 : decode b_Mo_put 288 = .ok (.aload_n 0, 1) := by decide +kernel
theorem d_Mo_put_289 : decode b_Mo_put 289 = .ok (.getfield 90, 3) := by decide +kernel
theorem d_Mo_put_292 : decode b_Mo_put 292 = .ok (.iload_n 1, 1) := by decide +kernel
theorem d_Mo_put_293 : decode b_Mo_put 293 = .ok (.iaload, 1) := by decide +kernel
theorem d_Mo_put_294 : decode b_Mo_put 294 = .ok (.ifCond .ge 15, 3) := by decide +kernel
theorem d_Mo_put_297 : decode b_Mo_put 297 = .ok (.aload_n 0, 1) := by decide +kernel
theorem d_Mo_put_298 : decode b_Mo_put 298 = .ok (.getfield 84, 3) := by decide +kernel
theorem d_Mo_put_301 : decode b_Mo_put 301 = .ok (.aload_n 0, 1) := by decide +kernel
theorem d_Mo_put_302 : decode b_Mo_put 302 = .ok (.getfield 173, 3) := by decide +kernel
theorem d_Mo_put_305 : decode b_Mo_put 305 = .ok (.iaload, 1) := by decide +kernel
theorem d_Mo_put_306 : decode b_Mo_put 306 = .ok (.goto 4, 3) := by decide +kernel
theorem d_Mo_put_309 : decode b_Mo_put 309 = .ok (.iload_n 1, 1) := by decide +kernel
theorem d_Mo_put_310 : decode b_Mo_put 310 = .ok (.istore 4, 2) := by decide +kernel
theorem d_Mo_put_312 : decode b_Mo_put 312 = .ok (.iinc 5 1, 3) := by decide +kernel
theorem d_Mo_put_315 : decode b_Mo_put 315 = .ok (.goto (-247), 3) := by decide +kernel
theorem d_Mo_put_318 : decode b_Mo_put 318 = .ok (.aload_n 0, 1) := by decide +kernel
theorem d_Mo_put_319 : decode b_Mo_put 319 = .ok (.getfield 90, 3) := by decide +kernel
theorem d_Mo_put_322 : decode b_Mo_put 322 = .ok (.iload_n 1, 1) := by decide +kernel
theorem d_Mo_put_323 : decode b_Mo_put 323 = .ok (.iaload, 1) := by decide +kernel
theorem d_Mo_put_324 : decode b_Mo_put 324 = .ok (.ireturn, 1) := by decide +kernel
def f_Mo_put_51 (F3 : (Int32 → Int32 → Int32 → Int32 → St → Int32 × St)) (x1 : Int32) (x2 : Int32) (x3 : Int32) (x4 : Int32) (σ : St) : Int32 × St := F3 x1 x2 x3 (x4 + 1) σ
def k_Mo_put_51 (K3 : (Int32 → Int32 → Int32 → Int32 → St → Prop)) (x1 : Int32) (x2 : Int32) (x3 : Int32) (x4 : Int32) (σ : St) : Prop := K3 x1 x2 x3 (x4 + 1) σ
def f_Mo_put_50 (F3 : (Int32 → Int32 → Int32 → Int32 → St → Int32 × St)) (x1 : Int32) (x2 : Int32) (x3 : Int32) (x4 : Int32) (s0 : Int32) (s1 : Int32) (σ : St) : Int32 × St := f_Mo_put_51 F3 x1 x2 x3 x4 (sA σ 26 s1 s0)
def k_Mo_put_50 (K3 : (Int32 → Int32 → Int32 → Int32 → St → Prop)) (x1 : Int32) (x2 : Int32) (x3 : Int32) (x4 : Int32) (s0 : Int32) (s1 : Int32) (σ : St) : Prop := vp_in s1 400 ∧ (k_Mo_put_51 K3 x1 x2 x3 x4 (sA σ 26 s1 s0))
def f_Mo_put_312 (F68 : (Int32 → Int32 → Int32 → St → Int32 × St)) (x1 : Int32) (x4 : Int32) (x5 : Int32) (σ : St) : Int32 × St := F68 x1 x4 (x5 + 1) σ
def k_Mo_put_312 (K68 : (Int32 → Int32 → Int32 → St → Prop)) (x1 : Int32) (x4 : Int32) (x5 : Int32) (σ : St) : Prop := K68 x1 x4 (x5 + 1) σ
def f_Mo_put_176 (F68 : (Int32 → Int32 → Int32 → St → Int32 × St)) (x1 : Int32) (x5 : Int32) (s0 : Int32) (σ : St) : Int32 × St := f_Mo_put_312 F68 x1 s0 x5 σ
def k_Mo_put_176 (K68 : (Int32 → Int32 → Int32 → St → Prop)) (x1 : Int32) (x5 : Int32) (s0 : Int32) (σ : St) : Prop := k_Mo_put_312 K68 x1 s0 x5 σ
def f_Mo_put_174 (F68 : (Int32 → Int32 → Int32 → St → Int32 × St)) (x1 : Int32) (x5 : Int32) (x7 : Int32) (σ : St) : Int32 × St := f_Mo_put_176 F68 x1 x5 x7 σ
def k_Mo_put_174 (K68 : (Int32 → Int32 → Int32 → St → Prop)) (x1 : Int32) (x5 : Int32) (x7 : Int32) (σ : St) : Prop := k_Mo_put_176 K68 x1 x5 x7 σ
def f_Mo_put_154 (F68 : (Int32 → Int32 → Int32 → St → Int32 × St)) (x1 : Int32) (x5 : Int32) (x6 : Int32) (x7 : Int32) (σ : St) : Int32 × St := if x6 < 0 then (f_Mo_put_174 F68 x1 x5 x7 σ) else (if 0 ≤ (σ.1 26 x6.toNatClampNeg) then (f_Mo_put_174 F68 x1 x5 x7 σ) else (f_Mo_put_176 F68 x1 x5 x6 σ))
def k_Mo_put_154 (K68 : (Int32 → Int32 → Int32 → St → Prop)) (x1 : Int32) (x5 : Int32) (x6 : Int32) (x7 : Int32) (σ : St) : Prop := (x6 < 0 → (k_Mo_put_174 K68 x1 x5 x7 σ)) ∧ (¬ x6 < 0 → (vp_in x6 400 ∧ ((0 ≤ (σ.1 26 x6.toNatClampNeg) → (k_Mo_put_174 K68 x1 x5 x7 σ)) ∧ (¬ 0 ≤ (σ.1 26 x6.toNatClampNeg) → (k_Mo_put_176 K68 x1 x5 x6 σ)))))
def f_Mo_put_144 (F68 : (Int32 → Int32 → Int32 → St → Int32 × St)) (x1 : Int32) (x5 : Int32) (x6 : Int32) (x7 : Int32) (σ : St) : Int32 × St := f_Mo_put_154 F68 x1 x5 x6 x7 (sF σ 0 34 ((σ.1 0 34) + 1))
def k_Mo_put_144 (K68 : (Int32 → Int32 → Int32 → St → Prop)) (x1 : Int32) (x5 : Int32) (x6 : Int32) (x7 : Int32) (σ : St) : Prop := k_Mo_put_154 K68 x1 x5 x6 x7 (sF σ 0 34 ((σ.1 0 34) + 1))
def f_Mo_put_133 (F68 : (Int32 → Int32 → Int32 → St → Int32 × St)) (x1 : Int32) (x4 : Int32) (x5 : Int32) (x6 : Int32) (x7 : Int32) (σ : St) : Int32 × St := f_Mo_put_144 F68 x1 x5 x6 x7 (sA σ 24 (σ.1 0 34) x4)
def k_Mo_put_133 (K68 : (Int32 → Int32 → Int32 → St → Prop)) (x1 : Int32) (x4 : Int32) (x5 : Int32) (x6 : Int32) (x7 : Int32) (σ : St) : Prop := vp_in (σ.1 0 34) 40 ∧ (k_Mo_put_144 K68 x1 x5 x6 x7 (sA σ 24 (σ.1 0 34) x4))
def f_Mo_put_310 (F68 : (Int32 → Int32 → Int32 → St → Int32 × St)) (x1 : Int32) (x5 : Int32) (s0 : Int32) (σ : St) : Int32 × St := f_Mo_put_312 F68 x1 s0 x5 σ
def k_Mo_put_310 (K68 : (Int32 → Int32 → Int32 → St → Prop)) (x1 : Int32) (x5 : Int32) (s0 : Int32) (σ : St) : Prop := k_Mo_put_312 K68 x1 s0 x5 σ
def f_Mo_put_288 (F68 : (Int32 → Int32 → Int32 → St → Int32 × St)) (x1 : Int32) (x5 : Int32) (σ : St) : Int32 × St := if 0 ≤ (σ.1 26 x1.toNatClampNeg) then (f_Mo_put_310 F68 x1 x5 x1 σ) else (f_Mo_put_310 F68 x1 x5 (σ.1 24 (σ.1 0 34).toNatClampNeg) σ)
def k_Mo_put_288 (K68 : (Int32 → Int32 → Int32 → St → Prop)) (x1 : Int32) (x5 : Int32) (σ : St) : Prop := vp_in x1 400 ∧ ((0 ≤ (σ.1 26 x1.toNatClampNeg) → (k_Mo_put_310 K68 x1 x5 x1 σ)) ∧ (¬ 0 ≤ (σ.1 26 x1.toNatClampNeg) → (vp_in (σ.1 0 34) 40 ∧ (k_Mo_put_310 K68 x1 x5 (σ.1 24 (σ.1 0 34).toNatClampNeg) σ))))
def f_Mo_put_284 (F68 : (Int32 → Int32 → Int32 → St → Int32 × St)) (x1 : Int32) (x5 : Int32) (s0 : Int32) (s1 : Int32) (σ : St) : Int32 × St := f_Mo_put_288 F68 x1 x5 (sF σ 0 34 (s1 - s0))
def k_Mo_put_284 (K68 : (Int32 → Int32 → Int32 → St → Prop)) (x1 : Int32) (x5 : Int32) (s0 : Int32) (s1 : Int32) (σ : St) : Prop := k_Mo_put_288 K68 x1 x5 (sF σ 0 34 (s1 - s0))
def f_Mo_put_267 (F68 : (Int32 → Int32 → Int32 → St → Int32 × St)) (x1 : Int32) (x5 : Int32) (σ : St) : Int32 × St := if (σ.1 0 34) ≤ 0 then (f_Mo_put_284 F68 x1 x5 0 (σ.1 0 34) σ) else (f_Mo_put_284 F68 x1 x5 1 (σ.1 0 34) σ)
def k_Mo_put_267 (K68 : (Int32 → Int32 → Int32 → St → Prop)) (x1 : Int32) (x5 : Int32) (σ : St) : Prop := ((σ.1 0 34) ≤ 0 → (k_Mo_put_284 K68 x1 x5 0 (σ.1 0 34) σ)) ∧ (¬ (σ.1 0 34) ≤ 0 → (k_Mo_put_284 K68 x1 x5 1 (σ.1 0 34) σ))
def f_Mo_put_266 (F68 : (Int32 → Int32 → Int32 → St → Int32 × St)) (x1 : Int32) (x5 : Int32) (s0 : Int32) (s1 : Int32) (σ : St) : Int32 × St := f_Mo_put_267 F68 x1 x5 (sA σ 26 s1 s0)
def k_Mo_put_266 (K68 : (Int32 → Int32 → Int32 → St → Prop)) (x1 : Int32) (x5 : Int32) (s0 : Int32) (s1 : Int32) (σ : St) : Prop := vp_in s1 400 ∧ (k_Mo_put_267 K68 x1 x5 (sA σ 26 s1 s0))
def f_Mo_put_215 (F68 : (Int32 → Int32 → Int32 → St → Int32 × St)) (x1 : Int32) (x4 : Int32) (x5 : Int32) (x8 : Int32) (s0 : Int32) (σ : St) : Int32 × St := f_Mo_put_266 F68 x1 x5 ((f_Mo_found (σ.1 5 x4.toNatClampNeg) (σ.1 6 x4.toNatClampNeg) x8 s0 (σ.1 10 x4.toNatClampNeg) (σ.1 11 x4.toNatClampNeg) (σ.1 12 x4.toNatClampNeg) σ).1) x4 ((f_Mo_found (σ.1 5 x4.toNatClampNeg) (σ.1 6 x4.toNatClampNeg) x8 s0 (σ.1 10 x4.toNatClampNeg) (σ.1 11 x4.toNatClampNeg) (σ.1 12 x4.toNatClampNeg) σ).2)
def k_Mo_put_215 (K68 : (Int32 → Int32 → Int32 → St → Prop)) (x1 : Int32) (x4 : Int32) (x5 : Int32) (x8 : Int32) (s0 : Int32) (σ : St) : Prop := vp_in x4 400 ∧ (vp_in x4 400 ∧ (vp_in x4 400 ∧ (vp_in x4 400 ∧ (vp_in x4 400 ∧ ((k_Mo_found (σ.1 5 x4.toNatClampNeg) (σ.1 6 x4.toNatClampNeg) x8 s0 (σ.1 10 x4.toNatClampNeg) (σ.1 11 x4.toNatClampNeg) (σ.1 12 x4.toNatClampNeg) σ) ∧ (k_Mo_put_266 K68 x1 x5 ((f_Mo_found (σ.1 5 x4.toNatClampNeg) (σ.1 6 x4.toNatClampNeg) x8 s0 (σ.1 10 x4.toNatClampNeg) (σ.1 11 x4.toNatClampNeg) (σ.1 12 x4.toNatClampNeg) σ).1) x4 ((f_Mo_found (σ.1 5 x4.toNatClampNeg) (σ.1 6 x4.toNatClampNeg) x8 s0 (σ.1 10 x4.toNatClampNeg) (σ.1 11 x4.toNatClampNeg) (σ.1 12 x4.toNatClampNeg) σ).2)))))))
def f_Mo_put_197 (F68 : (Int32 → Int32 → Int32 → St → Int32 × St)) (x1 : Int32) (x4 : Int32) (x5 : Int32) (x7 : Int32) (s0 : Int32) (σ : St) : Int32 × St := if 0 ≤ x7 then (f_Mo_put_215 F68 x1 x4 x5 s0 (σ.1 26 x7.toNatClampNeg) σ) else (f_Mo_put_215 F68 x1 x4 x5 s0 (-1) σ)
def k_Mo_put_197 (K68 : (Int32 → Int32 → Int32 → St → Prop)) (x1 : Int32) (x4 : Int32) (x5 : Int32) (x7 : Int32) (s0 : Int32) (σ : St) : Prop := (0 ≤ x7 → (vp_in x7 400 ∧ (k_Mo_put_215 K68 x1 x4 x5 s0 (σ.1 26 x7.toNatClampNeg) σ))) ∧ (¬ 0 ≤ x7 → (k_Mo_put_215 K68 x1 x4 x5 s0 (-1) σ))
def f_Mo_put_181 (F68 : (Int32 → Int32 → Int32 → St → Int32 × St)) (x1 : Int32) (x4 : Int32) (x5 : Int32) (x6 : Int32) (x7 : Int32) (σ : St) : Int32 × St := if 0 ≤ x6 then (f_Mo_put_197 F68 x1 x4 x5 x7 (σ.1 26 x6.toNatClampNeg) σ) else (f_Mo_put_197 F68 x1 x4 x5 x7 (-1) σ)
def k_Mo_put_181 (K68 : (Int32 → Int32 → Int32 → St → Prop)) (x1 : Int32) (x4 : Int32) (x5 : Int32) (x6 : Int32) (x7 : Int32) (σ : St) : Prop := (0 ≤ x6 → (vp_in x6 400 ∧ (k_Mo_put_197 K68 x1 x4 x5 x7 (σ.1 26 x6.toNatClampNeg) σ))) ∧ (¬ 0 ≤ x6 → (k_Mo_put_197 K68 x1 x4 x5 x7 (-1) σ))
def f_Mo_put_118 (F68 : (Int32 → Int32 → Int32 → St → Int32 × St)) (x1 : Int32) (x4 : Int32) (x5 : Int32) (x6 : Int32) (x7 : Int32) (σ : St) : Int32 × St := if x7 < 0 then (f_Mo_put_181 F68 x1 x4 x5 x6 x7 σ) else (if 0 ≤ (σ.1 26 x7.toNatClampNeg) then (f_Mo_put_181 F68 x1 x4 x5 x6 x7 σ) else (f_Mo_put_133 F68 x1 x4 x5 x6 x7 σ))
def k_Mo_put_118 (K68 : (Int32 → Int32 → Int32 → St → Prop)) (x1 : Int32) (x4 : Int32) (x5 : Int32) (x6 : Int32) (x7 : Int32) (σ : St) : Prop := (x7 < 0 → (k_Mo_put_181 K68 x1 x4 x5 x6 x7 σ)) ∧ (¬ x7 < 0 → (vp_in x7 400 ∧ ((0 ≤ (σ.1 26 x7.toNatClampNeg) → (k_Mo_put_181 K68 x1 x4 x5 x6 x7 σ)) ∧ (¬ 0 ≤ (σ.1 26 x7.toNatClampNeg) → (k_Mo_put_133 K68 x1 x4 x5 x6 x7 σ)))))
def f_Mo_put_103 (F68 : (Int32 → Int32 → Int32 → St → Int32 × St)) (x1 : Int32) (x4 : Int32) (x5 : Int32) (x6 : Int32) (x7 : Int32) (σ : St) : Int32 × St := if x6 < 0 then (f_Mo_put_118 F68 x1 x4 x5 x6 x7 σ) else (if (σ.1 26 x6.toNatClampNeg) < 0 then (f_Mo_put_133 F68 x1 x4 x5 x6 x7 σ) else (f_Mo_put_118 F68 x1 x4 x5 x6 x7 σ))
def k_Mo_put_103 (K68 : (Int32 → Int32 → Int32 → St → Prop)) (x1 : Int32) (x4 : Int32) (x5 : Int32) (x6 : Int32) (x7 : Int32) (σ : St) : Prop := (x6 < 0 → (k_Mo_put_118 K68 x1 x4 x5 x6 x7 σ)) ∧ (¬ x6 < 0 → (vp_in x6 400 ∧ (((σ.1 26 x6.toNatClampNeg) < 0 → (k_Mo_put_133 K68 x1 x4 x5 x6 x7 σ)) ∧ (¬ (σ.1 26 x6.toNatClampNeg) < 0 → (k_Mo_put_118 K68 x1 x4 x5 x6 x7 σ)))))
def f_Mo_put_94 (F68 : (Int32 → Int32 → Int32 → St → Int32 × St)) (x1 : Int32) (x4 : Int32) (x5 : Int32) (x6 : Int32) (σ : St) : Int32 × St := f_Mo_put_103 F68 x1 x4 x5 x6 (σ.1 9 x4.toNatClampNeg) σ
def k_Mo_put_94 (K68 : (Int32 → Int32 → Int32 → St → Prop)) (x1 : Int32) (x4 : Int32) (x5 : Int32) (x6 : Int32) (σ : St) : Prop := vp_in x4 400 ∧ (k_Mo_put_103 K68 x1 x4 x5 x6 (σ.1 9 x4.toNatClampNeg) σ)
def f_Mo_put_318 (x1 : Int32) (σ : St) : Int32 × St := (σ.1 26 x1.toNatClampNeg, σ)
def k_Mo_put_318 (x1 : Int32) (σ : St) : Prop := vp_in x1 400 ∧ True
def f_Mo_put_68 : Nat → Int32 → Int32 → Int32 → St → Int32 × St
  | 0, _, _, _, σ => (0, σ)
  | n + 1, x1, x4, x5, σ => if 4000 ≤ x5 then (f_Mo_put_318 x1 σ) else (if 0 ≤ (σ.1 26 x1.toNatClampNeg) then (f_Mo_put_318 x1 σ) else (f_Mo_put_94 (f_Mo_put_68 n) x1 x4 x5 (σ.1 8 x4.toNatClampNeg) σ))
def k_Mo_put_68 : Nat → Int32 → Int32 → Int32 → St → Prop
  | 0, _, _, _, _ => False
  | n + 1, x1, x4, x5, σ => (4000 ≤ x5 → (k_Mo_put_318 x1 σ)) ∧ (¬ 4000 ≤ x5 → (vp_in x1 400 ∧ ((0 ≤ (σ.1 26 x1.toNatClampNeg) → (k_Mo_put_318 x1 σ)) ∧ (¬ 0 ≤ (σ.1 26 x1.toNatClampNeg) → (vp_in x4 400 ∧ (k_Mo_put_94 (k_Mo_put_68 n) x1 x4 x5 (σ.1 8 x4.toNatClampNeg) σ))))))
def f_Mo_put_62 (x1 : Int32) (σ : St) : Int32 × St := f_Mo_put_68 100000 x1 x1 0 σ
def k_Mo_put_62 (x1 : Int32) (σ : St) : Prop := k_Mo_put_68 100000 x1 x1 0 σ
def f_Mo_put_3 : Nat → Int32 → Int32 → Int32 → Int32 → St → Int32 × St
  | 0, _, _, _, _, σ => (0, σ)
  | n + 1, x1, x2, x3, x4, σ => if x1 < x4 then (f_Mo_put_62 x1 (sF σ 0 34 0)) else (if (((σ.1 13 x4.toNatClampNeg) >>> (x2 &&& 31)) &&& 1) = 0 then (f_Mo_put_50 (f_Mo_put_3 n) x1 x2 x3 x4 x4 x4 σ) else (if (σ.1 5 x4.toNatClampNeg) = 1 then (f_Mo_put_50 (f_Mo_put_3 n) x1 x2 x3 x4 x3 x4 σ) else (f_Mo_put_50 (f_Mo_put_3 n) x1 x2 x3 x4 (-1) x4 σ)))
def k_Mo_put_3 : Nat → Int32 → Int32 → Int32 → Int32 → St → Prop
  | 0, _, _, _, _, _ => False
  | n + 1, x1, x2, x3, x4, σ => (x1 < x4 → (k_Mo_put_62 x1 (sF σ 0 34 0))) ∧ (¬ x1 < x4 → (vp_in x4 400 ∧ (((((σ.1 13 x4.toNatClampNeg) >>> (x2 &&& 31)) &&& 1) = 0 → (k_Mo_put_50 (k_Mo_put_3 n) x1 x2 x3 x4 x4 x4 σ)) ∧ (¬ (((σ.1 13 x4.toNatClampNeg) >>> (x2 &&& 31)) &&& 1) = 0 → (vp_in x4 400 ∧ (((σ.1 5 x4.toNatClampNeg) = 1 → (k_Mo_put_50 (k_Mo_put_3 n) x1 x2 x3 x4 x3 x4 σ)) ∧ (¬ (σ.1 5 x4.toNatClampNeg) = 1 → (k_Mo_put_50 (k_Mo_put_3 n) x1 x2 x3 x4 (-1) x4 σ))))))))
def f_Mo_put (a1 : Int32) (a2 : Int32) (a3 : Int32) (σ : St) : Int32 × St := f_Mo_put_3 100000 a1 a2 a3 0 σ
def k_Mo_put (a1 : Int32) (a2 : Int32) (a3 : Int32) (σ : St) : Prop := k_Mo_put_3 100000 a1 a2 a3 0 σ
abbrev w_Mo_put : List Cond := Cond.code y_Mo_put b_Mo_put 10 (some .int) :: gw
abbrev rm_Mo_put : Room := { frames := 1, cells := 0, slots := 0, locals := 29 }
set_option maxHeartbeats 4000000 in
set_option maxRecDepth 100000 in
theorem c_Mo_put (l : Launch) (D : va_G) (ty : Nat → ClassId) (h : Nat → Nat) (px : va_W) (sa : Nat → Nat) (σ : St) (sz : Nat) (a1 : Int32) (a2 : Int32) (a3 : Int32) (hk : k_Mo_put a1 a2 a3 σ) : Met l y_Mo_put w_Mo_put rm_Mo_put (va_Pc [.ref (h 0), .int a1, .int a2, .int a3] (fun U => U.heap.size = sz ∧ va_P D classes (Wm ty h σ px) U.heap ∧ va_K D classes (Ta ty) U ∧ NW U ∧ MK sa (va_A (Wm ty h σ px) sz) U U.heap ∧ va_D (fun _ => True) (Wm ty h σ px))) (va_Qi (fun r (u : St) => (r, u) = f_Mo_put a1 a2 a3 σ) (fun u t => va_P D classes (Wm ty h u px) t.heap) (va_A (Wm ty h σ px) sz)) 0 0 (va_A (Wm ty h σ px) sz) := by
  refine Met.ofW (cc := b_Mo_put) (maxL := 10) (ret := (some .int)) (by decide) rfl ?_
  intro p e s m args below meth c s₁ B hml hv
  obtain ⟨ha, hsz, hP, hK, hN, hM, hD0⟩ := hv
  have hx := B.exec
  have hb := B.bytes
  have hr := B.returns
  have hg : ∀ w ∈ gw, w.before args s = true := fun w h9 => atoms_spec (ws := w_Mo_put) B.pre w (List.mem_cons_of_mem _ h9)
  have hown : s.vm.findClass "ClauseLedgerModel" = some m.cls := findClass_of_methodNamed B.named
  have hlocks := B.notSynchronized
  subst hsz
  have hD := hD0.self (sz := s.heap.size)
  generalize hAe : va_A (Wm ty h σ px) s.heap.size = A at hD hM ⊢
  have hA : ∀ q : Nat, s.heap.size ≤ q → A q := fun q h9 => by rw [← hAe]; exact Or.inr h9
  have hS : va_S A s.heap s.heap [] := va_S.rf
  have he : entryFrame m args 10 = entryFrame m ([.ref (h 0), .int a1, .int a2, .int a3] : List Value).toArray 10 := by rw [ha]
  rw [he, lg_entry_eq]
  have hl := lv_entry ([.ref (h 0), .int a1, .int a2, .int a3]) (n := 10) (Nat.le_of_ble_eq_true rfl)
  generalize (lg_sl ([.ref (h 0), .int a1, .int a2, .int a3]) ++ List.replicate (10 - (lg_sl ([.ref (h 0), .int a1, .int a2, .int a3])).length) Slot.unset).toArray = ls at hl ⊢
  have hl : lv_has ls 10 [(0, .ref (h 0)), (1, .int a1), (2, .int a2), (3, .int a3)] := hl
  generalize hv : f_Mo_put a1 a2 a3 σ = v
  replace hv := hv.symm
  have B318 : ∀ (H : Heap) (locs : List Loc) (ls : Array Slot) (x1 : Int32) (σ : St), v = f_Mo_put_318 x1 σ → k_Mo_put_318 x1 σ → lv_has ls 10 [(0, .ref (h 0)), (1, .int x1)] → va_P D classes (Wm ty h σ px) H → va_D A (Wm ty h σ px) → va_S A s.heap H locs → W p l e (headSpec w_Mo_put rm_Mo_put).room s m args below meth c H locs 0 0 (MQ below (va_Qi (fun r (u : St) => (r, u) = v) (fun u t => va_P D classes (Wm ty h u px) t.heap) A) args s 0 0 A) (F0 m 318 ls []) := by
    intro H locs ls x1 σ hv hk hl hP hD hS
    unfold f_Mo_put_318 at hv
    unfold k_Mo_put_318 at hk
    refine lv_aload_n hx hb d_Mo_put_318 rfl (lv_at hl 0 rfl) ?_
    refine va_get (v := .ref (h 26)) (C := R_Mo) (T := T_Mo) (N := 51) hx hb hg in_Mo hown hK hP 0 rfl rfl 39 (by decide) (hg _ m_1298) (fun _ h9 => h9) rfl d_Mo_put_319 ?_
    refine lv_iload_n hx hb d_Mo_put_322 rfl (lv_at hl 1 rfl) ?_
    obtain ⟨hk0, hk⟩ := hk
    refine va_iald hx hb hK hP 26 0 rfl rfl hk0 d_Mo_put_323 ?_
    exact W.iret hx hb hr (fun t ht hW => ⟨⟨_, _, rfl, hv.symm, by dsimp only; rw [ht]; exact hP⟩, hS.F ht⟩) hS.2.2 d_Mo_put_324
  have B68 : ∀ (n68 : Nat) (H : Heap) (locs : List Loc) (ls : Array Slot) (x1 : Int32) (x4 : Int32) (x5 : Int32) (σ : St), v = f_Mo_put_68 n68 x1 x4 x5 σ → k_Mo_put_68 n68 x1 x4 x5 σ → lv_has ls 10 [(0, .ref (h 0)), (1, .int x1), (4, .int x4), (5, .int x5)] → va_P D classes (Wm ty h σ px) H → va_D A (Wm ty h σ px) → va_S A s.heap H locs → W p l e (headSpec w_Mo_put rm_Mo_put).room s m args below meth c H locs 0 0 (MQ below (va_Qi (fun r (u : St) => (r, u) = v) (fun u t => va_P D classes (Wm ty h u px) t.heap) A) args s 0 0 A) (F0 m 68 ls []) := by
    intro n68
    induction n68 with
    | zero => intro H locs ls x1 x4 x5 σ hv hk hl hP hD hS; exact hk.elim
    | succ n68 ih68 =>
      have B312 : ∀ (H : Heap) (locs : List Loc) (ls : Array Slot) (x1 : Int32) (x4 : Int32) (x5 : Int32) (σ : St), v = f_Mo_put_312 (f_Mo_put_68 n68) x1 x4 x5 σ → k_Mo_put_312 (k_Mo_put_68 n68) x1 x4 x5 σ → lv_has ls 10 [(0, .ref (h 0)), (1, .int x1), (4, .int x4), (5, .int x5)] → va_P D classes (Wm ty h σ px) H → va_D A (Wm ty h σ px) → va_S A s.heap H locs → W p l e (headSpec w_Mo_put rm_Mo_put).room s m args below meth c H locs 0 0 (MQ below (va_Qi (fun r (u : St) => (r, u) = v) (fun u t => va_P D classes (Wm ty h u px) t.heap) A) args s 0 0 A) (F0 m 312 ls []) := by
        intro H locs ls x1 x4 x5 σ hv hk hl hP hD hS
        unfold f_Mo_put_312 at hv
        unfold k_Mo_put_312 at hk
        refine lv_iinc (k := 3) (v := x5 + 1) (lv' := [(5, .int (x5 + 1)), (0, .ref (h 0)), (1, .int x1), (4, .int x4)]) hx hb d_Mo_put_312 hl rfl (by first | rfl | simp [lit1, litm1]) (by decide) rfl (fun ls hl => ?_)
        refine lv_goto (tgt := 68) hx hb d_Mo_put_315 (by decide) ?_
        exact ih68 _ _ _ x1 x4 (x5 + 1) σ hv hk (lv_sub hl [1, 2, 3, 0] rfl) hP hD hS
      have B176 : ∀ (H : Heap) (locs : List Loc) (ls : Array Slot) (x1 : Int32) (x5 : Int32) (s0 : Int32) (σ : St), v = f_Mo_put_176 (f_Mo_put_68 n68) x1 x5 s0 σ → k_Mo_put_176 (k_Mo_put_68 n68) x1 x5 s0 σ → lv_has ls 10 [(0, .ref (h 0)), (1, .int x1), (5, .int x5)] → va_P D classes (Wm ty h σ px) H → va_D A (Wm ty h σ px) → va_S A s.heap H locs → W p l e (headSpec w_Mo_put rm_Mo_put).room s m args below meth c H locs 0 0 (MQ below (va_Qi (fun r (u : St) => (r, u) = v) (fun u t => va_P D classes (Wm ty h u px) t.heap) A) args s 0 0 A) (F0 m 176 ls [.int s0]) := by
        intro H locs ls x1 x5 s0 σ hv hk hl hP hD hS
        unfold f_Mo_put_176 at hv
        unfold k_Mo_put_176 at hk
        refine lv_istore (lv' := [(4, .int s0), (0, .ref (h 0)), (1, .int x1), (5, .int x5)]) hx hb d_Mo_put_176 hl (by decide) rfl (fun ls hl => ?_)
        refine lv_goto (tgt := 312) hx hb d_Mo_put_178 (by decide) ?_
        exact B312 _ _ _ x1 s0 x5 σ hv hk (lv_sub hl [1, 2, 0, 3] rfl) hP hD hS
      have B174 : ∀ (H : Heap) (locs : List Loc) (ls : Array Slot) (x1 : Int32) (x5 : Int32) (x7 : Int32) (σ : St), v = f_Mo_put_174 (f_Mo_put_68 n68) x1 x5 x7 σ → k_Mo_put_174 (k_Mo_put_68 n68) x1 x5 x7 σ → lv_has ls 10 [(0, .ref (h 0)), (1, .int x1), (5, .int x5), (7, .int x7)] → va_P D classes (Wm ty h σ px) H → va_D A (Wm ty h σ px) → va_S A s.heap H locs → W p l e (headSpec w_Mo_put rm_Mo_put).room s m args below meth c H locs 0 0 (MQ below (va_Qi (fun r (u : St) => (r, u) = v) (fun u t => va_P D classes (Wm ty h u px) t.heap) A) args s 0 0 A) (F0 m 174 ls []) := by
        intro H locs ls x1 x5 x7 σ hv hk hl hP hD hS
        unfold f_Mo_put_174 at hv
        unfold k_Mo_put_174 at hk
        refine lv_iload hx hb d_Mo_put_174 (lv_at hl 3 rfl) ?_
        exact B176 _ _ _ x1 x5 x7 σ hv hk (lv_sub hl [0, 1, 2] rfl) hP hD hS
      have B154 : ∀ (H : Heap) (locs : List Loc) (ls : Array Slot) (x1 : Int32) (x5 : Int32) (x6 : Int32) (x7 : Int32) (σ : St), v = f_Mo_put_154 (f_Mo_put_68 n68) x1 x5 x6 x7 σ → k_Mo_put_154 (k_Mo_put_68 n68) x1 x5 x6 x7 σ → lv_has ls 10 [(0, .ref (h 0)), (1, .int x1), (5, .int x5), (6, .int x6), (7, .int x7)] → va_P D classes (Wm ty h σ px) H → va_D A (Wm ty h σ px) → va_S A s.heap H locs → W p l e (headSpec w_Mo_put rm_Mo_put).room s m args below meth c H locs 0 0 (MQ below (va_Qi (fun r (u : St) => (r, u) = v) (fun u t => va_P D classes (Wm ty h u px) t.heap) A) args s 0 0 A) (F0 m 154 ls []) := by
        intro H locs ls x1 x5 x6 x7 σ hv hk hl hP hD hS
        unfold f_Mo_put_154 at hv
        unfold k_Mo_put_154 at hk
        refine lv_iload hx hb d_Mo_put_154 (lv_at hl 3 rfl) ?_
        refine lv_if_lt (tgt := 174) hx hb d_Mo_put_156 (by decide) (fun hc => ?_) (fun hc => ?_)
        · have hv := hv.trans (if_pos hc)
          have hk := hk.1 hc
          exact B174 _ _ _ x1 x5 x7 σ hv hk (lv_sub hl [0, 1, 2, 4] rfl) hP hD hS
        · have hv := hv.trans (if_neg hc)
          have hk := hk.2 hc
          refine lv_aload_n hx hb d_Mo_put_159 rfl (lv_at hl 0 rfl) ?_
          refine va_get (v := .ref (h 26)) (C := R_Mo) (T := T_Mo) (N := 51) hx hb hg in_Mo hown hK hP 0 rfl rfl 39 (by decide) (hg _ m_1298) (fun _ h9 => h9) rfl d_Mo_put_160 ?_
          refine lv_iload hx hb d_Mo_put_163 (lv_at hl 3 rfl) ?_
          obtain ⟨hk0, hk⟩ := hk
          refine va_iald hx hb hK hP 26 0 rfl rfl hk0 d_Mo_put_165 ?_
          refine lv_if_ge (tgt := 174) hx hb d_Mo_put_166 (by decide) (fun hc => ?_) (fun hc => ?_)
          · have hv := hv.trans (if_pos hc)
            have hk := hk.1 hc
            exact B174 _ _ _ x1 x5 x7 σ hv hk (lv_sub hl [0, 1, 2, 4] rfl) hP hD hS
          · have hv := hv.trans (if_neg hc)
            have hk := hk.2 hc
            refine lv_iload hx hb d_Mo_put_169 (lv_at hl 3 rfl) ?_
            refine lv_goto (tgt := 176) hx hb d_Mo_put_171 (by decide) ?_
            exact B176 _ _ _ x1 x5 x6 σ hv hk (lv_sub hl [0, 1, 2] rfl) hP hD hS
      have B144 : ∀ (H : Heap) (locs : List Loc) (ls : Array Slot) (x1 : Int32) (x5 : Int32) (x6 : Int32) (x7 : Int32) (σ : St), v = f_Mo_put_144 (f_Mo_put_68 n68) x1 x5 x6 x7 σ → k_Mo_put_144 (k_Mo_put_68 n68) x1 x5 x6 x7 σ → lv_has ls 10 [(0, .ref (h 0)), (1, .int x1), (5, .int x5), (6, .int x6), (7, .int x7)] → va_P D classes (Wm ty h σ px) H → va_D A (Wm ty h σ px) → va_S A s.heap H locs → W p l e (headSpec w_Mo_put rm_Mo_put).room s m args below meth c H locs 0 0 (MQ below (va_Qi (fun r (u : St) => (r, u) = v) (fun u t => va_P D classes (Wm ty h u px) t.heap) A) args s 0 0 A) (F0 m 144 ls []) := by
        intro H locs ls x1 x5 x6 x7 σ hv hk hl hP hD hS
        unfold f_Mo_put_144 at hv
        unfold k_Mo_put_144 at hk
        refine lv_aload_n hx hb d_Mo_put_144 rfl (lv_at hl 0 rfl) ?_
        refine lv_dup hx hb d_Mo_put_145 rfl ?_
        refine va_get (v := .int (σ.1 0 34)) (C := R_Mo) (T := T_Mo) (N := 51) hx hb hg in_Mo hown hK hP 0 rfl rfl 34 (by decide) (hg _ m_1293) (fun _ h9 => h9) rfl d_Mo_put_146 ?_
        refine lv_iconst (v := 1) hx hb d_Mo_put_149 (by decide) ?_
        refine lv_iadd hx hb d_Mo_put_150 ?_
        refine va_put (v := .int ((σ.1 0 34) + 1)) (ty := .int) (C := R_Mo) (T := T_Mo) (N := 51) hx hb hg in_Mo ty_Mo ok_Mo nm_Mo hown hK hP hD hS 0 rfl rfl 34 (by decide) (hg _ m_1293) (fun _ h9 => h9) rfl (by decide +kernel) rfl rfl (Nat.le_of_ble_eq_true rfl) d_Mo_put_151 (fun H locs hP hD hS => ?_)
        have hP : va_P D classes (Wm ty h (sF σ 0 34 ((σ.1 0 34) + 1)) px) H := hP
        have hD : va_D A (Wm ty h (sF σ 0 34 ((σ.1 0 34) + 1)) px) := hD
        exact B154 _ _ _ x1 x5 x6 x7 (sF σ 0 34 ((σ.1 0 34) + 1)) hv hk (lv_sub hl [0, 1, 2, 3, 4] rfl) hP hD hS
      have B133 : ∀ (H : Heap) (locs : List Loc) (ls : Array Slot) (x1 : Int32) (x4 : Int32) (x5 : Int32) (x6 : Int32) (x7 : Int32) (σ : St), v = f_Mo_put_133 (f_Mo_put_68 n68) x1 x4 x5 x6 x7 σ → k_Mo_put_133 (k_Mo_put_68 n68) x1 x4 x5 x6 x7 σ → lv_has ls 10 [(0, .ref (h 0)), (1, .int x1), (4, .int x4), (5, .int x5), (6, .int x6), (7, .int x7)] → va_P D classes (Wm ty h σ px) H → va_D A (Wm ty h σ px) → va_S A s.heap H locs → W p l e (headSpec w_Mo_put rm_Mo_put).room s m args below meth c H locs 0 0 (MQ below (va_Qi (fun r (u : St) => (r, u) = v) (fun u t => va_P D classes (Wm ty h u px) t.heap) A) args s 0 0 A) (F0 m 133 ls []) := by
        intro H locs ls x1 x4 x5 x6 x7 σ hv hk hl hP hD hS
        unfold f_Mo_put_133 at hv
        unfold k_Mo_put_133 at hk
        refine lv_aload_n hx hb d_Mo_put_133 rfl (lv_at hl 0 rfl) ?_
        refine va_get (v := .ref (h 24)) (C := R_Mo) (T := T_Mo) (N := 51) hx hb hg in_Mo hown hK hP 0 rfl rfl 37 (by decide) (hg _ m_1296) (fun _ h9 => h9) rfl d_Mo_put_134 ?_
        refine lv_aload_n hx hb d_Mo_put_137 rfl (lv_at hl 0 rfl) ?_
        refine va_get (v := .int (σ.1 0 34)) (C := R_Mo) (T := T_Mo) (N := 51) hx hb hg in_Mo hown hK hP 0 rfl rfl 34 (by decide) (hg _ m_1293) (fun _ h9 => h9) rfl d_Mo_put_138 ?_
        refine lv_iload hx hb d_Mo_put_141 (lv_at hl 2 rfl) ?_
        obtain ⟨hk0, hk⟩ := hk
        refine va_iast hx hb hK hP hD hS 24 0 rfl rfl hk0 d_Mo_put_143 (fun H locs hP hD hS => ?_)
        have hP : va_P D classes (Wm ty h (sA σ 24 (σ.1 0 34) x4) px) H := hP
        have hD : va_D A (Wm ty h (sA σ 24 (σ.1 0 34) x4) px) := hD
        exact B144 _ _ _ x1 x5 x6 x7 (sA σ 24 (σ.1 0 34) x4) hv hk (lv_sub hl [0, 1, 3, 4, 5] rfl) hP hD hS
      have B310 : ∀ (H : Heap) (locs : List Loc) (ls : Array Slot) (x1 : Int32) (x5 : Int32) (s0 : Int32) (σ : St), v = f_Mo_put_310 (f_Mo_put_68 n68) x1 x5 s0 σ → k_Mo_put_310 (k_Mo_put_68 n68) x1 x5 s0 σ → lv_has ls 10 [(0, .ref (h 0)), (1, .int x1), (5, .int x5)] → va_P D classes (Wm ty h σ px) H → va_D A (Wm ty h σ px) → va_S A s.heap H locs → W p l e (headSpec w_Mo_put rm_Mo_put).room s m args below meth c H locs 0 0 (MQ below (va_Qi (fun r (u : St) => (r, u) = v) (fun u t => va_P D classes (Wm ty h u px) t.heap) A) args s 0 0 A) (F0 m 310 ls [.int s0]) := by
        intro H locs ls x1 x5 s0 σ hv hk hl hP hD hS
        unfold f_Mo_put_310 at hv
        unfold k_Mo_put_310 at hk
        refine lv_istore (lv' := [(4, .int s0), (0, .ref (h 0)), (1, .int x1), (5, .int x5)]) hx hb d_Mo_put_310 hl (by decide) rfl (fun ls hl => ?_)
        exact B312 _ _ _ x1 s0 x5 σ hv hk (lv_sub hl [1, 2, 0, 3] rfl) hP hD hS
      have B288 : ∀ (H : Heap) (locs : List Loc) (ls : Array Slot) (x1 : Int32) (x5 : Int32) (σ : St), v = f_Mo_put_288 (f_Mo_put_68 n68) x1 x5 σ → k_Mo_put_288 (k_Mo_put_68 n68) x1 x5 σ → lv_has ls 10 [(0, .ref (h 0)), (1, .int x1), (5, .int x5)] → va_P D classes (Wm ty h σ px) H → va_D A (Wm ty h σ px) → va_S A s.heap H locs → W p l e (headSpec w_Mo_put rm_Mo_put).room s m args below meth c H locs 0 0 (MQ below (va_Qi (fun r (u : St) => (r, u) = v) (fun u t => va_P D classes (Wm ty h u px) t.heap) A) args s 0 0 A) (F0 m 288 ls []) := by
        intro H locs ls x1 x5 σ hv hk hl hP hD hS
        unfold f_Mo_put_288 at hv
        unfold k_Mo_put_288 at hk
        refine lv_aload_n hx hb d_Mo_put_288 rfl (lv_at hl 0 rfl) ?_
        refine va_get (v := .ref (h 26)) (C := R_Mo) (T := T_Mo) (N := 51) hx hb hg in_Mo hown hK hP 0 rfl rfl 39 (by decide) (hg _ m_1298) (fun _ h9 => h9) rfl d_Mo_put_289 ?_
        refine lv_iload_n hx hb d_Mo_put_292 rfl (lv_at hl 1 rfl) ?_
        obtain ⟨hk0, hk⟩ := hk
        refine va_iald hx hb hK hP 26 0 rfl rfl hk0 d_Mo_put_293 ?_
        refine lv_if_ge (tgt := 309) hx hb d_Mo_put_294 (by decide) (fun hc => ?_) (fun hc => ?_)
        · have hv := hv.trans (if_pos hc)
          have hk := hk.1 hc
          refine lv_iload_n hx hb d_Mo_put_309 rfl (lv_at hl 1 rfl) ?_
          exact B310 _ _ _ x1 x5 x1 σ hv hk (lv_sub hl [0, 1, 2] rfl) hP hD hS
        · have hv := hv.trans (if_neg hc)
          have hk := hk.2 hc
          refine lv_aload_n hx hb d_Mo_put_297 rfl (lv_at hl 0 rfl) ?_
          refine va_get (v := .ref (h 24)) (C := R_Mo) (T := T_Mo) (N := 51) hx hb hg in_Mo hown hK hP 0 rfl rfl 37 (by decide) (hg _ m_1296) (fun _ h9 => h9) rfl d_Mo_put_298 ?_
          refine lv_aload_n hx hb d_Mo_put_301 rfl (lv_at hl 0 rfl) ?_
          refine va_get (v := .int (σ.1 0 34)) (C := R_Mo) (T := T_Mo) (N := 51) hx hb hg in_Mo hown hK hP 0 rfl rfl 34 (by decide) (hg _ m_1293) (fun _ h9 => h9) rfl d_Mo_put_302 ?_
          obtain ⟨hk0, hk⟩ := hk
          refine va_iald hx hb hK hP 24 0 rfl rfl hk0 d_Mo_put_305 ?_
          refine lv_goto (tgt := 310) hx hb d_Mo_put_306 (by decide) ?_
          exact B310 _ _ _ x1 x5 (σ.1 24 (σ.1 0 34).toNatClampNeg) σ hv hk (lv_sub hl [0, 1, 2] rfl) hP hD hS
      have B284 : ∀ (H : Heap) (locs : List Loc) (ls : Array Slot) (x1 : Int32) (x5 : Int32) (s0 : Int32) (s1 : Int32) (σ : St), v = f_Mo_put_284 (f_Mo_put_68 n68) x1 x5 s0 s1 σ → k_Mo_put_284 (k_Mo_put_68 n68) x1 x5 s0 s1 σ → lv_has ls 10 [(0, .ref (h 0)), (1, .int x1), (5, .int x5)] → va_P D classes (Wm ty h σ px) H → va_D A (Wm ty h σ px) → va_S A s.heap H locs → W p l e (headSpec w_Mo_put rm_Mo_put).room s m args below meth c H locs 0 0 (MQ below (va_Qi (fun r (u : St) => (r, u) = v) (fun u t => va_P D classes (Wm ty h u px) t.heap) A) args s 0 0 A) (F0 m 284 ls [.int s0, .int s1, .ref (h 0)]) := by
        intro H locs ls x1 x5 s0 s1 σ hv hk hl hP hD hS
        unfold f_Mo_put_284 at hv
        unfold k_Mo_put_284 at hk
        refine lv_isub hx hb d_Mo_put_284 ?_
        refine va_put (v := .int (s1 - s0)) (ty := .int) (C := R_Mo) (T := T_Mo) (N := 51) hx hb hg in_Mo ty_Mo ok_Mo nm_Mo hown hK hP hD hS 0 rfl rfl 34 (by decide) (hg _ m_1293) (fun _ h9 => h9) rfl (by decide +kernel) rfl rfl (Nat.le_of_ble_eq_true rfl) d_Mo_put_285 (fun H locs hP hD hS => ?_)
        have hP : va_P D classes (Wm ty h (sF σ 0 34 (s1 - s0)) px) H := hP
        have hD : va_D A (Wm ty h (sF σ 0 34 (s1 - s0)) px) := hD
        exact B288 _ _ _ x1 x5 (sF σ 0 34 (s1 - s0)) hv hk (lv_sub hl [0, 1, 2] rfl) hP hD hS
      have B267 : ∀ (H : Heap) (locs : List Loc) (ls : Array Slot) (x1 : Int32) (x5 : Int32) (σ : St), v = f_Mo_put_267 (f_Mo_put_68 n68) x1 x5 σ → k_Mo_put_267 (k_Mo_put_68 n68) x1 x5 σ → lv_has ls 10 [(0, .ref (h 0)), (1, .int x1), (5, .int x5)] → va_P D classes (Wm ty h σ px) H → va_D A (Wm ty h σ px) → va_S A s.heap H locs → W p l e (headSpec w_Mo_put rm_Mo_put).room s m args below meth c H locs 0 0 (MQ below (va_Qi (fun r (u : St) => (r, u) = v) (fun u t => va_P D classes (Wm ty h u px) t.heap) A) args s 0 0 A) (F0 m 267 ls []) := by
        intro H locs ls x1 x5 σ hv hk hl hP hD hS
        unfold f_Mo_put_267 at hv
        unfold k_Mo_put_267 at hk
        refine lv_aload_n hx hb d_Mo_put_267 rfl (lv_at hl 0 rfl) ?_
        refine lv_dup hx hb d_Mo_put_268 rfl ?_
        refine va_get (v := .int (σ.1 0 34)) (C := R_Mo) (T := T_Mo) (N := 51) hx hb hg in_Mo hown hK hP 0 rfl rfl 34 (by decide) (hg _ m_1293) (fun _ h9 => h9) rfl d_Mo_put_269 ?_
        refine lv_aload_n hx hb d_Mo_put_272 rfl (lv_at hl 0 rfl) ?_
        refine va_get (v := .int (σ.1 0 34)) (C := R_Mo) (T := T_Mo) (N := 51) hx hb hg in_Mo hown hK hP 0 rfl rfl 34 (by decide) (hg _ m_1293) (fun _ h9 => h9) rfl d_Mo_put_273 ?_
        refine lv_if_le (tgt := 283) hx hb d_Mo_put_276 (by decide) (fun hc => ?_) (fun hc => ?_)
        · have hv := hv.trans (if_pos hc)
          have hk := hk.1 hc
          refine lv_iconst (v := 0) hx hb d_Mo_put_283 (by decide) ?_
          exact B284 _ _ _ x1 x5 0 (σ.1 0 34) σ hv hk (lv_sub hl [0, 1, 2] rfl) hP hD hS
        · have hv := hv.trans (if_neg hc)
          have hk := hk.2 hc
          refine lv_iconst (v := 1) hx hb d_Mo_put_279 (by decide) ?_
          refine lv_goto (tgt := 284) hx hb d_Mo_put_280 (by decide) ?_
          exact B284 _ _ _ x1 x5 1 (σ.1 0 34) σ hv hk (lv_sub hl [0, 1, 2] rfl) hP hD hS
      have B266 : ∀ (H : Heap) (locs : List Loc) (ls : Array Slot) (x1 : Int32) (x5 : Int32) (s0 : Int32) (s1 : Int32) (σ : St), v = f_Mo_put_266 (f_Mo_put_68 n68) x1 x5 s0 s1 σ → k_Mo_put_266 (k_Mo_put_68 n68) x1 x5 s0 s1 σ → lv_has ls 10 [(0, .ref (h 0)), (1, .int x1), (5, .int x5)] → va_P D classes (Wm ty h σ px) H → va_D A (Wm ty h σ px) → va_S A s.heap H locs → W p l e (headSpec w_Mo_put rm_Mo_put).room s m args below meth c H locs 0 0 (MQ below (va_Qi (fun r (u : St) => (r, u) = v) (fun u t => va_P D classes (Wm ty h u px) t.heap) A) args s 0 0 A) (F0 m 266 ls [.int s0, .int s1, .ref (h 26)]) := by
        intro H locs ls x1 x5 s0 s1 σ hv hk hl hP hD hS
        unfold f_Mo_put_266 at hv
        unfold k_Mo_put_266 at hk
        obtain ⟨hk0, hk⟩ := hk
        refine va_iast hx hb hK hP hD hS 26 0 rfl rfl hk0 d_Mo_put_266 (fun H locs hP hD hS => ?_)
        have hP : va_P D classes (Wm ty h (sA σ 26 s1 s0) px) H := hP
        have hD : va_D A (Wm ty h (sA σ 26 s1 s0) px) := hD
        exact B267 _ _ _ x1 x5 (sA σ 26 s1 s0) hv hk (lv_sub hl [0, 1, 2] rfl) hP hD hS
      have B215 : ∀ (H : Heap) (locs : List Loc) (ls : Array Slot) (x1 : Int32) (x4 : Int32) (x5 : Int32) (x8 : Int32) (s0 : Int32) (σ : St), v = f_Mo_put_215 (f_Mo_put_68 n68) x1 x4 x5 x8 s0 σ → k_Mo_put_215 (k_Mo_put_68 n68) x1 x4 x5 x8 s0 σ → lv_has ls 10 [(0, .ref (h 0)), (1, .int x1), (4, .int x4), (5, .int x5), (8, .int x8)] → va_P D classes (Wm ty h σ px) H → va_D A (Wm ty h σ px) → va_S A s.heap H locs → W p l e (headSpec w_Mo_put rm_Mo_put).room s m args below meth c H locs 0 0 (MQ below (va_Qi (fun r (u : St) => (r, u) = v) (fun u t => va_P D classes (Wm ty h u px) t.heap) A) args s 0 0 A) (F0 m 215 ls [.int s0]) := by
        intro H locs ls x1 x4 x5 x8 s0 σ hv hk hl hP hD hS
        unfold f_Mo_put_215 at hv
        unfold k_Mo_put_215 at hk
        refine lv_istore (lv' := [(9, .int s0), (0, .ref (h 0)), (1, .int x1), (4, .int x4), (5, .int x5), (8, .int x8)]) hx hb d_Mo_put_215 hl (by decide) rfl (fun ls hl => ?_)
        refine lv_aload_n hx hb d_Mo_put_217 rfl (lv_at hl 1 rfl) ?_
        refine va_get (v := .ref (h 26)) (C := R_Mo) (T := T_Mo) (N := 51) hx hb hg in_Mo hown hK hP 0 rfl rfl 39 (by decide) (hg _ m_1298) (fun _ h9 => h9) rfl d_Mo_put_218 ?_
        refine lv_iload hx hb d_Mo_put_221 (lv_at hl 3 rfl) ?_
        refine lv_aload_n hx hb d_Mo_put_223 rfl (lv_at hl 1 rfl) ?_
        refine lv_aload_n hx hb d_Mo_put_224 rfl (lv_at hl 1 rfl) ?_
        refine va_get (v := .ref (h 5)) (C := R_Mo) (T := T_Mo) (N := 51) hx hb hg in_Mo hown hK hP 0 rfl rfl 10 (by decide) (hg _ m_1269) (fun _ h9 => h9) rfl d_Mo_put_225 ?_
        refine lv_iload hx hb d_Mo_put_228 (lv_at hl 3 rfl) ?_
        obtain ⟨hk0, hk⟩ := hk
        refine va_iald hx hb hK hP 5 0 rfl rfl hk0 d_Mo_put_230 ?_
        refine lv_aload_n hx hb d_Mo_put_231 rfl (lv_at hl 1 rfl) ?_
        refine va_get (v := .ref (h 6)) (C := R_Mo) (T := T_Mo) (N := 51) hx hb hg in_Mo hown hK hP 0 rfl rfl 11 (by decide) (hg _ m_1270) (fun _ h9 => h9) rfl d_Mo_put_232 ?_
        refine lv_iload hx hb d_Mo_put_235 (lv_at hl 3 rfl) ?_
        obtain ⟨hk0, hk⟩ := hk
        refine va_iald hx hb hK hP 6 0 rfl rfl hk0 d_Mo_put_237 ?_
        refine lv_iload hx hb d_Mo_put_238 (lv_at hl 5 rfl) ?_
        refine lv_iload hx hb d_Mo_put_240 (lv_at hl 0 rfl) ?_
        refine lv_aload_n hx hb d_Mo_put_242 rfl (lv_at hl 1 rfl) ?_
        refine va_get (v := .ref (h 10)) (C := R_Mo) (T := T_Mo) (N := 51) hx hb hg in_Mo hown hK hP 0 rfl rfl 15 (by decide) (hg _ m_1274) (fun _ h9 => h9) rfl d_Mo_put_243 ?_
        refine lv_iload hx hb d_Mo_put_246 (lv_at hl 3 rfl) ?_
        obtain ⟨hk0, hk⟩ := hk
        refine va_iald hx hb hK hP 10 0 rfl rfl hk0 d_Mo_put_248 ?_
        refine lv_aload_n hx hb d_Mo_put_249 rfl (lv_at hl 1 rfl) ?_
        refine va_get (v := .ref (h 11)) (C := R_Mo) (T := T_Mo) (N := 51) hx hb hg in_Mo hown hK hP 0 rfl rfl 16 (by decide) (hg _ m_1275) (fun _ h9 => h9) rfl d_Mo_put_250 ?_
        refine lv_iload hx hb d_Mo_put_253 (lv_at hl 3 rfl) ?_
        obtain ⟨hk0, hk⟩ := hk
        refine va_iald hx hb hK hP 11 0 rfl rfl hk0 d_Mo_put_255 ?_
        refine lv_aload_n hx hb d_Mo_put_256 rfl (lv_at hl 1 rfl) ?_
        refine va_get (v := .ref (h 12)) (C := R_Mo) (T := T_Mo) (N := 51) hx hb hg in_Mo hown hK hP 0 rfl rfl 17 (by decide) (hg _ m_1276) (fun _ h9 => h9) rfl d_Mo_put_257 ?_
        refine lv_iload hx hb d_Mo_put_260 (lv_at hl 3 rfl) ?_
        obtain ⟨hk0, hk⟩ := hk
        refine va_iald hx hb hK hP 12 0 rfl rfl hk0 d_Mo_put_262 ?_
        obtain ⟨hk0, hk⟩ := hk
        refine va_calli (va_runV (As := [.int (σ.1 5 x4.toNatClampNeg), .int (σ.1 6 x4.toNatClampNeg), .int x8, .int s0, .int (σ.1 10 x4.toNatClampNeg), .int (σ.1 11 x4.toNatClampNeg), .int (σ.1 12 x4.toNatClampNeg)]) (rest := [.int x4, .ref (h 26)]) ⟨hx, hb, hml, hown, hg⟩ (c_Mo_found l D ty h px sa σ H.size (σ.1 5 x4.toNatClampNeg) (σ.1 6 x4.toNatClampNeg) x8 s0 (σ.1 10 x4.toNatClampNeg) (σ.1 11 x4.toNatClampNeg) (σ.1 12 x4.toNatClampNeg) hk0) ⟨callB_of 7 hg (gw_C m_1484) rfl rfl rfl (hg _ m_13) (hg _ m_1481) hd_Mo_found ⟨Nat.le_of_ble_eq_true rfl, Nat.le_of_ble_eq_true rfl⟩, hg _ m_1483, hg _ ms_57⟩ (zz_preVW hM hS hA hN hK hP hD 0 rfl rfl) rfl rfl hl.1 rfl (lv_room (Nat.le_of_ble_eq_true rfl)) d_Mo_put_263 ⟨Nat.le_of_ble_eq_true rfl, Nat.le_of_ble_eq_true rfl⟩) hS (fun q _ h => zz_free hD hS hA q h) (zz_free hD hS hA) (fun r263 u263 t H locs ht hvm hp hP1 hz hk1 hS => ?_)
        rw [ht] at hP1
        rw [← hp] at hv hk
        have hD : va_D A (Wm ty h u263 px) := zz_D hD rfl
        have hP := hP1
        exact B266 _ _ _ x1 x5 r263 x4 u263 hv hk (lv_sub hl [1, 2, 4] rfl) hP hD hS
      have B197 : ∀ (H : Heap) (locs : List Loc) (ls : Array Slot) (x1 : Int32) (x4 : Int32) (x5 : Int32) (x7 : Int32) (s0 : Int32) (σ : St), v = f_Mo_put_197 (f_Mo_put_68 n68) x1 x4 x5 x7 s0 σ → k_Mo_put_197 (k_Mo_put_68 n68) x1 x4 x5 x7 s0 σ → lv_has ls 10 [(0, .ref (h 0)), (1, .int x1), (4, .int x4), (5, .int x5), (7, .int x7)] → va_P D classes (Wm ty h σ px) H → va_D A (Wm ty h σ px) → va_S A s.heap H locs → W p l e (headSpec w_Mo_put rm_Mo_put).room s m args below meth c H locs 0 0 (MQ below (va_Qi (fun r (u : St) => (r, u) = v) (fun u t => va_P D classes (Wm ty h u px) t.heap) A) args s 0 0 A) (F0 m 197 ls [.int s0]) := by
        intro H locs ls x1 x4 x5 x7 s0 σ hv hk hl hP hD hS
        unfold f_Mo_put_197 at hv
        unfold k_Mo_put_197 at hk
        refine lv_istore (lv' := [(8, .int s0), (0, .ref (h 0)), (1, .int x1), (4, .int x4), (5, .int x5), (7, .int x7)]) hx hb d_Mo_put_197 hl (by decide) rfl (fun ls hl => ?_)
        refine lv_iload hx hb d_Mo_put_199 (lv_at hl 5 rfl) ?_
        refine lv_if_ge (tgt := 208) hx hb d_Mo_put_201 (by decide) (fun hc => ?_) (fun hc => ?_)
        · have hv := hv.trans (if_pos hc)
          have hk := hk.1 hc
          refine lv_aload_n hx hb d_Mo_put_208 rfl (lv_at hl 1 rfl) ?_
          refine va_get (v := .ref (h 26)) (C := R_Mo) (T := T_Mo) (N := 51) hx hb hg in_Mo hown hK hP 0 rfl rfl 39 (by decide) (hg _ m_1298) (fun _ h9 => h9) rfl d_Mo_put_209 ?_
          refine lv_iload hx hb d_Mo_put_212 (lv_at hl 5 rfl) ?_
          obtain ⟨hk0, hk⟩ := hk
          refine va_iald hx hb hK hP 26 0 rfl rfl hk0 d_Mo_put_214 ?_
          exact B215 _ _ _ x1 x4 x5 s0 (σ.1 26 x7.toNatClampNeg) σ hv hk (lv_sub hl [1, 2, 3, 4, 0] rfl) hP hD hS
        · have hv := hv.trans (if_neg hc)
          have hk := hk.2 hc
          refine lv_iconst (v := -1) hx hb d_Mo_put_204 (by decide) ?_
          refine lv_goto (tgt := 215) hx hb d_Mo_put_205 (by decide) ?_
          exact B215 _ _ _ x1 x4 x5 s0 (-1) σ hv hk (lv_sub hl [1, 2, 3, 4, 0] rfl) hP hD hS
      have B181 : ∀ (H : Heap) (locs : List Loc) (ls : Array Slot) (x1 : Int32) (x4 : Int32) (x5 : Int32) (x6 : Int32) (x7 : Int32) (σ : St), v = f_Mo_put_181 (f_Mo_put_68 n68) x1 x4 x5 x6 x7 σ → k_Mo_put_181 (k_Mo_put_68 n68) x1 x4 x5 x6 x7 σ → lv_has ls 10 [(0, .ref (h 0)), (1, .int x1), (4, .int x4), (5, .int x5), (6, .int x6), (7, .int x7)] → va_P D classes (Wm ty h σ px) H → va_D A (Wm ty h σ px) → va_S A s.heap H locs → W p l e (headSpec w_Mo_put rm_Mo_put).room s m args below meth c H locs 0 0 (MQ below (va_Qi (fun r (u : St) => (r, u) = v) (fun u t => va_P D classes (Wm ty h u px) t.heap) A) args s 0 0 A) (F0 m 181 ls []) := by
        intro H locs ls x1 x4 x5 x6 x7 σ hv hk hl hP hD hS
        unfold f_Mo_put_181 at hv
        unfold k_Mo_put_181 at hk
        refine lv_iload hx hb d_Mo_put_181 (lv_at hl 4 rfl) ?_
        refine lv_if_ge (tgt := 190) hx hb d_Mo_put_183 (by decide) (fun hc => ?_) (fun hc => ?_)
        · have hv := hv.trans (if_pos hc)
          have hk := hk.1 hc
          refine lv_aload_n hx hb d_Mo_put_190 rfl (lv_at hl 0 rfl) ?_
          refine va_get (v := .ref (h 26)) (C := R_Mo) (T := T_Mo) (N := 51) hx hb hg in_Mo hown hK hP 0 rfl rfl 39 (by decide) (hg _ m_1298) (fun _ h9 => h9) rfl d_Mo_put_191 ?_
          refine lv_iload hx hb d_Mo_put_194 (lv_at hl 4 rfl) ?_
          obtain ⟨hk0, hk⟩ := hk
          refine va_iald hx hb hK hP 26 0 rfl rfl hk0 d_Mo_put_196 ?_
          exact B197 _ _ _ x1 x4 x5 x7 (σ.1 26 x6.toNatClampNeg) σ hv hk (lv_sub hl [0, 1, 2, 3, 5] rfl) hP hD hS
        · have hv := hv.trans (if_neg hc)
          have hk := hk.2 hc
          refine lv_iconst (v := -1) hx hb d_Mo_put_186 (by decide) ?_
          refine lv_goto (tgt := 197) hx hb d_Mo_put_187 (by decide) ?_
          exact B197 _ _ _ x1 x4 x5 x7 (-1) σ hv hk (lv_sub hl [0, 1, 2, 3, 5] rfl) hP hD hS
      have B118 : ∀ (H : Heap) (locs : List Loc) (ls : Array Slot) (x1 : Int32) (x4 : Int32) (x5 : Int32) (x6 : Int32) (x7 : Int32) (σ : St), v = f_Mo_put_118 (f_Mo_put_68 n68) x1 x4 x5 x6 x7 σ → k_Mo_put_118 (k_Mo_put_68 n68) x1 x4 x5 x6 x7 σ → lv_has ls 10 [(0, .ref (h 0)), (1, .int x1), (4, .int x4), (5, .int x5), (6, .int x6), (7, .int x7)] → va_P D classes (Wm ty h σ px) H → va_D A (Wm ty h σ px) → va_S A s.heap H locs → W p l e (headSpec w_Mo_put rm_Mo_put).room s m args below meth c H locs 0 0 (MQ below (va_Qi (fun r (u : St) => (r, u) = v) (fun u t => va_P D classes (Wm ty h u px) t.heap) A) args s 0 0 A) (F0 m 118 ls []) := by
        intro H locs ls x1 x4 x5 x6 x7 σ hv hk hl hP hD hS
        unfold f_Mo_put_118 at hv
        unfold k_Mo_put_118 at hk
        refine lv_iload hx hb d_Mo_put_118 (lv_at hl 5 rfl) ?_
        refine lv_if_lt (tgt := 181) hx hb d_Mo_put_120 (by decide) (fun hc => ?_) (fun hc => ?_)
        · have hv := hv.trans (if_pos hc)
          have hk := hk.1 hc
          exact B181 _ _ _ x1 x4 x5 x6 x7 σ hv hk (lv_sub hl [0, 1, 2, 3, 4, 5] rfl) hP hD hS
        · have hv := hv.trans (if_neg hc)
          have hk := hk.2 hc
          refine lv_aload_n hx hb d_Mo_put_123 rfl (lv_at hl 0 rfl) ?_
          refine va_get (v := .ref (h 26)) (C := R_Mo) (T := T_Mo) (N := 51) hx hb hg in_Mo hown hK hP 0 rfl rfl 39 (by decide) (hg _ m_1298) (fun _ h9 => h9) rfl d_Mo_put_124 ?_
          refine lv_iload hx hb d_Mo_put_127 (lv_at hl 5 rfl) ?_
          obtain ⟨hk0, hk⟩ := hk
          refine va_iald hx hb hK hP 26 0 rfl rfl hk0 d_Mo_put_129 ?_
          refine lv_if_ge (tgt := 181) hx hb d_Mo_put_130 (by decide) (fun hc => ?_) (fun hc => ?_)
          · have hv := hv.trans (if_pos hc)
            have hk := hk.1 hc
            exact B181 _ _ _ x1 x4 x5 x6 x7 σ hv hk (lv_sub hl [0, 1, 2, 3, 4, 5] rfl) hP hD hS
          · have hv := hv.trans (if_neg hc)
            have hk := hk.2 hc
            exact B133 _ _ _ x1 x4 x5 x6 x7 σ hv hk (lv_sub hl [0, 1, 2, 3, 4, 5] rfl) hP hD hS
      have B103 : ∀ (H : Heap) (locs : List Loc) (ls : Array Slot) (x1 : Int32) (x4 : Int32) (x5 : Int32) (x6 : Int32) (x7 : Int32) (σ : St), v = f_Mo_put_103 (f_Mo_put_68 n68) x1 x4 x5 x6 x7 σ → k_Mo_put_103 (k_Mo_put_68 n68) x1 x4 x5 x6 x7 σ → lv_has ls 10 [(0, .ref (h 0)), (1, .int x1), (4, .int x4), (5, .int x5), (6, .int x6), (7, .int x7)] → va_P D classes (Wm ty h σ px) H → va_D A (Wm ty h σ px) → va_S A s.heap H locs → W p l e (headSpec w_Mo_put rm_Mo_put).room s m args below meth c H locs 0 0 (MQ below (va_Qi (fun r (u : St) => (r, u) = v) (fun u t => va_P D classes (Wm ty h u px) t.heap) A) args s 0 0 A) (F0 m 103 ls []) := by
        intro H locs ls x1 x4 x5 x6 x7 σ hv hk hl hP hD hS
        unfold f_Mo_put_103 at hv
        unfold k_Mo_put_103 at hk
        refine lv_iload hx hb d_Mo_put_103 (lv_at hl 4 rfl) ?_
        refine lv_if_lt (tgt := 118) hx hb d_Mo_put_105 (by decide) (fun hc => ?_) (fun hc => ?_)
        · have hv := hv.trans (if_pos hc)
          have hk := hk.1 hc
          exact B118 _ _ _ x1 x4 x5 x6 x7 σ hv hk (lv_sub hl [0, 1, 2, 3, 4, 5] rfl) hP hD hS
        · have hv := hv.trans (if_neg hc)
          have hk := hk.2 hc
          refine lv_aload_n hx hb d_Mo_put_108 rfl (lv_at hl 0 rfl) ?_
          refine va_get (v := .ref (h 26)) (C := R_Mo) (T := T_Mo) (N := 51) hx hb hg in_Mo hown hK hP 0 rfl rfl 39 (by decide) (hg _ m_1298) (fun _ h9 => h9) rfl d_Mo_put_109 ?_
          refine lv_iload hx hb d_Mo_put_112 (lv_at hl 4 rfl) ?_
          obtain ⟨hk0, hk⟩ := hk
          refine va_iald hx hb hK hP 26 0 rfl rfl hk0 d_Mo_put_114 ?_
          refine lv_if_lt (tgt := 133) hx hb d_Mo_put_115 (by decide) (fun hc => ?_) (fun hc => ?_)
          · have hv := hv.trans (if_pos hc)
            have hk := hk.1 hc
            exact B133 _ _ _ x1 x4 x5 x6 x7 σ hv hk (lv_sub hl [0, 1, 2, 3, 4, 5] rfl) hP hD hS
          · have hv := hv.trans (if_neg hc)
            have hk := hk.2 hc
            exact B118 _ _ _ x1 x4 x5 x6 x7 σ hv hk (lv_sub hl [0, 1, 2, 3, 4, 5] rfl) hP hD hS
      have B94 : ∀ (H : Heap) (locs : List Loc) (ls : Array Slot) (x1 : Int32) (x4 : Int32) (x5 : Int32) (x6 : Int32) (σ : St), v = f_Mo_put_94 (f_Mo_put_68 n68) x1 x4 x5 x6 σ → k_Mo_put_94 (k_Mo_put_68 n68) x1 x4 x5 x6 σ → lv_has ls 10 [(0, .ref (h 0)), (1, .int x1), (4, .int x4), (5, .int x5), (6, .int x6)] → va_P D classes (Wm ty h σ px) H → va_D A (Wm ty h σ px) → va_S A s.heap H locs → W p l e (headSpec w_Mo_put rm_Mo_put).room s m args below meth c H locs 0 0 (MQ below (va_Qi (fun r (u : St) => (r, u) = v) (fun u t => va_P D classes (Wm ty h u px) t.heap) A) args s 0 0 A) (F0 m 94 ls []) := by
        intro H locs ls x1 x4 x5 x6 σ hv hk hl hP hD hS
        unfold f_Mo_put_94 at hv
        unfold k_Mo_put_94 at hk
        refine lv_aload_n hx hb d_Mo_put_94 rfl (lv_at hl 0 rfl) ?_
        refine va_get (v := .ref (h 9)) (C := R_Mo) (T := T_Mo) (N := 51) hx hb hg in_Mo hown hK hP 0 rfl rfl 14 (by decide) (hg _ m_1273) (fun _ h9 => h9) rfl d_Mo_put_95 ?_
        refine lv_iload hx hb d_Mo_put_98 (lv_at hl 2 rfl) ?_
        obtain ⟨hk0, hk⟩ := hk
        refine va_iald hx hb hK hP 9 0 rfl rfl hk0 d_Mo_put_100 ?_
        refine lv_istore (lv' := [(7, .int (σ.1 9 x4.toNatClampNeg)), (0, .ref (h 0)), (1, .int x1), (4, .int x4), (5, .int x5), (6, .int x6)]) hx hb d_Mo_put_101 hl (by decide) rfl (fun ls hl => ?_)
        exact B103 _ _ _ x1 x4 x5 x6 (σ.1 9 x4.toNatClampNeg) σ hv hk (lv_sub hl [1, 2, 3, 4, 5, 0] rfl) hP hD hS
      intro H locs ls x1 x4 x5 σ hv hk hl hP hD hS
      rw [f_Mo_put_68] at hv
      rw [k_Mo_put_68] at hk
      refine lv_iload hx hb d_Mo_put_68 (lv_at hl 3 rfl) ?_
      refine lv_sipush (v := 4000) hx hb d_Mo_put_70 (by decide) ?_
      refine lv_icmp_ge (tgt := 318) hx hb d_Mo_put_73 (by decide) (fun hc => ?_) (fun hc => ?_)
      · have hv := hv.trans (if_pos hc)
        have hk := hk.1 hc
        exact B318 _ _ _ x1 σ hv hk (lv_sub hl [0, 1] rfl) hP hD hS
      · have hv := hv.trans (if_neg hc)
        have hk := hk.2 hc
        refine lv_aload_n hx hb d_Mo_put_76 rfl (lv_at hl 0 rfl) ?_
        refine va_get (v := .ref (h 26)) (C := R_Mo) (T := T_Mo) (N := 51) hx hb hg in_Mo hown hK hP 0 rfl rfl 39 (by decide) (hg _ m_1298) (fun _ h9 => h9) rfl d_Mo_put_77 ?_
        refine lv_iload_n hx hb d_Mo_put_80 rfl (lv_at hl 1 rfl) ?_
        obtain ⟨hk0, hk⟩ := hk
        refine va_iald hx hb hK hP 26 0 rfl rfl hk0 d_Mo_put_81 ?_
        refine lv_if_ge (tgt := 318) hx hb d_Mo_put_82 (by decide) (fun hc => ?_) (fun hc => ?_)
        · have hv := hv.trans (if_pos hc)
          have hk := hk.1 hc
          exact B318 _ _ _ x1 σ hv hk (lv_sub hl [0, 1] rfl) hP hD hS
        · have hv := hv.trans (if_neg hc)
          have hk := hk.2 hc
          refine lv_aload_n hx hb d_Mo_put_85 rfl (lv_at hl 0 rfl) ?_
          refine va_get (v := .ref (h 8)) (C := R_Mo) (T := T_Mo) (N := 51) hx hb hg in_Mo hown hK hP 0 rfl rfl 13 (by decide) (hg _ m_1272) (fun _ h9 => h9) rfl d_Mo_put_86 ?_
          refine lv_iload hx hb d_Mo_put_89 (lv_at hl 2 rfl) ?_
          obtain ⟨hk0, hk⟩ := hk
          refine va_iald hx hb hK hP 8 0 rfl rfl hk0 d_Mo_put_91 ?_
          refine lv_istore (lv' := [(6, .int (σ.1 8 x4.toNatClampNeg)), (0, .ref (h 0)), (1, .int x1), (4, .int x4), (5, .int x5)]) hx hb d_Mo_put_92 hl (by decide) rfl (fun ls hl => ?_)
          exact B94 _ _ _ x1 x4 x5 (σ.1 8 x4.toNatClampNeg) σ hv hk (lv_sub hl [1, 2, 3, 4, 0] rfl) hP hD hS
  have B62 : ∀ (H : Heap) (locs : List Loc) (ls : Array Slot) (x1 : Int32) (σ : St), v = f_Mo_put_62 x1 σ → k_Mo_put_62 x1 σ → lv_has ls 10 [(0, .ref (h 0)), (1, .int x1)] → va_P D classes (Wm ty h σ px) H → va_D A (Wm ty h σ px) → va_S A s.heap H locs → W p l e (headSpec w_Mo_put rm_Mo_put).room s m args below meth c H locs 0 0 (MQ below (va_Qi (fun r (u : St) => (r, u) = v) (fun u t => va_P D classes (Wm ty h u px) t.heap) A) args s 0 0 A) (F0 m 62 ls []) := by
    intro H locs ls x1 σ hv hk hl hP hD hS
    unfold f_Mo_put_62 at hv
    unfold k_Mo_put_62 at hk
    refine lv_iload_n hx hb d_Mo_put_62 rfl (lv_at hl 1 rfl) ?_
    refine lv_istore (lv' := [(4, .int x1), (0, .ref (h 0)), (1, .int x1)]) hx hb d_Mo_put_63 hl (by decide) rfl (fun ls hl => ?_)
    refine lv_iconst (v := 0) hx hb d_Mo_put_65 (by decide) ?_
    refine lv_istore (lv' := [(5, .int 0), (4, .int x1), (0, .ref (h 0)), (1, .int x1)]) hx hb d_Mo_put_66 hl (by decide) rfl (fun ls hl => ?_)
    exact B68 100000 _ _ _ x1 x1 0 σ hv hk (lv_sub hl [2, 3, 1, 0] rfl) hP hD hS
  have B3 : ∀ (n3 : Nat) (H : Heap) (locs : List Loc) (ls : Array Slot) (x1 : Int32) (x2 : Int32) (x3 : Int32) (x4 : Int32) (σ : St), v = f_Mo_put_3 n3 x1 x2 x3 x4 σ → k_Mo_put_3 n3 x1 x2 x3 x4 σ → lv_has ls 10 [(0, .ref (h 0)), (1, .int x1), (2, .int x2), (3, .int x3), (4, .int x4)] → va_P D classes (Wm ty h σ px) H → va_D A (Wm ty h σ px) → va_S A s.heap H locs → W p l e (headSpec w_Mo_put rm_Mo_put).room s m args below meth c H locs 0 0 (MQ below (va_Qi (fun r (u : St) => (r, u) = v) (fun u t => va_P D classes (Wm ty h u px) t.heap) A) args s 0 0 A) (F0 m 3 ls []) := by
    intro n3
    induction n3 with
    | zero => intro H locs ls x1 x2 x3 x4 σ hv hk hl hP hD hS; exact hk.elim
    | succ n3 ih3 =>
      have B51 : ∀ (H : Heap) (locs : List Loc) (ls : Array Slot) (x1 : Int32) (x2 : Int32) (x3 : Int32) (x4 : Int32) (σ : St), v = f_Mo_put_51 (f_Mo_put_3 n3) x1 x2 x3 x4 σ → k_Mo_put_51 (k_Mo_put_3 n3) x1 x2 x3 x4 σ → lv_has ls 10 [(0, .ref (h 0)), (1, .int x1), (2, .int x2), (3, .int x3), (4, .int x4)] → va_P D classes (Wm ty h σ px) H → va_D A (Wm ty h σ px) → va_S A s.heap H locs → W p l e (headSpec w_Mo_put rm_Mo_put).room s m args below meth c H locs 0 0 (MQ below (va_Qi (fun r (u : St) => (r, u) = v) (fun u t => va_P D classes (Wm ty h u px) t.heap) A) args s 0 0 A) (F0 m 51 ls []) := by
        intro H locs ls x1 x2 x3 x4 σ hv hk hl hP hD hS
        unfold f_Mo_put_51 at hv
        unfold k_Mo_put_51 at hk
        refine lv_iinc (k := 4) (v := x4 + 1) (lv' := [(4, .int (x4 + 1)), (0, .ref (h 0)), (1, .int x1), (2, .int x2), (3, .int x3)]) hx hb d_Mo_put_51 hl rfl (by first | rfl | simp [lit1, litm1]) (by decide) rfl (fun ls hl => ?_)
        refine lv_goto (tgt := 3) hx hb d_Mo_put_54 (by decide) ?_
        exact ih3 _ _ _ x1 x2 x3 (x4 + 1) σ hv hk (lv_sub hl [1, 2, 3, 4, 0] rfl) hP hD hS
      have B50 : ∀ (H : Heap) (locs : List Loc) (ls : Array Slot) (x1 : Int32) (x2 : Int32) (x3 : Int32) (x4 : Int32) (s0 : Int32) (s1 : Int32) (σ : St), v = f_Mo_put_50 (f_Mo_put_3 n3) x1 x2 x3 x4 s0 s1 σ → k_Mo_put_50 (k_Mo_put_3 n3) x1 x2 x3 x4 s0 s1 σ → lv_has ls 10 [(0, .ref (h 0)), (1, .int x1), (2, .int x2), (3, .int x3), (4, .int x4)] → va_P D classes (Wm ty h σ px) H → va_D A (Wm ty h σ px) → va_S A s.heap H locs → W p l e (headSpec w_Mo_put rm_Mo_put).room s m args below meth c H locs 0 0 (MQ below (va_Qi (fun r (u : St) => (r, u) = v) (fun u t => va_P D classes (Wm ty h u px) t.heap) A) args s 0 0 A) (F0 m 50 ls [.int s0, .int s1, .ref (h 26)]) := by
        intro H locs ls x1 x2 x3 x4 s0 s1 σ hv hk hl hP hD hS
        unfold f_Mo_put_50 at hv
        unfold k_Mo_put_50 at hk
        obtain ⟨hk0, hk⟩ := hk
        refine va_iast hx hb hK hP hD hS 26 0 rfl rfl hk0 d_Mo_put_50 (fun H locs hP hD hS => ?_)
        have hP : va_P D classes (Wm ty h (sA σ 26 s1 s0) px) H := hP
        have hD : va_D A (Wm ty h (sA σ 26 s1 s0) px) := hD
        exact B51 _ _ _ x1 x2 x3 x4 (sA σ 26 s1 s0) hv hk (lv_sub hl [0, 1, 2, 3, 4] rfl) hP hD hS
      intro H locs ls x1 x2 x3 x4 σ hv hk hl hP hD hS
      rw [f_Mo_put_3] at hv
      rw [k_Mo_put_3] at hk
      refine lv_iload hx hb d_Mo_put_3 (lv_at hl 4 rfl) ?_
      refine lv_iload_n hx hb d_Mo_put_5 rfl (lv_at hl 1 rfl) ?_
      refine lv_icmp_gt (tgt := 57) hx hb d_Mo_put_6 (by decide) (fun hc => ?_) (fun hc => ?_)
      · have hv := hv.trans (if_pos hc)
        have hk := hk.1 hc
        refine lv_aload_n hx hb d_Mo_put_57 rfl (lv_at hl 0 rfl) ?_
        refine lv_iconst (v := 0) hx hb d_Mo_put_58 (by decide) ?_
        refine va_put (v := .int 0) (ty := .int) (C := R_Mo) (T := T_Mo) (N := 51) hx hb hg in_Mo ty_Mo ok_Mo nm_Mo hown hK hP hD hS 0 rfl rfl 34 (by decide) (hg _ m_1293) (fun _ h9 => h9) rfl (by decide +kernel) rfl rfl (Nat.le_of_ble_eq_true rfl) d_Mo_put_59 (fun H locs hP hD hS => ?_)
        have hP : va_P D classes (Wm ty h (sF σ 0 34 0) px) H := hP
        have hD : va_D A (Wm ty h (sF σ 0 34 0) px) := hD
        exact B62 _ _ _ x1 (sF σ 0 34 0) hv hk (lv_sub hl [0, 1] rfl) hP hD hS
      · have hv := hv.trans (if_neg hc)
        have hk := hk.2 hc
        refine lv_aload_n hx hb d_Mo_put_9 rfl (lv_at hl 0 rfl) ?_
        refine va_get (v := .ref (h 26)) (C := R_Mo) (T := T_Mo) (N := 51) hx hb hg in_Mo hown hK hP 0 rfl rfl 39 (by decide) (hg _ m_1298) (fun _ h9 => h9) rfl d_Mo_put_10 ?_
        refine lv_iload hx hb d_Mo_put_13 (lv_at hl 4 rfl) ?_
        refine lv_aload_n hx hb d_Mo_put_15 rfl (lv_at hl 0 rfl) ?_
        refine va_get (v := .ref (h 13)) (C := R_Mo) (T := T_Mo) (N := 51) hx hb hg in_Mo hown hK hP 0 rfl rfl 18 (by decide) (hg _ m_1277) (fun _ h9 => h9) rfl d_Mo_put_16 ?_
        refine lv_iload hx hb d_Mo_put_19 (lv_at hl 4 rfl) ?_
        obtain ⟨hk0, hk⟩ := hk
        refine va_iald hx hb hK hP 13 0 rfl rfl hk0 d_Mo_put_21 ?_
        refine lv_iload_n hx hb d_Mo_put_22 rfl (lv_at hl 2 rfl) ?_
        refine lv_ishr hx hb d_Mo_put_23 ?_
        refine lv_iconst (v := 1) hx hb d_Mo_put_24 (by decide) ?_
        refine lv_iand hx hb d_Mo_put_25 ?_
        refine lv_if_ne (tgt := 34) hx hb d_Mo_put_26 (by decide) (fun hc => ?_) (fun hc => ?_)
        · have hv := hv.trans (if_neg hc)
          have hk := hk.2 hc
          refine lv_aload_n hx hb d_Mo_put_34 rfl (lv_at hl 0 rfl) ?_
          refine va_get (v := .ref (h 5)) (C := R_Mo) (T := T_Mo) (N := 51) hx hb hg in_Mo hown hK hP 0 rfl rfl 10 (by decide) (hg _ m_1269) (fun _ h9 => h9) rfl d_Mo_put_35 ?_
          refine lv_iload hx hb d_Mo_put_38 (lv_at hl 4 rfl) ?_
          obtain ⟨hk0, hk⟩ := hk
          refine va_iald hx hb hK hP 5 0 rfl rfl hk0 d_Mo_put_40 ?_
          refine lv_iconst (v := 1) hx hb d_Mo_put_41 (by decide) ?_
          refine lv_icmp_ne (tgt := 49) hx hb d_Mo_put_42 (by decide) (fun hc => ?_) (fun hc => ?_)
          · have hv := hv.trans (if_neg hc)
            have hk := hk.2 hc
            refine lv_iconst (v := -1) hx hb d_Mo_put_49 (by decide) ?_
            exact B50 _ _ _ x1 x2 x3 x4 (-1) x4 σ hv hk (lv_sub hl [0, 1, 2, 3, 4] rfl) hP hD hS
          · have hv := hv.trans (if_pos hc)
            have hk := hk.1 hc
            refine lv_iload_n hx hb d_Mo_put_45 rfl (lv_at hl 3 rfl) ?_
            refine lv_goto (tgt := 50) hx hb d_Mo_put_46 (by decide) ?_
            exact B50 _ _ _ x1 x2 x3 x4 x3 x4 σ hv hk (lv_sub hl [0, 1, 2, 3, 4] rfl) hP hD hS
        · have hv := hv.trans (if_pos hc)
          have hk := hk.1 hc
          refine lv_iload hx hb d_Mo_put_29 (lv_at hl 4 rfl) ?_
          refine lv_goto (tgt := 50) hx hb d_Mo_put_31 (by decide) ?_
          exact B50 _ _ _ x1 x2 x3 x4 x4 x4 σ hv hk (lv_sub hl [0, 1, 2, 3, 4] rfl) hP hD hS
  unfold f_Mo_put at hv
  unfold k_Mo_put at hk
  refine lv_iconst (v := 0) hx hb d_Mo_put_0 (by decide) ?_
  refine lv_istore (lv' := [(4, .int 0), (0, .ref (h 0)), (1, .int a1), (2, .int a2), (3, .int a3)]) hx hb d_Mo_put_1 hl (by decide) rfl (fun ls hl => ?_)
  exact B3 100000 _ _ _ a1 a2 a3 0 σ hv hk (lv_sub hl [1, 2, 3, 4, 0] rfl) hP hD hS

-- ClauseLedgerModel.instance(II)I
abbrev b_Mo_instance : ByteArray := prog_14_method_46_code
def y_Mo_instance : MethodName := ⟨"ClauseLedgerModel", "instance", "(II)I"⟩
theorem hd_Mo_instance : y_Mo_instance.cls ≠ "java/lang/invoke/MethodHandle" ∧ y_Mo_instance.cls ≠ "java/lang/invoke/VarHandle" ∧ (parseMethodDescriptor y_Mo_instance.desc).map (fun d => d.parameters.length) = some 2 := by decide +kernel
theorem d_Mo_instance_0 : decode b_Mo_instance 0 = .ok (.aload_n 0, 1) := by decide +kernel
theorem d_Mo_instance_1 : decode b_Mo_instance 1 = .ok (.invokevirtual 201, 3) := by decide +kernel
theorem d_Mo_instance_4 : decode b_Mo_instance 4 = .ok (.ifCond .eq 5, 3) := by decide +kernel
theorem d_Mo_instance_7 : decode b_Mo_instance 7 = .ok (.iconst (-1), 1) := by decide +kernel
theorem d_Mo_instance_8 : decode b_Mo_instance 8 = .ok (.ireturn, 1) := by decide +kernel
theorem d_Mo_instance_9 : decode b_Mo_instance 9 = .ok (.sipush 17185, 3) := by decide +kernel
theorem d_Mo_instance_12 : decode b_Mo_instance 12 = .ok (.istore_n 3, 1) := by decide +kernel
theorem d_Mo_instance_13 : decode b_Mo_instance 13 = .ok (.aload_n 0, 1) := by decide +kernel
theorem d_Mo_instance_14 : decode b_Mo_instance 14 = .ok (.iload_n 1, 1) := by decide +kernel
theorem d_Mo_instance_15 : decode b_Mo_instance 15 = .ok (.invokevirtual 207, 3) := by decide +kernel
theorem d_Mo_instance_18 : decode b_Mo_instance 18 = .ok (.ifCond .eq 11, 3) := by decide +kernel
theorem d_Mo_instance_21 : decode b_Mo_instance 21 = .ok (.aload_n 0, 1) := by decide +kernel
theorem d_Mo_instance_22 : decode b_Mo_instance 22 = .ok (.iload_n 2, 1) := by decide +kernel
theorem d_Mo_instance_23 : decode b_Mo_instance 23 = .ok (.invokevirtual 207, 3) := by decide +kernel
theorem d_Mo_instance_26 : decode b_Mo_instance 26 = .ok (.ifCond .ne 10, 3) := by decide +kernel
theorem d_Mo_instance_29 : decode b_Mo_instance 29 = .ok (.aload_n 0, 1) := by decide +kernel
theorem d_Mo_instance_30 : decode b_Mo_instance 30 = .ok (.iconst 1, 1) := by decide +kernel
theorem d_Mo_instance_31 : decode b_Mo_instance 31 = .ok (.iload_n 3, 1) := by decide +kernel
theorem d_Mo_instance_32 : decode b_Mo_instance 32 = .ok (.invokevirtual 133, 3) := by decide +kernel
theorem d_Mo_instance_35 : decode b_Mo_instance 35 = .ok (.ireturn, 1) := by decide +kernel
theorem d_Mo_instance_36 : decode b_Mo_instance 36 = .ok (.aload_n 0, 1) := by decide +kernel
theorem d_Mo_instance_37 : decode b_Mo_instance 37 = .ok (.getfield 26, 3) := by decide +kernel
theorem d_Mo_instance_40 : decode b_Mo_instance 40 = .ok (.iload_n 1, 1) := by decide +kernel
theorem d_Mo_instance_41 : decode b_Mo_instance 41 = .ok (.iaload, 1) := by decide +kernel
theorem d_Mo_instance_42 : decode b_Mo_instance 42 = .ok (.bipush 10, 2) := by decide +kernel
theorem d_Mo_instance_44 : decode b_Mo_instance 44 = .ok (.if_icmp .ne 23, 3) := by decide +kernel
theorem d_Mo_instance_47 : decode b_Mo_instance 47 = .ok (.aload_n 0, 1) := by decide +kernel
theorem d_Mo_instance_48 : decode b_Mo_instance 48 = .ok (.getfield 29, 3) := by decide +kernel
theorem d_Mo_instance_51 : decode b_Mo_instance 51 = .ok (.iload_n 2, 1) := by decide +kernel
theorem d_Mo_instance_52 : decode b_Mo_instance 52 = .ok (.iaload, 1) := by decide +kernel
theorem d_Mo_instance_53 : decode b_Mo_instance 53 = .ok (.aload_n 0, 1) := by decide +kernel
theorem d_Mo_instance_54 : decode b_Mo_instance 54 = .ok (.getfield 23, 3) := by decide +kernel
theorem d_Mo_instance_57 : decode b_Mo_instance 57 = .ok (.aload_n 0, 1) := by decide +kernel
theorem d_Mo_instance_58 : decode b_Mo_instance 58 = .ok (.getfield 41, 3) := by decide +kernel
theorem d_Mo_instance_61 : decode b_Mo_instance 61 = .ok (.iload_n 1, 1) := by decide +kernel
theorem d_Mo_instance_62 : decode b_Mo_instance 62 = .ok (.iaload, 1) := by decide +kernel
theorem d_Mo_instance_63 : decode b_Mo_instance 63 = .ok (.iaload, 1) := by decide +kernel
theorem d_Mo_instance_64 : decode b_Mo_instance 64 = .ok (.if_icmp .eq 10, 3) := by decide +kernel
theorem d_Mo_instance_67 : decode b_Mo_instance 67 = .ok (.aload_n 0, 1) := by decide +kernel
theorem d_Mo_instance_68 : decode b_Mo_instance 68 = .ok (.iconst 2, 1) := by decide +kernel
theorem d_Mo_instance_69 : decode b_Mo_instance 69 = .ok (.iload_n 3, 1) := by decide +kernel
theorem d_Mo_instance_70 : decode b_Mo_instance 70 = .ok (.invokevirtual 133, 3) := by decide +kernel
theorem d_Mo_instance_73 : decode b_Mo_instance 73 = .ok (.ireturn, 1) := by decide +kernel
theorem d_Mo_instance_74 : decode b_Mo_instance 74 = .ok (.aload_n 0, 1) := by decide +kernel
theorem d_Mo_instance_75 : decode b_Mo_instance 75 = .ok (.getfield 41, 3) := by decide +kernel
theorem d_Mo_instance_78 : decode b_Mo_instance 78 = .ok (.iload_n 1, 1) := by decide +kernel
theorem d_Mo_instance_79 : decode b_Mo_instance 79 = .ok (.iaload, 1) := by decide +kernel
theorem d_Mo_instance_80 : decode b_Mo_instance 80 = .ok (.istore 4, 2) := by decide +kernel
theorem d_Mo_instance_82 : decode b_Mo_instance 82 = .ok (.aload_n 0, 1) := by decide +kernel
theorem d_Mo_instance_83 : decode b_Mo_instance 83 = .ok (.getfield 35, 3) := by decide +kernel
theorem d_Mo_instance_86 : decode b_Mo_instance 86 = .ok (.iload_n 1, 1) := by decide +kernel
theorem d_Mo_instance_87 : decode b_Mo_instance 87 = .ok (.iaload, 1) := by decide +kernel
theorem d_Mo_instance_88 : decode b_Mo_instance 88 = .ok (.istore 5, 2) := by decide +kernel
theorem d_Mo_instance_90 : decode b_Mo_instance 90 = .ok (.aload_n 0, 1) := by decide +kernel
theorem d_Mo_instance_91 : decode b_Mo_instance 91 = .ok (.iload 5, 2) := by decide +kernel
theorem d_Mo_instance_93 : decode b_Mo_instance 93 = .ok (.iload 4, 2) := by decide +kernel
theorem d_Mo_instance_95 : decode b_Mo_instance 95 = .ok (.invokevirtual 241, 3) := by decide +kernel
theorem d_Mo_instance_98 : decode b_Mo_instance 98 = .ok (.iconst 0, 1) := by decide +kernel
theorem d_Mo_instance_99 : decode b_Mo_instance 99 = .ok (.istore 6, 2) := by decide +kernel
theorem d_Mo_instance_101 : decode b_Mo_instance 101 = .ok (.iconst 0, 1) := by decide +kernel
theorem d_Mo_instance_102 : decode b_Mo_instance 102 = .ok (.istore 7, 2) := by decide +kernel
theorem d_Mo_instance_104 : decode b_Mo_instance 104 = .ok (.iload 7, 2) := by decide +kernel
theorem d_Mo_instance_106 : decode b_Mo_instance 106 = .ok (.iload 5, 2) := by decide +kernel
theorem d_Mo_instance_108 : decode b_Mo_instance 108 = .ok (.if_icmp .gt 79, 3) := by decide +kernel
theorem d_Mo_instance_111 : decode b_Mo_instance 111 = .ok (.iload 6, 2) := by decide +kernel
theorem d_Mo_instance_113 : decode b_Mo_instance 113 = .ok (.ifCond .ne 61, 3) := by decide +kernel
theorem d_Mo_instance_116 : decode b_Mo_instance 116 = .ok (.aload_n 0, 1) := by decide +kernel
theorem d_Mo_instance_117 : decode b_Mo_instance 117 = .ok (.getfield 100, 3) := by decide +kernel
theorem d_Mo_instance_120 : decode b_Mo_instance 120 = .ok (.iload 7, 2) := by decide +kernel
theorem d_Mo_instance_122 : decode b_Mo_instance 122 = .ok (.baload, 1) := by decide +kernel
theorem d_Mo_instance_123 : decode b_Mo_instance 123 = .ok (.ifCond .eq 55, 3) := by decide +kernel
theorem d_Mo_instance_126 : decode b_Mo_instance 126 = .ok (.aload_n 0, 1) := by decide +kernel
theorem d_Mo_instance_127 : decode b_Mo_instance 127 = .ok (.getfield 26, 3) := by decide +kernel
theorem d_Mo_instance_130 : decode b_Mo_instance 130 = .ok (.iload 7, 2) := by decide +kernel
theorem d_Mo_instance_132 : decode b_Mo_instance 132 = .ok (.iaload, 1) := by decide +kernel
theorem d_Mo_instance_133 : decode b_Mo_instance 133 = .ok (.bipush 10, 2) := by decide +kernel
theorem d_Mo_instance_135 : decode b_Mo_instance 135 = .ok (.if_icmp .ne 43, 3) := by decide +kernel
theorem d_Mo_instance_138 : decode b_Mo_instance 138 = .ok (.aload_n 0, 1) := by decide +kernel
theorem d_Mo_instance_139 : decode b_Mo_instance 139 = .ok (.getfield 50, 3) := by decide +kernel
theorem d_Mo_instance_142 : decode b_Mo_instance 142 = .ok (.iload 7, 2) := by decide +kernel
theorem d_Mo_instance_144 : decode b_Mo_instance 144 = .ok (.iaload, 1) := by decide +kernel
theorem d_Mo_instance_145 : decode b_Mo_instance 145 = .ok (.iload 4, 2) := by decide +kernel
theorem d_Mo_instance_147 : decode b_Mo_instance 147 = .ok (.ishr, 1) := by decide +kernel
theorem d_Mo_instance_148 : decode b_Mo_instance 148 = .ok (.iconst 1, 1) := by decide +kernel
theorem d_Mo_instance_149 : decode b_Mo_instance 149 = .ok (.iand, 1) := by decide +kernel
theorem d_Mo_instance_150 : decode b_Mo_instance 150 = .ok (.iconst 1, 1) := by decide +kernel
theorem d_Mo_instance_151 : decode b_Mo_instance 151 = .ok (.if_icmp .ne 27, 3) := by decide +kernel
theorem d_Mo_instance_154 : decode b_Mo_instance 154 = .ok (.aload_n 0, 1) := by decide +kernel
theorem d_Mo_instance_155 : decode b_Mo_instance 155 = .ok (.getfield 50, 3) := by decide +kernel
theorem d_Mo_instance_158 : decode b_Mo_instance 158 = .ok (.iload_n 2, 1) := by decide +kernel
theorem d_Mo_instance_159 : decode b_Mo_instance 159 = .ok (.iaload, 1) := by decide +kernel
theorem d_Mo_instance_160 : decode b_Mo_instance 160 = .ok (.aload_n 0, 1) := by decide +kernel
theorem d_Mo_instance_161 : decode b_Mo_instance 161 = .ok (.getfield 41, 3) := by decide +kernel
theorem d_Mo_instance_164 : decode b_Mo_instance 164 = .ok (.iload 7, 2) := by decide +kernel
theorem d_Mo_instance_166 : decode b_Mo_instance 166 = .ok (.iaload, 1) := by decide +kernel
theorem d_Mo_instance_167 : decode b_Mo_instance 167 = .ok (.ishr, 1) := by decide +kernel
theorem d_Mo_instance_168 : decode b_Mo_instance 168 = .ok (.iconst 1, 1) := by decide +kernel
theorem d_Mo_instance_169 : decode b_Mo_instance 169 = .ok (.iand, 1) := by decide +kernel
theorem d_Mo_instance_170 : decode b_Mo_instance 170 = .ok (.iconst 1, 1) := by decide +kernel
theorem d_Mo_instance_171 : decode b_Mo_instance 171 = .ok (.if_icmp .ne 7, 3) := by decide +kernel
theorem d_Mo_instance_174 : decode b_Mo_instance 174 = .ok (.iconst 1, 1) := by decide +kernel
theorem d_Mo_instance_175 : decode b_Mo_instance 175 = .ok (.goto 4, 3) := by decide +kernel
theorem d_Mo_instance_178 : decode b_Mo_instance 178 = .ok (.iconst 0, 1) := by decide +kernel
theorem d_Mo_instance_179 : decode b_Mo_instance 179 = .ok (.istore 6, 2) := by decide +kernel
theorem d_Mo_instance_181 : decode b_Mo_instance 181 = .ok (.iinc 7 1, 3) := by decide +kernel
theorem d_Mo_instance_184 : decode b_Mo_instance 184 = .ok (.goto (-80), 3) := by decide +kernel
theorem d_Mo_instance_187 : decode b_Mo_instance 187 = .ok (.iload 6, 2) := by decide +kernel
theorem d_Mo_instance_189 : decode b_Mo_instance 189 = .ok (.ifCond .eq 10, 3) := by decide +kernel
theorem d_Mo_instance_192 : decode b_Mo_instance 192 = .ok (.aload_n 0, 1) := by decide +kernel
theorem d_Mo_instance_193 : decode b_Mo_instance 193 = .ok (.iconst 2, 1) := by decide +kernel
theorem d_Mo_instance_194 : decode b_Mo_instance 194 = .ok (.iload_n 3, 1) := by decide +kernel
theorem d_Mo_instance_195 : decode b_Mo_instance 195 = .ok (.invokevirtual 133, 3) := by decide +kernel
theorem d_Mo_instance_198 : decode b_Mo_instance 198 = .ok (.ireturn, 1) := by decide +kernel
theorem d_Mo_instance_199 : decode b_Mo_instance 199 = .ok (.aload_n 0, 1) := by decide +kernel
theorem d_Mo_instance_200 : decode b_Mo_instance 200 = .ok (.iload_n 1, 1) := by decide +kernel
theorem d_Mo_instance_201 : decode b_Mo_instance 201 = .ok (.iconst 0, 1) := by decide +kernel
theorem d_Mo_instance_202 : decode b_Mo_instance 202 = .ok (.invokevirtual 233, 3) := by decide +kernel
theorem d_Mo_instance_205 : decode b_Mo_instance 205 = .ok (.aload_n 0, 1) := by decide +kernel
theorem d_Mo_instance_206 : decode b_Mo_instance 206 = .ok (.iload 5, 2) := by decide +kernel
theorem d_Mo_instance_208 : decode b_Mo_instance 208 = .ok (.iload 4, 2) := by decide +kernel
theorem d_Mo_instance_210 : decode b_Mo_instance 210 = .ok (.iload_n 2, 1) := by decide +kernel
theorem d_Mo_instance_211 : decode b_Mo_instance 211 = .ok (.invokevirtual 244, 3) := by decide +kernel
theorem d_Mo_instance_214 : decode b_Mo_instance 214 = .ok (.istore 7, 2) := by decide +kernel
theorem d_Mo_instance_216 : decode b_Mo_instance 216 = .ok (.aload_n 0, 1) := by decide +kernel
theorem d_Mo_instance_217 : decode b_Mo_instance 217 = .ok (.iload 7, 2) := by decide +kernel
theorem d_Mo_instance_219 : decode b_Mo_instance 219 = .ok (.invokevirtual 210, 3) := by decide +kernel
theorem d_Mo_instance_222 : decode b_Mo_instance 222 = .ok (.aload_n 0, 1) := by decide +kernel
theorem d_Mo_instance_223 : decode b_Mo_instance 223 = .ok (.aload_n 0, 1) := by decide +kernel
theorem d_Mo_instance_224 : decode b_Mo_instance 224 = .ok (.getfield 214, 3) := by decide +kernel
theorem d_Mo_instance_227 : decode b_Mo_instance 227 = .ok (.iload_n 3, 1) := by decide +kernel
theorem d_Mo_instance_228 : decode b_Mo_instance 228 = .ok (.invokevirtual 217, 3) := by decide +kernel
theorem d_Mo_instance_231 : decode b_Mo_instance 231 = .ok (.ireturn, 1) := by decide +kernel
def f_Mo_instance_35 (s0 : Int32) (σ : St) : Int32 × St := (s0, σ)
def k_Mo_instance_35 (s0 : Int32) (σ : St) : Prop := True
def f_Mo_instance_29 (x3 : Int32) (σ : St) : Int32 × St := f_Mo_instance_35 ((f_Mo_fails 1 x3 σ).1) ((f_Mo_fails 1 x3 σ).2)
def k_Mo_instance_29 (x3 : Int32) (σ : St) : Prop := (k_Mo_fails 1 x3 σ) ∧ (k_Mo_instance_35 ((f_Mo_fails 1 x3 σ).1) ((f_Mo_fails 1 x3 σ).2))
def f_Mo_instance_73 (s0 : Int32) (σ : St) : Int32 × St := (s0, σ)
def k_Mo_instance_73 (s0 : Int32) (σ : St) : Prop := True
def f_Mo_instance_67 (x3 : Int32) (σ : St) : Int32 × St := f_Mo_instance_73 ((f_Mo_fails 2 x3 σ).1) ((f_Mo_fails 2 x3 σ).2)
def k_Mo_instance_67 (x3 : Int32) (σ : St) : Prop := (k_Mo_fails 2 x3 σ) ∧ (k_Mo_instance_73 ((f_Mo_fails 2 x3 σ).1) ((f_Mo_fails 2 x3 σ).2))
def f_Mo_instance_179 (F104 : (Int32 → Int32 → Int32 → Int32 → Int32 → Int32 → Int32 → St → Int32 × St)) (x1 : Int32) (x2 : Int32) (x3 : Int32) (x4 : Int32) (x5 : Int32) (x7 : Int32) (s0 : Int32) (σ : St) : Int32 × St := F104 x1 x2 x3 x4 x5 s0 (x7 + 1) σ
def k_Mo_instance_179 (K104 : (Int32 → Int32 → Int32 → Int32 → Int32 → Int32 → Int32 → St → Prop)) (x1 : Int32) (x2 : Int32) (x3 : Int32) (x4 : Int32) (x5 : Int32) (x7 : Int32) (s0 : Int32) (σ : St) : Prop := K104 x1 x2 x3 x4 x5 s0 (x7 + 1) σ
def f_Mo_instance_174 (F104 : (Int32 → Int32 → Int32 → Int32 → Int32 → Int32 → Int32 → St → Int32 × St)) (x1 : Int32) (x2 : Int32) (x3 : Int32) (x4 : Int32) (x5 : Int32) (x7 : Int32) (σ : St) : Int32 × St := f_Mo_instance_179 F104 x1 x2 x3 x4 x5 x7 1 σ
def k_Mo_instance_174 (K104 : (Int32 → Int32 → Int32 → Int32 → Int32 → Int32 → Int32 → St → Prop)) (x1 : Int32) (x2 : Int32) (x3 : Int32) (x4 : Int32) (x5 : Int32) (x7 : Int32) (σ : St) : Prop := k_Mo_instance_179 K104 x1 x2 x3 x4 x5 x7 1 σ
def f_Mo_instance_178 (F104 : (Int32 → Int32 → Int32 → Int32 → Int32 → Int32 → Int32 → St → Int32 × St)) (x1 : Int32) (x2 : Int32) (x3 : Int32) (x4 : Int32) (x5 : Int32) (x7 : Int32) (σ : St) : Int32 × St := f_Mo_instance_179 F104 x1 x2 x3 x4 x5 x7 0 σ
def k_Mo_instance_178 (K104 : (Int32 → Int32 → Int32 → Int32 → Int32 → Int32 → Int32 → St → Prop)) (x1 : Int32) (x2 : Int32) (x3 : Int32) (x4 : Int32) (x5 : Int32) (x7 : Int32) (σ : St) : Prop := k_Mo_instance_179 K104 x1 x2 x3 x4 x5 x7 0 σ
def f_Mo_instance_198 (s0 : Int32) (σ : St) : Int32 × St := (s0, σ)
def k_Mo_instance_198 (s0 : Int32) (σ : St) : Prop := True
def f_Mo_instance_231 (s0 : Int32) (σ : St) : Int32 × St := (s0, σ)
def k_Mo_instance_231 (s0 : Int32) (σ : St) : Prop := True
def f_Mo_instance_222 (x3 : Int32) (σ : St) : Int32 × St := f_Mo_instance_231 ((f_Mo_enter (σ.1 0 25) x3 σ).1) ((f_Mo_enter (σ.1 0 25) x3 σ).2)
def k_Mo_instance_222 (x3 : Int32) (σ : St) : Prop := (k_Mo_enter (σ.1 0 25) x3 σ) ∧ (k_Mo_instance_231 ((f_Mo_enter (σ.1 0 25) x3 σ).1) ((f_Mo_enter (σ.1 0 25) x3 σ).2))
def f_Mo_instance_216 (x3 : Int32) (x7 : Int32) (σ : St) : Int32 × St := f_Mo_instance_222 x3 (f_Mo_join x7 σ)
def k_Mo_instance_216 (x3 : Int32) (x7 : Int32) (σ : St) : Prop := (k_Mo_join x7 σ) ∧ (k_Mo_instance_222 x3 (f_Mo_join x7 σ))
def f_Mo_instance_214 (x3 : Int32) (s0 : Int32) (σ : St) : Int32 × St := f_Mo_instance_216 x3 s0 σ
def k_Mo_instance_214 (x3 : Int32) (s0 : Int32) (σ : St) : Prop := k_Mo_instance_216 x3 s0 σ
def f_Mo_instance_205 (x2 : Int32) (x3 : Int32) (x4 : Int32) (x5 : Int32) (σ : St) : Int32 × St := f_Mo_instance_214 x3 ((f_Mo_put x5 x4 x2 σ).1) ((f_Mo_put x5 x4 x2 σ).2)
def k_Mo_instance_205 (x2 : Int32) (x3 : Int32) (x4 : Int32) (x5 : Int32) (σ : St) : Prop := (k_Mo_put x5 x4 x2 σ) ∧ (k_Mo_instance_214 x3 ((f_Mo_put x5 x4 x2 σ).1) ((f_Mo_put x5 x4 x2 σ).2))
def f_Mo_instance_104 : Nat → Int32 → Int32 → Int32 → Int32 → Int32 → Int32 → Int32 → St → Int32 × St
  | 0, _, _, _, _, _, _, _, σ => (0, σ)
  | n + 1, x1, x2, x3, x4, x5, x6, x7, σ => if x5 < x7 then (if x6 = 0 then (f_Mo_instance_205 x2 x3 x4 x5 (f_Mo_joinAs x1 0 σ)) else (f_Mo_instance_198 ((f_Mo_fails 2 x3 σ).1) ((f_Mo_fails 2 x3 σ).2))) else (if x6 = 0 then (if (σ.1 29 x7.toNatClampNeg) = 0 then (f_Mo_instance_178 (f_Mo_instance_104 n) x1 x2 x3 x4 x5 x7 σ) else (if (σ.1 5 x7.toNatClampNeg) = 10 then (if (((σ.1 13 x7.toNatClampNeg) >>> (x4 &&& 31)) &&& 1) = 1 then (if (((σ.1 13 x2.toNatClampNeg) >>> ((σ.1 10 x7.toNatClampNeg) &&& 31)) &&& 1) = 1 then (f_Mo_instance_174 (f_Mo_instance_104 n) x1 x2 x3 x4 x5 x7 σ) else (f_Mo_instance_178 (f_Mo_instance_104 n) x1 x2 x3 x4 x5 x7 σ)) else (f_Mo_instance_178 (f_Mo_instance_104 n) x1 x2 x3 x4 x5 x7 σ)) else (f_Mo_instance_178 (f_Mo_instance_104 n) x1 x2 x3 x4 x5 x7 σ))) else (f_Mo_instance_174 (f_Mo_instance_104 n) x1 x2 x3 x4 x5 x7 σ))
def k_Mo_instance_104 : Nat → Int32 → Int32 → Int32 → Int32 → Int32 → Int32 → Int32 → St → Prop
  | 0, _, _, _, _, _, _, _, _ => False
  | n + 1, x1, x2, x3, x4, x5, x6, x7, σ => (x5 < x7 → ((x6 = 0 → ((k_Mo_joinAs x1 0 σ) ∧ (k_Mo_instance_205 x2 x3 x4 x5 (f_Mo_joinAs x1 0 σ)))) ∧ (¬ x6 = 0 → ((k_Mo_fails 2 x3 σ) ∧ (k_Mo_instance_198 ((f_Mo_fails 2 x3 σ).1) ((f_Mo_fails 2 x3 σ).2)))))) ∧ (¬ x5 < x7 → ((x6 = 0 → (vp_in x7 400 ∧ (((σ.1 29 x7.toNatClampNeg) = 0 → (k_Mo_instance_178 (k_Mo_instance_104 n) x1 x2 x3 x4 x5 x7 σ)) ∧ (¬ (σ.1 29 x7.toNatClampNeg) = 0 → (vp_in x7 400 ∧ (((σ.1 5 x7.toNatClampNeg) = 10 → (vp_in x7 400 ∧ (((((σ.1 13 x7.toNatClampNeg) >>> (x4 &&& 31)) &&& 1) = 1 → (vp_in x2 400 ∧ (vp_in x7 400 ∧ (((((σ.1 13 x2.toNatClampNeg) >>> ((σ.1 10 x7.toNatClampNeg) &&& 31)) &&& 1) = 1 → (k_Mo_instance_174 (k_Mo_instance_104 n) x1 x2 x3 x4 x5 x7 σ)) ∧ (¬ (((σ.1 13 x2.toNatClampNeg) >>> ((σ.1 10 x7.toNatClampNeg) &&& 31)) &&& 1) = 1 → (k_Mo_instance_178 (k_Mo_instance_104 n) x1 x2 x3 x4 x5 x7 σ)))))) ∧ (¬ (((σ.1 13 x7.toNatClampNeg) >>> (x4 &&& 31)) &&& 1) = 1 → (k_Mo_instance_178 (k_Mo_instance_104 n) x1 x2 x3 x4 x5 x7 σ))))) ∧ (¬ (σ.1 5 x7.toNatClampNeg) = 10 → (k_Mo_instance_178 (k_Mo_instance_104 n) x1 x2 x3 x4 x5 x7 σ)))))))) ∧ (¬ x6 = 0 → (k_Mo_instance_174 (k_Mo_instance_104 n) x1 x2 x3 x4 x5 x7 σ))))
def f_Mo_instance_98 (x1 : Int32) (x2 : Int32) (x3 : Int32) (x4 : Int32) (x5 : Int32) (σ : St) : Int32 × St := f_Mo_instance_104 1000 x1 x2 x3 x4 x5 0 0 σ
def k_Mo_instance_98 (x1 : Int32) (x2 : Int32) (x3 : Int32) (x4 : Int32) (x5 : Int32) (σ : St) : Prop := k_Mo_instance_104 1000 x1 x2 x3 x4 x5 0 0 σ
def f_Mo_instance_90 (x1 : Int32) (x2 : Int32) (x3 : Int32) (x4 : Int32) (x5 : Int32) (σ : St) : Int32 × St := f_Mo_instance_98 x1 x2 x3 x4 x5 (f_Mo_needFor x5 x4 σ)
def k_Mo_instance_90 (x1 : Int32) (x2 : Int32) (x3 : Int32) (x4 : Int32) (x5 : Int32) (σ : St) : Prop := (k_Mo_needFor x5 x4 σ) ∧ (k_Mo_instance_98 x1 x2 x3 x4 x5 (f_Mo_needFor x5 x4 σ))
def f_Mo_instance_82 (x1 : Int32) (x2 : Int32) (x3 : Int32) (x4 : Int32) (σ : St) : Int32 × St := f_Mo_instance_90 x1 x2 x3 x4 (σ.1 8 x1.toNatClampNeg) σ
def k_Mo_instance_82 (x1 : Int32) (x2 : Int32) (x3 : Int32) (x4 : Int32) (σ : St) : Prop := vp_in x1 400 ∧ (k_Mo_instance_90 x1 x2 x3 x4 (σ.1 8 x1.toNatClampNeg) σ)
def f_Mo_instance_4 (x1 : Int32) (x2 : Int32) (s0 : Int32) (σ : St) : Int32 × St := if s0 = 0 then (if (f_Mo_isTerm x1 σ) = 0 then (f_Mo_instance_29 17185 σ) else (if (f_Mo_isTerm x2 σ) = 0 then (f_Mo_instance_29 17185 σ) else (if (σ.1 5 x1.toNatClampNeg) = 10 then (if (σ.1 6 x2.toNatClampNeg) = (σ.1 4 (σ.1 10 x1.toNatClampNeg).toNatClampNeg) then (f_Mo_instance_82 x1 x2 17185 (σ.1 10 x1.toNatClampNeg) σ) else (f_Mo_instance_67 17185 σ)) else (f_Mo_instance_67 17185 σ)))) else ((-1), σ)
def k_Mo_instance_4 (x1 : Int32) (x2 : Int32) (s0 : Int32) (σ : St) : Prop := (s0 = 0 → ((k_Mo_isTerm x1 σ) ∧ (((f_Mo_isTerm x1 σ) = 0 → (k_Mo_instance_29 17185 σ)) ∧ (¬ (f_Mo_isTerm x1 σ) = 0 → ((k_Mo_isTerm x2 σ) ∧ (((f_Mo_isTerm x2 σ) = 0 → (k_Mo_instance_29 17185 σ)) ∧ (¬ (f_Mo_isTerm x2 σ) = 0 → (vp_in x1 400 ∧ (((σ.1 5 x1.toNatClampNeg) = 10 → (vp_in x2 400 ∧ (vp_in x1 400 ∧ (vp_in (σ.1 10 x1.toNatClampNeg) 3 ∧ (((σ.1 6 x2.toNatClampNeg) = (σ.1 4 (σ.1 10 x1.toNatClampNeg).toNatClampNeg) → (vp_in x1 400 ∧ (k_Mo_instance_82 x1 x2 17185 (σ.1 10 x1.toNatClampNeg) σ))) ∧ (¬ (σ.1 6 x2.toNatClampNeg) = (σ.1 4 (σ.1 10 x1.toNatClampNeg).toNatClampNeg) → (k_Mo_instance_67 17185 σ))))))) ∧ (¬ (σ.1 5 x1.toNatClampNeg) = 10 → (k_Mo_instance_67 17185 σ))))))))))) ∧ (¬ s0 = 0 → True)
def f_Mo_instance (a1 : Int32) (a2 : Int32) (σ : St) : Int32 × St := f_Mo_instance_4 a1 a2 ((f_Mo_begin σ).1) ((f_Mo_begin σ).2)
def k_Mo_instance (a1 : Int32) (a2 : Int32) (σ : St) : Prop := (k_Mo_begin σ) ∧ (k_Mo_instance_4 a1 a2 ((f_Mo_begin σ).1) ((f_Mo_begin σ).2))
abbrev w_Mo_instance : List Cond := Cond.code y_Mo_instance b_Mo_instance 8 (some .int) :: gw
abbrev rm_Mo_instance : Room := { frames := 4, cells := 0, slots := 0, locals := 96 }
set_option maxHeartbeats 4000000 in
set_option maxRecDepth 100000 in
theorem c_Mo_instance (l : Launch) (D : va_G) (ty : Nat → ClassId) (h : Nat → Nat) (px : va_W) (sa : Nat → Nat) (σ : St) (sz : Nat) (a1 : Int32) (a2 : Int32) (hk : k_Mo_instance a1 a2 σ) : Met l y_Mo_instance w_Mo_instance rm_Mo_instance (va_Pc [.ref (h 0), .int a1, .int a2] (fun U => U.heap.size = sz ∧ va_P D classes (Wm ty h σ px) U.heap ∧ va_K D classes (Ta ty) U ∧ NW U ∧ MK sa (va_A (Wm ty h σ px) sz) U U.heap ∧ va_D (fun _ => True) (Wm ty h σ px))) (va_Qi (fun r (u : St) => (r, u) = f_Mo_instance a1 a2 σ) (fun u t => va_P D classes (Wm ty h u px) t.heap) (va_A (Wm ty h σ px) sz)) 0 0 (va_A (Wm ty h σ px) sz) := by
  refine Met.ofW (cc := b_Mo_instance) (maxL := 8) (ret := (some .int)) (by decide) rfl ?_
  intro p e s m args below meth c s₁ B hml hv
  obtain ⟨ha, hsz, hP, hK, hN, hM, hD0⟩ := hv
  have hx := B.exec
  have hb := B.bytes
  have hr := B.returns
  have hg : ∀ w ∈ gw, w.before args s = true := fun w h9 => atoms_spec (ws := w_Mo_instance) B.pre w (List.mem_cons_of_mem _ h9)
  have hown : s.vm.findClass "ClauseLedgerModel" = some m.cls := findClass_of_methodNamed B.named
  have hlocks := B.notSynchronized
  subst hsz
  have hD := hD0.self (sz := s.heap.size)
  generalize hAe : va_A (Wm ty h σ px) s.heap.size = A at hD hM ⊢
  have hA : ∀ q : Nat, s.heap.size ≤ q → A q := fun q h9 => by rw [← hAe]; exact Or.inr h9
  have hS : va_S A s.heap s.heap [] := va_S.rf
  have he : entryFrame m args 8 = entryFrame m ([.ref (h 0), .int a1, .int a2] : List Value).toArray 8 := by rw [ha]
  rw [he, lg_entry_eq]
  have hl := lv_entry ([.ref (h 0), .int a1, .int a2]) (n := 8) (Nat.le_of_ble_eq_true rfl)
  generalize (lg_sl ([.ref (h 0), .int a1, .int a2]) ++ List.replicate (8 - (lg_sl ([.ref (h 0), .int a1, .int a2])).length) Slot.unset).toArray = ls at hl ⊢
  have hl : lv_has ls 8 [(0, .ref (h 0)), (1, .int a1), (2, .int a2)] := hl
  generalize hv : f_Mo_instance a1 a2 σ = v
  replace hv := hv.symm
  have B35 : ∀ (H : Heap) (locs : List Loc) (ls : Array Slot) (s0 : Int32) (σ : St), v = f_Mo_instance_35 s0 σ → k_Mo_instance_35 s0 σ → lv_has ls 8 [] → va_P D classes (Wm ty h σ px) H → va_D A (Wm ty h σ px) → va_S A s.heap H locs → W p l e (headSpec w_Mo_instance rm_Mo_instance).room s m args below meth c H locs 0 0 (MQ below (va_Qi (fun r (u : St) => (r, u) = v) (fun u t => va_P D classes (Wm ty h u px) t.heap) A) args s 0 0 A) (F0 m 35 ls [.int s0]) := by
    intro H locs ls s0 σ hv hk hl hP hD hS
    unfold f_Mo_instance_35 at hv
    unfold k_Mo_instance_35 at hk
    exact W.iret hx hb hr (fun t ht hW => ⟨⟨_, _, rfl, hv.symm, by dsimp only; rw [ht]; exact hP⟩, hS.F ht⟩) hS.2.2 d_Mo_instance_35
  have B29 : ∀ (H : Heap) (locs : List Loc) (ls : Array Slot) (x3 : Int32) (σ : St), v = f_Mo_instance_29 x3 σ → k_Mo_instance_29 x3 σ → lv_has ls 8 [(0, .ref (h 0)), (3, .int x3)] → va_P D classes (Wm ty h σ px) H → va_D A (Wm ty h σ px) → va_S A s.heap H locs → W p l e (headSpec w_Mo_instance rm_Mo_instance).room s m args below meth c H locs 0 0 (MQ below (va_Qi (fun r (u : St) => (r, u) = v) (fun u t => va_P D classes (Wm ty h u px) t.heap) A) args s 0 0 A) (F0 m 29 ls []) := by
    intro H locs ls x3 σ hv hk hl hP hD hS
    unfold f_Mo_instance_29 at hv
    unfold k_Mo_instance_29 at hk
    refine lv_aload_n hx hb d_Mo_instance_29 rfl (lv_at hl 0 rfl) ?_
    refine lv_iconst (v := 1) hx hb d_Mo_instance_30 (by decide) ?_
    refine lv_iload_n hx hb d_Mo_instance_31 rfl (lv_at hl 1 rfl) ?_
    obtain ⟨hk0, hk⟩ := hk
    refine va_calli (va_runV (As := [.int 1, .int x3]) (rest := []) ⟨hx, hb, hml, hown, hg⟩ (c_Mo_fails l D ty h px sa σ H.size 1 x3 hk0) ⟨callB_of 2 hg (gw_C m_1507) rfl rfl rfl (hg _ m_13) (hg _ m_1504) hd_Mo_fails ⟨Nat.le_of_ble_eq_true rfl, Nat.le_of_ble_eq_true rfl⟩, hg _ m_1506, hg _ ms_62⟩ (zz_preVW hM hS hA hN hK hP hD 0 rfl rfl) rfl rfl hl.1 rfl (lv_room (Nat.le_of_ble_eq_true rfl)) d_Mo_instance_32 ⟨Nat.le_of_ble_eq_true rfl, Nat.le_of_ble_eq_true rfl⟩) hS (fun q _ h => zz_free hD hS hA q h) (zz_free hD hS hA) (fun r32 u32 t H locs ht hvm hp hP1 hz hk1 hS => ?_)
    rw [ht] at hP1
    rw [← hp] at hv hk
    have hD : va_D A (Wm ty h u32 px) := zz_D hD rfl
    have hP := hP1
    exact B35 _ _ _ r32 u32 hv hk (lv_sub hl [] rfl) hP hD hS
  have B73 : ∀ (H : Heap) (locs : List Loc) (ls : Array Slot) (s0 : Int32) (σ : St), v = f_Mo_instance_73 s0 σ → k_Mo_instance_73 s0 σ → lv_has ls 8 [] → va_P D classes (Wm ty h σ px) H → va_D A (Wm ty h σ px) → va_S A s.heap H locs → W p l e (headSpec w_Mo_instance rm_Mo_instance).room s m args below meth c H locs 0 0 (MQ below (va_Qi (fun r (u : St) => (r, u) = v) (fun u t => va_P D classes (Wm ty h u px) t.heap) A) args s 0 0 A) (F0 m 73 ls [.int s0]) := by
    intro H locs ls s0 σ hv hk hl hP hD hS
    unfold f_Mo_instance_73 at hv
    unfold k_Mo_instance_73 at hk
    exact W.iret hx hb hr (fun t ht hW => ⟨⟨_, _, rfl, hv.symm, by dsimp only; rw [ht]; exact hP⟩, hS.F ht⟩) hS.2.2 d_Mo_instance_73
  have B67 : ∀ (H : Heap) (locs : List Loc) (ls : Array Slot) (x3 : Int32) (σ : St), v = f_Mo_instance_67 x3 σ → k_Mo_instance_67 x3 σ → lv_has ls 8 [(0, .ref (h 0)), (3, .int x3)] → va_P D classes (Wm ty h σ px) H → va_D A (Wm ty h σ px) → va_S A s.heap H locs → W p l e (headSpec w_Mo_instance rm_Mo_instance).room s m args below meth c H locs 0 0 (MQ below (va_Qi (fun r (u : St) => (r, u) = v) (fun u t => va_P D classes (Wm ty h u px) t.heap) A) args s 0 0 A) (F0 m 67 ls []) := by
    intro H locs ls x3 σ hv hk hl hP hD hS
    unfold f_Mo_instance_67 at hv
    unfold k_Mo_instance_67 at hk
    refine lv_aload_n hx hb d_Mo_instance_67 rfl (lv_at hl 0 rfl) ?_
    refine lv_iconst (v := 2) hx hb d_Mo_instance_68 (by decide) ?_
    refine lv_iload_n hx hb d_Mo_instance_69 rfl (lv_at hl 1 rfl) ?_
    obtain ⟨hk0, hk⟩ := hk
    refine va_calli (va_runV (As := [.int 2, .int x3]) (rest := []) ⟨hx, hb, hml, hown, hg⟩ (c_Mo_fails l D ty h px sa σ H.size 2 x3 hk0) ⟨callB_of 2 hg (gw_C m_1507) rfl rfl rfl (hg _ m_13) (hg _ m_1504) hd_Mo_fails ⟨Nat.le_of_ble_eq_true rfl, Nat.le_of_ble_eq_true rfl⟩, hg _ m_1506, hg _ ms_62⟩ (zz_preVW hM hS hA hN hK hP hD 0 rfl rfl) rfl rfl hl.1 rfl (lv_room (Nat.le_of_ble_eq_true rfl)) d_Mo_instance_70 ⟨Nat.le_of_ble_eq_true rfl, Nat.le_of_ble_eq_true rfl⟩) hS (fun q _ h => zz_free hD hS hA q h) (zz_free hD hS hA) (fun r70 u70 t H locs ht hvm hp hP1 hz hk1 hS => ?_)
    rw [ht] at hP1
    rw [← hp] at hv hk
    have hD : va_D A (Wm ty h u70 px) := zz_D hD rfl
    have hP := hP1
    exact B73 _ _ _ r70 u70 hv hk (lv_sub hl [] rfl) hP hD hS
  have B198 : ∀ (H : Heap) (locs : List Loc) (ls : Array Slot) (s0 : Int32) (σ : St), v = f_Mo_instance_198 s0 σ → k_Mo_instance_198 s0 σ → lv_has ls 8 [] → va_P D classes (Wm ty h σ px) H → va_D A (Wm ty h σ px) → va_S A s.heap H locs → W p l e (headSpec w_Mo_instance rm_Mo_instance).room s m args below meth c H locs 0 0 (MQ below (va_Qi (fun r (u : St) => (r, u) = v) (fun u t => va_P D classes (Wm ty h u px) t.heap) A) args s 0 0 A) (F0 m 198 ls [.int s0]) := by
    intro H locs ls s0 σ hv hk hl hP hD hS
    unfold f_Mo_instance_198 at hv
    unfold k_Mo_instance_198 at hk
    exact W.iret hx hb hr (fun t ht hW => ⟨⟨_, _, rfl, hv.symm, by dsimp only; rw [ht]; exact hP⟩, hS.F ht⟩) hS.2.2 d_Mo_instance_198
  have B231 : ∀ (H : Heap) (locs : List Loc) (ls : Array Slot) (s0 : Int32) (σ : St), v = f_Mo_instance_231 s0 σ → k_Mo_instance_231 s0 σ → lv_has ls 8 [] → va_P D classes (Wm ty h σ px) H → va_D A (Wm ty h σ px) → va_S A s.heap H locs → W p l e (headSpec w_Mo_instance rm_Mo_instance).room s m args below meth c H locs 0 0 (MQ below (va_Qi (fun r (u : St) => (r, u) = v) (fun u t => va_P D classes (Wm ty h u px) t.heap) A) args s 0 0 A) (F0 m 231 ls [.int s0]) := by
    intro H locs ls s0 σ hv hk hl hP hD hS
    unfold f_Mo_instance_231 at hv
    unfold k_Mo_instance_231 at hk
    exact W.iret hx hb hr (fun t ht hW => ⟨⟨_, _, rfl, hv.symm, by dsimp only; rw [ht]; exact hP⟩, hS.F ht⟩) hS.2.2 d_Mo_instance_231
  have B222 : ∀ (H : Heap) (locs : List Loc) (ls : Array Slot) (x3 : Int32) (σ : St), v = f_Mo_instance_222 x3 σ → k_Mo_instance_222 x3 σ → lv_has ls 8 [(0, .ref (h 0)), (3, .int x3)] → va_P D classes (Wm ty h σ px) H → va_D A (Wm ty h σ px) → va_S A s.heap H locs → W p l e (headSpec w_Mo_instance rm_Mo_instance).room s m args below meth c H locs 0 0 (MQ below (va_Qi (fun r (u : St) => (r, u) = v) (fun u t => va_P D classes (Wm ty h u px) t.heap) A) args s 0 0 A) (F0 m 222 ls []) := by
    intro H locs ls x3 σ hv hk hl hP hD hS
    unfold f_Mo_instance_222 at hv
    unfold k_Mo_instance_222 at hk
    refine lv_aload_n hx hb d_Mo_instance_222 rfl (lv_at hl 0 rfl) ?_
    refine lv_aload_n hx hb d_Mo_instance_223 rfl (lv_at hl 0 rfl) ?_
    refine va_get (v := .int (σ.1 0 25)) (C := R_Mo) (T := T_Mo) (N := 51) hx hb hg in_Mo hown hK hP 0 rfl rfl 25 (by decide) (hg _ m_1284) (fun _ h9 => h9) rfl d_Mo_instance_224 ?_
    refine lv_iload_n hx hb d_Mo_instance_227 rfl (lv_at hl 1 rfl) ?_
    obtain ⟨hk0, hk⟩ := hk
    refine va_calli (va_runV (As := [.int (σ.1 0 25), .int x3]) (rest := []) ⟨hx, hb, hml, hown, hg⟩ (c_Mo_enter l D ty h px sa σ H.size (σ.1 0 25) x3 hk0) ⟨callB_of 2 hg (gw_C m_1527) rfl rfl rfl (hg _ m_13) (hg _ m_1524) hd_Mo_enter ⟨Nat.le_of_ble_eq_true rfl, Nat.le_of_ble_eq_true rfl⟩, hg _ m_1526, hg _ ms_66⟩ (zz_preVW hM hS hA hN hK hP hD 0 rfl rfl) rfl rfl hl.1 rfl (lv_room (Nat.le_of_ble_eq_true rfl)) d_Mo_instance_228 ⟨Nat.le_of_ble_eq_true rfl, Nat.le_of_ble_eq_true rfl⟩) hS (fun q _ h => zz_free hD hS hA q h) (zz_free hD hS hA) (fun r228 u228 t H locs ht hvm hp hP1 hz hk1 hS => ?_)
    rw [ht] at hP1
    rw [← hp] at hv hk
    have hD : va_D A (Wm ty h u228 px) := zz_D hD rfl
    have hP := hP1
    exact B231 _ _ _ r228 u228 hv hk (lv_sub hl [] rfl) hP hD hS
  have B216 : ∀ (H : Heap) (locs : List Loc) (ls : Array Slot) (x3 : Int32) (x7 : Int32) (σ : St), v = f_Mo_instance_216 x3 x7 σ → k_Mo_instance_216 x3 x7 σ → lv_has ls 8 [(0, .ref (h 0)), (3, .int x3), (7, .int x7)] → va_P D classes (Wm ty h σ px) H → va_D A (Wm ty h σ px) → va_S A s.heap H locs → W p l e (headSpec w_Mo_instance rm_Mo_instance).room s m args below meth c H locs 0 0 (MQ below (va_Qi (fun r (u : St) => (r, u) = v) (fun u t => va_P D classes (Wm ty h u px) t.heap) A) args s 0 0 A) (F0 m 216 ls []) := by
    intro H locs ls x3 x7 σ hv hk hl hP hD hS
    unfold f_Mo_instance_216 at hv
    unfold k_Mo_instance_216 at hk
    refine lv_aload_n hx hb d_Mo_instance_216 rfl (lv_at hl 0 rfl) ?_
    refine lv_iload hx hb d_Mo_instance_217 (lv_at hl 2 rfl) ?_
    obtain ⟨hk0, hk⟩ := hk
    refine va_callv (va_runV (As := [.int x7]) (rest := []) ⟨hx, hb, hml, hown, hg⟩ (c_Mo_join l D ty h px sa σ H.size x7 hk0) ⟨callB_of 1 hg (gw_C m_1523) rfl rfl rfl (hg _ m_13) (hg _ m_1520) hd_Mo_join ⟨Nat.le_of_ble_eq_true rfl, Nat.le_of_ble_eq_true rfl⟩, hg _ m_1522, hg _ ms_65⟩ (zz_preVW hM hS hA hN hK hP hD 0 rfl rfl) rfl rfl hl.1 rfl (lv_room (Nat.le_of_ble_eq_true rfl)) d_Mo_instance_219 ⟨Nat.le_of_ble_eq_true rfl, Nat.le_of_ble_eq_true rfl⟩) hS (fun q _ h => zz_free hD hS hA q h) (zz_free hD hS hA) (fun u219 t H locs ht hvm hp hP1 hz hk1 hS => ?_)
    rw [ht] at hP1
    rw [← hp] at hv hk
    have hD : va_D A (Wm ty h u219 px) := zz_D hD rfl
    have hP := hP1
    exact B222 _ _ _ x3 u219 hv hk (lv_sub hl [0, 1] rfl) hP hD hS
  have B214 : ∀ (H : Heap) (locs : List Loc) (ls : Array Slot) (x3 : Int32) (s0 : Int32) (σ : St), v = f_Mo_instance_214 x3 s0 σ → k_Mo_instance_214 x3 s0 σ → lv_has ls 8 [(0, .ref (h 0)), (3, .int x3)] → va_P D classes (Wm ty h σ px) H → va_D A (Wm ty h σ px) → va_S A s.heap H locs → W p l e (headSpec w_Mo_instance rm_Mo_instance).room s m args below meth c H locs 0 0 (MQ below (va_Qi (fun r (u : St) => (r, u) = v) (fun u t => va_P D classes (Wm ty h u px) t.heap) A) args s 0 0 A) (F0 m 214 ls [.int s0]) := by
    intro H locs ls x3 s0 σ hv hk hl hP hD hS
    unfold f_Mo_instance_214 at hv
    unfold k_Mo_instance_214 at hk
    refine lv_istore (lv' := [(7, .int s0), (0, .ref (h 0)), (3, .int x3)]) hx hb d_Mo_instance_214 hl (by decide) rfl (fun ls hl => ?_)
    exact B216 _ _ _ x3 s0 σ hv hk (lv_sub hl [1, 2, 0] rfl) hP hD hS
  have B205 : ∀ (H : Heap) (locs : List Loc) (ls : Array Slot) (x2 : Int32) (x3 : Int32) (x4 : Int32) (x5 : Int32) (σ : St), v = f_Mo_instance_205 x2 x3 x4 x5 σ → k_Mo_instance_205 x2 x3 x4 x5 σ → lv_has ls 8 [(0, .ref (h 0)), (2, .int x2), (3, .int x3), (4, .int x4), (5, .int x5)] → va_P D classes (Wm ty h σ px) H → va_D A (Wm ty h σ px) → va_S A s.heap H locs → W p l e (headSpec w_Mo_instance rm_Mo_instance).room s m args below meth c H locs 0 0 (MQ below (va_Qi (fun r (u : St) => (r, u) = v) (fun u t => va_P D classes (Wm ty h u px) t.heap) A) args s 0 0 A) (F0 m 205 ls []) := by
    intro H locs ls x2 x3 x4 x5 σ hv hk hl hP hD hS
    unfold f_Mo_instance_205 at hv
    unfold k_Mo_instance_205 at hk
    refine lv_aload_n hx hb d_Mo_instance_205 rfl (lv_at hl 0 rfl) ?_
    refine lv_iload hx hb d_Mo_instance_206 (lv_at hl 4 rfl) ?_
    refine lv_iload hx hb d_Mo_instance_208 (lv_at hl 3 rfl) ?_
    refine lv_iload_n hx hb d_Mo_instance_210 rfl (lv_at hl 1 rfl) ?_
    obtain ⟨hk0, hk⟩ := hk
    refine va_calli (va_runV (As := [.int x5, .int x4, .int x2]) (rest := []) ⟨hx, hb, hml, hown, hg⟩ (c_Mo_put l D ty h px sa σ H.size x5 x4 x2 hk0) ⟨callB_of 3 hg (gw_C m_1591) rfl rfl rfl (hg _ m_13) (hg _ m_1588) hd_Mo_put ⟨Nat.le_of_ble_eq_true rfl, Nat.le_of_ble_eq_true rfl⟩, hg _ m_1590, hg _ ms_74⟩ (zz_preVW hM hS hA hN hK hP hD 0 rfl rfl) rfl rfl hl.1 rfl (lv_room (Nat.le_of_ble_eq_true rfl)) d_Mo_instance_211 ⟨Nat.le_of_ble_eq_true rfl, Nat.le_of_ble_eq_true rfl⟩) hS (fun q _ h => zz_free hD hS hA q h) (zz_free hD hS hA) (fun r211 u211 t H locs ht hvm hp hP1 hz hk1 hS => ?_)
    rw [ht] at hP1
    rw [← hp] at hv hk
    have hD : va_D A (Wm ty h u211 px) := zz_D hD rfl
    have hP := hP1
    exact B214 _ _ _ x3 r211 u211 hv hk (lv_sub hl [0, 2] rfl) hP hD hS
  have B104 : ∀ (n104 : Nat) (H : Heap) (locs : List Loc) (ls : Array Slot) (x1 : Int32) (x2 : Int32) (x3 : Int32) (x4 : Int32) (x5 : Int32) (x6 : Int32) (x7 : Int32) (σ : St), v = f_Mo_instance_104 n104 x1 x2 x3 x4 x5 x6 x7 σ → k_Mo_instance_104 n104 x1 x2 x3 x4 x5 x6 x7 σ → lv_has ls 8 [(0, .ref (h 0)), (1, .int x1), (2, .int x2), (3, .int x3), (4, .int x4), (5, .int x5), (6, .int x6), (7, .int x7)] → va_P D classes (Wm ty h σ px) H → va_D A (Wm ty h σ px) → va_S A s.heap H locs → W p l e (headSpec w_Mo_instance rm_Mo_instance).room s m args below meth c H locs 0 0 (MQ below (va_Qi (fun r (u : St) => (r, u) = v) (fun u t => va_P D classes (Wm ty h u px) t.heap) A) args s 0 0 A) (F0 m 104 ls []) := by
    intro n104
    induction n104 with
    | zero => intro H locs ls x1 x2 x3 x4 x5 x6 x7 σ hv hk hl hP hD hS; exact hk.elim
    | succ n104 ih104 =>
      have B179 : ∀ (H : Heap) (locs : List Loc) (ls : Array Slot) (x1 : Int32) (x2 : Int32) (x3 : Int32) (x4 : Int32) (x5 : Int32) (x7 : Int32) (s0 : Int32) (σ : St), v = f_Mo_instance_179 (f_Mo_instance_104 n104) x1 x2 x3 x4 x5 x7 s0 σ → k_Mo_instance_179 (k_Mo_instance_104 n104) x1 x2 x3 x4 x5 x7 s0 σ → lv_has ls 8 [(0, .ref (h 0)), (1, .int x1), (2, .int x2), (3, .int x3), (4, .int x4), (5, .int x5), (7, .int x7)] → va_P D classes (Wm ty h σ px) H → va_D A (Wm ty h σ px) → va_S A s.heap H locs → W p l e (headSpec w_Mo_instance rm_Mo_instance).room s m args below meth c H locs 0 0 (MQ below (va_Qi (fun r (u : St) => (r, u) = v) (fun u t => va_P D classes (Wm ty h u px) t.heap) A) args s 0 0 A) (F0 m 179 ls [.int s0]) := by
        intro H locs ls x1 x2 x3 x4 x5 x7 s0 σ hv hk hl hP hD hS
        unfold f_Mo_instance_179 at hv
        unfold k_Mo_instance_179 at hk
        refine lv_istore (lv' := [(6, .int s0), (0, .ref (h 0)), (1, .int x1), (2, .int x2), (3, .int x3), (4, .int x4), (5, .int x5), (7, .int x7)]) hx hb d_Mo_instance_179 hl (by decide) rfl (fun ls hl => ?_)
        refine lv_iinc (k := 7) (v := x7 + 1) (lv' := [(7, .int (x7 + 1)), (6, .int s0), (0, .ref (h 0)), (1, .int x1), (2, .int x2), (3, .int x3), (4, .int x4), (5, .int x5)]) hx hb d_Mo_instance_181 hl rfl (by first | rfl | simp [lit1, litm1]) (by decide) rfl (fun ls hl => ?_)
        refine lv_goto (tgt := 104) hx hb d_Mo_instance_184 (by decide) ?_
        exact ih104 _ _ _ x1 x2 x3 x4 x5 s0 (x7 + 1) σ hv hk (lv_sub hl [2, 3, 4, 5, 6, 7, 1, 0] rfl) hP hD hS
      have B174 : ∀ (H : Heap) (locs : List Loc) (ls : Array Slot) (x1 : Int32) (x2 : Int32) (x3 : Int32) (x4 : Int32) (x5 : Int32) (x7 : Int32) (σ : St), v = f_Mo_instance_174 (f_Mo_instance_104 n104) x1 x2 x3 x4 x5 x7 σ → k_Mo_instance_174 (k_Mo_instance_104 n104) x1 x2 x3 x4 x5 x7 σ → lv_has ls 8 [(0, .ref (h 0)), (1, .int x1), (2, .int x2), (3, .int x3), (4, .int x4), (5, .int x5), (7, .int x7)] → va_P D classes (Wm ty h σ px) H → va_D A (Wm ty h σ px) → va_S A s.heap H locs → W p l e (headSpec w_Mo_instance rm_Mo_instance).room s m args below meth c H locs 0 0 (MQ below (va_Qi (fun r (u : St) => (r, u) = v) (fun u t => va_P D classes (Wm ty h u px) t.heap) A) args s 0 0 A) (F0 m 174 ls []) := by
        intro H locs ls x1 x2 x3 x4 x5 x7 σ hv hk hl hP hD hS
        unfold f_Mo_instance_174 at hv
        unfold k_Mo_instance_174 at hk
        refine lv_iconst (v := 1) hx hb d_Mo_instance_174 (by decide) ?_
        refine lv_goto (tgt := 179) hx hb d_Mo_instance_175 (by decide) ?_
        exact B179 _ _ _ x1 x2 x3 x4 x5 x7 1 σ hv hk (lv_sub hl [0, 1, 2, 3, 4, 5, 6] rfl) hP hD hS
      have B178 : ∀ (H : Heap) (locs : List Loc) (ls : Array Slot) (x1 : Int32) (x2 : Int32) (x3 : Int32) (x4 : Int32) (x5 : Int32) (x7 : Int32) (σ : St), v = f_Mo_instance_178 (f_Mo_instance_104 n104) x1 x2 x3 x4 x5 x7 σ → k_Mo_instance_178 (k_Mo_instance_104 n104) x1 x2 x3 x4 x5 x7 σ → lv_has ls 8 [(0, .ref (h 0)), (1, .int x1), (2, .int x2), (3, .int x3), (4, .int x4), (5, .int x5), (7, .int x7)] → va_P D classes (Wm ty h σ px) H → va_D A (Wm ty h σ px) → va_S A s.heap H locs → W p l e (headSpec w_Mo_instance rm_Mo_instance).room s m args below meth c H locs 0 0 (MQ below (va_Qi (fun r (u : St) => (r, u) = v) (fun u t => va_P D classes (Wm ty h u px) t.heap) A) args s 0 0 A) (F0 m 178 ls []) := by
        intro H locs ls x1 x2 x3 x4 x5 x7 σ hv hk hl hP hD hS
        unfold f_Mo_instance_178 at hv
        unfold k_Mo_instance_178 at hk
        refine lv_iconst (v := 0) hx hb d_Mo_instance_178 (by decide) ?_
        exact B179 _ _ _ x1 x2 x3 x4 x5 x7 0 σ hv hk (lv_sub hl [0, 1, 2, 3, 4, 5, 6] rfl) hP hD hS
      intro H locs ls x1 x2 x3 x4 x5 x6 x7 σ hv hk hl hP hD hS
      rw [f_Mo_instance_104] at hv
      rw [k_Mo_instance_104] at hk
      refine lv_iload hx hb d_Mo_instance_104 (lv_at hl 7 rfl) ?_
      refine lv_iload hx hb d_Mo_instance_106 (lv_at hl 5 rfl) ?_
      refine lv_icmp_gt (tgt := 187) hx hb d_Mo_instance_108 (by decide) (fun hc => ?_) (fun hc => ?_)
      · have hv := hv.trans (if_pos hc)
        have hk := hk.1 hc
        refine lv_iload hx hb d_Mo_instance_187 (lv_at hl 6 rfl) ?_
        refine lv_if_eq (tgt := 199) hx hb d_Mo_instance_189 (by decide) (fun hc => ?_) (fun hc => ?_)
        · have hv := hv.trans (if_pos hc)
          have hk := hk.1 hc
          refine lv_aload_n hx hb d_Mo_instance_199 rfl (lv_at hl 0 rfl) ?_
          refine lv_iload_n hx hb d_Mo_instance_200 rfl (lv_at hl 1 rfl) ?_
          refine lv_iconst (v := 0) hx hb d_Mo_instance_201 (by decide) ?_
          obtain ⟨hk0, hk⟩ := hk
          refine va_callv (va_runV (As := [.int x1, .int 0]) (rest := []) ⟨hx, hb, hml, hown, hg⟩ (c_Mo_joinAs l D ty h px sa σ H.size x1 0 hk0) ⟨callB_of 2 hg (gw_C m_1559) rfl rfl rfl (hg _ m_13) (hg _ m_1556) hd_Mo_joinAs ⟨Nat.le_of_ble_eq_true rfl, Nat.le_of_ble_eq_true rfl⟩, hg _ m_1558, hg _ ms_71⟩ (zz_preVW hM hS hA hN hK hP hD 0 rfl rfl) rfl rfl hl.1 rfl (lv_room (Nat.le_of_ble_eq_true rfl)) d_Mo_instance_202 ⟨Nat.le_of_ble_eq_true rfl, Nat.le_of_ble_eq_true rfl⟩) hS (fun q _ h => zz_free hD hS hA q h) (zz_free hD hS hA) (fun u202 t H locs ht hvm hp hP1 hz hk1 hS => ?_)
          rw [ht] at hP1
          rw [← hp] at hv hk
          have hD : va_D A (Wm ty h u202 px) := zz_D hD rfl
          have hP := hP1
          exact B205 _ _ _ x2 x3 x4 x5 u202 hv hk (lv_sub hl [0, 2, 3, 4, 5] rfl) hP hD hS
        · have hv := hv.trans (if_neg hc)
          have hk := hk.2 hc
          refine lv_aload_n hx hb d_Mo_instance_192 rfl (lv_at hl 0 rfl) ?_
          refine lv_iconst (v := 2) hx hb d_Mo_instance_193 (by decide) ?_
          refine lv_iload_n hx hb d_Mo_instance_194 rfl (lv_at hl 3 rfl) ?_
          obtain ⟨hk0, hk⟩ := hk
          refine va_calli (va_runV (As := [.int 2, .int x3]) (rest := []) ⟨hx, hb, hml, hown, hg⟩ (c_Mo_fails l D ty h px sa σ H.size 2 x3 hk0) ⟨callB_of 2 hg (gw_C m_1507) rfl rfl rfl (hg _ m_13) (hg _ m_1504) hd_Mo_fails ⟨Nat.le_of_ble_eq_true rfl, Nat.le_of_ble_eq_true rfl⟩, hg _ m_1506, hg _ ms_62⟩ (zz_preVW hM hS hA hN hK hP hD 0 rfl rfl) rfl rfl hl.1 rfl (lv_room (Nat.le_of_ble_eq_true rfl)) d_Mo_instance_195 ⟨Nat.le_of_ble_eq_true rfl, Nat.le_of_ble_eq_true rfl⟩) hS (fun q _ h => zz_free hD hS hA q h) (zz_free hD hS hA) (fun r195 u195 t H locs ht hvm hp hP1 hz hk1 hS => ?_)
          rw [ht] at hP1
          rw [← hp] at hv hk
          have hD : va_D A (Wm ty h u195 px) := zz_D hD rfl
          have hP := hP1
          exact B198 _ _ _ r195 u195 hv hk (lv_sub hl [] rfl) hP hD hS
      · have hv := hv.trans (if_neg hc)
        have hk := hk.2 hc
        refine lv_iload hx hb d_Mo_instance_111 (lv_at hl 6 rfl) ?_
        refine lv_if_ne (tgt := 174) hx hb d_Mo_instance_113 (by decide) (fun hc => ?_) (fun hc => ?_)
        · have hv := hv.trans (if_neg hc)
          have hk := hk.2 hc
          exact B174 _ _ _ x1 x2 x3 x4 x5 x7 σ hv hk (lv_sub hl [0, 1, 2, 3, 4, 5, 7] rfl) hP hD hS
        · have hv := hv.trans (if_pos hc)
          have hk := hk.1 hc
          refine lv_aload_n hx hb d_Mo_instance_116 rfl (lv_at hl 0 rfl) ?_
          refine va_get (v := .ref (h 29)) (C := R_Mo) (T := T_Mo) (N := 51) hx hb hg in_Mo hown hK hP 0 rfl rfl 42 (by decide) (hg _ m_1301) (fun _ h9 => h9) rfl d_Mo_instance_117 ?_
          refine lv_iload hx hb d_Mo_instance_120 (lv_at hl 7 rfl) ?_
          obtain ⟨hk0, hk⟩ := hk
          refine va_zald hx hb hK hP 29 3 rfl rfl hk0 d_Mo_instance_122 ?_
          refine lv_if_eq (tgt := 178) hx hb d_Mo_instance_123 (by decide) (fun hc => ?_) (fun hc => ?_)
          · have hv := hv.trans (if_pos hc)
            have hk := hk.1 hc
            exact B178 _ _ _ x1 x2 x3 x4 x5 x7 σ hv hk (lv_sub hl [0, 1, 2, 3, 4, 5, 7] rfl) hP hD hS
          · have hv := hv.trans (if_neg hc)
            have hk := hk.2 hc
            refine lv_aload_n hx hb d_Mo_instance_126 rfl (lv_at hl 0 rfl) ?_
            refine va_get (v := .ref (h 5)) (C := R_Mo) (T := T_Mo) (N := 51) hx hb hg in_Mo hown hK hP 0 rfl rfl 10 (by decide) (hg _ m_1269) (fun _ h9 => h9) rfl d_Mo_instance_127 ?_
            refine lv_iload hx hb d_Mo_instance_130 (lv_at hl 7 rfl) ?_
            obtain ⟨hk0, hk⟩ := hk
            refine va_iald hx hb hK hP 5 0 rfl rfl hk0 d_Mo_instance_132 ?_
            refine lv_bipush (v := 10) hx hb d_Mo_instance_133 (by decide) ?_
            refine lv_icmp_ne (tgt := 178) hx hb d_Mo_instance_135 (by decide) (fun hc => ?_) (fun hc => ?_)
            · have hv := hv.trans (if_neg hc)
              have hk := hk.2 hc
              exact B178 _ _ _ x1 x2 x3 x4 x5 x7 σ hv hk (lv_sub hl [0, 1, 2, 3, 4, 5, 7] rfl) hP hD hS
            · have hv := hv.trans (if_pos hc)
              have hk := hk.1 hc
              refine lv_aload_n hx hb d_Mo_instance_138 rfl (lv_at hl 0 rfl) ?_
              refine va_get (v := .ref (h 13)) (C := R_Mo) (T := T_Mo) (N := 51) hx hb hg in_Mo hown hK hP 0 rfl rfl 18 (by decide) (hg _ m_1277) (fun _ h9 => h9) rfl d_Mo_instance_139 ?_
              refine lv_iload hx hb d_Mo_instance_142 (lv_at hl 7 rfl) ?_
              obtain ⟨hk0, hk⟩ := hk
              refine va_iald hx hb hK hP 13 0 rfl rfl hk0 d_Mo_instance_144 ?_
              refine lv_iload hx hb d_Mo_instance_145 (lv_at hl 4 rfl) ?_
              refine lv_ishr hx hb d_Mo_instance_147 ?_
              refine lv_iconst (v := 1) hx hb d_Mo_instance_148 (by decide) ?_
              refine lv_iand hx hb d_Mo_instance_149 ?_
              refine lv_iconst (v := 1) hx hb d_Mo_instance_150 (by decide) ?_
              refine lv_icmp_ne (tgt := 178) hx hb d_Mo_instance_151 (by decide) (fun hc => ?_) (fun hc => ?_)
              · have hv := hv.trans (if_neg hc)
                have hk := hk.2 hc
                exact B178 _ _ _ x1 x2 x3 x4 x5 x7 σ hv hk (lv_sub hl [0, 1, 2, 3, 4, 5, 7] rfl) hP hD hS
              · have hv := hv.trans (if_pos hc)
                have hk := hk.1 hc
                refine lv_aload_n hx hb d_Mo_instance_154 rfl (lv_at hl 0 rfl) ?_
                refine va_get (v := .ref (h 13)) (C := R_Mo) (T := T_Mo) (N := 51) hx hb hg in_Mo hown hK hP 0 rfl rfl 18 (by decide) (hg _ m_1277) (fun _ h9 => h9) rfl d_Mo_instance_155 ?_
                refine lv_iload_n hx hb d_Mo_instance_158 rfl (lv_at hl 2 rfl) ?_
                obtain ⟨hk0, hk⟩ := hk
                refine va_iald hx hb hK hP 13 0 rfl rfl hk0 d_Mo_instance_159 ?_
                refine lv_aload_n hx hb d_Mo_instance_160 rfl (lv_at hl 0 rfl) ?_
                refine va_get (v := .ref (h 10)) (C := R_Mo) (T := T_Mo) (N := 51) hx hb hg in_Mo hown hK hP 0 rfl rfl 15 (by decide) (hg _ m_1274) (fun _ h9 => h9) rfl d_Mo_instance_161 ?_
                refine lv_iload hx hb d_Mo_instance_164 (lv_at hl 7 rfl) ?_
                obtain ⟨hk0, hk⟩ := hk
                refine va_iald hx hb hK hP 10 0 rfl rfl hk0 d_Mo_instance_166 ?_
                refine lv_ishr hx hb d_Mo_instance_167 ?_
                refine lv_iconst (v := 1) hx hb d_Mo_instance_168 (by decide) ?_
                refine lv_iand hx hb d_Mo_instance_169 ?_
                refine lv_iconst (v := 1) hx hb d_Mo_instance_170 (by decide) ?_
                refine lv_icmp_ne (tgt := 178) hx hb d_Mo_instance_171 (by decide) (fun hc => ?_) (fun hc => ?_)
                · have hv := hv.trans (if_neg hc)
                  have hk := hk.2 hc
                  exact B178 _ _ _ x1 x2 x3 x4 x5 x7 σ hv hk (lv_sub hl [0, 1, 2, 3, 4, 5, 7] rfl) hP hD hS
                · have hv := hv.trans (if_pos hc)
                  have hk := hk.1 hc
                  exact B174 _ _ _ x1 x2 x3 x4 x5 x7 σ hv hk (lv_sub hl [0, 1, 2, 3, 4, 5, 7] rfl) hP hD hS
  have B98 : ∀ (H : Heap) (locs : List Loc) (ls : Array Slot) (x1 : Int32) (x2 : Int32) (x3 : Int32) (x4 : Int32) (x5 : Int32) (σ : St), v = f_Mo_instance_98 x1 x2 x3 x4 x5 σ → k_Mo_instance_98 x1 x2 x3 x4 x5 σ → lv_has ls 8 [(0, .ref (h 0)), (1, .int x1), (2, .int x2), (3, .int x3), (4, .int x4), (5, .int x5)] → va_P D classes (Wm ty h σ px) H → va_D A (Wm ty h σ px) → va_S A s.heap H locs → W p l e (headSpec w_Mo_instance rm_Mo_instance).room s m args below meth c H locs 0 0 (MQ below (va_Qi (fun r (u : St) => (r, u) = v) (fun u t => va_P D classes (Wm ty h u px) t.heap) A) args s 0 0 A) (F0 m 98 ls []) := by
    intro H locs ls x1 x2 x3 x4 x5 σ hv hk hl hP hD hS
    unfold f_Mo_instance_98 at hv
    unfold k_Mo_instance_98 at hk
    refine lv_iconst (v := 0) hx hb d_Mo_instance_98 (by decide) ?_
    refine lv_istore (lv' := [(6, .int 0), (0, .ref (h 0)), (1, .int x1), (2, .int x2), (3, .int x3), (4, .int x4), (5, .int x5)]) hx hb d_Mo_instance_99 hl (by decide) rfl (fun ls hl => ?_)
    refine lv_iconst (v := 0) hx hb d_Mo_instance_101 (by decide) ?_
    refine lv_istore (lv' := [(7, .int 0), (6, .int 0), (0, .ref (h 0)), (1, .int x1), (2, .int x2), (3, .int x3), (4, .int x4), (5, .int x5)]) hx hb d_Mo_instance_102 hl (by decide) rfl (fun ls hl => ?_)
    exact B104 1000 _ _ _ x1 x2 x3 x4 x5 0 0 σ hv hk (lv_sub hl [2, 3, 4, 5, 6, 7, 1, 0] rfl) hP hD hS
  have B90 : ∀ (H : Heap) (locs : List Loc) (ls : Array Slot) (x1 : Int32) (x2 : Int32) (x3 : Int32) (x4 : Int32) (x5 : Int32) (σ : St), v = f_Mo_instance_90 x1 x2 x3 x4 x5 σ → k_Mo_instance_90 x1 x2 x3 x4 x5 σ → lv_has ls 8 [(0, .ref (h 0)), (1, .int x1), (2, .int x2), (3, .int x3), (4, .int x4), (5, .int x5)] → va_P D classes (Wm ty h σ px) H → va_D A (Wm ty h σ px) → va_S A s.heap H locs → W p l e (headSpec w_Mo_instance rm_Mo_instance).room s m args below meth c H locs 0 0 (MQ below (va_Qi (fun r (u : St) => (r, u) = v) (fun u t => va_P D classes (Wm ty h u px) t.heap) A) args s 0 0 A) (F0 m 90 ls []) := by
    intro H locs ls x1 x2 x3 x4 x5 σ hv hk hl hP hD hS
    unfold f_Mo_instance_90 at hv
    unfold k_Mo_instance_90 at hk
    refine lv_aload_n hx hb d_Mo_instance_90 rfl (lv_at hl 0 rfl) ?_
    refine lv_iload hx hb d_Mo_instance_91 (lv_at hl 5 rfl) ?_
    refine lv_iload hx hb d_Mo_instance_93 (lv_at hl 4 rfl) ?_
    obtain ⟨hk0, hk⟩ := hk
    refine va_callv (va_runV (As := [.int x5, .int x4]) (rest := []) ⟨hx, hb, hml, hown, hg⟩ (c_Mo_needFor l D ty h px sa σ H.size x5 x4 hk0) ⟨callB_of 2 hg (gw_C m_1587) rfl rfl rfl (hg _ m_13) (hg _ m_1584) hd_Mo_needFor ⟨Nat.le_of_ble_eq_true rfl, Nat.le_of_ble_eq_true rfl⟩, hg _ m_1586, hg _ ms_73⟩ (zz_preVW hM hS hA hN hK hP hD 0 rfl rfl) rfl rfl hl.1 rfl (lv_room (Nat.le_of_ble_eq_true rfl)) d_Mo_instance_95 ⟨Nat.le_of_ble_eq_true rfl, Nat.le_of_ble_eq_true rfl⟩) hS (fun q _ h => zz_free hD hS hA q h) (zz_free hD hS hA) (fun u95 t H locs ht hvm hp hP1 hz hk1 hS => ?_)
    rw [ht] at hP1
    rw [← hp] at hv hk
    have hD : va_D A (Wm ty h u95 px) := zz_D hD rfl
    have hP := hP1
    exact B98 _ _ _ x1 x2 x3 x4 x5 u95 hv hk (lv_sub hl [0, 1, 2, 3, 4, 5] rfl) hP hD hS
  have B82 : ∀ (H : Heap) (locs : List Loc) (ls : Array Slot) (x1 : Int32) (x2 : Int32) (x3 : Int32) (x4 : Int32) (σ : St), v = f_Mo_instance_82 x1 x2 x3 x4 σ → k_Mo_instance_82 x1 x2 x3 x4 σ → lv_has ls 8 [(0, .ref (h 0)), (1, .int x1), (2, .int x2), (3, .int x3), (4, .int x4)] → va_P D classes (Wm ty h σ px) H → va_D A (Wm ty h σ px) → va_S A s.heap H locs → W p l e (headSpec w_Mo_instance rm_Mo_instance).room s m args below meth c H locs 0 0 (MQ below (va_Qi (fun r (u : St) => (r, u) = v) (fun u t => va_P D classes (Wm ty h u px) t.heap) A) args s 0 0 A) (F0 m 82 ls []) := by
    intro H locs ls x1 x2 x3 x4 σ hv hk hl hP hD hS
    unfold f_Mo_instance_82 at hv
    unfold k_Mo_instance_82 at hk
    refine lv_aload_n hx hb d_Mo_instance_82 rfl (lv_at hl 0 rfl) ?_
    refine va_get (v := .ref (h 8)) (C := R_Mo) (T := T_Mo) (N := 51) hx hb hg in_Mo hown hK hP 0 rfl rfl 13 (by decide) (hg _ m_1272) (fun _ h9 => h9) rfl d_Mo_instance_83 ?_
    refine lv_iload_n hx hb d_Mo_instance_86 rfl (lv_at hl 1 rfl) ?_
    obtain ⟨hk0, hk⟩ := hk
    refine va_iald hx hb hK hP 8 0 rfl rfl hk0 d_Mo_instance_87 ?_
    refine lv_istore (lv' := [(5, .int (σ.1 8 x1.toNatClampNeg)), (0, .ref (h 0)), (1, .int x1), (2, .int x2), (3, .int x3), (4, .int x4)]) hx hb d_Mo_instance_88 hl (by decide) rfl (fun ls hl => ?_)
    exact B90 _ _ _ x1 x2 x3 x4 (σ.1 8 x1.toNatClampNeg) σ hv hk (lv_sub hl [1, 2, 3, 4, 5, 0] rfl) hP hD hS
  have B4 : ∀ (H : Heap) (locs : List Loc) (ls : Array Slot) (x1 : Int32) (x2 : Int32) (s0 : Int32) (σ : St), v = f_Mo_instance_4 x1 x2 s0 σ → k_Mo_instance_4 x1 x2 s0 σ → lv_has ls 8 [(0, .ref (h 0)), (1, .int x1), (2, .int x2)] → va_P D classes (Wm ty h σ px) H → va_D A (Wm ty h σ px) → va_S A s.heap H locs → W p l e (headSpec w_Mo_instance rm_Mo_instance).room s m args below meth c H locs 0 0 (MQ below (va_Qi (fun r (u : St) => (r, u) = v) (fun u t => va_P D classes (Wm ty h u px) t.heap) A) args s 0 0 A) (F0 m 4 ls [.int s0]) := by
    intro H locs ls x1 x2 s0 σ hv hk hl hP hD hS
    unfold f_Mo_instance_4 at hv
    unfold k_Mo_instance_4 at hk
    refine lv_if_eq (tgt := 9) hx hb d_Mo_instance_4 (by decide) (fun hc => ?_) (fun hc => ?_)
    · have hv := hv.trans (if_pos hc)
      have hk := hk.1 hc
      refine lv_sipush (v := 17185) hx hb d_Mo_instance_9 (by decide) ?_
      refine lv_istore_n (lv' := [(3, .int 17185), (0, .ref (h 0)), (1, .int x1), (2, .int x2)]) hx hb d_Mo_instance_12 rfl hl (by decide) rfl (fun ls hl => ?_)
      refine lv_aload_n hx hb d_Mo_instance_13 rfl (lv_at hl 1 rfl) ?_
      refine lv_iload_n hx hb d_Mo_instance_14 rfl (lv_at hl 2 rfl) ?_
      obtain ⟨hk0, hk⟩ := hk
      refine zz_callV (va_runV (As := [.int x1]) (rest := []) ⟨hx, hb, hml, hown, hg⟩ (c_Mo_isTerm l D ty h px sa σ x1 hk0) ⟨callB_of 1 hg (gw_C m_1519) rfl rfl rfl (hg _ m_13) (hg _ m_1516) hd_Mo_isTerm ⟨Nat.le_of_ble_eq_true rfl, Nat.le_of_ble_eq_true rfl⟩, hg _ m_1518, hg _ ms_64⟩ (zz_preV (hM.at hS) hN hK hP 0 rfl rfl) rfl rfl hl.1 rfl (lv_room (Nat.le_of_ble_eq_true rfl)) d_Mo_instance_15 ⟨Nat.le_of_ble_eq_true rfl, Nat.le_of_ble_eq_true rfl⟩) ?_
      refine lv_if_eq (tgt := 29) hx hb d_Mo_instance_18 (by decide) (fun hc => ?_) (fun hc => ?_)
      · have hv := hv.trans (if_pos hc)
        have hk := hk.1 hc
        exact B29 _ _ _ 17185 σ hv hk (lv_sub hl [1, 0] rfl) hP hD hS
      · have hv := hv.trans (if_neg hc)
        have hk := hk.2 hc
        refine lv_aload_n hx hb d_Mo_instance_21 rfl (lv_at hl 1 rfl) ?_
        refine lv_iload_n hx hb d_Mo_instance_22 rfl (lv_at hl 3 rfl) ?_
        obtain ⟨hk0, hk⟩ := hk
        refine zz_callV (va_runV (As := [.int x2]) (rest := []) ⟨hx, hb, hml, hown, hg⟩ (c_Mo_isTerm l D ty h px sa σ x2 hk0) ⟨callB_of 1 hg (gw_C m_1519) rfl rfl rfl (hg _ m_13) (hg _ m_1516) hd_Mo_isTerm ⟨Nat.le_of_ble_eq_true rfl, Nat.le_of_ble_eq_true rfl⟩, hg _ m_1518, hg _ ms_64⟩ (zz_preV (hM.at hS) hN hK hP 0 rfl rfl) rfl rfl hl.1 rfl (lv_room (Nat.le_of_ble_eq_true rfl)) d_Mo_instance_23 ⟨Nat.le_of_ble_eq_true rfl, Nat.le_of_ble_eq_true rfl⟩) ?_
        refine lv_if_ne (tgt := 36) hx hb d_Mo_instance_26 (by decide) (fun hc => ?_) (fun hc => ?_)
        · have hv := hv.trans (if_neg hc)
          have hk := hk.2 hc
          refine lv_aload_n hx hb d_Mo_instance_36 rfl (lv_at hl 1 rfl) ?_
          refine va_get (v := .ref (h 5)) (C := R_Mo) (T := T_Mo) (N := 51) hx hb hg in_Mo hown hK hP 0 rfl rfl 10 (by decide) (hg _ m_1269) (fun _ h9 => h9) rfl d_Mo_instance_37 ?_
          refine lv_iload_n hx hb d_Mo_instance_40 rfl (lv_at hl 2 rfl) ?_
          obtain ⟨hk0, hk⟩ := hk
          refine va_iald hx hb hK hP 5 0 rfl rfl hk0 d_Mo_instance_41 ?_
          refine lv_bipush (v := 10) hx hb d_Mo_instance_42 (by decide) ?_
          refine lv_icmp_ne (tgt := 67) hx hb d_Mo_instance_44 (by decide) (fun hc => ?_) (fun hc => ?_)
          · have hv := hv.trans (if_neg hc)
            have hk := hk.2 hc
            exact B67 _ _ _ 17185 σ hv hk (lv_sub hl [1, 0] rfl) hP hD hS
          · have hv := hv.trans (if_pos hc)
            have hk := hk.1 hc
            refine lv_aload_n hx hb d_Mo_instance_47 rfl (lv_at hl 1 rfl) ?_
            refine va_get (v := .ref (h 6)) (C := R_Mo) (T := T_Mo) (N := 51) hx hb hg in_Mo hown hK hP 0 rfl rfl 11 (by decide) (hg _ m_1270) (fun _ h9 => h9) rfl d_Mo_instance_48 ?_
            refine lv_iload_n hx hb d_Mo_instance_51 rfl (lv_at hl 3 rfl) ?_
            obtain ⟨hk0, hk⟩ := hk
            refine va_iald hx hb hK hP 6 0 rfl rfl hk0 d_Mo_instance_52 ?_
            refine lv_aload_n hx hb d_Mo_instance_53 rfl (lv_at hl 1 rfl) ?_
            refine va_get (v := .ref (h 4)) (C := R_Mo) (T := T_Mo) (N := 51) hx hb hg in_Mo hown hK hP 0 rfl rfl 7 (by decide) (hg _ m_1266) (fun _ h9 => h9) rfl d_Mo_instance_54 ?_
            refine lv_aload_n hx hb d_Mo_instance_57 rfl (lv_at hl 1 rfl) ?_
            refine va_get (v := .ref (h 10)) (C := R_Mo) (T := T_Mo) (N := 51) hx hb hg in_Mo hown hK hP 0 rfl rfl 15 (by decide) (hg _ m_1274) (fun _ h9 => h9) rfl d_Mo_instance_58 ?_
            refine lv_iload_n hx hb d_Mo_instance_61 rfl (lv_at hl 2 rfl) ?_
            obtain ⟨hk0, hk⟩ := hk
            refine va_iald hx hb hK hP 10 0 rfl rfl hk0 d_Mo_instance_62 ?_
            obtain ⟨hk0, hk⟩ := hk
            refine va_iald hx hb hK hP 4 0 rfl rfl hk0 d_Mo_instance_63 ?_
            refine lv_icmp_eq (tgt := 74) hx hb d_Mo_instance_64 (by decide) (fun hc => ?_) (fun hc => ?_)
            · have hv := hv.trans (if_pos hc)
              have hk := hk.1 hc
              refine lv_aload_n hx hb d_Mo_instance_74 rfl (lv_at hl 1 rfl) ?_
              refine va_get (v := .ref (h 10)) (C := R_Mo) (T := T_Mo) (N := 51) hx hb hg in_Mo hown hK hP 0 rfl rfl 15 (by decide) (hg _ m_1274) (fun _ h9 => h9) rfl d_Mo_instance_75 ?_
              refine lv_iload_n hx hb d_Mo_instance_78 rfl (lv_at hl 2 rfl) ?_
              obtain ⟨hk0, hk⟩ := hk
              refine va_iald hx hb hK hP 10 0 rfl rfl hk0 d_Mo_instance_79 ?_
              refine lv_istore (lv' := [(4, .int (σ.1 10 x1.toNatClampNeg)), (3, .int 17185), (0, .ref (h 0)), (1, .int x1), (2, .int x2)]) hx hb d_Mo_instance_80 hl (by decide) rfl (fun ls hl => ?_)
              exact B82 _ _ _ x1 x2 17185 (σ.1 10 x1.toNatClampNeg) σ hv hk (lv_sub hl [2, 3, 4, 1, 0] rfl) hP hD hS
            · have hv := hv.trans (if_neg hc)
              have hk := hk.2 hc
              exact B67 _ _ _ 17185 σ hv hk (lv_sub hl [1, 0] rfl) hP hD hS
        · have hv := hv.trans (if_pos hc)
          have hk := hk.1 hc
          exact B29 _ _ _ 17185 σ hv hk (lv_sub hl [1, 0] rfl) hP hD hS
    · have hv := hv.trans (if_neg hc)
      have hk := hk.2 hc
      refine lv_iconst (v := -1) hx hb d_Mo_instance_7 (by decide) ?_
      exact W.iret hx hb hr (fun t ht hW => ⟨⟨_, _, rfl, hv.symm, by dsimp only; rw [ht]; exact hP⟩, hS.F ht⟩) hS.2.2 d_Mo_instance_8
  unfold f_Mo_instance at hv
  unfold k_Mo_instance at hk
  refine lv_aload_n hx hb d_Mo_instance_0 rfl (lv_at hl 0 rfl) ?_
  obtain ⟨hk0, hk⟩ := hk
  refine va_calli (va_runV (As := []) (rest := []) ⟨hx, hb, hml, hown, hg⟩ (c_Mo_begin l D ty h px sa σ s.heap.size  hk0) ⟨callB_of 0 hg (gw_C m_1443) rfl rfl rfl (hg _ m_13) (hg _ m_1440) hd_Mo_begin ⟨Nat.le_of_ble_eq_true rfl, Nat.le_of_ble_eq_true rfl⟩, hg _ m_1442, hg _ ms_49⟩ (zz_preVW hM hS hA hN hK hP hD 0 rfl rfl) rfl rfl hl.1 rfl (lv_room (Nat.le_of_ble_eq_true rfl)) d_Mo_instance_1 ⟨Nat.le_of_ble_eq_true rfl, Nat.le_of_ble_eq_true rfl⟩) hS (fun q _ h => zz_free hD hS hA q h) (zz_free hD hS hA) (fun r1 u1 t H locs ht hvm hp hP1 hz hk1 hS => ?_)
  rw [ht] at hP1
  rw [← hp] at hv hk
  have hD : va_D A (Wm ty h u1 px) := zz_D hD rfl
  have hP := hP1
  exact B4 _ _ _ a1 a2 r1 u1 hv hk (lv_sub hl [0, 1, 2] rfl) hP hD hS

-- ClauseLedgerModel.commonOf(JJ)J
abbrev b_Mo_commonOf : ByteArray := prog_14_method_48_code
def y_Mo_commonOf : MethodName := ⟨"ClauseLedgerModel", "commonOf", "(JJ)J"⟩
theorem hd_Mo_commonOf : y_Mo_commonOf.cls ≠ "java/lang/invoke/MethodHandle" ∧ y_Mo_commonOf.cls ≠ "java/lang/invoke/VarHandle" ∧ (parseMethodDescriptor y_Mo_commonOf.desc).map (fun d => d.parameters.length) = some 2 := by decide +kernel
theorem d_Mo_commonOf_0 : decode b_Mo_commonOf 0 = .ok (.lload_n 0, 1) := by decide +kernel
theorem d_Mo_commonOf_1 : decode b_Mo_commonOf 1 = .ok (.lconst 0, 1) := by decide +kernel
theorem d_Mo_commonOf_2 : decode b_Mo_commonOf 2 = .ok (.lcmp, 1) := by decide +kernel
theorem d_Mo_commonOf_3 : decode b_Mo_commonOf 3 = .ok (.ifCond .ge 8, 3) := by decide +kernel
theorem d_Mo_commonOf_6 : decode b_Mo_commonOf 6 = .ok (.lload_n 0, 1) := by decide +kernel
theorem d_Mo_commonOf_7 : decode b_Mo_commonOf 7 = .ok (.lneg, 1) := by decide +kernel
theorem d_Mo_commonOf_8 : decode b_Mo_commonOf 8 = .ok (.goto 4, 3) := by decide +kernel
theorem d_Mo_commonOf_11 : decode b_Mo_commonOf 11 = .ok (.lload_n 0, 1) := by decide +kernel
theorem d_Mo_commonOf_12 : decode b_Mo_commonOf 12 = .ok (.lstore 4, 2) := by decide +kernel
theorem d_Mo_commonOf_14 : decode b_Mo_commonOf 14 = .ok (.lload_n 2, 1) := by decide +kernel
theorem d_Mo_commonOf_15 : decode b_Mo_commonOf 15 = .ok (.lstore 6, 2) := by decide +kernel
theorem d_Mo_commonOf_17 : decode b_Mo_commonOf 17 = .ok (.lload 6, 2) := by decide +kernel
theorem d_Mo_commonOf_19 : decode b_Mo_commonOf 19 = .ok (.lconst 0, 1) := by decide +kernel
theorem d_Mo_commonOf_20 : decode b_Mo_commonOf 20 = .ok (.lcmp, 1) := by decide +kernel
theorem d_Mo_commonOf_21 : decode b_Mo_commonOf 21 = .ok (.ifCond .eq 21, 3) := by decide +kernel
theorem d_Mo_commonOf_24 : decode b_Mo_commonOf 24 = .ok (.lload 4, 2) := by decide +kernel
theorem d_Mo_commonOf_26 : decode b_Mo_commonOf 26 = .ok (.lload 6, 2) := by decide +kernel
theorem d_Mo_commonOf_28 : decode b_Mo_commonOf 28 = .ok (.lrem, 1) := by decide +kernel
theorem d_Mo_commonOf_29 : decode b_Mo_commonOf 29 = .ok (.lstore 8, 2) := by decide +kernel
theorem d_Mo_commonOf_31 : decode b_Mo_commonOf 31 = .ok (.lload 6, 2) := by decide +kernel
theorem d_Mo_commonOf_33 : decode b_Mo_commonOf 33 = .ok (.lstore 4, 2) := by decide +kernel
theorem d_Mo_commonOf_35 : decode b_Mo_commonOf 35 = .ok (.lload 8, 2) := by decide +kernel
theorem d_Mo_commonOf_37 : decode b_Mo_commonOf 37 = .ok (.lstore 6, 2) := by decide +kernel
theorem d_Mo_commonOf_39 : decode b_Mo_commonOf 39 = .ok (.goto (-22), 3) := by decide +kernel
theorem d_Mo_commonOf_42 : decode b_Mo_commonOf 42 = .ok (.lload 4, 2) := by decide +kernel
theorem d_Mo_commonOf_44 : decode b_Mo_commonOf 44 = .ok (.lreturn, 1) := by decide +kernel
def f_Mo_commonOf_17 : Nat → Int64 → Int64 → St → Int64
  | 0, _, _, σ => 0
  | n + 1, x4, x6, σ => if (lg_cmp x6 0) = 0 then x4 else ((f_Mo_commonOf_17 n) x6 (x4 - x4 / x6 * x6) σ)
def k_Mo_commonOf_17 : Nat → Int64 → Int64 → St → Prop
  | 0, _, _, _ => False
  | n + 1, x4, x6, σ => ((lg_cmp x6 0) = 0 → True) ∧ (¬ (lg_cmp x6 0) = 0 → ((¬ (x6 : Int64) = 0) ∧ ((k_Mo_commonOf_17 n) x6 (x4 - x4 / x6 * x6) σ)))
def f_Mo_commonOf_12 (x2 : Int64) (s0 : Int64) (σ : St) : Int64 := f_Mo_commonOf_17 1000 s0 x2 σ
def k_Mo_commonOf_12 (x2 : Int64) (s0 : Int64) (σ : St) : Prop := k_Mo_commonOf_17 1000 s0 x2 σ
def f_Mo_commonOf (a0 : Int64) (a2 : Int64) (σ : St) : Int64 := if 0 ≤ (lg_cmp a0 0) then (f_Mo_commonOf_12 a2 a0 σ) else (f_Mo_commonOf_12 a2 (-a0) σ)
def k_Mo_commonOf (a0 : Int64) (a2 : Int64) (σ : St) : Prop := (0 ≤ (lg_cmp a0 0) → (k_Mo_commonOf_12 a2 a0 σ)) ∧ (¬ 0 ≤ (lg_cmp a0 0) → (k_Mo_commonOf_12 a2 (-a0) σ))
abbrev w_Mo_commonOf : List Cond := Cond.code y_Mo_commonOf b_Mo_commonOf 10 (some .long) :: gw
abbrev rm_Mo_commonOf : Room := { frames := 0, cells := 0, slots := 0, locals := 0 }
set_option maxHeartbeats 4000000 in
set_option maxRecDepth 100000 in
theorem c_Mo_commonOf (l : Launch) (D : va_G) (ty : Nat → ClassId) (h : Nat → Nat) (px : va_W) (sa : Nat → Nat) (σ : St) (a0 : Int64) (a2 : Int64) (hk : k_Mo_commonOf a0 a2 σ) : Met l y_Mo_commonOf w_Mo_commonOf rm_Mo_commonOf (va_Pc [.long a0, .long a2] (fun U => va_P D classes (Wm ty h σ px) U.heap ∧ va_K D classes (Ta ty) U ∧ NW U ∧ MK sa (fun _ => False) U U.heap)) (k2_QcV (.long (f_Mo_commonOf a0 a2 σ))) 0 0 (fun _ => False) := by
  refine Met.ofW (cc := b_Mo_commonOf) (maxL := 10) (ret := (some .long)) (by decide) rfl ?_
  intro p e s m args below meth c s₁ B hml hv
  obtain ⟨ha, hP, hK, hN, hM⟩ := hv
  have hx := B.exec
  have hb := B.bytes
  have hr := B.returns
  have hg : ∀ w ∈ gw, w.before args s = true := fun w h9 => atoms_spec (ws := w_Mo_commonOf) B.pre w (List.mem_cons_of_mem _ h9)
  have hown : s.vm.findClass "ClauseLedgerModel" = some m.cls := findClass_of_methodNamed B.named
  have hlocks := B.notSynchronized
  have he : entryFrame m args 10 = entryFrame m ([.long a0, .long a2] : List Value).toArray 10 := by rw [ha]
  rw [he, lg_entry_eq]
  have hl := lv_entry ([.long a0, .long a2]) (n := 10) (Nat.le_of_ble_eq_true rfl)
  generalize (lg_sl ([.long a0, .long a2]) ++ List.replicate (10 - (lg_sl ([.long a0, .long a2])).length) Slot.unset).toArray = ls at hl ⊢
  have hl : lv_has ls 10 [(0, .long a0), (2, .long a2)] := hl
  generalize hv : f_Mo_commonOf a0 a2 σ = v
  replace hv := hv.symm
  have B17 : ∀ (n17 : Nat) (ls : Array Slot) (x4 : Int64) (x6 : Int64), v = f_Mo_commonOf_17 n17 x4 x6 σ → k_Mo_commonOf_17 n17 x4 x6 σ → lv_has ls 10 [(4, .long x4), (6, .long x6)] → W p l e (headSpec w_Mo_commonOf rm_Mo_commonOf).room s m args below meth c s.heap [] 0 0 (MQ below (k2_QcV (.long v)) args s 0 0 (fun _ => False)) (F0 m 17 ls []) := by
    intro n17
    induction n17 with
    | zero => intro ls x4 x6 hv hk hl; exact hk.elim
    | succ n17 ih17 =>
      intro ls x4 x6 hv hk hl
      rw [f_Mo_commonOf_17] at hv
      rw [k_Mo_commonOf_17] at hk
      refine lv_lload hx hb d_Mo_commonOf_17 (lv_at hl 1 rfl) ?_
      refine lv_lconst (v := 0) hx hb d_Mo_commonOf_19 (by decide) ?_
      refine W.lcmp hx hb d_Mo_commonOf_20 ?_
      refine lv_if_eq (tgt := 42) hx hb d_Mo_commonOf_21 (by decide) (fun hc => ?_) (fun hc => ?_)
      · have hv := hv.trans (if_pos hc)
        have hk := hk.1 hc
        refine lv_lload hx hb d_Mo_commonOf_42 (lv_at hl 0 rfl) ?_
        exact W.lret hx hb hr (fun t ht hW => ⟨by rw [hv], ht⟩) (fun q h => nomatch h) d_Mo_commonOf_44
      · have hv := hv.trans (if_neg hc)
        have hk := hk.2 hc
        refine lv_lload hx hb d_Mo_commonOf_24 (lv_at hl 0 rfl) ?_
        refine lv_lload hx hb d_Mo_commonOf_26 (lv_at hl 1 rfl) ?_
        obtain ⟨hk0, hk⟩ := hk
        refine lv_lrem hx hb d_Mo_commonOf_28 hk0 ?_
        refine lv_lstore (lv' := [(8, .long (x4 - x4 / x6 * x6)), (4, .long x4), (6, .long x6)]) hx hb d_Mo_commonOf_29 hl (by decide) rfl (fun ls hl => ?_)
        refine lv_lload hx hb d_Mo_commonOf_31 (lv_at hl 2 rfl) ?_
        refine lv_lstore (lv' := [(4, .long x6), (8, .long (x4 - x4 / x6 * x6)), (6, .long x6)]) hx hb d_Mo_commonOf_33 hl (by decide) rfl (fun ls hl => ?_)
        refine lv_lload hx hb d_Mo_commonOf_35 (lv_at hl 1 rfl) ?_
        refine lv_lstore (lv' := [(6, .long (x4 - x4 / x6 * x6)), (4, .long x6), (8, .long (x4 - x4 / x6 * x6))]) hx hb d_Mo_commonOf_37 hl (by decide) rfl (fun ls hl => ?_)
        refine lv_goto (tgt := 17) hx hb d_Mo_commonOf_39 (by decide) ?_
        exact ih17 _ x6 (x4 - x4 / x6 * x6) hv hk (lv_sub hl [1, 0] rfl)
  have B12 : ∀ (ls : Array Slot) (x2 : Int64) (s0 : Int64), v = f_Mo_commonOf_12 x2 s0 σ → k_Mo_commonOf_12 x2 s0 σ → lv_has ls 10 [(2, .long x2)] → W p l e (headSpec w_Mo_commonOf rm_Mo_commonOf).room s m args below meth c s.heap [] 0 0 (MQ below (k2_QcV (.long v)) args s 0 0 (fun _ => False)) (F0 m 12 ls [.long s0]) := by
    intro ls x2 s0 hv hk hl
    unfold f_Mo_commonOf_12 at hv
    unfold k_Mo_commonOf_12 at hk
    refine lv_lstore (lv' := [(4, .long s0), (2, .long x2)]) hx hb d_Mo_commonOf_12 hl (by decide) rfl (fun ls hl => ?_)
    refine lv_lload_n hx hb d_Mo_commonOf_14 rfl (lv_at hl 1 rfl) ?_
    refine lv_lstore (lv' := [(6, .long x2), (4, .long s0), (2, .long x2)]) hx hb d_Mo_commonOf_15 hl (by decide) rfl (fun ls hl => ?_)
    exact B17 1000 _ s0 x2 hv hk (lv_sub hl [1, 0] rfl)
  unfold f_Mo_commonOf at hv
  unfold k_Mo_commonOf at hk
  refine lv_lload_n hx hb d_Mo_commonOf_0 rfl (lv_at hl 0 rfl) ?_
  refine lv_lconst (v := 0) hx hb d_Mo_commonOf_1 (by decide) ?_
  refine W.lcmp hx hb d_Mo_commonOf_2 ?_
  refine lv_if_ge (tgt := 11) hx hb d_Mo_commonOf_3 (by decide) (fun hc => ?_) (fun hc => ?_)
  · have hv := hv.trans (if_pos hc)
    have hk := hk.1 hc
    refine lv_lload_n hx hb d_Mo_commonOf_11 rfl (lv_at hl 0 rfl) ?_
    exact B12 _ a2 a0 hv hk (lv_sub hl [1] rfl)
  · have hv := hv.trans (if_neg hc)
    have hk := hk.2 hc
    refine lv_lload_n hx hb d_Mo_commonOf_6 rfl (lv_at hl 0 rfl) ?_
    refine lv_lneg hx hb d_Mo_commonOf_7 ?_
    refine lv_goto (tgt := 12) hx hb d_Mo_commonOf_8 (by decide) ?_
    exact B12 _ a2 (-a0) hv hk (lv_sub hl [1] rfl)

-- ClauseLedgerModel.become(JJ)V
abbrev b_Mo_become : ByteArray := prog_14_method_49_code
def y_Mo_become : MethodName := ⟨"ClauseLedgerModel", "become", "(JJ)V"⟩
theorem hd_Mo_become : y_Mo_become.cls ≠ "java/lang/invoke/MethodHandle" ∧ y_Mo_become.cls ≠ "java/lang/invoke/VarHandle" ∧ (parseMethodDescriptor y_Mo_become.desc).map (fun d => d.parameters.length) = some 2 := by decide +kernel
theorem d_Mo_become_0 : decode b_Mo_become 0 = .ok (.lload_n 1, 1) := by decide +kernel
theorem d_Mo_become_1 : decode b_Mo_become 1 = .ok (.lload_n 3, 1) := by decide +kernel
theorem d_Mo_become_2 : decode b_Mo_become 2 = .ok (.invokestatic 247, 3) := by decide +kernel
theorem d_Mo_become_5 : decode b_Mo_become 5 = .ok (.lstore 5, 2) := by decide +kernel
theorem d_Mo_become_7 : decode b_Mo_become 7 = .ok (.aload_n 0, 1) := by decide +kernel
theorem d_Mo_become_8 : decode b_Mo_become 8 = .ok (.lload_n 1, 1) := by decide +kernel
theorem d_Mo_become_9 : decode b_Mo_become 9 = .ok (.lload 5, 2) := by decide +kernel
theorem d_Mo_become_11 : decode b_Mo_become 11 = .ok (.ldiv, 1) := by decide +kernel
theorem d_Mo_become_12 : decode b_Mo_become 12 = .ok (.putfield 251, 3) := by decide +kernel
theorem d_Mo_become_15 : decode b_Mo_become 15 = .ok (.aload_n 0, 1) := by decide +kernel
theorem d_Mo_become_16 : decode b_Mo_become 16 = .ok (.lload_n 3, 1) := by decide +kernel
theorem d_Mo_become_17 : decode b_Mo_become 17 = .ok (.lload 5, 2) := by decide +kernel
theorem d_Mo_become_19 : decode b_Mo_become 19 = .ok (.ldiv, 1) := by decide +kernel
theorem d_Mo_become_20 : decode b_Mo_become 20 = .ok (.putfield 255, 3) := by decide +kernel
theorem d_Mo_become_23 : decode b_Mo_become 23 = .ok (.aload_n 0, 1) := by decide +kernel
theorem d_Mo_become_24 : decode b_Mo_become 24 = .ok (.aload_n 0, 1) := by decide +kernel
theorem d_Mo_become_25 : decode b_Mo_become 25 = .ok (.getfield 258, 3) := by decide +kernel
theorem d_Mo_become_28 : decode b_Mo_become 28 = .ok (.ifCond .ne 36, 3) := by decide +kernel
theorem d_Mo_become_31 : decode b_Mo_become 31 = .ok (.aload_n 0, 1) := by decide +kernel
theorem d_Mo_become_32 : decode b_Mo_become 32 = .ok (.getfield 251, 3) := by decide +kernel
theorem d_Mo_become_35 : decode b_Mo_become 35 = .ok (.ldc2_w 261, 3) := by decide +kernel
theorem d_Mo_become_38 : decode b_Mo_become 38 = .ok (.lcmp, 1) := by decide +kernel
theorem d_Mo_become_39 : decode b_Mo_become 39 = .ok (.ifCond .lt 25, 3) := by decide +kernel
theorem d_Mo_become_42 : decode b_Mo_become 42 = .ok (.aload_n 0, 1) := by decide +kernel
theorem d_Mo_become_43 : decode b_Mo_become 43 = .ok (.getfield 251, 3) := by decide +kernel
theorem d_Mo_become_46 : decode b_Mo_become 46 = .ok (.ldc2_w 263, 3) := by decide +kernel
theorem d_Mo_become_49 : decode b_Mo_become 49 = .ok (.lcmp, 1) := by decide +kernel
theorem d_Mo_become_50 : decode b_Mo_become 50 = .ok (.ifCond .gt 14, 3) := by decide +kernel
theorem d_Mo_become_53 : decode b_Mo_become 53 = .ok (.aload_n 0, 1) := by decide +kernel
theorem d_Mo_become_54 : decode b_Mo_become 54 = .ok (.getfield 255, 3) := by decide +kernel
theorem d_Mo_become_57 : decode b_Mo_become 57 = .ok (.ldc2_w 263, 3) := by decide +kernel
theorem d_Mo_become_60 : decode b_Mo_become 60 = .ok (.lcmp, 1) := by decide +kernel
theorem d_Mo_become_61 : decode b_Mo_become 61 = .ok (.ifCond .le 7, 3) := by decide +kernel
theorem d_Mo_become_64 : decode b_Mo_become 64 = .ok (.iconst 1, 1) := by decide +kernel
theorem d_Mo_become_65 : decode b_Mo_become 65 = .ok (.goto 4, 3) := by decide +kernel
theorem d_Mo_become_68 : decode b_Mo_become 68 = .ok (.iconst 0, 1) := by decide +kernel
theorem d_Mo_become_69 : decode b_Mo_become 69 = .ok (.putfield 258, 3) := by decide +kernel
theorem d_Mo_become_72 : decode b_Mo_become 72 = .ok (.return_, 1) := by decide +kernel
def f_Mo_become_72 (σ : St) : St := σ
def k_Mo_become_72 (σ : St) : Prop := True
def f_Mo_become_69 (s0 : Int32) (σ : St) : St := f_Mo_become_72 (sF σ 0 45 s0)
def k_Mo_become_69 (s0 : Int32) (σ : St) : Prop := (narrow .boolean (.int s0) = .int s0 ∧ fits .boolean (.int s0) = true) ∧ (k_Mo_become_72 (sF σ 0 45 s0))
def f_Mo_become_64 (σ : St) : St := f_Mo_become_69 1 σ
def k_Mo_become_64 (σ : St) : Prop := k_Mo_become_69 1 σ
def f_Mo_become_23 (σ : St) : St := if (σ.1 0 45) = 0 then (if (lg_cmp (σ.2 0 43) (-1000000000)) < 0 then (f_Mo_become_64 σ) else (if 0 < (lg_cmp (σ.2 0 43) 1000000000) then (f_Mo_become_64 σ) else (if (lg_cmp (σ.2 0 44) 1000000000) ≤ 0 then (f_Mo_become_69 0 σ) else (f_Mo_become_64 σ)))) else (f_Mo_become_64 σ)
def k_Mo_become_23 (σ : St) : Prop := ((σ.1 0 45) = 0 → (((lg_cmp (σ.2 0 43) (-1000000000)) < 0 → (k_Mo_become_64 σ)) ∧ (¬ (lg_cmp (σ.2 0 43) (-1000000000)) < 0 → ((0 < (lg_cmp (σ.2 0 43) 1000000000) → (k_Mo_become_64 σ)) ∧ (¬ 0 < (lg_cmp (σ.2 0 43) 1000000000) → (((lg_cmp (σ.2 0 44) 1000000000) ≤ 0 → (k_Mo_become_69 0 σ)) ∧ (¬ (lg_cmp (σ.2 0 44) 1000000000) ≤ 0 → (k_Mo_become_64 σ)))))))) ∧ (¬ (σ.1 0 45) = 0 → (k_Mo_become_64 σ))
def f_Mo_become_15 (x3 : Int64) (x5 : Int64) (σ : St) : St := f_Mo_become_23 (sG σ 0 44 (x3 / x5))
def k_Mo_become_15 (x3 : Int64) (x5 : Int64) (σ : St) : Prop := (¬ (x5 : Int64) = 0) ∧ (k_Mo_become_23 (sG σ 0 44 (x3 / x5)))
def f_Mo_become_7 (x1 : Int64) (x3 : Int64) (x5 : Int64) (σ : St) : St := f_Mo_become_15 x3 x5 (sG σ 0 43 (x1 / x5))
def k_Mo_become_7 (x1 : Int64) (x3 : Int64) (x5 : Int64) (σ : St) : Prop := (¬ (x5 : Int64) = 0) ∧ (k_Mo_become_15 x3 x5 (sG σ 0 43 (x1 / x5)))
def f_Mo_become (a1 : Int64) (a3 : Int64) (σ : St) : St := f_Mo_become_7 a1 a3 (f_Mo_commonOf a1 a3 σ) σ
def k_Mo_become (a1 : Int64) (a3 : Int64) (σ : St) : Prop := (k_Mo_commonOf a1 a3 σ) ∧ (k_Mo_become_7 a1 a3 (f_Mo_commonOf a1 a3 σ) σ)
abbrev w_Mo_become : List Cond := Cond.code y_Mo_become b_Mo_become 7 none :: gw
abbrev rm_Mo_become : Room := { frames := 1, cells := 0, slots := 0, locals := 29 }
set_option maxHeartbeats 4000000 in
set_option maxRecDepth 100000 in
theorem c_Mo_become (l : Launch) (D : va_G) (ty : Nat → ClassId) (h : Nat → Nat) (px : va_W) (sa : Nat → Nat) (σ : St) (sz : Nat) (a1 : Int64) (a3 : Int64) (hk : k_Mo_become a1 a3 σ) : Met l y_Mo_become w_Mo_become rm_Mo_become (va_Pc [.ref (h 0), .long a1, .long a3] (fun U => U.heap.size = sz ∧ va_P D classes (Wm ty h σ px) U.heap ∧ va_K D classes (Ta ty) U ∧ NW U ∧ MK sa (va_A (Wm ty h σ px) sz) U U.heap ∧ va_D (fun _ => True) (Wm ty h σ px))) (va_Qv (fun u : St => u = f_Mo_become a1 a3 σ) (fun u t => va_P D classes (Wm ty h u px) t.heap) (va_A (Wm ty h σ px) sz)) 0 0 (va_A (Wm ty h σ px) sz) := by
  refine Met.ofW (cc := b_Mo_become) (maxL := 7) (ret := none) (by decide) rfl ?_
  intro p e s m args below meth c s₁ B hml hv
  obtain ⟨ha, hsz, hP, hK, hN, hM, hD0⟩ := hv
  have hx := B.exec
  have hb := B.bytes
  have hr := B.returns
  have hg : ∀ w ∈ gw, w.before args s = true := fun w h9 => atoms_spec (ws := w_Mo_become) B.pre w (List.mem_cons_of_mem _ h9)
  have hown : s.vm.findClass "ClauseLedgerModel" = some m.cls := findClass_of_methodNamed B.named
  have hlocks := B.notSynchronized
  subst hsz
  have hD := hD0.self (sz := s.heap.size)
  generalize hAe : va_A (Wm ty h σ px) s.heap.size = A at hD hM ⊢
  have hA : ∀ q : Nat, s.heap.size ≤ q → A q := fun q h9 => by rw [← hAe]; exact Or.inr h9
  have hS : va_S A s.heap s.heap [] := va_S.rf
  have he : entryFrame m args 7 = entryFrame m ([.ref (h 0), .long a1, .long a3] : List Value).toArray 7 := by rw [ha]
  rw [he, lg_entry_eq]
  have hl := lv_entry ([.ref (h 0), .long a1, .long a3]) (n := 7) (Nat.le_of_ble_eq_true rfl)
  generalize (lg_sl ([.ref (h 0), .long a1, .long a3]) ++ List.replicate (7 - (lg_sl ([.ref (h 0), .long a1, .long a3])).length) Slot.unset).toArray = ls at hl ⊢
  have hl : lv_has ls 7 [(0, .ref (h 0)), (1, .long a1), (3, .long a3)] := hl
  generalize hv : f_Mo_become a1 a3 σ = v
  replace hv := hv.symm
  have B72 : ∀ (H : Heap) (locs : List Loc) (ls : Array Slot) (σ : St), v = f_Mo_become_72 σ → k_Mo_become_72 σ → lv_has ls 7 [] → va_P D classes (Wm ty h σ px) H → va_D A (Wm ty h σ px) → va_S A s.heap H locs → W p l e (headSpec w_Mo_become rm_Mo_become).room s m args below meth c H locs 0 0 (MQ below (va_Qv (fun u : St => u = v) (fun u t => va_P D classes (Wm ty h u px) t.heap) A) args s 0 0 A) (F0 m 72 ls []) := by
    intro H locs ls σ hv hk hl hP hD hS
    unfold f_Mo_become_72 at hv
    unfold k_Mo_become_72 at hk
    exact W.vret hx hb hr (fun t ht hW => ⟨⟨_, rfl, hv.symm, by dsimp only; rw [ht]; exact hP⟩, hS.F ht⟩) hS.2.2 d_Mo_become_72
  have B69 : ∀ (H : Heap) (locs : List Loc) (ls : Array Slot) (s0 : Int32) (σ : St), v = f_Mo_become_69 s0 σ → k_Mo_become_69 s0 σ → lv_has ls 7 [] → va_P D classes (Wm ty h σ px) H → va_D A (Wm ty h σ px) → va_S A s.heap H locs → W p l e (headSpec w_Mo_become rm_Mo_become).room s m args below meth c H locs 0 0 (MQ below (va_Qv (fun u : St => u = v) (fun u t => va_P D classes (Wm ty h u px) t.heap) A) args s 0 0 A) (F0 m 69 ls [.int s0, .ref (h 0)]) := by
    intro H locs ls s0 σ hv hk hl hP hD hS
    unfold f_Mo_become_69 at hv
    unfold k_Mo_become_69 at hk
    obtain ⟨hk0, hk⟩ := hk
    refine va_put (v := .int s0) (ty := .boolean) (C := R_Mo) (T := T_Mo) (N := 51) hx hb hg in_Mo ty_Mo ok_Mo nm_Mo hown hK hP hD hS 0 rfl rfl 45 (by decide) (hg _ m_1304) (fun _ h9 => h9) rfl (by decide +kernel) hk0.1 hk0.2 (Nat.le_of_ble_eq_true rfl) d_Mo_become_69 (fun H locs hP hD hS => ?_)
    have hP : va_P D classes (Wm ty h (sF σ 0 45 s0) px) H := hP
    have hD : va_D A (Wm ty h (sF σ 0 45 s0) px) := hD
    exact B72 _ _ _  (sF σ 0 45 s0) hv hk (lv_sub hl [] rfl) hP hD hS
  have B64 : ∀ (H : Heap) (locs : List Loc) (ls : Array Slot) (σ : St), v = f_Mo_become_64 σ → k_Mo_become_64 σ → lv_has ls 7 [] → va_P D classes (Wm ty h σ px) H → va_D A (Wm ty h σ px) → va_S A s.heap H locs → W p l e (headSpec w_Mo_become rm_Mo_become).room s m args below meth c H locs 0 0 (MQ below (va_Qv (fun u : St => u = v) (fun u t => va_P D classes (Wm ty h u px) t.heap) A) args s 0 0 A) (F0 m 64 ls [.ref (h 0)]) := by
    intro H locs ls σ hv hk hl hP hD hS
    unfold f_Mo_become_64 at hv
    unfold k_Mo_become_64 at hk
    refine lv_iconst (v := 1) hx hb d_Mo_become_64 (by decide) ?_
    refine lv_goto (tgt := 69) hx hb d_Mo_become_65 (by decide) ?_
    exact B69 _ _ _ 1 σ hv hk (lv_sub hl [] rfl) hP hD hS
  have B23 : ∀ (H : Heap) (locs : List Loc) (ls : Array Slot) (σ : St), v = f_Mo_become_23 σ → k_Mo_become_23 σ → lv_has ls 7 [(0, .ref (h 0))] → va_P D classes (Wm ty h σ px) H → va_D A (Wm ty h σ px) → va_S A s.heap H locs → W p l e (headSpec w_Mo_become rm_Mo_become).room s m args below meth c H locs 0 0 (MQ below (va_Qv (fun u : St => u = v) (fun u t => va_P D classes (Wm ty h u px) t.heap) A) args s 0 0 A) (F0 m 23 ls []) := by
    intro H locs ls σ hv hk hl hP hD hS
    unfold f_Mo_become_23 at hv
    unfold k_Mo_become_23 at hk
    refine lv_aload_n hx hb d_Mo_become_23 rfl (lv_at hl 0 rfl) ?_
    refine lv_aload_n hx hb d_Mo_become_24 rfl (lv_at hl 0 rfl) ?_
    refine va_get (v := .int (σ.1 0 45)) (C := R_Mo) (T := T_Mo) (N := 51) hx hb hg in_Mo hown hK hP 0 rfl rfl 45 (by decide) (hg _ m_1304) (fun _ h9 => h9) rfl d_Mo_become_25 ?_
    refine lv_if_ne (tgt := 64) hx hb d_Mo_become_28 (by decide) (fun hc => ?_) (fun hc => ?_)
    · have hv := hv.trans (if_neg hc)
      have hk := hk.2 hc
      exact B64 _ _ _  σ hv hk (lv_sub hl [] rfl) hP hD hS
    · have hv := hv.trans (if_pos hc)
      have hk := hk.1 hc
      refine lv_aload_n hx hb d_Mo_become_31 rfl (lv_at hl 0 rfl) ?_
      refine va_get (v := .long (σ.2 0 43)) (C := R_Mo) (T := T_Mo) (N := 51) hx hb hg in_Mo hown hK hP 0 rfl rfl 43 (by decide) (hg _ m_1302) (fun _ h9 => h9) rfl d_Mo_become_32 ?_
      refine lv_ldc2 (v := (-1000000000)) hx hb hown (hg _ m_1623) d_Mo_become_35 ?_
      refine W.lcmp hx hb d_Mo_become_38 ?_
      refine lv_if_lt (tgt := 64) hx hb d_Mo_become_39 (by decide) (fun hc => ?_) (fun hc => ?_)
      · have hv := hv.trans (if_pos hc)
        have hk := hk.1 hc
        exact B64 _ _ _  σ hv hk (lv_sub hl [] rfl) hP hD hS
      · have hv := hv.trans (if_neg hc)
        have hk := hk.2 hc
        refine lv_aload_n hx hb d_Mo_become_42 rfl (lv_at hl 0 rfl) ?_
        refine va_get (v := .long (σ.2 0 43)) (C := R_Mo) (T := T_Mo) (N := 51) hx hb hg in_Mo hown hK hP 0 rfl rfl 43 (by decide) (hg _ m_1302) (fun _ h9 => h9) rfl d_Mo_become_43 ?_
        refine lv_ldc2 (v := 1000000000) hx hb hown (hg _ m_1624) d_Mo_become_46 ?_
        refine W.lcmp hx hb d_Mo_become_49 ?_
        refine lv_if_gt (tgt := 64) hx hb d_Mo_become_50 (by decide) (fun hc => ?_) (fun hc => ?_)
        · have hv := hv.trans (if_pos hc)
          have hk := hk.1 hc
          exact B64 _ _ _  σ hv hk (lv_sub hl [] rfl) hP hD hS
        · have hv := hv.trans (if_neg hc)
          have hk := hk.2 hc
          refine lv_aload_n hx hb d_Mo_become_53 rfl (lv_at hl 0 rfl) ?_
          refine va_get (v := .long (σ.2 0 44)) (C := R_Mo) (T := T_Mo) (N := 51) hx hb hg in_Mo hown hK hP 0 rfl rfl 44 (by decide) (hg _ m_1303) (fun _ h9 => h9) rfl d_Mo_become_54 ?_
          refine lv_ldc2 (v := 1000000000) hx hb hown (hg _ m_1624) d_Mo_become_57 ?_
          refine W.lcmp hx hb d_Mo_become_60 ?_
          refine lv_if_le (tgt := 68) hx hb d_Mo_become_61 (by decide) (fun hc => ?_) (fun hc => ?_)
          · have hv := hv.trans (if_pos hc)
            have hk := hk.1 hc
            refine lv_iconst (v := 0) hx hb d_Mo_become_68 (by decide) ?_
            exact B69 _ _ _ 0 σ hv hk (lv_sub hl [] rfl) hP hD hS
          · have hv := hv.trans (if_neg hc)
            have hk := hk.2 hc
            exact B64 _ _ _  σ hv hk (lv_sub hl [] rfl) hP hD hS
  have B15 : ∀ (H : Heap) (locs : List Loc) (ls : Array Slot) (x3 : Int64) (x5 : Int64) (σ : St), v = f_Mo_become_15 x3 x5 σ → k_Mo_become_15 x3 x5 σ → lv_has ls 7 [(0, .ref (h 0)), (3, .long x3), (5, .long x5)] → va_P D classes (Wm ty h σ px) H → va_D A (Wm ty h σ px) → va_S A s.heap H locs → W p l e (headSpec w_Mo_become rm_Mo_become).room s m args below meth c H locs 0 0 (MQ below (va_Qv (fun u : St => u = v) (fun u t => va_P D classes (Wm ty h u px) t.heap) A) args s 0 0 A) (F0 m 15 ls []) := by
    intro H locs ls x3 x5 σ hv hk hl hP hD hS
    unfold f_Mo_become_15 at hv
    unfold k_Mo_become_15 at hk
    refine lv_aload_n hx hb d_Mo_become_15 rfl (lv_at hl 0 rfl) ?_
    refine lv_lload_n hx hb d_Mo_become_16 rfl (lv_at hl 1 rfl) ?_
    refine lv_lload hx hb d_Mo_become_17 (lv_at hl 2 rfl) ?_
    obtain ⟨hk0, hk⟩ := hk
    refine lv_ldiv hx hb d_Mo_become_19 hk0 ?_
    refine va_put (v := .long (x3 / x5)) (ty := .long) (C := R_Mo) (T := T_Mo) (N := 51) hx hb hg in_Mo ty_Mo ok_Mo nm_Mo hown hK hP hD hS 0 rfl rfl 44 (by decide) (hg _ m_1303) (fun _ h9 => h9) rfl (by decide +kernel) rfl rfl (Nat.le_of_ble_eq_true rfl) d_Mo_become_20 (fun H locs hP hD hS => ?_)
    have hP : va_P D classes (Wm ty h (sG σ 0 44 (x3 / x5)) px) H := hP
    have hD : va_D A (Wm ty h (sG σ 0 44 (x3 / x5)) px) := hD
    exact B23 _ _ _  (sG σ 0 44 (x3 / x5)) hv hk (lv_sub hl [0] rfl) hP hD hS
  have B7 : ∀ (H : Heap) (locs : List Loc) (ls : Array Slot) (x1 : Int64) (x3 : Int64) (x5 : Int64) (σ : St), v = f_Mo_become_7 x1 x3 x5 σ → k_Mo_become_7 x1 x3 x5 σ → lv_has ls 7 [(0, .ref (h 0)), (1, .long x1), (3, .long x3), (5, .long x5)] → va_P D classes (Wm ty h σ px) H → va_D A (Wm ty h σ px) → va_S A s.heap H locs → W p l e (headSpec w_Mo_become rm_Mo_become).room s m args below meth c H locs 0 0 (MQ below (va_Qv (fun u : St => u = v) (fun u t => va_P D classes (Wm ty h u px) t.heap) A) args s 0 0 A) (F0 m 7 ls []) := by
    intro H locs ls x1 x3 x5 σ hv hk hl hP hD hS
    unfold f_Mo_become_7 at hv
    unfold k_Mo_become_7 at hk
    refine lv_aload_n hx hb d_Mo_become_7 rfl (lv_at hl 0 rfl) ?_
    refine lv_lload_n hx hb d_Mo_become_8 rfl (lv_at hl 1 rfl) ?_
    refine lv_lload hx hb d_Mo_become_9 (lv_at hl 3 rfl) ?_
    obtain ⟨hk0, hk⟩ := hk
    refine lv_ldiv hx hb d_Mo_become_11 hk0 ?_
    refine va_put (v := .long (x1 / x5)) (ty := .long) (C := R_Mo) (T := T_Mo) (N := 51) hx hb hg in_Mo ty_Mo ok_Mo nm_Mo hown hK hP hD hS 0 rfl rfl 43 (by decide) (hg _ m_1302) (fun _ h9 => h9) rfl (by decide +kernel) rfl rfl (Nat.le_of_ble_eq_true rfl) d_Mo_become_12 (fun H locs hP hD hS => ?_)
    have hP : va_P D classes (Wm ty h (sG σ 0 43 (x1 / x5)) px) H := hP
    have hD : va_D A (Wm ty h (sG σ 0 43 (x1 / x5)) px) := hD
    exact B15 _ _ _ x3 x5 (sG σ 0 43 (x1 / x5)) hv hk (lv_sub hl [0, 2, 3] rfl) hP hD hS
  unfold f_Mo_become at hv
  unfold k_Mo_become at hk
  refine lv_lload_n hx hb d_Mo_become_0 rfl (lv_at hl 1 rfl) ?_
  refine lv_lload_n hx hb d_Mo_become_1 rfl (lv_at hl 2 rfl) ?_
  obtain ⟨hk0, hk⟩ := hk
  refine zz_callV (va_runS (As := [.long a1, .long a3]) (rest := []) ⟨hx, hb, hml, hown, hg⟩ (c_Mo_commonOf l D ty h px sa σ a1 a3 hk0) ⟨callB_of 2 hg (gw_C m_1622) rfl rfl rfl (hg _ m_13) (hg _ m_1620) hd_Mo_commonOf ⟨Nat.le_of_ble_eq_true rfl, Nat.le_of_ble_eq_true rfl⟩, hg _ m_1621⟩ (zz_preS (hM.at hS) hN hK hP) rfl rfl hl.1 rfl (lv_room (Nat.le_of_ble_eq_true rfl)) d_Mo_become_2 ⟨Nat.le_of_ble_eq_true rfl, Nat.le_of_ble_eq_true rfl⟩) ?_
  refine lv_lstore (lv' := [(5, .long (f_Mo_commonOf a1 a3 σ)), (0, .ref (h 0)), (1, .long a1), (3, .long a3)]) hx hb d_Mo_become_5 hl (by decide) rfl (fun ls hl => ?_)
  exact B7 _ _ _ a1 a3 (f_Mo_commonOf a1 a3 σ) σ hv hk (lv_sub hl [1, 2, 3, 0] rfl) hP hD hS

-- ClauseLedgerModel.coefficient(II)V
abbrev b_Mo_coefficient : ByteArray := prog_14_method_50_code
def y_Mo_coefficient : MethodName := ⟨"ClauseLedgerModel", "coefficient", "(II)V"⟩
theorem hd_Mo_coefficient : y_Mo_coefficient.cls ≠ "java/lang/invoke/MethodHandle" ∧ y_Mo_coefficient.cls ≠ "java/lang/invoke/VarHandle" ∧ (parseMethodDescriptor y_Mo_coefficient.desc).map (fun d => d.parameters.length) = some 2 := by decide +kernel
theorem d_Mo_coefficient_0 : decode b_Mo_coefficient 0 = .ok (.aload_n 0, 1) := by decide +kernel
theorem d_Mo_coefficient_1 : decode b_Mo_coefficient 1 = .ok (.iload_n 1, 1) := by decide +kernel
theorem d_Mo_coefficient_2 : decode b_Mo_coefficient 2 = .ok (.invokevirtual 265, 3) := by decide +kernel
theorem d_Mo_coefficient_5 : decode b_Mo_coefficient 5 = .ok (.iconst 0, 1) := by decide +kernel
theorem d_Mo_coefficient_6 : decode b_Mo_coefficient 6 = .ok (.istore_n 3, 1) := by decide +kernel
theorem d_Mo_coefficient_7 : decode b_Mo_coefficient 7 = .ok (.iload_n 3, 1) := by decide +kernel
theorem d_Mo_coefficient_8 : decode b_Mo_coefficient 8 = .ok (.iload_n 1, 1) := by decide +kernel
theorem d_Mo_coefficient_9 : decode b_Mo_coefficient 9 = .ok (.if_icmp .gt 241, 3) := by decide +kernel
theorem d_Mo_coefficient_12 : decode b_Mo_coefficient 12 = .ok (.aload_n 0, 1) := by decide +kernel
theorem d_Mo_coefficient_13 : decode b_Mo_coefficient 13 = .ok (.getfield 258, 3) := by decide +kernel
theorem d_Mo_coefficient_16 : decode b_Mo_coefficient 16 = .ok (.ifCond .ne 234, 3) := by decide +kernel
theorem d_Mo_coefficient_19 : decode b_Mo_coefficient 19 = .ok (.aload_n 0, 1) := by decide +kernel
theorem d_Mo_coefficient_20 : decode b_Mo_coefficient 20 = .ok (.getfield 100, 3) := by decide +kernel
theorem d_Mo_coefficient_23 : decode b_Mo_coefficient 23 = .ok (.iload_n 3, 1) := by decide +kernel
theorem d_Mo_coefficient_24 : decode b_Mo_coefficient 24 = .ok (.baload, 1) := by decide +kernel
theorem d_Mo_coefficient_25 : decode b_Mo_coefficient 25 = .ok (.ifCond .ne 6, 3) := by decide +kernel
theorem d_Mo_coefficient_28 : decode b_Mo_coefficient 28 = .ok (.goto 216, 3) := by decide +kernel
theorem d_Mo_coefficient_31 : decode b_Mo_coefficient 31 = .ok (.aload_n 0, 1) := by decide +kernel
theorem d_Mo_coefficient_32 : decode b_Mo_coefficient 32 = .ok (.getfield 35, 3) := by decide +kernel
theorem d_Mo_coefficient_35 : decode b_Mo_coefficient 35 = .ok (.iload_n 3, 1) := by decide +kernel
theorem d_Mo_coefficient_36 : decode b_Mo_coefficient 36 = .ok (.iaload, 1) := by decide +kernel
theorem d_Mo_coefficient_37 : decode b_Mo_coefficient 37 = .ok (.istore 4, 2) := by decide +kernel
theorem d_Mo_coefficient_39 : decode b_Mo_coefficient 39 = .ok (.aload_n 0, 1) := by decide +kernel
theorem d_Mo_coefficient_40 : decode b_Mo_coefficient 40 = .ok (.getfield 38, 3) := by decide +kernel
theorem d_Mo_coefficient_43 : decode b_Mo_coefficient 43 = .ok (.iload_n 3, 1) := by decide +kernel
theorem d_Mo_coefficient_44 : decode b_Mo_coefficient 44 = .ok (.iaload, 1) := by decide +kernel
theorem d_Mo_coefficient_45 : decode b_Mo_coefficient 45 = .ok (.istore 5, 2) := by decide +kernel
theorem d_Mo_coefficient_47 : decode b_Mo_coefficient 47 = .ok (.aload_n 0, 1) := by decide +kernel
theorem d_Mo_coefficient_48 : decode b_Mo_coefficient 48 = .ok (.getfield 26, 3) := by decide +kernel
theorem d_Mo_coefficient_51 : decode b_Mo_coefficient 51 = .ok (.iload_n 3, 1) := by decide +kernel
theorem d_Mo_coefficient_52 : decode b_Mo_coefficient 52 = .ok (.iaload, 1) := by decide +kernel
theorem d_Mo_coefficient_53 : decode b_Mo_coefficient 53 = .ok (.tableswitch 156 2 4 #[27, 64, 117], 27) := by decide +kernel
theorem d_Mo_coefficient_80 : decode b_Mo_coefficient 80 = .ok (.aload_n 0, 1) := by decide +kernel
theorem d_Mo_coefficient_81 : decode b_Mo_coefficient 81 = .ok (.iload_n 2, 1) := by decide +kernel
theorem d_Mo_coefficient_82 : decode b_Mo_coefficient 82 = .ok (.ifCond .ge 13, 3) := by decide +kernel
theorem d_Mo_coefficient_85 : decode b_Mo_coefficient 85 = .ok (.aload_n 0, 1) := by decide +kernel
theorem d_Mo_coefficient_86 : decode b_Mo_coefficient 86 = .ok (.getfield 44, 3) := by decide +kernel
theorem d_Mo_coefficient_89 : decode b_Mo_coefficient 89 = .ok (.iload_n 3, 1) := by decide +kernel
theorem d_Mo_coefficient_90 : decode b_Mo_coefficient 90 = .ok (.iaload, 1) := by decide +kernel
theorem d_Mo_coefficient_91 : decode b_Mo_coefficient 91 = .ok (.i2l, 1) := by decide +kernel
theorem d_Mo_coefficient_92 : decode b_Mo_coefficient 92 = .ok (.goto 4, 3) := by decide +kernel
theorem d_Mo_coefficient_95 : decode b_Mo_coefficient 95 = .ok (.lconst 0, 1) := by decide +kernel
theorem d_Mo_coefficient_96 : decode b_Mo_coefficient 96 = .ok (.iload_n 2, 1) := by decide +kernel
theorem d_Mo_coefficient_97 : decode b_Mo_coefficient 97 = .ok (.ifCond .ge 13, 3) := by decide +kernel
theorem d_Mo_coefficient_100 : decode b_Mo_coefficient 100 = .ok (.aload_n 0, 1) := by decide +kernel
theorem d_Mo_coefficient_101 : decode b_Mo_coefficient 101 = .ok (.getfield 47, 3) := by decide +kernel
theorem d_Mo_coefficient_104 : decode b_Mo_coefficient 104 = .ok (.iload_n 3, 1) := by decide +kernel
theorem d_Mo_coefficient_105 : decode b_Mo_coefficient 105 = .ok (.iaload, 1) := by decide +kernel
theorem d_Mo_coefficient_106 : decode b_Mo_coefficient 106 = .ok (.i2l, 1) := by decide +kernel
theorem d_Mo_coefficient_107 : decode b_Mo_coefficient 107 = .ok (.goto 4, 3) := by decide +kernel
theorem d_Mo_coefficient_110 : decode b_Mo_coefficient 110 = .ok (.lconst 1, 1) := by decide +kernel
theorem d_Mo_coefficient_111 : decode b_Mo_coefficient 111 = .ok (.invokevirtual 268, 3) := by decide +kernel
theorem d_Mo_coefficient_114 : decode b_Mo_coefficient 114 = .ok (.goto 110, 3) := by decide +kernel
theorem d_Mo_coefficient_117 : decode b_Mo_coefficient 117 = .ok (.aload_n 0, 1) := by decide +kernel
theorem d_Mo_coefficient_118 : decode b_Mo_coefficient 118 = .ok (.aload_n 0, 1) := by decide +kernel
theorem d_Mo_coefficient_119 : decode b_Mo_coefficient 119 = .ok (.getfield 93, 3) := by decide +kernel
theorem d_Mo_coefficient_122 : decode b_Mo_coefficient 122 = .ok (.iload 4, 2) := by decide +kernel
theorem d_Mo_coefficient_124 : decode b_Mo_coefficient 124 = .ok (.laload, 1) := by decide +kernel
theorem d_Mo_coefficient_125 : decode b_Mo_coefficient 125 = .ok (.aload_n 0, 1) := by decide +kernel
theorem d_Mo_coefficient_126 : decode b_Mo_coefficient 126 = .ok (.getfield 97, 3) := by decide +kernel
theorem d_Mo_coefficient_129 : decode b_Mo_coefficient 129 = .ok (.iload 5, 2) := by decide +kernel
theorem d_Mo_coefficient_131 : decode b_Mo_coefficient 131 = .ok (.laload, 1) := by decide +kernel
theorem d_Mo_coefficient_132 : decode b_Mo_coefficient 132 = .ok (.lmul, 1) := by decide +kernel
theorem d_Mo_coefficient_133 : decode b_Mo_coefficient 133 = .ok (.aload_n 0, 1) := by decide +kernel
theorem d_Mo_coefficient_134 : decode b_Mo_coefficient 134 = .ok (.getfield 93, 3) := by decide +kernel
theorem d_Mo_coefficient_137 : decode b_Mo_coefficient 137 = .ok (.iload 5, 2) := by decide +kernel
theorem d_Mo_coefficient_139 : decode b_Mo_coefficient 139 = .ok (.laload, 1) := by decide +kernel
theorem d_Mo_coefficient_140 : decode b_Mo_coefficient 140 = .ok (.aload_n 0, 1) := by decide +kernel
theorem d_Mo_coefficient_141 : decode b_Mo_coefficient 141 = .ok (.getfield 97, 3) := by decide +kernel
theorem d_Mo_coefficient_144 : decode b_Mo_coefficient 144 = .ok (.iload 4, 2) := by decide +kernel
theorem d_Mo_coefficient_146 : decode b_Mo_coefficient 146 = .ok (.laload, 1) := by decide +kernel
theorem d_Mo_coefficient_147 : decode b_Mo_coefficient 147 = .ok (.lmul, 1) := by decide +kernel
theorem d_Mo_coefficient_148 : decode b_Mo_coefficient 148 = .ok (.ladd, 1) := by decide +kernel
theorem d_Mo_coefficient_149 : decode b_Mo_coefficient 149 = .ok (.aload_n 0, 1) := by decide +kernel
theorem d_Mo_coefficient_150 : decode b_Mo_coefficient 150 = .ok (.getfield 97, 3) := by decide +kernel
theorem d_Mo_coefficient_153 : decode b_Mo_coefficient 153 = .ok (.iload 4, 2) := by decide +kernel
theorem d_Mo_coefficient_155 : decode b_Mo_coefficient 155 = .ok (.laload, 1) := by decide +kernel
theorem d_Mo_coefficient_156 : decode b_Mo_coefficient 156 = .ok (.aload_n 0, 1) := by decide +kernel
theorem d_Mo_coefficient_157 : decode b_Mo_coefficient 157 = .ok (.getfield 97, 3) := by decide +kernel
theorem d_Mo_coefficient_160 : decode b_Mo_coefficient 160 = .ok (.iload 5, 2) := by decide +kernel
theorem d_Mo_coefficient_162 : decode b_Mo_coefficient 162 = .ok (.laload, 1) := by decide +kernel
theorem d_Mo_coefficient_163 : decode b_Mo_coefficient 163 = .ok (.lmul, 1) := by decide +kernel
theorem d_Mo_coefficient_164 : decode b_Mo_coefficient 164 = .ok (.invokevirtual 268, 3) := by decide +kernel
theorem d_Mo_coefficient_167 : decode b_Mo_coefficient 167 = .ok (.goto 57, 3) := by decide +kernel
theorem d_Mo_coefficient_170 : decode b_Mo_coefficient 170 = .ok (.aload_n 0, 1) := by decide +kernel
theorem d_Mo_coefficient_171 : decode b_Mo_coefficient 171 = .ok (.aload_n 0, 1) := by decide +kernel
theorem d_Mo_coefficient_172 : decode b_Mo_coefficient 172 = .ok (.getfield 93, 3) := by decide +kernel
theorem d_Mo_coefficient_175 : decode b_Mo_coefficient 175 = .ok (.iload 5, 2) := by decide +kernel
theorem d_Mo_coefficient_177 : decode b_Mo_coefficient 177 = .ok (.laload, 1) := by decide +kernel
theorem d_Mo_coefficient_178 : decode b_Mo_coefficient 178 = .ok (.aload_n 0, 1) := by decide +kernel
theorem d_Mo_coefficient_179 : decode b_Mo_coefficient 179 = .ok (.getfield 44, 3) := by decide +kernel
theorem d_Mo_coefficient_182 : decode b_Mo_coefficient 182 = .ok (.iload 4, 2) := by decide +kernel
theorem d_Mo_coefficient_184 : decode b_Mo_coefficient 184 = .ok (.iaload, 1) := by decide +kernel
theorem d_Mo_coefficient_185 : decode b_Mo_coefficient 185 = .ok (.i2l, 1) := by decide +kernel
theorem d_Mo_coefficient_186 : decode b_Mo_coefficient 186 = .ok (.lmul, 1) := by decide +kernel
theorem d_Mo_coefficient_187 : decode b_Mo_coefficient 187 = .ok (.aload_n 0, 1) := by decide +kernel
theorem d_Mo_coefficient_188 : decode b_Mo_coefficient 188 = .ok (.getfield 97, 3) := by decide +kernel
theorem d_Mo_coefficient_191 : decode b_Mo_coefficient 191 = .ok (.iload 5, 2) := by decide +kernel
theorem d_Mo_coefficient_193 : decode b_Mo_coefficient 193 = .ok (.laload, 1) := by decide +kernel
theorem d_Mo_coefficient_194 : decode b_Mo_coefficient 194 = .ok (.aload_n 0, 1) := by decide +kernel
theorem d_Mo_coefficient_195 : decode b_Mo_coefficient 195 = .ok (.getfield 47, 3) := by decide +kernel
theorem d_Mo_coefficient_198 : decode b_Mo_coefficient 198 = .ok (.iload 4, 2) := by decide +kernel
theorem d_Mo_coefficient_200 : decode b_Mo_coefficient 200 = .ok (.iaload, 1) := by decide +kernel
theorem d_Mo_coefficient_201 : decode b_Mo_coefficient 201 = .ok (.i2l, 1) := by decide +kernel
theorem d_Mo_coefficient_202 : decode b_Mo_coefficient 202 = .ok (.lmul, 1) := by decide +kernel
theorem d_Mo_coefficient_203 : decode b_Mo_coefficient 203 = .ok (.invokevirtual 268, 3) := by decide +kernel
theorem d_Mo_coefficient_206 : decode b_Mo_coefficient 206 = .ok (.goto 18, 3) := by decide +kernel
theorem d_Mo_coefficient_209 : decode b_Mo_coefficient 209 = .ok (.aload_n 0, 1) := by decide +kernel
theorem d_Mo_coefficient_210 : decode b_Mo_coefficient 210 = .ok (.iload_n 3, 1) := by decide +kernel
theorem d_Mo_coefficient_211 : decode b_Mo_coefficient 211 = .ok (.iload_n 2, 1) := by decide +kernel
theorem d_Mo_coefficient_212 : decode b_Mo_coefficient 212 = .ok (.if_icmp .ne 7, 3) := by decide +kernel
theorem d_Mo_coefficient_215 : decode b_Mo_coefficient 215 = .ok (.lconst 1, 1) := by decide +kernel
theorem d_Mo_coefficient_216 : decode b_Mo_coefficient 216 = .ok (.goto 4, 3) := by decide +kernel
theorem d_Mo_coefficient_219 : decode b_Mo_coefficient 219 = .ok (.lconst 0, 1) := by decide +kernel
theorem d_Mo_coefficient_220 : decode b_Mo_coefficient 220 = .ok (.lconst 1, 1) := by decide +kernel
theorem d_Mo_coefficient_221 : decode b_Mo_coefficient 221 = .ok (.invokevirtual 268, 3) := by decide +kernel
theorem d_Mo_coefficient_224 : decode b_Mo_coefficient 224 = .ok (.aload_n 0, 1) := by decide +kernel
theorem d_Mo_coefficient_225 : decode b_Mo_coefficient 225 = .ok (.getfield 93, 3) := by decide +kernel
theorem d_Mo_coefficient_228 : decode b_Mo_coefficient 228 = .ok (.iload_n 3, 1) := by decide +kernel
theorem d_Mo_coefficient_229 : decode b_Mo_coefficient 229 = .ok (.aload_n 0, 1) := by decide +kernel
theorem d_Mo_coefficient_230 : decode b_Mo_coefficient 230 = .ok (.getfield 251, 3) := by decide +kernel
theorem d_Mo_coefficient_233 : decode b_Mo_coefficient 233 = .ok (.lastore, 1) := by decide +kernel
theorem d_Mo_coefficient_234 : decode b_Mo_coefficient 234 = .ok (.aload_n 0, 1) := by decide +kernel
theorem d_Mo_coefficient_235 : decode b_Mo_coefficient 235 = .ok (.getfield 97, 3) := by decide +kernel
theorem d_Mo_coefficient_238 : decode b_Mo_coefficient 238 = .ok (.iload_n 3, 1) := by decide +kernel
theorem d_Mo_coefficient_239 : decode b_Mo_coefficient 239 = .ok (.aload_n 0, 1) := by decide +kernel
theorem d_Mo_coefficient_240 : decode b_Mo_coefficient 240 = .ok (.getfield 255, 3) := by decide +kernel
theorem d_Mo_coefficient_243 : decode b_Mo_coefficient 243 = .ok (.lastore, 1) := by decide +kernel
theorem d_Mo_coefficient_244 : decode b_Mo_coefficient 244 = .ok (.iinc 3 1, 3) := by decide +kernel
theorem d_Mo_coefficient_247 : decode b_Mo_coefficient 247 = .ok (.goto (-240), 3) := by decide +kernel
theorem d_Mo_coefficient_250 : decode b_Mo_coefficient 250 = .ok (.return_, 1) := by decide +kernel
def f_Mo_coefficient_244 (F7 : (Int32 → Int32 → Int32 → St → St)) (x1 : Int32) (x2 : Int32) (x3 : Int32) (σ : St) : St := F7 x1 x2 (x3 + 1) σ
def k_Mo_coefficient_244 (K7 : (Int32 → Int32 → Int32 → St → Prop)) (x1 : Int32) (x2 : Int32) (x3 : Int32) (σ : St) : Prop := K7 x1 x2 (x3 + 1) σ
def f_Mo_coefficient_234 (F7 : (Int32 → Int32 → Int32 → St → St)) (x1 : Int32) (x2 : Int32) (x3 : Int32) (σ : St) : St := f_Mo_coefficient_244 F7 x1 x2 x3 (sL σ 28 x3 (σ.2 0 44))
def k_Mo_coefficient_234 (K7 : (Int32 → Int32 → Int32 → St → Prop)) (x1 : Int32) (x2 : Int32) (x3 : Int32) (σ : St) : Prop := vp_in x3 400 ∧ (k_Mo_coefficient_244 K7 x1 x2 x3 (sL σ 28 x3 (σ.2 0 44)))
def f_Mo_coefficient_224 (F7 : (Int32 → Int32 → Int32 → St → St)) (x1 : Int32) (x2 : Int32) (x3 : Int32) (σ : St) : St := f_Mo_coefficient_234 F7 x1 x2 x3 (sL σ 27 x3 (σ.2 0 43))
def k_Mo_coefficient_224 (K7 : (Int32 → Int32 → Int32 → St → Prop)) (x1 : Int32) (x2 : Int32) (x3 : Int32) (σ : St) : Prop := vp_in x3 400 ∧ (k_Mo_coefficient_234 K7 x1 x2 x3 (sL σ 27 x3 (σ.2 0 43)))
def f_Mo_coefficient_114 (F7 : (Int32 → Int32 → Int32 → St → St)) (x1 : Int32) (x2 : Int32) (x3 : Int32) (σ : St) : St := f_Mo_coefficient_224 F7 x1 x2 x3 σ
def k_Mo_coefficient_114 (K7 : (Int32 → Int32 → Int32 → St → Prop)) (x1 : Int32) (x2 : Int32) (x3 : Int32) (σ : St) : Prop := k_Mo_coefficient_224 K7 x1 x2 x3 σ
def f_Mo_coefficient_111 (F7 : (Int32 → Int32 → Int32 → St → St)) (x1 : Int32) (x2 : Int32) (x3 : Int32) (s0 : Int64) (s1 : Int64) (σ : St) : St := f_Mo_coefficient_114 F7 x1 x2 x3 (f_Mo_become s1 s0 σ)
def k_Mo_coefficient_111 (K7 : (Int32 → Int32 → Int32 → St → Prop)) (x1 : Int32) (x2 : Int32) (x3 : Int32) (s0 : Int64) (s1 : Int64) (σ : St) : Prop := (k_Mo_become s1 s0 σ) ∧ (k_Mo_coefficient_114 K7 x1 x2 x3 (f_Mo_become s1 s0 σ))
def f_Mo_coefficient_96 (F7 : (Int32 → Int32 → Int32 → St → St)) (x1 : Int32) (x2 : Int32) (x3 : Int32) (s0 : Int64) (σ : St) : St := if 0 ≤ x2 then (f_Mo_coefficient_111 F7 x1 x2 x3 1 s0 σ) else (f_Mo_coefficient_111 F7 x1 x2 x3 ((σ.1 12 x3.toNatClampNeg).toInt64) s0 σ)
def k_Mo_coefficient_96 (K7 : (Int32 → Int32 → Int32 → St → Prop)) (x1 : Int32) (x2 : Int32) (x3 : Int32) (s0 : Int64) (σ : St) : Prop := (0 ≤ x2 → (k_Mo_coefficient_111 K7 x1 x2 x3 1 s0 σ)) ∧ (¬ 0 ≤ x2 → (vp_in x3 400 ∧ (k_Mo_coefficient_111 K7 x1 x2 x3 ((σ.1 12 x3.toNatClampNeg).toInt64) s0 σ)))
def f_Mo_coefficient_167 (F7 : (Int32 → Int32 → Int32 → St → St)) (x1 : Int32) (x2 : Int32) (x3 : Int32) (σ : St) : St := f_Mo_coefficient_224 F7 x1 x2 x3 σ
def k_Mo_coefficient_167 (K7 : (Int32 → Int32 → Int32 → St → Prop)) (x1 : Int32) (x2 : Int32) (x3 : Int32) (σ : St) : Prop := k_Mo_coefficient_224 K7 x1 x2 x3 σ
def f_Mo_coefficient_206 (F7 : (Int32 → Int32 → Int32 → St → St)) (x1 : Int32) (x2 : Int32) (x3 : Int32) (σ : St) : St := f_Mo_coefficient_224 F7 x1 x2 x3 σ
def k_Mo_coefficient_206 (K7 : (Int32 → Int32 → Int32 → St → Prop)) (x1 : Int32) (x2 : Int32) (x3 : Int32) (σ : St) : Prop := k_Mo_coefficient_224 K7 x1 x2 x3 σ
def f_Mo_coefficient_220 (F7 : (Int32 → Int32 → Int32 → St → St)) (x1 : Int32) (x2 : Int32) (x3 : Int32) (s0 : Int64) (σ : St) : St := f_Mo_coefficient_224 F7 x1 x2 x3 (f_Mo_become s0 1 σ)
def k_Mo_coefficient_220 (K7 : (Int32 → Int32 → Int32 → St → Prop)) (x1 : Int32) (x2 : Int32) (x3 : Int32) (s0 : Int64) (σ : St) : Prop := (k_Mo_become s0 1 σ) ∧ (k_Mo_coefficient_224 K7 x1 x2 x3 (f_Mo_become s0 1 σ))
def f_Mo_coefficient_47 (F7 : (Int32 → Int32 → Int32 → St → St)) (x1 : Int32) (x2 : Int32) (x3 : Int32) (x4 : Int32) (x5 : Int32) (σ : St) : St := if (σ.1 5 x3.toNatClampNeg) = 2 then (if 0 ≤ x2 then (f_Mo_coefficient_96 F7 x1 x2 x3 0 σ) else (f_Mo_coefficient_96 F7 x1 x2 x3 ((σ.1 11 x3.toNatClampNeg).toInt64) σ)) else (if (σ.1 5 x3.toNatClampNeg) = 3 then (f_Mo_coefficient_167 F7 x1 x2 x3 (f_Mo_become (((σ.2 27 x4.toNatClampNeg) * (σ.2 28 x5.toNatClampNeg)) + ((σ.2 27 x5.toNatClampNeg) * (σ.2 28 x4.toNatClampNeg))) ((σ.2 28 x4.toNatClampNeg) * (σ.2 28 x5.toNatClampNeg)) σ)) else (if (σ.1 5 x3.toNatClampNeg) = 4 then (f_Mo_coefficient_206 F7 x1 x2 x3 (f_Mo_become ((σ.2 27 x5.toNatClampNeg) * ((σ.1 11 x4.toNatClampNeg).toInt64)) ((σ.2 28 x5.toNatClampNeg) * ((σ.1 12 x4.toNatClampNeg).toInt64)) σ)) else (if x3 = x2 then (f_Mo_coefficient_220 F7 x1 x2 x3 1 σ) else (f_Mo_coefficient_220 F7 x1 x2 x3 0 σ))))
def k_Mo_coefficient_47 (K7 : (Int32 → Int32 → Int32 → St → Prop)) (x1 : Int32) (x2 : Int32) (x3 : Int32) (x4 : Int32) (x5 : Int32) (σ : St) : Prop := vp_in x3 400 ∧ (((σ.1 5 x3.toNatClampNeg) = 2 → ((0 ≤ x2 → (k_Mo_coefficient_96 K7 x1 x2 x3 0 σ)) ∧ (¬ 0 ≤ x2 → (vp_in x3 400 ∧ (k_Mo_coefficient_96 K7 x1 x2 x3 ((σ.1 11 x3.toNatClampNeg).toInt64) σ))))) ∧ (¬ (σ.1 5 x3.toNatClampNeg) = 2 → (((σ.1 5 x3.toNatClampNeg) = 3 → (vp_in x4 400 ∧ (vp_in x5 400 ∧ (vp_in x5 400 ∧ (vp_in x4 400 ∧ (vp_in x4 400 ∧ (vp_in x5 400 ∧ ((k_Mo_become (((σ.2 27 x4.toNatClampNeg) * (σ.2 28 x5.toNatClampNeg)) + ((σ.2 27 x5.toNatClampNeg) * (σ.2 28 x4.toNatClampNeg))) ((σ.2 28 x4.toNatClampNeg) * (σ.2 28 x5.toNatClampNeg)) σ) ∧ (k_Mo_coefficient_167 K7 x1 x2 x3 (f_Mo_become (((σ.2 27 x4.toNatClampNeg) * (σ.2 28 x5.toNatClampNeg)) + ((σ.2 27 x5.toNatClampNeg) * (σ.2 28 x4.toNatClampNeg))) ((σ.2 28 x4.toNatClampNeg) * (σ.2 28 x5.toNatClampNeg)) σ)))))))))) ∧ (¬ (σ.1 5 x3.toNatClampNeg) = 3 → (((σ.1 5 x3.toNatClampNeg) = 4 → (vp_in x5 400 ∧ (vp_in x4 400 ∧ (vp_in x5 400 ∧ (vp_in x4 400 ∧ ((k_Mo_become ((σ.2 27 x5.toNatClampNeg) * ((σ.1 11 x4.toNatClampNeg).toInt64)) ((σ.2 28 x5.toNatClampNeg) * ((σ.1 12 x4.toNatClampNeg).toInt64)) σ) ∧ (k_Mo_coefficient_206 K7 x1 x2 x3 (f_Mo_become ((σ.2 27 x5.toNatClampNeg) * ((σ.1 11 x4.toNatClampNeg).toInt64)) ((σ.2 28 x5.toNatClampNeg) * ((σ.1 12 x4.toNatClampNeg).toInt64)) σ)))))))) ∧ (¬ (σ.1 5 x3.toNatClampNeg) = 4 → ((x3 = x2 → (k_Mo_coefficient_220 K7 x1 x2 x3 1 σ)) ∧ (¬ x3 = x2 → (k_Mo_coefficient_220 K7 x1 x2 x3 0 σ)))))))))
def f_Mo_coefficient_39 (F7 : (Int32 → Int32 → Int32 → St → St)) (x1 : Int32) (x2 : Int32) (x3 : Int32) (x4 : Int32) (σ : St) : St := f_Mo_coefficient_47 F7 x1 x2 x3 x4 (σ.1 9 x3.toNatClampNeg) σ
def k_Mo_coefficient_39 (K7 : (Int32 → Int32 → Int32 → St → Prop)) (x1 : Int32) (x2 : Int32) (x3 : Int32) (x4 : Int32) (σ : St) : Prop := vp_in x3 400 ∧ (k_Mo_coefficient_47 K7 x1 x2 x3 x4 (σ.1 9 x3.toNatClampNeg) σ)
def f_Mo_coefficient_250 (σ : St) : St := σ
def k_Mo_coefficient_250 (σ : St) : Prop := True
def f_Mo_coefficient_7 : Nat → Int32 → Int32 → Int32 → St → St
  | 0, _, _, _, σ => σ
  | n + 1, x1, x2, x3, σ => if x1 < x3 then (f_Mo_coefficient_250 σ) else (if (σ.1 0 45) = 0 then (if (σ.1 29 x3.toNatClampNeg) = 0 then (f_Mo_coefficient_244 (f_Mo_coefficient_7 n) x1 x2 x3 σ) else (f_Mo_coefficient_39 (f_Mo_coefficient_7 n) x1 x2 x3 (σ.1 8 x3.toNatClampNeg) σ)) else (f_Mo_coefficient_250 σ))
def k_Mo_coefficient_7 : Nat → Int32 → Int32 → Int32 → St → Prop
  | 0, _, _, _, _ => False
  | n + 1, x1, x2, x3, σ => (x1 < x3 → (k_Mo_coefficient_250 σ)) ∧ (¬ x1 < x3 → (((σ.1 0 45) = 0 → (vp_in x3 400 ∧ (((σ.1 29 x3.toNatClampNeg) = 0 → (k_Mo_coefficient_244 (k_Mo_coefficient_7 n) x1 x2 x3 σ)) ∧ (¬ (σ.1 29 x3.toNatClampNeg) = 0 → (vp_in x3 400 ∧ (k_Mo_coefficient_39 (k_Mo_coefficient_7 n) x1 x2 x3 (σ.1 8 x3.toNatClampNeg) σ)))))) ∧ (¬ (σ.1 0 45) = 0 → (k_Mo_coefficient_250 σ))))
def f_Mo_coefficient_5 (x1 : Int32) (x2 : Int32) (σ : St) : St := f_Mo_coefficient_7 1000 x1 x2 0 σ
def k_Mo_coefficient_5 (x1 : Int32) (x2 : Int32) (σ : St) : Prop := k_Mo_coefficient_7 1000 x1 x2 0 σ
def f_Mo_coefficient (a1 : Int32) (a2 : Int32) (σ : St) : St := f_Mo_coefficient_5 a1 a2 (f_Mo_need a1 σ)
def k_Mo_coefficient (a1 : Int32) (a2 : Int32) (σ : St) : Prop := (k_Mo_need a1 σ) ∧ (k_Mo_coefficient_5 a1 a2 (f_Mo_need a1 σ))
abbrev w_Mo_coefficient : List Cond := Cond.code y_Mo_coefficient b_Mo_coefficient 6 none :: gw
abbrev rm_Mo_coefficient : Room := { frames := 2, cells := 0, slots := 0, locals := 55 }
set_option maxHeartbeats 4000000 in
set_option maxRecDepth 100000 in
theorem c_Mo_coefficient (l : Launch) (D : va_G) (ty : Nat → ClassId) (h : Nat → Nat) (px : va_W) (sa : Nat → Nat) (σ : St) (sz : Nat) (a1 : Int32) (a2 : Int32) (hk : k_Mo_coefficient a1 a2 σ) : Met l y_Mo_coefficient w_Mo_coefficient rm_Mo_coefficient (va_Pc [.ref (h 0), .int a1, .int a2] (fun U => U.heap.size = sz ∧ va_P D classes (Wm ty h σ px) U.heap ∧ va_K D classes (Ta ty) U ∧ NW U ∧ MK sa (va_A (Wm ty h σ px) sz) U U.heap ∧ va_D (fun _ => True) (Wm ty h σ px))) (va_Qv (fun u : St => u = f_Mo_coefficient a1 a2 σ) (fun u t => va_P D classes (Wm ty h u px) t.heap) (va_A (Wm ty h σ px) sz)) 0 0 (va_A (Wm ty h σ px) sz) := by
  refine Met.ofW (cc := b_Mo_coefficient) (maxL := 6) (ret := none) (by decide) rfl ?_
  intro p e s m args below meth c s₁ B hml hv
  obtain ⟨ha, hsz, hP, hK, hN, hM, hD0⟩ := hv
  have hx := B.exec
  have hb := B.bytes
  have hr := B.returns
  have hg : ∀ w ∈ gw, w.before args s = true := fun w h9 => atoms_spec (ws := w_Mo_coefficient) B.pre w (List.mem_cons_of_mem _ h9)
  have hown : s.vm.findClass "ClauseLedgerModel" = some m.cls := findClass_of_methodNamed B.named
  have hlocks := B.notSynchronized
  subst hsz
  have hD := hD0.self (sz := s.heap.size)
  generalize hAe : va_A (Wm ty h σ px) s.heap.size = A at hD hM ⊢
  have hA : ∀ q : Nat, s.heap.size ≤ q → A q := fun q h9 => by rw [← hAe]; exact Or.inr h9
  have hS : va_S A s.heap s.heap [] := va_S.rf
  have he : entryFrame m args 6 = entryFrame m ([.ref (h 0), .int a1, .int a2] : List Value).toArray 6 := by rw [ha]
  rw [he, lg_entry_eq]
  have hl := lv_entry ([.ref (h 0), .int a1, .int a2]) (n := 6) (Nat.le_of_ble_eq_true rfl)
  generalize (lg_sl ([.ref (h 0), .int a1, .int a2]) ++ List.replicate (6 - (lg_sl ([.ref (h 0), .int a1, .int a2])).length) Slot.unset).toArray = ls at hl ⊢
  have hl : lv_has ls 6 [(0, .ref (h 0)), (1, .int a1), (2, .int a2)] := hl
  generalize hv : f_Mo_coefficient a1 a2 σ = v
  replace hv := hv.symm
  have B250 : ∀ (H : Heap) (locs : List Loc) (ls : Array Slot) (σ : St), v = f_Mo_coefficient_250 σ → k_Mo_coefficient_250 σ → lv_has ls 6 [] → va_P D classes (Wm ty h σ px) H → va_D A (Wm ty h σ px) → va_S A s.heap H locs → W p l e (headSpec w_Mo_coefficient rm_Mo_coefficient).room s m args below meth c H locs 0 0 (MQ below (va_Qv (fun u : St => u = v) (fun u t => va_P D classes (Wm ty h u px) t.heap) A) args s 0 0 A) (F0 m 250 ls []) := by
    intro H locs ls σ hv hk hl hP hD hS
    unfold f_Mo_coefficient_250 at hv
    unfold k_Mo_coefficient_250 at hk
    exact W.vret hx hb hr (fun t ht hW => ⟨⟨_, rfl, hv.symm, by dsimp only; rw [ht]; exact hP⟩, hS.F ht⟩) hS.2.2 d_Mo_coefficient_250
  have B7 : ∀ (n7 : Nat) (H : Heap) (locs : List Loc) (ls : Array Slot) (x1 : Int32) (x2 : Int32) (x3 : Int32) (σ : St), v = f_Mo_coefficient_7 n7 x1 x2 x3 σ → k_Mo_coefficient_7 n7 x1 x2 x3 σ → lv_has ls 6 [(0, .ref (h 0)), (1, .int x1), (2, .int x2), (3, .int x3)] → va_P D classes (Wm ty h σ px) H → va_D A (Wm ty h σ px) → va_S A s.heap H locs → W p l e (headSpec w_Mo_coefficient rm_Mo_coefficient).room s m args below meth c H locs 0 0 (MQ below (va_Qv (fun u : St => u = v) (fun u t => va_P D classes (Wm ty h u px) t.heap) A) args s 0 0 A) (F0 m 7 ls []) := by
    intro n7
    induction n7 with
    | zero => intro H locs ls x1 x2 x3 σ hv hk hl hP hD hS; exact hk.elim
    | succ n7 ih7 =>
      have B244 : ∀ (H : Heap) (locs : List Loc) (ls : Array Slot) (x1 : Int32) (x2 : Int32) (x3 : Int32) (σ : St), v = f_Mo_coefficient_244 (f_Mo_coefficient_7 n7) x1 x2 x3 σ → k_Mo_coefficient_244 (k_Mo_coefficient_7 n7) x1 x2 x3 σ → lv_has ls 6 [(0, .ref (h 0)), (1, .int x1), (2, .int x2), (3, .int x3)] → va_P D classes (Wm ty h σ px) H → va_D A (Wm ty h σ px) → va_S A s.heap H locs → W p l e (headSpec w_Mo_coefficient rm_Mo_coefficient).room s m args below meth c H locs 0 0 (MQ below (va_Qv (fun u : St => u = v) (fun u t => va_P D classes (Wm ty h u px) t.heap) A) args s 0 0 A) (F0 m 244 ls []) := by
        intro H locs ls x1 x2 x3 σ hv hk hl hP hD hS
        unfold f_Mo_coefficient_244 at hv
        unfold k_Mo_coefficient_244 at hk
        refine lv_iinc (k := 3) (v := x3 + 1) (lv' := [(3, .int (x3 + 1)), (0, .ref (h 0)), (1, .int x1), (2, .int x2)]) hx hb d_Mo_coefficient_244 hl rfl (by first | rfl | simp [lit1, litm1]) (by decide) rfl (fun ls hl => ?_)
        refine lv_goto (tgt := 7) hx hb d_Mo_coefficient_247 (by decide) ?_
        exact ih7 _ _ _ x1 x2 (x3 + 1) σ hv hk (lv_sub hl [1, 2, 3, 0] rfl) hP hD hS
      have B234 : ∀ (H : Heap) (locs : List Loc) (ls : Array Slot) (x1 : Int32) (x2 : Int32) (x3 : Int32) (σ : St), v = f_Mo_coefficient_234 (f_Mo_coefficient_7 n7) x1 x2 x3 σ → k_Mo_coefficient_234 (k_Mo_coefficient_7 n7) x1 x2 x3 σ → lv_has ls 6 [(0, .ref (h 0)), (1, .int x1), (2, .int x2), (3, .int x3)] → va_P D classes (Wm ty h σ px) H → va_D A (Wm ty h σ px) → va_S A s.heap H locs → W p l e (headSpec w_Mo_coefficient rm_Mo_coefficient).room s m args below meth c H locs 0 0 (MQ below (va_Qv (fun u : St => u = v) (fun u t => va_P D classes (Wm ty h u px) t.heap) A) args s 0 0 A) (F0 m 234 ls []) := by
        intro H locs ls x1 x2 x3 σ hv hk hl hP hD hS
        unfold f_Mo_coefficient_234 at hv
        unfold k_Mo_coefficient_234 at hk
        refine lv_aload_n hx hb d_Mo_coefficient_234 rfl (lv_at hl 0 rfl) ?_
        refine va_get (v := .ref (h 28)) (C := R_Mo) (T := T_Mo) (N := 51) hx hb hg in_Mo hown hK hP 0 rfl rfl 41 (by decide) (hg _ m_1300) (fun _ h9 => h9) rfl d_Mo_coefficient_235 ?_
        refine lv_iload_n hx hb d_Mo_coefficient_238 rfl (lv_at hl 3 rfl) ?_
        refine lv_aload_n hx hb d_Mo_coefficient_239 rfl (lv_at hl 0 rfl) ?_
        refine va_get (v := .long (σ.2 0 44)) (C := R_Mo) (T := T_Mo) (N := 51) hx hb hg in_Mo hown hK hP 0 rfl rfl 44 (by decide) (hg _ m_1303) (fun _ h9 => h9) rfl d_Mo_coefficient_240 ?_
        obtain ⟨hk0, hk⟩ := hk
        refine va_last hx hb hK hP hD hS 28 1 rfl rfl hk0 d_Mo_coefficient_243 (fun H locs hP hD hS => ?_)
        have hP : va_P D classes (Wm ty h (sL σ 28 x3 (σ.2 0 44)) px) H := hP
        have hD : va_D A (Wm ty h (sL σ 28 x3 (σ.2 0 44)) px) := hD
        exact B244 _ _ _ x1 x2 x3 (sL σ 28 x3 (σ.2 0 44)) hv hk (lv_sub hl [0, 1, 2, 3] rfl) hP hD hS
      have B224 : ∀ (H : Heap) (locs : List Loc) (ls : Array Slot) (x1 : Int32) (x2 : Int32) (x3 : Int32) (σ : St), v = f_Mo_coefficient_224 (f_Mo_coefficient_7 n7) x1 x2 x3 σ → k_Mo_coefficient_224 (k_Mo_coefficient_7 n7) x1 x2 x3 σ → lv_has ls 6 [(0, .ref (h 0)), (1, .int x1), (2, .int x2), (3, .int x3)] → va_P D classes (Wm ty h σ px) H → va_D A (Wm ty h σ px) → va_S A s.heap H locs → W p l e (headSpec w_Mo_coefficient rm_Mo_coefficient).room s m args below meth c H locs 0 0 (MQ below (va_Qv (fun u : St => u = v) (fun u t => va_P D classes (Wm ty h u px) t.heap) A) args s 0 0 A) (F0 m 224 ls []) := by
        intro H locs ls x1 x2 x3 σ hv hk hl hP hD hS
        unfold f_Mo_coefficient_224 at hv
        unfold k_Mo_coefficient_224 at hk
        refine lv_aload_n hx hb d_Mo_coefficient_224 rfl (lv_at hl 0 rfl) ?_
        refine va_get (v := .ref (h 27)) (C := R_Mo) (T := T_Mo) (N := 51) hx hb hg in_Mo hown hK hP 0 rfl rfl 40 (by decide) (hg _ m_1299) (fun _ h9 => h9) rfl d_Mo_coefficient_225 ?_
        refine lv_iload_n hx hb d_Mo_coefficient_228 rfl (lv_at hl 3 rfl) ?_
        refine lv_aload_n hx hb d_Mo_coefficient_229 rfl (lv_at hl 0 rfl) ?_
        refine va_get (v := .long (σ.2 0 43)) (C := R_Mo) (T := T_Mo) (N := 51) hx hb hg in_Mo hown hK hP 0 rfl rfl 43 (by decide) (hg _ m_1302) (fun _ h9 => h9) rfl d_Mo_coefficient_230 ?_
        obtain ⟨hk0, hk⟩ := hk
        refine va_last hx hb hK hP hD hS 27 1 rfl rfl hk0 d_Mo_coefficient_233 (fun H locs hP hD hS => ?_)
        have hP : va_P D classes (Wm ty h (sL σ 27 x3 (σ.2 0 43)) px) H := hP
        have hD : va_D A (Wm ty h (sL σ 27 x3 (σ.2 0 43)) px) := hD
        exact B234 _ _ _ x1 x2 x3 (sL σ 27 x3 (σ.2 0 43)) hv hk (lv_sub hl [0, 1, 2, 3] rfl) hP hD hS
      have B114 : ∀ (H : Heap) (locs : List Loc) (ls : Array Slot) (x1 : Int32) (x2 : Int32) (x3 : Int32) (σ : St), v = f_Mo_coefficient_114 (f_Mo_coefficient_7 n7) x1 x2 x3 σ → k_Mo_coefficient_114 (k_Mo_coefficient_7 n7) x1 x2 x3 σ → lv_has ls 6 [(0, .ref (h 0)), (1, .int x1), (2, .int x2), (3, .int x3)] → va_P D classes (Wm ty h σ px) H → va_D A (Wm ty h σ px) → va_S A s.heap H locs → W p l e (headSpec w_Mo_coefficient rm_Mo_coefficient).room s m args below meth c H locs 0 0 (MQ below (va_Qv (fun u : St => u = v) (fun u t => va_P D classes (Wm ty h u px) t.heap) A) args s 0 0 A) (F0 m 114 ls []) := by
        intro H locs ls x1 x2 x3 σ hv hk hl hP hD hS
        unfold f_Mo_coefficient_114 at hv
        unfold k_Mo_coefficient_114 at hk
        refine lv_goto (tgt := 224) hx hb d_Mo_coefficient_114 (by decide) ?_
        exact B224 _ _ _ x1 x2 x3 σ hv hk (lv_sub hl [0, 1, 2, 3] rfl) hP hD hS
      have B111 : ∀ (H : Heap) (locs : List Loc) (ls : Array Slot) (x1 : Int32) (x2 : Int32) (x3 : Int32) (s0 : Int64) (s1 : Int64) (σ : St), v = f_Mo_coefficient_111 (f_Mo_coefficient_7 n7) x1 x2 x3 s0 s1 σ → k_Mo_coefficient_111 (k_Mo_coefficient_7 n7) x1 x2 x3 s0 s1 σ → lv_has ls 6 [(0, .ref (h 0)), (1, .int x1), (2, .int x2), (3, .int x3)] → va_P D classes (Wm ty h σ px) H → va_D A (Wm ty h σ px) → va_S A s.heap H locs → W p l e (headSpec w_Mo_coefficient rm_Mo_coefficient).room s m args below meth c H locs 0 0 (MQ below (va_Qv (fun u : St => u = v) (fun u t => va_P D classes (Wm ty h u px) t.heap) A) args s 0 0 A) (F0 m 111 ls [.long s0, .long s1, .ref (h 0)]) := by
        intro H locs ls x1 x2 x3 s0 s1 σ hv hk hl hP hD hS
        unfold f_Mo_coefficient_111 at hv
        unfold k_Mo_coefficient_111 at hk
        obtain ⟨hk0, hk⟩ := hk
        refine va_callv (va_runV (As := [.long s1, .long s0]) (rest := []) ⟨hx, hb, hml, hown, hg⟩ (c_Mo_become l D ty h px sa σ H.size s1 s0 hk0) ⟨callB_of 2 hg (gw_C m_1619) rfl rfl rfl (hg _ m_13) (hg _ m_1616) hd_Mo_become ⟨Nat.le_of_ble_eq_true rfl, Nat.le_of_ble_eq_true rfl⟩, hg _ m_1618, hg _ ms_80⟩ (zz_preVW hM hS hA hN hK hP hD 0 rfl rfl) rfl rfl hl.1 rfl (lv_room (Nat.le_of_ble_eq_true rfl)) d_Mo_coefficient_111 ⟨Nat.le_of_ble_eq_true rfl, Nat.le_of_ble_eq_true rfl⟩) hS (fun q _ h => zz_free hD hS hA q h) (zz_free hD hS hA) (fun u111 t H locs ht hvm hp hP1 hz hk1 hS => ?_)
        rw [ht] at hP1
        rw [← hp] at hv hk
        have hD : va_D A (Wm ty h u111 px) := zz_D hD rfl
        have hP := hP1
        exact B114 _ _ _ x1 x2 x3 u111 hv hk (lv_sub hl [0, 1, 2, 3] rfl) hP hD hS
      have B96 : ∀ (H : Heap) (locs : List Loc) (ls : Array Slot) (x1 : Int32) (x2 : Int32) (x3 : Int32) (s0 : Int64) (σ : St), v = f_Mo_coefficient_96 (f_Mo_coefficient_7 n7) x1 x2 x3 s0 σ → k_Mo_coefficient_96 (k_Mo_coefficient_7 n7) x1 x2 x3 s0 σ → lv_has ls 6 [(0, .ref (h 0)), (1, .int x1), (2, .int x2), (3, .int x3)] → va_P D classes (Wm ty h σ px) H → va_D A (Wm ty h σ px) → va_S A s.heap H locs → W p l e (headSpec w_Mo_coefficient rm_Mo_coefficient).room s m args below meth c H locs 0 0 (MQ below (va_Qv (fun u : St => u = v) (fun u t => va_P D classes (Wm ty h u px) t.heap) A) args s 0 0 A) (F0 m 96 ls [.long s0, .ref (h 0)]) := by
        intro H locs ls x1 x2 x3 s0 σ hv hk hl hP hD hS
        unfold f_Mo_coefficient_96 at hv
        unfold k_Mo_coefficient_96 at hk
        refine lv_iload_n hx hb d_Mo_coefficient_96 rfl (lv_at hl 2 rfl) ?_
        refine lv_if_ge (tgt := 110) hx hb d_Mo_coefficient_97 (by decide) (fun hc => ?_) (fun hc => ?_)
        · have hv := hv.trans (if_pos hc)
          have hk := hk.1 hc
          refine lv_lconst (v := 1) hx hb d_Mo_coefficient_110 (by decide) ?_
          exact B111 _ _ _ x1 x2 x3 1 s0 σ hv hk (lv_sub hl [0, 1, 2, 3] rfl) hP hD hS
        · have hv := hv.trans (if_neg hc)
          have hk := hk.2 hc
          refine lv_aload_n hx hb d_Mo_coefficient_100 rfl (lv_at hl 0 rfl) ?_
          refine va_get (v := .ref (h 12)) (C := R_Mo) (T := T_Mo) (N := 51) hx hb hg in_Mo hown hK hP 0 rfl rfl 17 (by decide) (hg _ m_1276) (fun _ h9 => h9) rfl d_Mo_coefficient_101 ?_
          refine lv_iload_n hx hb d_Mo_coefficient_104 rfl (lv_at hl 3 rfl) ?_
          obtain ⟨hk0, hk⟩ := hk
          refine va_iald hx hb hK hP 12 0 rfl rfl hk0 d_Mo_coefficient_105 ?_
          refine lv_i2l hx hb d_Mo_coefficient_106 rfl ?_
          refine lv_goto (tgt := 111) hx hb d_Mo_coefficient_107 (by decide) ?_
          exact B111 _ _ _ x1 x2 x3 ((σ.1 12 x3.toNatClampNeg).toInt64) s0 σ hv hk (lv_sub hl [0, 1, 2, 3] rfl) hP hD hS
      have B167 : ∀ (H : Heap) (locs : List Loc) (ls : Array Slot) (x1 : Int32) (x2 : Int32) (x3 : Int32) (σ : St), v = f_Mo_coefficient_167 (f_Mo_coefficient_7 n7) x1 x2 x3 σ → k_Mo_coefficient_167 (k_Mo_coefficient_7 n7) x1 x2 x3 σ → lv_has ls 6 [(0, .ref (h 0)), (1, .int x1), (2, .int x2), (3, .int x3)] → va_P D classes (Wm ty h σ px) H → va_D A (Wm ty h σ px) → va_S A s.heap H locs → W p l e (headSpec w_Mo_coefficient rm_Mo_coefficient).room s m args below meth c H locs 0 0 (MQ below (va_Qv (fun u : St => u = v) (fun u t => va_P D classes (Wm ty h u px) t.heap) A) args s 0 0 A) (F0 m 167 ls []) := by
        intro H locs ls x1 x2 x3 σ hv hk hl hP hD hS
        unfold f_Mo_coefficient_167 at hv
        unfold k_Mo_coefficient_167 at hk
        refine lv_goto (tgt := 224) hx hb d_Mo_coefficient_167 (by decide) ?_
        exact B224 _ _ _ x1 x2 x3 σ hv hk (lv_sub hl [0, 1, 2, 3] rfl) hP hD hS
      have B206 : ∀ (H : Heap) (locs : List Loc) (ls : Array Slot) (x1 : Int32) (x2 : Int32) (x3 : Int32) (σ : St), v = f_Mo_coefficient_206 (f_Mo_coefficient_7 n7) x1 x2 x3 σ → k_Mo_coefficient_206 (k_Mo_coefficient_7 n7) x1 x2 x3 σ → lv_has ls 6 [(0, .ref (h 0)), (1, .int x1), (2, .int x2), (3, .int x3)] → va_P D classes (Wm ty h σ px) H → va_D A (Wm ty h σ px) → va_S A s.heap H locs → W p l e (headSpec w_Mo_coefficient rm_Mo_coefficient).room s m args below meth c H locs 0 0 (MQ below (va_Qv (fun u : St => u = v) (fun u t => va_P D classes (Wm ty h u px) t.heap) A) args s 0 0 A) (F0 m 206 ls []) := by
        intro H locs ls x1 x2 x3 σ hv hk hl hP hD hS
        unfold f_Mo_coefficient_206 at hv
        unfold k_Mo_coefficient_206 at hk
        refine lv_goto (tgt := 224) hx hb d_Mo_coefficient_206 (by decide) ?_
        exact B224 _ _ _ x1 x2 x3 σ hv hk (lv_sub hl [0, 1, 2, 3] rfl) hP hD hS
      have B220 : ∀ (H : Heap) (locs : List Loc) (ls : Array Slot) (x1 : Int32) (x2 : Int32) (x3 : Int32) (s0 : Int64) (σ : St), v = f_Mo_coefficient_220 (f_Mo_coefficient_7 n7) x1 x2 x3 s0 σ → k_Mo_coefficient_220 (k_Mo_coefficient_7 n7) x1 x2 x3 s0 σ → lv_has ls 6 [(0, .ref (h 0)), (1, .int x1), (2, .int x2), (3, .int x3)] → va_P D classes (Wm ty h σ px) H → va_D A (Wm ty h σ px) → va_S A s.heap H locs → W p l e (headSpec w_Mo_coefficient rm_Mo_coefficient).room s m args below meth c H locs 0 0 (MQ below (va_Qv (fun u : St => u = v) (fun u t => va_P D classes (Wm ty h u px) t.heap) A) args s 0 0 A) (F0 m 220 ls [.long s0, .ref (h 0)]) := by
        intro H locs ls x1 x2 x3 s0 σ hv hk hl hP hD hS
        unfold f_Mo_coefficient_220 at hv
        unfold k_Mo_coefficient_220 at hk
        refine lv_lconst (v := 1) hx hb d_Mo_coefficient_220 (by decide) ?_
        obtain ⟨hk0, hk⟩ := hk
        refine va_callv (va_runV (As := [.long s0, .long 1]) (rest := []) ⟨hx, hb, hml, hown, hg⟩ (c_Mo_become l D ty h px sa σ H.size s0 1 hk0) ⟨callB_of 2 hg (gw_C m_1619) rfl rfl rfl (hg _ m_13) (hg _ m_1616) hd_Mo_become ⟨Nat.le_of_ble_eq_true rfl, Nat.le_of_ble_eq_true rfl⟩, hg _ m_1618, hg _ ms_80⟩ (zz_preVW hM hS hA hN hK hP hD 0 rfl rfl) rfl rfl hl.1 rfl (lv_room (Nat.le_of_ble_eq_true rfl)) d_Mo_coefficient_221 ⟨Nat.le_of_ble_eq_true rfl, Nat.le_of_ble_eq_true rfl⟩) hS (fun q _ h => zz_free hD hS hA q h) (zz_free hD hS hA) (fun u221 t H locs ht hvm hp hP1 hz hk1 hS => ?_)
        rw [ht] at hP1
        rw [← hp] at hv hk
        have hD : va_D A (Wm ty h u221 px) := zz_D hD rfl
        have hP := hP1
        exact B224 _ _ _ x1 x2 x3 u221 hv hk (lv_sub hl [0, 1, 2, 3] rfl) hP hD hS
      have B47 : ∀ (H : Heap) (locs : List Loc) (ls : Array Slot) (x1 : Int32) (x2 : Int32) (x3 : Int32) (x4 : Int32) (x5 : Int32) (σ : St), v = f_Mo_coefficient_47 (f_Mo_coefficient_7 n7) x1 x2 x3 x4 x5 σ → k_Mo_coefficient_47 (k_Mo_coefficient_7 n7) x1 x2 x3 x4 x5 σ → lv_has ls 6 [(0, .ref (h 0)), (1, .int x1), (2, .int x2), (3, .int x3), (4, .int x4), (5, .int x5)] → va_P D classes (Wm ty h σ px) H → va_D A (Wm ty h σ px) → va_S A s.heap H locs → W p l e (headSpec w_Mo_coefficient rm_Mo_coefficient).room s m args below meth c H locs 0 0 (MQ below (va_Qv (fun u : St => u = v) (fun u t => va_P D classes (Wm ty h u px) t.heap) A) args s 0 0 A) (F0 m 47 ls []) := by
        intro H locs ls x1 x2 x3 x4 x5 σ hv hk hl hP hD hS
        unfold f_Mo_coefficient_47 at hv
        unfold k_Mo_coefficient_47 at hk
        refine lv_aload_n hx hb d_Mo_coefficient_47 rfl (lv_at hl 0 rfl) ?_
        refine va_get (v := .ref (h 5)) (C := R_Mo) (T := T_Mo) (N := 51) hx hb hg in_Mo hown hK hP 0 rfl rfl 10 (by decide) (hg _ m_1269) (fun _ h9 => h9) rfl d_Mo_coefficient_48 ?_
        refine lv_iload_n hx hb d_Mo_coefficient_51 rfl (lv_at hl 3 rfl) ?_
        obtain ⟨hk0, hk⟩ := hk
        refine va_iald hx hb hK hP 5 0 rfl rfl hk0 d_Mo_coefficient_52 ?_
        by_cases hc2 : (σ.1 5 x3.toNatClampNeg) = 2
        · have hv := hv.trans (if_pos hc2)
          have hk := hk.1 hc2
          refine lv_tableIn (tgt := 80) hx hb d_Mo_coefficient_53 (by rw [hc2]; decide) (by rw [hc2]; decide) (by rw [hc2]; rfl) (by decide) ?_
          refine lv_aload_n hx hb d_Mo_coefficient_80 rfl (lv_at hl 0 rfl) ?_
          refine lv_iload_n hx hb d_Mo_coefficient_81 rfl (lv_at hl 2 rfl) ?_
          refine lv_if_ge (tgt := 95) hx hb d_Mo_coefficient_82 (by decide) (fun hc => ?_) (fun hc => ?_)
          · have hv := hv.trans (if_pos hc)
            have hk := hk.1 hc
            refine lv_lconst (v := 0) hx hb d_Mo_coefficient_95 (by decide) ?_
            exact B96 _ _ _ x1 x2 x3 0 σ hv hk (lv_sub hl [0, 1, 2, 3] rfl) hP hD hS
          · have hv := hv.trans (if_neg hc)
            have hk := hk.2 hc
            refine lv_aload_n hx hb d_Mo_coefficient_85 rfl (lv_at hl 0 rfl) ?_
            refine va_get (v := .ref (h 11)) (C := R_Mo) (T := T_Mo) (N := 51) hx hb hg in_Mo hown hK hP 0 rfl rfl 16 (by decide) (hg _ m_1275) (fun _ h9 => h9) rfl d_Mo_coefficient_86 ?_
            refine lv_iload_n hx hb d_Mo_coefficient_89 rfl (lv_at hl 3 rfl) ?_
            obtain ⟨hk0, hk⟩ := hk
            refine va_iald hx hb hK hP 11 0 rfl rfl hk0 d_Mo_coefficient_90 ?_
            refine lv_i2l hx hb d_Mo_coefficient_91 rfl ?_
            refine lv_goto (tgt := 96) hx hb d_Mo_coefficient_92 (by decide) ?_
            exact B96 _ _ _ x1 x2 x3 ((σ.1 11 x3.toNatClampNeg).toInt64) σ hv hk (lv_sub hl [0, 1, 2, 3] rfl) hP hD hS
        · have hv := hv.trans (if_neg hc2)
          have hk := hk.2 hc2
          by_cases hc3 : (σ.1 5 x3.toNatClampNeg) = 3
          · have hv := hv.trans (if_pos hc3)
            have hk := hk.1 hc3
            refine lv_tableIn (tgt := 117) hx hb d_Mo_coefficient_53 (by rw [hc3]; decide) (by rw [hc3]; decide) (by rw [hc3]; rfl) (by decide) ?_
            refine lv_aload_n hx hb d_Mo_coefficient_117 rfl (lv_at hl 0 rfl) ?_
            refine lv_aload_n hx hb d_Mo_coefficient_118 rfl (lv_at hl 0 rfl) ?_
            refine va_get (v := .ref (h 27)) (C := R_Mo) (T := T_Mo) (N := 51) hx hb hg in_Mo hown hK hP 0 rfl rfl 40 (by decide) (hg _ m_1299) (fun _ h9 => h9) rfl d_Mo_coefficient_119 ?_
            refine lv_iload hx hb d_Mo_coefficient_122 (lv_at hl 4 rfl) ?_
            obtain ⟨hk0, hk⟩ := hk
            refine va_lald hx hb hK hP 27 1 rfl rfl hk0 d_Mo_coefficient_124 ?_
            refine lv_aload_n hx hb d_Mo_coefficient_125 rfl (lv_at hl 0 rfl) ?_
            refine va_get (v := .ref (h 28)) (C := R_Mo) (T := T_Mo) (N := 51) hx hb hg in_Mo hown hK hP 0 rfl rfl 41 (by decide) (hg _ m_1300) (fun _ h9 => h9) rfl d_Mo_coefficient_126 ?_
            refine lv_iload hx hb d_Mo_coefficient_129 (lv_at hl 5 rfl) ?_
            obtain ⟨hk0, hk⟩ := hk
            refine va_lald hx hb hK hP 28 1 rfl rfl hk0 d_Mo_coefficient_131 ?_
            refine lv_lmul hx hb d_Mo_coefficient_132 ?_
            refine lv_aload_n hx hb d_Mo_coefficient_133 rfl (lv_at hl 0 rfl) ?_
            refine va_get (v := .ref (h 27)) (C := R_Mo) (T := T_Mo) (N := 51) hx hb hg in_Mo hown hK hP 0 rfl rfl 40 (by decide) (hg _ m_1299) (fun _ h9 => h9) rfl d_Mo_coefficient_134 ?_
            refine lv_iload hx hb d_Mo_coefficient_137 (lv_at hl 5 rfl) ?_
            obtain ⟨hk0, hk⟩ := hk
            refine va_lald hx hb hK hP 27 1 rfl rfl hk0 d_Mo_coefficient_139 ?_
            refine lv_aload_n hx hb d_Mo_coefficient_140 rfl (lv_at hl 0 rfl) ?_
            refine va_get (v := .ref (h 28)) (C := R_Mo) (T := T_Mo) (N := 51) hx hb hg in_Mo hown hK hP 0 rfl rfl 41 (by decide) (hg _ m_1300) (fun _ h9 => h9) rfl d_Mo_coefficient_141 ?_
            refine lv_iload hx hb d_Mo_coefficient_144 (lv_at hl 4 rfl) ?_
            obtain ⟨hk0, hk⟩ := hk
            refine va_lald hx hb hK hP 28 1 rfl rfl hk0 d_Mo_coefficient_146 ?_
            refine lv_lmul hx hb d_Mo_coefficient_147 ?_
            refine lv_ladd hx hb d_Mo_coefficient_148 ?_
            refine lv_aload_n hx hb d_Mo_coefficient_149 rfl (lv_at hl 0 rfl) ?_
            refine va_get (v := .ref (h 28)) (C := R_Mo) (T := T_Mo) (N := 51) hx hb hg in_Mo hown hK hP 0 rfl rfl 41 (by decide) (hg _ m_1300) (fun _ h9 => h9) rfl d_Mo_coefficient_150 ?_
            refine lv_iload hx hb d_Mo_coefficient_153 (lv_at hl 4 rfl) ?_
            obtain ⟨hk0, hk⟩ := hk
            refine va_lald hx hb hK hP 28 1 rfl rfl hk0 d_Mo_coefficient_155 ?_
            refine lv_aload_n hx hb d_Mo_coefficient_156 rfl (lv_at hl 0 rfl) ?_
            refine va_get (v := .ref (h 28)) (C := R_Mo) (T := T_Mo) (N := 51) hx hb hg in_Mo hown hK hP 0 rfl rfl 41 (by decide) (hg _ m_1300) (fun _ h9 => h9) rfl d_Mo_coefficient_157 ?_
            refine lv_iload hx hb d_Mo_coefficient_160 (lv_at hl 5 rfl) ?_
            obtain ⟨hk0, hk⟩ := hk
            refine va_lald hx hb hK hP 28 1 rfl rfl hk0 d_Mo_coefficient_162 ?_
            refine lv_lmul hx hb d_Mo_coefficient_163 ?_
            obtain ⟨hk0, hk⟩ := hk
            refine va_callv (va_runV (As := [.long (((σ.2 27 x4.toNatClampNeg) * (σ.2 28 x5.toNatClampNeg)) + ((σ.2 27 x5.toNatClampNeg) * (σ.2 28 x4.toNatClampNeg))), .long ((σ.2 28 x4.toNatClampNeg) * (σ.2 28 x5.toNatClampNeg))]) (rest := []) ⟨hx, hb, hml, hown, hg⟩ (c_Mo_become l D ty h px sa σ H.size (((σ.2 27 x4.toNatClampNeg) * (σ.2 28 x5.toNatClampNeg)) + ((σ.2 27 x5.toNatClampNeg) * (σ.2 28 x4.toNatClampNeg))) ((σ.2 28 x4.toNatClampNeg) * (σ.2 28 x5.toNatClampNeg)) hk0) ⟨callB_of 2 hg (gw_C m_1619) rfl rfl rfl (hg _ m_13) (hg _ m_1616) hd_Mo_become ⟨Nat.le_of_ble_eq_true rfl, Nat.le_of_ble_eq_true rfl⟩, hg _ m_1618, hg _ ms_80⟩ (zz_preVW hM hS hA hN hK hP hD 0 rfl rfl) rfl rfl hl.1 rfl (lv_room (Nat.le_of_ble_eq_true rfl)) d_Mo_coefficient_164 ⟨Nat.le_of_ble_eq_true rfl, Nat.le_of_ble_eq_true rfl⟩) hS (fun q _ h => zz_free hD hS hA q h) (zz_free hD hS hA) (fun u164 t H locs ht hvm hp hP1 hz hk1 hS => ?_)
            rw [ht] at hP1
            rw [← hp] at hv hk
            have hD : va_D A (Wm ty h u164 px) := zz_D hD rfl
            have hP := hP1
            exact B167 _ _ _ x1 x2 x3 u164 hv hk (lv_sub hl [0, 1, 2, 3] rfl) hP hD hS
          · have hv := hv.trans (if_neg hc3)
            have hk := hk.2 hc3
            by_cases hc4 : (σ.1 5 x3.toNatClampNeg) = 4
            · have hv := hv.trans (if_pos hc4)
              have hk := hk.1 hc4
              refine lv_tableIn (tgt := 170) hx hb d_Mo_coefficient_53 (by rw [hc4]; decide) (by rw [hc4]; decide) (by rw [hc4]; rfl) (by decide) ?_
              refine lv_aload_n hx hb d_Mo_coefficient_170 rfl (lv_at hl 0 rfl) ?_
              refine lv_aload_n hx hb d_Mo_coefficient_171 rfl (lv_at hl 0 rfl) ?_
              refine va_get (v := .ref (h 27)) (C := R_Mo) (T := T_Mo) (N := 51) hx hb hg in_Mo hown hK hP 0 rfl rfl 40 (by decide) (hg _ m_1299) (fun _ h9 => h9) rfl d_Mo_coefficient_172 ?_
              refine lv_iload hx hb d_Mo_coefficient_175 (lv_at hl 5 rfl) ?_
              obtain ⟨hk0, hk⟩ := hk
              refine va_lald hx hb hK hP 27 1 rfl rfl hk0 d_Mo_coefficient_177 ?_
              refine lv_aload_n hx hb d_Mo_coefficient_178 rfl (lv_at hl 0 rfl) ?_
              refine va_get (v := .ref (h 11)) (C := R_Mo) (T := T_Mo) (N := 51) hx hb hg in_Mo hown hK hP 0 rfl rfl 16 (by decide) (hg _ m_1275) (fun _ h9 => h9) rfl d_Mo_coefficient_179 ?_
              refine lv_iload hx hb d_Mo_coefficient_182 (lv_at hl 4 rfl) ?_
              obtain ⟨hk0, hk⟩ := hk
              refine va_iald hx hb hK hP 11 0 rfl rfl hk0 d_Mo_coefficient_184 ?_
              refine lv_i2l hx hb d_Mo_coefficient_185 rfl ?_
              refine lv_lmul hx hb d_Mo_coefficient_186 ?_
              refine lv_aload_n hx hb d_Mo_coefficient_187 rfl (lv_at hl 0 rfl) ?_
              refine va_get (v := .ref (h 28)) (C := R_Mo) (T := T_Mo) (N := 51) hx hb hg in_Mo hown hK hP 0 rfl rfl 41 (by decide) (hg _ m_1300) (fun _ h9 => h9) rfl d_Mo_coefficient_188 ?_
              refine lv_iload hx hb d_Mo_coefficient_191 (lv_at hl 5 rfl) ?_
              obtain ⟨hk0, hk⟩ := hk
              refine va_lald hx hb hK hP 28 1 rfl rfl hk0 d_Mo_coefficient_193 ?_
              refine lv_aload_n hx hb d_Mo_coefficient_194 rfl (lv_at hl 0 rfl) ?_
              refine va_get (v := .ref (h 12)) (C := R_Mo) (T := T_Mo) (N := 51) hx hb hg in_Mo hown hK hP 0 rfl rfl 17 (by decide) (hg _ m_1276) (fun _ h9 => h9) rfl d_Mo_coefficient_195 ?_
              refine lv_iload hx hb d_Mo_coefficient_198 (lv_at hl 4 rfl) ?_
              obtain ⟨hk0, hk⟩ := hk
              refine va_iald hx hb hK hP 12 0 rfl rfl hk0 d_Mo_coefficient_200 ?_
              refine lv_i2l hx hb d_Mo_coefficient_201 rfl ?_
              refine lv_lmul hx hb d_Mo_coefficient_202 ?_
              obtain ⟨hk0, hk⟩ := hk
              refine va_callv (va_runV (As := [.long ((σ.2 27 x5.toNatClampNeg) * ((σ.1 11 x4.toNatClampNeg).toInt64)), .long ((σ.2 28 x5.toNatClampNeg) * ((σ.1 12 x4.toNatClampNeg).toInt64))]) (rest := []) ⟨hx, hb, hml, hown, hg⟩ (c_Mo_become l D ty h px sa σ H.size ((σ.2 27 x5.toNatClampNeg) * ((σ.1 11 x4.toNatClampNeg).toInt64)) ((σ.2 28 x5.toNatClampNeg) * ((σ.1 12 x4.toNatClampNeg).toInt64)) hk0) ⟨callB_of 2 hg (gw_C m_1619) rfl rfl rfl (hg _ m_13) (hg _ m_1616) hd_Mo_become ⟨Nat.le_of_ble_eq_true rfl, Nat.le_of_ble_eq_true rfl⟩, hg _ m_1618, hg _ ms_80⟩ (zz_preVW hM hS hA hN hK hP hD 0 rfl rfl) rfl rfl hl.1 rfl (lv_room (Nat.le_of_ble_eq_true rfl)) d_Mo_coefficient_203 ⟨Nat.le_of_ble_eq_true rfl, Nat.le_of_ble_eq_true rfl⟩) hS (fun q _ h => zz_free hD hS hA q h) (zz_free hD hS hA) (fun u203 t H locs ht hvm hp hP1 hz hk1 hS => ?_)
              rw [ht] at hP1
              rw [← hp] at hv hk
              have hD : va_D A (Wm ty h u203 px) := zz_D hD rfl
              have hP := hP1
              exact B206 _ _ _ x1 x2 x3 u203 hv hk (lv_sub hl [0, 1, 2, 3] rfl) hP hD hS
            · have hv := hv.trans (if_neg hc4)
              have hk := hk.2 hc4
              refine lv_tableOut (tgt := 209) hx hb d_Mo_coefficient_53 (by have := lv_neT hc2 (by decide : (2 : Int32).toInt = 2); have := lv_neT hc3 (by decide : (3 : Int32).toInt = 3); have := lv_neT hc4 (by decide : (4 : Int32).toInt = 4); omega) (by decide) ?_
              refine lv_aload_n hx hb d_Mo_coefficient_209 rfl (lv_at hl 0 rfl) ?_
              refine lv_iload_n hx hb d_Mo_coefficient_210 rfl (lv_at hl 3 rfl) ?_
              refine lv_iload_n hx hb d_Mo_coefficient_211 rfl (lv_at hl 2 rfl) ?_
              refine lv_icmp_ne (tgt := 219) hx hb d_Mo_coefficient_212 (by decide) (fun hc => ?_) (fun hc => ?_)
              · have hv := hv.trans (if_neg hc)
                have hk := hk.2 hc
                refine lv_lconst (v := 0) hx hb d_Mo_coefficient_219 (by decide) ?_
                exact B220 _ _ _ x1 x2 x3 0 σ hv hk (lv_sub hl [0, 1, 2, 3] rfl) hP hD hS
              · have hv := hv.trans (if_pos hc)
                have hk := hk.1 hc
                refine lv_lconst (v := 1) hx hb d_Mo_coefficient_215 (by decide) ?_
                refine lv_goto (tgt := 220) hx hb d_Mo_coefficient_216 (by decide) ?_
                exact B220 _ _ _ x1 x2 x3 1 σ hv hk (lv_sub hl [0, 1, 2, 3] rfl) hP hD hS
      have B39 : ∀ (H : Heap) (locs : List Loc) (ls : Array Slot) (x1 : Int32) (x2 : Int32) (x3 : Int32) (x4 : Int32) (σ : St), v = f_Mo_coefficient_39 (f_Mo_coefficient_7 n7) x1 x2 x3 x4 σ → k_Mo_coefficient_39 (k_Mo_coefficient_7 n7) x1 x2 x3 x4 σ → lv_has ls 6 [(0, .ref (h 0)), (1, .int x1), (2, .int x2), (3, .int x3), (4, .int x4)] → va_P D classes (Wm ty h σ px) H → va_D A (Wm ty h σ px) → va_S A s.heap H locs → W p l e (headSpec w_Mo_coefficient rm_Mo_coefficient).room s m args below meth c H locs 0 0 (MQ below (va_Qv (fun u : St => u = v) (fun u t => va_P D classes (Wm ty h u px) t.heap) A) args s 0 0 A) (F0 m 39 ls []) := by
        intro H locs ls x1 x2 x3 x4 σ hv hk hl hP hD hS
        unfold f_Mo_coefficient_39 at hv
        unfold k_Mo_coefficient_39 at hk
        refine lv_aload_n hx hb d_Mo_coefficient_39 rfl (lv_at hl 0 rfl) ?_
        refine va_get (v := .ref (h 9)) (C := R_Mo) (T := T_Mo) (N := 51) hx hb hg in_Mo hown hK hP 0 rfl rfl 14 (by decide) (hg _ m_1273) (fun _ h9 => h9) rfl d_Mo_coefficient_40 ?_
        refine lv_iload_n hx hb d_Mo_coefficient_43 rfl (lv_at hl 3 rfl) ?_
        obtain ⟨hk0, hk⟩ := hk
        refine va_iald hx hb hK hP 9 0 rfl rfl hk0 d_Mo_coefficient_44 ?_
        refine lv_istore (lv' := [(5, .int (σ.1 9 x3.toNatClampNeg)), (0, .ref (h 0)), (1, .int x1), (2, .int x2), (3, .int x3), (4, .int x4)]) hx hb d_Mo_coefficient_45 hl (by decide) rfl (fun ls hl => ?_)
        exact B47 _ _ _ x1 x2 x3 x4 (σ.1 9 x3.toNatClampNeg) σ hv hk (lv_sub hl [1, 2, 3, 4, 5, 0] rfl) hP hD hS
      intro H locs ls x1 x2 x3 σ hv hk hl hP hD hS
      rw [f_Mo_coefficient_7] at hv
      rw [k_Mo_coefficient_7] at hk
      refine lv_iload_n hx hb d_Mo_coefficient_7 rfl (lv_at hl 3 rfl) ?_
      refine lv_iload_n hx hb d_Mo_coefficient_8 rfl (lv_at hl 1 rfl) ?_
      refine lv_icmp_gt (tgt := 250) hx hb d_Mo_coefficient_9 (by decide) (fun hc => ?_) (fun hc => ?_)
      · have hv := hv.trans (if_pos hc)
        have hk := hk.1 hc
        exact B250 _ _ _  σ hv hk (lv_sub hl [] rfl) hP hD hS
      · have hv := hv.trans (if_neg hc)
        have hk := hk.2 hc
        refine lv_aload_n hx hb d_Mo_coefficient_12 rfl (lv_at hl 0 rfl) ?_
        refine va_get (v := .int (σ.1 0 45)) (C := R_Mo) (T := T_Mo) (N := 51) hx hb hg in_Mo hown hK hP 0 rfl rfl 45 (by decide) (hg _ m_1304) (fun _ h9 => h9) rfl d_Mo_coefficient_13 ?_
        refine lv_if_ne (tgt := 250) hx hb d_Mo_coefficient_16 (by decide) (fun hc => ?_) (fun hc => ?_)
        · have hv := hv.trans (if_neg hc)
          have hk := hk.2 hc
          exact B250 _ _ _  σ hv hk (lv_sub hl [] rfl) hP hD hS
        · have hv := hv.trans (if_pos hc)
          have hk := hk.1 hc
          refine lv_aload_n hx hb d_Mo_coefficient_19 rfl (lv_at hl 0 rfl) ?_
          refine va_get (v := .ref (h 29)) (C := R_Mo) (T := T_Mo) (N := 51) hx hb hg in_Mo hown hK hP 0 rfl rfl 42 (by decide) (hg _ m_1301) (fun _ h9 => h9) rfl d_Mo_coefficient_20 ?_
          refine lv_iload_n hx hb d_Mo_coefficient_23 rfl (lv_at hl 3 rfl) ?_
          obtain ⟨hk0, hk⟩ := hk
          refine va_zald hx hb hK hP 29 3 rfl rfl hk0 d_Mo_coefficient_24 ?_
          refine lv_if_ne (tgt := 31) hx hb d_Mo_coefficient_25 (by decide) (fun hc => ?_) (fun hc => ?_)
          · have hv := hv.trans (if_neg hc)
            have hk := hk.2 hc
            refine lv_aload_n hx hb d_Mo_coefficient_31 rfl (lv_at hl 0 rfl) ?_
            refine va_get (v := .ref (h 8)) (C := R_Mo) (T := T_Mo) (N := 51) hx hb hg in_Mo hown hK hP 0 rfl rfl 13 (by decide) (hg _ m_1272) (fun _ h9 => h9) rfl d_Mo_coefficient_32 ?_
            refine lv_iload_n hx hb d_Mo_coefficient_35 rfl (lv_at hl 3 rfl) ?_
            obtain ⟨hk0, hk⟩ := hk
            refine va_iald hx hb hK hP 8 0 rfl rfl hk0 d_Mo_coefficient_36 ?_
            refine lv_istore (lv' := [(4, .int (σ.1 8 x3.toNatClampNeg)), (0, .ref (h 0)), (1, .int x1), (2, .int x2), (3, .int x3)]) hx hb d_Mo_coefficient_37 hl (by decide) rfl (fun ls hl => ?_)
            exact B39 _ _ _ x1 x2 x3 (σ.1 8 x3.toNatClampNeg) σ hv hk (lv_sub hl [1, 2, 3, 4, 0] rfl) hP hD hS
          · have hv := hv.trans (if_pos hc)
            have hk := hk.1 hc
            refine lv_goto (tgt := 244) hx hb d_Mo_coefficient_28 (by decide) ?_
            exact B244 _ _ _ x1 x2 x3 σ hv hk (lv_sub hl [0, 1, 2, 3] rfl) hP hD hS
  have B5 : ∀ (H : Heap) (locs : List Loc) (ls : Array Slot) (x1 : Int32) (x2 : Int32) (σ : St), v = f_Mo_coefficient_5 x1 x2 σ → k_Mo_coefficient_5 x1 x2 σ → lv_has ls 6 [(0, .ref (h 0)), (1, .int x1), (2, .int x2)] → va_P D classes (Wm ty h σ px) H → va_D A (Wm ty h σ px) → va_S A s.heap H locs → W p l e (headSpec w_Mo_coefficient rm_Mo_coefficient).room s m args below meth c H locs 0 0 (MQ below (va_Qv (fun u : St => u = v) (fun u t => va_P D classes (Wm ty h u px) t.heap) A) args s 0 0 A) (F0 m 5 ls []) := by
    intro H locs ls x1 x2 σ hv hk hl hP hD hS
    unfold f_Mo_coefficient_5 at hv
    unfold k_Mo_coefficient_5 at hk
    refine lv_iconst (v := 0) hx hb d_Mo_coefficient_5 (by decide) ?_
    refine lv_istore_n (lv' := [(3, .int 0), (0, .ref (h 0)), (1, .int x1), (2, .int x2)]) hx hb d_Mo_coefficient_6 rfl hl (by decide) rfl (fun ls hl => ?_)
    exact B7 1000 _ _ _ x1 x2 0 σ hv hk (lv_sub hl [1, 2, 3, 0] rfl) hP hD hS
  unfold f_Mo_coefficient at hv
  unfold k_Mo_coefficient at hk
  refine lv_aload_n hx hb d_Mo_coefficient_0 rfl (lv_at hl 0 rfl) ?_
  refine lv_iload_n hx hb d_Mo_coefficient_1 rfl (lv_at hl 1 rfl) ?_
  obtain ⟨hk0, hk⟩ := hk
  refine va_callv (va_runV (As := [.int a1]) (rest := []) ⟨hx, hb, hml, hown, hg⟩ (c_Mo_need l D ty h px sa σ s.heap.size a1 hk0) ⟨callB_of 1 hg (gw_C m_1615) rfl rfl rfl (hg _ m_13) (hg _ m_1612) hd_Mo_need ⟨Nat.le_of_ble_eq_true rfl, Nat.le_of_ble_eq_true rfl⟩, hg _ m_1614, hg _ ms_79⟩ (zz_preVW hM hS hA hN hK hP hD 0 rfl rfl) rfl rfl hl.1 rfl (lv_room (Nat.le_of_ble_eq_true rfl)) d_Mo_coefficient_2 ⟨Nat.le_of_ble_eq_true rfl, Nat.le_of_ble_eq_true rfl⟩) hS (fun q _ h => zz_free hD hS hA q h) (zz_free hD hS hA) (fun u2 t H locs ht hvm hp hP1 hz hk1 hS => ?_)
  rw [ht] at hP1
  rw [← hp] at hv hk
  have hD : va_D A (Wm ty h u2 px) := zz_D hD rfl
  have hP := hP1
  exact B5 _ _ _ a1 a2 u2 hv hk (lv_sub hl [0, 1, 2] rfl) hP hD hS

