-- ClauseLedgerModel.openBracket()V
abbrev b_Mo_openBracket : ByteArray := prog_14_method_25_code
def y_Mo_openBracket : MethodName := ⟨"ClauseLedgerModel", "openBracket", "()V"⟩
theorem hd_Mo_openBracket : y_Mo_openBracket.cls ≠ "java/lang/invoke/MethodHandle" ∧ y_Mo_openBracket.cls ≠ "java/lang/invoke/VarHandle" ∧ (parseMethodDescriptor y_Mo_openBracket.desc).map (fun d => d.parameters.length) = some 0 := by decide +kernel
theorem d_Mo_openBracket_0 : decode b_Mo_openBracket 0 = .ok (.aload_n 0, 1) := by decide +kernel
theorem d_Mo_openBracket_1 : decode b_Mo_openBracket 1 = .ok (.dup, 1) := by decide +kernel
theorem d_Mo_openBracket_2 : decode b_Mo_openBracket 2 = .ok (.getfield 149, 3) := by decide +kernel
theorem d_Mo_openBracket_5 : decode b_Mo_openBracket 5 = .ok (.iconst 1, 1) := by decide +kernel
theorem d_Mo_openBracket_6 : decode b_Mo_openBracket 6 = .ok (.iadd, 1) := by decide +kernel
theorem d_Mo_openBracket_7 : decode b_Mo_openBracket 7 = .ok (.putfield 149, 3) := by decide +kernel
theorem d_Mo_openBracket_10 : decode b_Mo_openBracket 10 = .ok (.aload_n 0, 1) := by decide +kernel
theorem d_Mo_openBracket_11 : decode b_Mo_openBracket 11 = .ok (.invokevirtual 152, 3) := by decide +kernel
theorem d_Mo_openBracket_14 : decode b_Mo_openBracket 14 = .ok (.istore_n 1, 1) := by decide +kernel
theorem d_Mo_openBracket_15 : decode b_Mo_openBracket 15 = .ok (.aload_n 0, 1) := by decide +kernel
theorem d_Mo_openBracket_16 : decode b_Mo_openBracket 16 = .ok (.dup, 1) := by decide +kernel
theorem d_Mo_openBracket_17 : decode b_Mo_openBracket 17 = .ok (.getfield 149, 3) := by decide +kernel
theorem d_Mo_openBracket_20 : decode b_Mo_openBracket 20 = .ok (.iconst 1, 1) := by decide +kernel
theorem d_Mo_openBracket_21 : decode b_Mo_openBracket 21 = .ok (.iadd, 1) := by decide +kernel
theorem d_Mo_openBracket_22 : decode b_Mo_openBracket 22 = .ok (.putfield 149, 3) := by decide +kernel
theorem d_Mo_openBracket_25 : decode b_Mo_openBracket 25 = .ok (.iload_n 1, 1) := by decide +kernel
theorem d_Mo_openBracket_26 : decode b_Mo_openBracket 26 = .ok (.bipush 97, 2) := by decide +kernel
theorem d_Mo_openBracket_28 : decode b_Mo_openBracket 28 = .ok (.if_icmp .lt 36, 3) := by decide +kernel
theorem d_Mo_openBracket_31 : decode b_Mo_openBracket 31 = .ok (.iload_n 1, 1) := by decide +kernel
theorem d_Mo_openBracket_32 : decode b_Mo_openBracket 32 = .ok (.bipush 108, 2) := by decide +kernel
theorem d_Mo_openBracket_34 : decode b_Mo_openBracket 34 = .ok (.if_icmp .gt 30, 3) := by decide +kernel
theorem d_Mo_openBracket_37 : decode b_Mo_openBracket 37 = .ok (.iload_n 1, 1) := by decide +kernel
theorem d_Mo_openBracket_38 : decode b_Mo_openBracket 38 = .ok (.bipush 97, 2) := by decide +kernel
theorem d_Mo_openBracket_40 : decode b_Mo_openBracket 40 = .ok (.isub, 1) := by decide +kernel
theorem d_Mo_openBracket_41 : decode b_Mo_openBracket 41 = .ok (.aload_n 0, 1) := by decide +kernel
theorem d_Mo_openBracket_42 : decode b_Mo_openBracket 42 = .ok (.getfield 106, 3) := by decide +kernel
theorem d_Mo_openBracket_45 : decode b_Mo_openBracket 45 = .ok (.if_icmp .ge 19, 3) := by decide +kernel
theorem d_Mo_openBracket_48 : decode b_Mo_openBracket 48 = .ok (.aload_n 0, 1) := by decide +kernel
theorem d_Mo_openBracket_49 : decode b_Mo_openBracket 49 = .ok (.getfield 17, 3) := by decide +kernel
theorem d_Mo_openBracket_52 : decode b_Mo_openBracket 52 = .ok (.iload_n 1, 1) := by decide +kernel
theorem d_Mo_openBracket_53 : decode b_Mo_openBracket 53 = .ok (.bipush 97, 2) := by decide +kernel
theorem d_Mo_openBracket_55 : decode b_Mo_openBracket 55 = .ok (.isub, 1) := by decide +kernel
theorem d_Mo_openBracket_56 : decode b_Mo_openBracket 56 = .ok (.iaload, 1) := by decide +kernel
theorem d_Mo_openBracket_57 : decode b_Mo_openBracket 57 = .ok (.ifCond .lt 7, 3) := by decide +kernel
theorem d_Mo_openBracket_60 : decode b_Mo_openBracket 60 = .ok (.iconst 1, 1) := by decide +kernel
theorem d_Mo_openBracket_61 : decode b_Mo_openBracket 61 = .ok (.goto 4, 3) := by decide +kernel
theorem d_Mo_openBracket_64 : decode b_Mo_openBracket 64 = .ok (.iconst 0, 1) := by decide +kernel
theorem d_Mo_openBracket_65 : decode b_Mo_openBracket 65 = .ok (.istore_n 2, 1) := by decide +kernel
theorem d_Mo_openBracket_66 : decode b_Mo_openBracket 66 = .ok (.aload_n 0, 1) := by decide +kernel
theorem d_Mo_openBracket_67 : decode b_Mo_openBracket 67 = .ok (.aload_n 0, 1) := by decide +kernel
theorem d_Mo_openBracket_68 : decode b_Mo_openBracket 68 = .ok (.getfield 163, 3) := by decide +kernel
theorem d_Mo_openBracket_71 : decode b_Mo_openBracket 71 = .ok (.ifCond .ne 23, 3) := by decide +kernel
theorem d_Mo_openBracket_74 : decode b_Mo_openBracket 74 = .ok (.aload_n 0, 1) := by decide +kernel
theorem d_Mo_openBracket_75 : decode b_Mo_openBracket 75 = .ok (.getfield 173, 3) := by decide +kernel
theorem d_Mo_openBracket_78 : decode b_Mo_openBracket 78 = .ok (.bipush 12, 2) := by decide +kernel
theorem d_Mo_openBracket_80 : decode b_Mo_openBracket 80 = .ok (.if_icmp .eq 14, 3) := by decide +kernel
theorem d_Mo_openBracket_83 : decode b_Mo_openBracket 83 = .ok (.iload_n 2, 1) := by decide +kernel
theorem d_Mo_openBracket_84 : decode b_Mo_openBracket 84 = .ok (.ifCond .ne 14, 3) := by decide +kernel
theorem d_Mo_openBracket_87 : decode b_Mo_openBracket 87 = .ok (.iload_n 1, 1) := by decide +kernel
theorem d_Mo_openBracket_88 : decode b_Mo_openBracket 88 = .ok (.invokestatic 176, 3) := by decide +kernel
theorem d_Mo_openBracket_91 : decode b_Mo_openBracket 91 = .ok (.ifCond .ne 7, 3) := by decide +kernel
theorem d_Mo_openBracket_94 : decode b_Mo_openBracket 94 = .ok (.iconst 1, 1) := by decide +kernel
theorem d_Mo_openBracket_95 : decode b_Mo_openBracket 95 = .ok (.goto 4, 3) := by decide +kernel
theorem d_Mo_openBracket_98 : decode b_Mo_openBracket 98 = .ok (.iconst 0, 1) := by decide +kernel
theorem d_Mo_openBracket_99 : decode b_Mo_openBracket 99 = .ok (.putfield 163, 3) := by decide +kernel
theorem d_Mo_openBracket_102 : decode b_Mo_openBracket 102 = .ok (.aload_n 0, 1) := by decide +kernel
theorem d_Mo_openBracket_103 : decode b_Mo_openBracket 103 = .ok (.getfield 163, 3) := by decide +kernel
theorem d_Mo_openBracket_106 : decode b_Mo_openBracket 106 = .ok (.ifCond .eq 4, 3) := by decide +kernel
theorem d_Mo_openBracket_109 : decode b_Mo_openBracket 109 = .ok (.return_, 1) := by decide +kernel
theorem d_Mo_openBracket_110 : decode b_Mo_openBracket 110 = .ok (.aload_n 0, 1) := by decide +kernel
theorem d_Mo_openBracket_111 : decode b_Mo_openBracket 111 = .ok (.getfield 78, 3) := by decide +kernel
theorem d_Mo_openBracket_114 : decode b_Mo_openBracket 114 = .ok (.aload_n 0, 1) := by decide +kernel
theorem d_Mo_openBracket_115 : decode b_Mo_openBracket 115 = .ok (.getfield 173, 3) := by decide +kernel
theorem d_Mo_openBracket_118 : decode b_Mo_openBracket 118 = .ok (.iload_n 1, 1) := by decide +kernel
theorem d_Mo_openBracket_119 : decode b_Mo_openBracket 119 = .ok (.iastore, 1) := by decide +kernel
theorem d_Mo_openBracket_120 : decode b_Mo_openBracket 120 = .ok (.aload_n 0, 1) := by decide +kernel
theorem d_Mo_openBracket_121 : decode b_Mo_openBracket 121 = .ok (.getfield 81, 3) := by decide +kernel
theorem d_Mo_openBracket_124 : decode b_Mo_openBracket 124 = .ok (.aload_n 0, 1) := by decide +kernel
theorem d_Mo_openBracket_125 : decode b_Mo_openBracket 125 = .ok (.getfield 173, 3) := by decide +kernel
theorem d_Mo_openBracket_128 : decode b_Mo_openBracket 128 = .ok (.iconst 0, 1) := by decide +kernel
theorem d_Mo_openBracket_129 : decode b_Mo_openBracket 129 = .ok (.iastore, 1) := by decide +kernel
theorem d_Mo_openBracket_130 : decode b_Mo_openBracket 130 = .ok (.aload_n 0, 1) := by decide +kernel
theorem d_Mo_openBracket_131 : decode b_Mo_openBracket 131 = .ok (.getfield 84, 3) := by decide +kernel
theorem d_Mo_openBracket_134 : decode b_Mo_openBracket 134 = .ok (.aload_n 0, 1) := by decide +kernel
theorem d_Mo_openBracket_135 : decode b_Mo_openBracket 135 = .ok (.getfield 173, 3) := by decide +kernel
theorem d_Mo_openBracket_138 : decode b_Mo_openBracket 138 = .ok (.iconst (-1), 1) := by decide +kernel
theorem d_Mo_openBracket_139 : decode b_Mo_openBracket 139 = .ok (.iastore, 1) := by decide +kernel
theorem d_Mo_openBracket_140 : decode b_Mo_openBracket 140 = .ok (.aload_n 0, 1) := by decide +kernel
theorem d_Mo_openBracket_141 : decode b_Mo_openBracket 141 = .ok (.getfield 87, 3) := by decide +kernel
theorem d_Mo_openBracket_144 : decode b_Mo_openBracket 144 = .ok (.aload_n 0, 1) := by decide +kernel
theorem d_Mo_openBracket_145 : decode b_Mo_openBracket 145 = .ok (.getfield 173, 3) := by decide +kernel
theorem d_Mo_openBracket_148 : decode b_Mo_openBracket 148 = .ok (.iconst (-1), 1) := by decide +kernel
theorem d_Mo_openBracket_149 : decode b_Mo_openBracket 149 = .ok (.iastore, 1) := by decide +kernel
theorem d_Mo_openBracket_150 : decode b_Mo_openBracket 150 = .ok (.aload_n 0, 1) := by decide +kernel
theorem d_Mo_openBracket_151 : decode b_Mo_openBracket 151 = .ok (.dup, 1) := by decide +kernel
theorem d_Mo_openBracket_152 : decode b_Mo_openBracket 152 = .ok (.getfield 173, 3) := by decide +kernel
theorem d_Mo_openBracket_155 : decode b_Mo_openBracket 155 = .ok (.iconst 1, 1) := by decide +kernel
theorem d_Mo_openBracket_156 : decode b_Mo_openBracket 156 = .ok (.iadd, 1) := by decide +kernel
theorem d_Mo_openBracket_157 : decode b_Mo_openBracket 157 = .ok (.putfield 173, 3) := by decide +kernel
theorem d_Mo_openBracket_160 : decode b_Mo_openBracket 160 = .ok (.aload_n 0, 1) := by decide +kernel
theorem d_Mo_openBracket_161 : decode b_Mo_openBracket 161 = .ok (.invokevirtual 179, 3) := by decide +kernel
theorem d_Mo_openBracket_164 : decode b_Mo_openBracket 164 = .ok (.iload_n 1, 1) := by decide +kernel
theorem d_Mo_openBracket_165 : decode b_Mo_openBracket 165 = .ok (.bipush 33, 2) := by decide +kernel
theorem d_Mo_openBracket_167 : decode b_Mo_openBracket 167 = .ok (.if_icmp .eq 4, 3) := by decide +kernel
theorem d_Mo_openBracket_170 : decode b_Mo_openBracket 170 = .ok (.return_, 1) := by decide +kernel
theorem d_Mo_openBracket_171 : decode b_Mo_openBracket 171 = .ok (.aload_n 0, 1) := by decide +kernel
theorem d_Mo_openBracket_172 : decode b_Mo_openBracket 172 = .ok (.invokevirtual 152, 3) := by decide +kernel
theorem d_Mo_openBracket_175 : decode b_Mo_openBracket 175 = .ok (.bipush 120, 2) := by decide +kernel
theorem d_Mo_openBracket_177 : decode b_Mo_openBracket 177 = .ok (.isub, 1) := by decide +kernel
theorem d_Mo_openBracket_178 : decode b_Mo_openBracket 178 = .ok (.istore_n 3, 1) := by decide +kernel
theorem d_Mo_openBracket_179 : decode b_Mo_openBracket 179 = .ok (.aload_n 0, 1) := by decide +kernel
theorem d_Mo_openBracket_180 : decode b_Mo_openBracket 180 = .ok (.dup, 1) := by decide +kernel
theorem d_Mo_openBracket_181 : decode b_Mo_openBracket 181 = .ok (.getfield 149, 3) := by decide +kernel
theorem d_Mo_openBracket_184 : decode b_Mo_openBracket 184 = .ok (.iconst 1, 1) := by decide +kernel
theorem d_Mo_openBracket_185 : decode b_Mo_openBracket 185 = .ok (.iadd, 1) := by decide +kernel
theorem d_Mo_openBracket_186 : decode b_Mo_openBracket 186 = .ok (.putfield 149, 3) := by decide +kernel
theorem d_Mo_openBracket_189 : decode b_Mo_openBracket 189 = .ok (.aload_n 0, 1) := by decide +kernel
theorem d_Mo_openBracket_190 : decode b_Mo_openBracket 190 = .ok (.aload_n 0, 1) := by decide +kernel
theorem d_Mo_openBracket_191 : decode b_Mo_openBracket 191 = .ok (.getfield 163, 3) := by decide +kernel
theorem d_Mo_openBracket_194 : decode b_Mo_openBracket 194 = .ok (.ifCond .ne 12, 3) := by decide +kernel
theorem d_Mo_openBracket_197 : decode b_Mo_openBracket 197 = .ok (.iload_n 3, 1) := by decide +kernel
theorem d_Mo_openBracket_198 : decode b_Mo_openBracket 198 = .ok (.ifCond .lt 8, 3) := by decide +kernel
theorem d_Mo_openBracket_201 : decode b_Mo_openBracket 201 = .ok (.iload_n 3, 1) := by decide +kernel
theorem d_Mo_openBracket_202 : decode b_Mo_openBracket 202 = .ok (.iconst 2, 1) := by decide +kernel
theorem d_Mo_openBracket_203 : decode b_Mo_openBracket 203 = .ok (.if_icmp .le 7, 3) := by decide +kernel
theorem d_Mo_openBracket_206 : decode b_Mo_openBracket 206 = .ok (.iconst 1, 1) := by decide +kernel
theorem d_Mo_openBracket_207 : decode b_Mo_openBracket 207 = .ok (.goto 4, 3) := by decide +kernel
theorem d_Mo_openBracket_210 : decode b_Mo_openBracket 210 = .ok (.iconst 0, 1) := by decide +kernel
theorem d_Mo_openBracket_211 : decode b_Mo_openBracket 211 = .ok (.putfield 163, 3) := by decide +kernel
theorem d_Mo_openBracket_214 : decode b_Mo_openBracket 214 = .ok (.aload_n 0, 1) := by decide +kernel
theorem d_Mo_openBracket_215 : decode b_Mo_openBracket 215 = .ok (.getfield 87, 3) := by decide +kernel
theorem d_Mo_openBracket_218 : decode b_Mo_openBracket 218 = .ok (.aload_n 0, 1) := by decide +kernel
theorem d_Mo_openBracket_219 : decode b_Mo_openBracket 219 = .ok (.getfield 173, 3) := by decide +kernel
theorem d_Mo_openBracket_222 : decode b_Mo_openBracket 222 = .ok (.iconst 1, 1) := by decide +kernel
theorem d_Mo_openBracket_223 : decode b_Mo_openBracket 223 = .ok (.isub, 1) := by decide +kernel
theorem d_Mo_openBracket_224 : decode b_Mo_openBracket 224 = .ok (.iload_n 3, 1) := by decide +kernel
theorem d_Mo_openBracket_225 : decode b_Mo_openBracket 225 = .ok (.iastore, 1) := by decide +kernel
theorem d_Mo_openBracket_226 : decode b_Mo_openBracket 226 = .ok (.aload_n 0, 1) := by decide +kernel
theorem d_Mo_openBracket_227 : decode b_Mo_openBracket 227 = .ok (.invokevirtual 179, 3) := by decide +kernel
theorem d_Mo_openBracket_230 : decode b_Mo_openBracket 230 = .ok (.return_, 1) := by decide +kernel
def f_Mo_openBracket_230 (σ : St) : St := σ
def k_Mo_openBracket_230 (σ : St) : Prop := True
def f_Mo_openBracket_226 (σ : St) : St := f_Mo_openBracket_230 (f_Mo_blank σ)
def k_Mo_openBracket_226 (σ : St) : Prop := (k_Mo_blank σ) ∧ (k_Mo_openBracket_230 (f_Mo_blank σ))
def f_Mo_openBracket_214 (x3 : Int32) (σ : St) : St := f_Mo_openBracket_226 (sA σ 25 ((σ.1 0 34) - 1) x3)
def k_Mo_openBracket_214 (x3 : Int32) (σ : St) : Prop := vp_in ((σ.1 0 34) - 1) 40 ∧ (k_Mo_openBracket_226 (sA σ 25 ((σ.1 0 34) - 1) x3))
def f_Mo_openBracket_211 (x3 : Int32) (s0 : Int32) (σ : St) : St := f_Mo_openBracket_214 x3 (sF σ 0 33 s0)
def k_Mo_openBracket_211 (x3 : Int32) (s0 : Int32) (σ : St) : Prop := (narrow .boolean (.int s0) = .int s0 ∧ fits .boolean (.int s0) = true) ∧ (k_Mo_openBracket_214 x3 (sF σ 0 33 s0))
def f_Mo_openBracket_206 (x3 : Int32) (σ : St) : St := f_Mo_openBracket_211 x3 1 σ
def k_Mo_openBracket_206 (x3 : Int32) (σ : St) : Prop := k_Mo_openBracket_211 x3 1 σ
def f_Mo_openBracket_189 (x3 : Int32) (σ : St) : St := if (σ.1 0 33) = 0 then (if x3 < 0 then (f_Mo_openBracket_206 x3 σ) else (if x3 ≤ 2 then (f_Mo_openBracket_211 x3 0 σ) else (f_Mo_openBracket_206 x3 σ))) else (f_Mo_openBracket_206 x3 σ)
def k_Mo_openBracket_189 (x3 : Int32) (σ : St) : Prop := ((σ.1 0 33) = 0 → ((x3 < 0 → (k_Mo_openBracket_206 x3 σ)) ∧ (¬ x3 < 0 → ((x3 ≤ 2 → (k_Mo_openBracket_211 x3 0 σ)) ∧ (¬ x3 ≤ 2 → (k_Mo_openBracket_206 x3 σ)))))) ∧ (¬ (σ.1 0 33) = 0 → (k_Mo_openBracket_206 x3 σ))
def f_Mo_openBracket_179 (x3 : Int32) (σ : St) : St := f_Mo_openBracket_189 x3 (sF σ 0 32 ((σ.1 0 32) + 1))
def k_Mo_openBracket_179 (x3 : Int32) (σ : St) : Prop := k_Mo_openBracket_189 x3 (sF σ 0 32 ((σ.1 0 32) + 1))
def f_Mo_openBracket_164 (x1 : Int32) (σ : St) : St := if x1 = 33 then (f_Mo_openBracket_179 ((f_Mo_peek σ) - 120) σ) else σ
def k_Mo_openBracket_164 (x1 : Int32) (σ : St) : Prop := (x1 = 33 → ((k_Mo_peek σ) ∧ (k_Mo_openBracket_179 ((f_Mo_peek σ) - 120) σ))) ∧ (¬ x1 = 33 → True)
def f_Mo_openBracket_160 (x1 : Int32) (σ : St) : St := f_Mo_openBracket_164 x1 (f_Mo_blank σ)
def k_Mo_openBracket_160 (x1 : Int32) (σ : St) : Prop := (k_Mo_blank σ) ∧ (k_Mo_openBracket_164 x1 (f_Mo_blank σ))
def f_Mo_openBracket_150 (x1 : Int32) (σ : St) : St := f_Mo_openBracket_160 x1 (sF σ 0 34 ((σ.1 0 34) + 1))
def k_Mo_openBracket_150 (x1 : Int32) (σ : St) : Prop := k_Mo_openBracket_160 x1 (sF σ 0 34 ((σ.1 0 34) + 1))
def f_Mo_openBracket_140 (x1 : Int32) (σ : St) : St := f_Mo_openBracket_150 x1 (sA σ 25 (σ.1 0 34) (-1))
def k_Mo_openBracket_140 (x1 : Int32) (σ : St) : Prop := vp_in (σ.1 0 34) 40 ∧ (k_Mo_openBracket_150 x1 (sA σ 25 (σ.1 0 34) (-1)))
def f_Mo_openBracket_130 (x1 : Int32) (σ : St) : St := f_Mo_openBracket_140 x1 (sA σ 24 (σ.1 0 34) (-1))
def k_Mo_openBracket_130 (x1 : Int32) (σ : St) : Prop := vp_in (σ.1 0 34) 40 ∧ (k_Mo_openBracket_140 x1 (sA σ 24 (σ.1 0 34) (-1)))
def f_Mo_openBracket_120 (x1 : Int32) (σ : St) : St := f_Mo_openBracket_130 x1 (sA σ 23 (σ.1 0 34) 0)
def k_Mo_openBracket_120 (x1 : Int32) (σ : St) : Prop := vp_in (σ.1 0 34) 40 ∧ (k_Mo_openBracket_130 x1 (sA σ 23 (σ.1 0 34) 0))
def f_Mo_openBracket_102 (x1 : Int32) (σ : St) : St := if (σ.1 0 33) = 0 then (f_Mo_openBracket_120 x1 (sA σ 22 (σ.1 0 34) x1)) else σ
def k_Mo_openBracket_102 (x1 : Int32) (σ : St) : Prop := ((σ.1 0 33) = 0 → (vp_in (σ.1 0 34) 40 ∧ (k_Mo_openBracket_120 x1 (sA σ 22 (σ.1 0 34) x1)))) ∧ (¬ (σ.1 0 33) = 0 → True)
def f_Mo_openBracket_99 (x1 : Int32) (s0 : Int32) (σ : St) : St := f_Mo_openBracket_102 x1 (sF σ 0 33 s0)
def k_Mo_openBracket_99 (x1 : Int32) (s0 : Int32) (σ : St) : Prop := (narrow .boolean (.int s0) = .int s0 ∧ fits .boolean (.int s0) = true) ∧ (k_Mo_openBracket_102 x1 (sF σ 0 33 s0))
def f_Mo_openBracket_94 (x1 : Int32) (σ : St) : St := f_Mo_openBracket_99 x1 1 σ
def k_Mo_openBracket_94 (x1 : Int32) (σ : St) : Prop := k_Mo_openBracket_99 x1 1 σ
def f_Mo_openBracket_98 (x1 : Int32) (σ : St) : St := f_Mo_openBracket_99 x1 0 σ
def k_Mo_openBracket_98 (x1 : Int32) (σ : St) : Prop := k_Mo_openBracket_99 x1 0 σ
def f_Mo_openBracket_65 (x1 : Int32) (s0 : Int32) (σ : St) : St := if (σ.1 0 33) = 0 then (if (σ.1 0 34) = 12 then (f_Mo_openBracket_94 x1 σ) else (if s0 = 0 then (if (f_Mo_isSign x1 σ) = 0 then (f_Mo_openBracket_94 x1 σ) else (f_Mo_openBracket_98 x1 σ)) else (f_Mo_openBracket_98 x1 σ))) else (f_Mo_openBracket_94 x1 σ)
def k_Mo_openBracket_65 (x1 : Int32) (s0 : Int32) (σ : St) : Prop := ((σ.1 0 33) = 0 → (((σ.1 0 34) = 12 → (k_Mo_openBracket_94 x1 σ)) ∧ (¬ (σ.1 0 34) = 12 → ((s0 = 0 → ((k_Mo_isSign x1 σ) ∧ (((f_Mo_isSign x1 σ) = 0 → (k_Mo_openBracket_94 x1 σ)) ∧ (¬ (f_Mo_isSign x1 σ) = 0 → (k_Mo_openBracket_98 x1 σ))))) ∧ (¬ s0 = 0 → (k_Mo_openBracket_98 x1 σ)))))) ∧ (¬ (σ.1 0 33) = 0 → (k_Mo_openBracket_94 x1 σ))
def f_Mo_openBracket_64 (x1 : Int32) (σ : St) : St := f_Mo_openBracket_65 x1 0 σ
def k_Mo_openBracket_64 (x1 : Int32) (σ : St) : Prop := k_Mo_openBracket_65 x1 0 σ
def f_Mo_openBracket_25 (x1 : Int32) (σ : St) : St := if x1 < 97 then (f_Mo_openBracket_64 x1 σ) else (if 108 < x1 then (f_Mo_openBracket_64 x1 σ) else (if (σ.1 0 3) ≤ (x1 - 97) then (f_Mo_openBracket_64 x1 σ) else (if (σ.1 2 (x1 - 97).toNatClampNeg) < 0 then (f_Mo_openBracket_64 x1 σ) else (f_Mo_openBracket_65 x1 1 σ))))
def k_Mo_openBracket_25 (x1 : Int32) (σ : St) : Prop := (x1 < 97 → (k_Mo_openBracket_64 x1 σ)) ∧ (¬ x1 < 97 → ((108 < x1 → (k_Mo_openBracket_64 x1 σ)) ∧ (¬ 108 < x1 → (((σ.1 0 3) ≤ (x1 - 97) → (k_Mo_openBracket_64 x1 σ)) ∧ (¬ (σ.1 0 3) ≤ (x1 - 97) → (vp_in (x1 - 97) 12 ∧ (((σ.1 2 (x1 - 97).toNatClampNeg) < 0 → (k_Mo_openBracket_64 x1 σ)) ∧ (¬ (σ.1 2 (x1 - 97).toNatClampNeg) < 0 → (k_Mo_openBracket_65 x1 1 σ)))))))))
def f_Mo_openBracket_15 (x1 : Int32) (σ : St) : St := f_Mo_openBracket_25 x1 (sF σ 0 32 ((σ.1 0 32) + 1))
def k_Mo_openBracket_15 (x1 : Int32) (σ : St) : Prop := k_Mo_openBracket_25 x1 (sF σ 0 32 ((σ.1 0 32) + 1))
def f_Mo_openBracket_10 (σ : St) : St := f_Mo_openBracket_15 (f_Mo_peek σ) σ
def k_Mo_openBracket_10 (σ : St) : Prop := (k_Mo_peek σ) ∧ (k_Mo_openBracket_15 (f_Mo_peek σ) σ)
def f_Mo_openBracket (σ : St) : St := f_Mo_openBracket_10 (sF σ 0 32 ((σ.1 0 32) + 1))
def k_Mo_openBracket (σ : St) : Prop := k_Mo_openBracket_10 (sF σ 0 32 ((σ.1 0 32) + 1))
abbrev w_Mo_openBracket : List Cond := Cond.code y_Mo_openBracket b_Mo_openBracket 4 none :: gw
abbrev rm_Mo_openBracket : Room := { frames := 2, cells := 0, slots := 0, locals := 40 }
set_option maxHeartbeats 4000000 in
set_option maxRecDepth 100000 in
theorem c_Mo_openBracket (l : Launch) (D : va_G) (ty : Nat → ClassId) (h : Nat → Nat) (px : va_W) (sa : Nat → Nat) (σ : St) (sz : Nat) (hk : k_Mo_openBracket σ) : Met l y_Mo_openBracket w_Mo_openBracket rm_Mo_openBracket (va_Pc [.ref (h 0)] (fun U => U.heap.size = sz ∧ va_P D classes (Wm ty h σ px) U.heap ∧ va_K D classes (Ta ty) U ∧ NW U ∧ MK sa (va_A (Wm ty h σ px) sz) U U.heap ∧ va_D (fun _ => True) (Wm ty h σ px))) (va_Qv (fun u : St => u = f_Mo_openBracket σ) (fun u t => va_P D classes (Wm ty h u px) t.heap) (va_A (Wm ty h σ px) sz)) 0 0 (va_A (Wm ty h σ px) sz) := by
  refine Met.ofW (cc := b_Mo_openBracket) (maxL := 4) (ret := none) (by decide) rfl ?_
  intro p e s m args below meth c s₁ B hml hv
  obtain ⟨ha, hsz, hP, hK, hN, hM, hD0⟩ := hv
  have hx := B.exec
  have hb := B.bytes
  have hr := B.returns
  have hg : ∀ w ∈ gw, w.before args s = true := fun w h9 => atoms_spec (ws := w_Mo_openBracket) B.pre w (List.mem_cons_of_mem _ h9)
  have hown : s.vm.findClass "ClauseLedgerModel" = some m.cls := findClass_of_methodNamed B.named
  have hlocks := B.notSynchronized
  subst hsz
  have hD := hD0.self (sz := s.heap.size)
  generalize hAe : va_A (Wm ty h σ px) s.heap.size = A at hD hM ⊢
  have hA : ∀ q : Nat, s.heap.size ≤ q → A q := fun q h9 => by rw [← hAe]; exact Or.inr h9
  have hS : va_S A s.heap s.heap [] := va_S.rf
  have he : entryFrame m args 4 = entryFrame m ([.ref (h 0)] : List Value).toArray 4 := by rw [ha]
  rw [he, lg_entry_eq]
  have hl := lv_entry ([.ref (h 0)]) (n := 4) (Nat.le_of_ble_eq_true rfl)
  generalize (lg_sl ([.ref (h 0)]) ++ List.replicate (4 - (lg_sl ([.ref (h 0)])).length) Slot.unset).toArray = ls at hl ⊢
  have hl : lv_has ls 4 [(0, .ref (h 0))] := hl
  generalize hv : f_Mo_openBracket σ = v
  replace hv := hv.symm
  have B230 : ∀ (H : Heap) (locs : List Loc) (ls : Array Slot) (σ : St), v = f_Mo_openBracket_230 σ → k_Mo_openBracket_230 σ → lv_has ls 4 [] → va_P D classes (Wm ty h σ px) H → va_D A (Wm ty h σ px) → va_S A s.heap H locs → W p l e (headSpec w_Mo_openBracket rm_Mo_openBracket).room s m args below meth c H locs 0 0 (MQ below (va_Qv (fun u : St => u = v) (fun u t => va_P D classes (Wm ty h u px) t.heap) A) args s 0 0 A) (F0 m 230 ls []) := by
    intro H locs ls σ hv hk hl hP hD hS
    unfold f_Mo_openBracket_230 at hv
    unfold k_Mo_openBracket_230 at hk
    exact W.vret hx hb hr (fun t ht hW => ⟨⟨_, rfl, hv.symm, by dsimp only; rw [ht]; exact hP⟩, hS.F ht⟩) hS.2.2 d_Mo_openBracket_230
  have B226 : ∀ (H : Heap) (locs : List Loc) (ls : Array Slot) (σ : St), v = f_Mo_openBracket_226 σ → k_Mo_openBracket_226 σ → lv_has ls 4 [(0, .ref (h 0))] → va_P D classes (Wm ty h σ px) H → va_D A (Wm ty h σ px) → va_S A s.heap H locs → W p l e (headSpec w_Mo_openBracket rm_Mo_openBracket).room s m args below meth c H locs 0 0 (MQ below (va_Qv (fun u : St => u = v) (fun u t => va_P D classes (Wm ty h u px) t.heap) A) args s 0 0 A) (F0 m 226 ls []) := by
    intro H locs ls σ hv hk hl hP hD hS
    unfold f_Mo_openBracket_226 at hv
    unfold k_Mo_openBracket_226 at hk
    refine lv_aload_n hx hb d_Mo_openBracket_226 rfl (lv_at hl 0 rfl) ?_
    obtain ⟨hk0, hk⟩ := hk
    refine va_callv (va_runV (As := []) (rest := []) ⟨hx, hb, hml, hown, hg⟩ (c_Mo_blank l D ty h px sa σ H.size  hk0) ⟨callB_of 0 hg (gw_C m_1462) rfl rfl rfl (hg _ m_13) (hg _ m_1459) hd_Mo_blank ⟨Nat.le_of_ble_eq_true rfl, Nat.le_of_ble_eq_true rfl⟩, hg _ m_1461, hg _ ms_53⟩ (zz_preVW hM hS hA hN hK hP hD 0 rfl rfl) rfl rfl hl.1 rfl (lv_room (Nat.le_of_ble_eq_true rfl)) d_Mo_openBracket_227 ⟨Nat.le_of_ble_eq_true rfl, Nat.le_of_ble_eq_true rfl⟩) hS (fun q _ h => zz_free hD hS hA q h) (zz_free hD hS hA) (fun u227 t H locs ht hvm hp hP1 hz hk1 hS => ?_)
    rw [ht] at hP1
    rw [← hp] at hv hk
    have hD : va_D A (Wm ty h u227 px) := zz_D hD rfl
    have hP := hP1
    exact B230 _ _ _  u227 hv hk (lv_sub hl [] rfl) hP hD hS
  have B214 : ∀ (H : Heap) (locs : List Loc) (ls : Array Slot) (x3 : Int32) (σ : St), v = f_Mo_openBracket_214 x3 σ → k_Mo_openBracket_214 x3 σ → lv_has ls 4 [(0, .ref (h 0)), (3, .int x3)] → va_P D classes (Wm ty h σ px) H → va_D A (Wm ty h σ px) → va_S A s.heap H locs → W p l e (headSpec w_Mo_openBracket rm_Mo_openBracket).room s m args below meth c H locs 0 0 (MQ below (va_Qv (fun u : St => u = v) (fun u t => va_P D classes (Wm ty h u px) t.heap) A) args s 0 0 A) (F0 m 214 ls []) := by
    intro H locs ls x3 σ hv hk hl hP hD hS
    unfold f_Mo_openBracket_214 at hv
    unfold k_Mo_openBracket_214 at hk
    refine lv_aload_n hx hb d_Mo_openBracket_214 rfl (lv_at hl 0 rfl) ?_
    refine va_get (v := .ref (h 25)) (C := R_Mo) (T := T_Mo) (N := 51) hx hb hg in_Mo hown hK hP 0 rfl rfl 38 (by decide) (hg _ m_1297) (fun _ h9 => h9) rfl d_Mo_openBracket_215 ?_
    refine lv_aload_n hx hb d_Mo_openBracket_218 rfl (lv_at hl 0 rfl) ?_
    refine va_get (v := .int (σ.1 0 34)) (C := R_Mo) (T := T_Mo) (N := 51) hx hb hg in_Mo hown hK hP 0 rfl rfl 34 (by decide) (hg _ m_1293) (fun _ h9 => h9) rfl d_Mo_openBracket_219 ?_
    refine lv_iconst (v := 1) hx hb d_Mo_openBracket_222 (by decide) ?_
    refine lv_isub hx hb d_Mo_openBracket_223 ?_
    refine lv_iload_n hx hb d_Mo_openBracket_224 rfl (lv_at hl 1 rfl) ?_
    obtain ⟨hk0, hk⟩ := hk
    refine va_iast hx hb hK hP hD hS 25 0 rfl rfl hk0 d_Mo_openBracket_225 (fun H locs hP hD hS => ?_)
    have hP : va_P D classes (Wm ty h (sA σ 25 ((σ.1 0 34) - 1) x3) px) H := hP
    have hD : va_D A (Wm ty h (sA σ 25 ((σ.1 0 34) - 1) x3) px) := hD
    exact B226 _ _ _  (sA σ 25 ((σ.1 0 34) - 1) x3) hv hk (lv_sub hl [0] rfl) hP hD hS
  have B211 : ∀ (H : Heap) (locs : List Loc) (ls : Array Slot) (x3 : Int32) (s0 : Int32) (σ : St), v = f_Mo_openBracket_211 x3 s0 σ → k_Mo_openBracket_211 x3 s0 σ → lv_has ls 4 [(0, .ref (h 0)), (3, .int x3)] → va_P D classes (Wm ty h σ px) H → va_D A (Wm ty h σ px) → va_S A s.heap H locs → W p l e (headSpec w_Mo_openBracket rm_Mo_openBracket).room s m args below meth c H locs 0 0 (MQ below (va_Qv (fun u : St => u = v) (fun u t => va_P D classes (Wm ty h u px) t.heap) A) args s 0 0 A) (F0 m 211 ls [.int s0, .ref (h 0)]) := by
    intro H locs ls x3 s0 σ hv hk hl hP hD hS
    unfold f_Mo_openBracket_211 at hv
    unfold k_Mo_openBracket_211 at hk
    obtain ⟨hk0, hk⟩ := hk
    refine va_put (v := .int s0) (ty := .boolean) (C := R_Mo) (T := T_Mo) (N := 51) hx hb hg in_Mo ty_Mo ok_Mo nm_Mo hown hK hP hD hS 0 rfl rfl 33 (by decide) (hg _ m_1292) (fun _ h9 => h9) rfl (by decide +kernel) hk0.1 hk0.2 (Nat.le_of_ble_eq_true rfl) d_Mo_openBracket_211 (fun H locs hP hD hS => ?_)
    have hP : va_P D classes (Wm ty h (sF σ 0 33 s0) px) H := hP
    have hD : va_D A (Wm ty h (sF σ 0 33 s0) px) := hD
    exact B214 _ _ _ x3 (sF σ 0 33 s0) hv hk (lv_sub hl [0, 1] rfl) hP hD hS
  have B206 : ∀ (H : Heap) (locs : List Loc) (ls : Array Slot) (x3 : Int32) (σ : St), v = f_Mo_openBracket_206 x3 σ → k_Mo_openBracket_206 x3 σ → lv_has ls 4 [(0, .ref (h 0)), (3, .int x3)] → va_P D classes (Wm ty h σ px) H → va_D A (Wm ty h σ px) → va_S A s.heap H locs → W p l e (headSpec w_Mo_openBracket rm_Mo_openBracket).room s m args below meth c H locs 0 0 (MQ below (va_Qv (fun u : St => u = v) (fun u t => va_P D classes (Wm ty h u px) t.heap) A) args s 0 0 A) (F0 m 206 ls [.ref (h 0)]) := by
    intro H locs ls x3 σ hv hk hl hP hD hS
    unfold f_Mo_openBracket_206 at hv
    unfold k_Mo_openBracket_206 at hk
    refine lv_iconst (v := 1) hx hb d_Mo_openBracket_206 (by decide) ?_
    refine lv_goto (tgt := 211) hx hb d_Mo_openBracket_207 (by decide) ?_
    exact B211 _ _ _ x3 1 σ hv hk (lv_sub hl [0, 1] rfl) hP hD hS
  have B189 : ∀ (H : Heap) (locs : List Loc) (ls : Array Slot) (x3 : Int32) (σ : St), v = f_Mo_openBracket_189 x3 σ → k_Mo_openBracket_189 x3 σ → lv_has ls 4 [(0, .ref (h 0)), (3, .int x3)] → va_P D classes (Wm ty h σ px) H → va_D A (Wm ty h σ px) → va_S A s.heap H locs → W p l e (headSpec w_Mo_openBracket rm_Mo_openBracket).room s m args below meth c H locs 0 0 (MQ below (va_Qv (fun u : St => u = v) (fun u t => va_P D classes (Wm ty h u px) t.heap) A) args s 0 0 A) (F0 m 189 ls []) := by
    intro H locs ls x3 σ hv hk hl hP hD hS
    unfold f_Mo_openBracket_189 at hv
    unfold k_Mo_openBracket_189 at hk
    refine lv_aload_n hx hb d_Mo_openBracket_189 rfl (lv_at hl 0 rfl) ?_
    refine lv_aload_n hx hb d_Mo_openBracket_190 rfl (lv_at hl 0 rfl) ?_
    refine va_get (v := .int (σ.1 0 33)) (C := R_Mo) (T := T_Mo) (N := 51) hx hb hg in_Mo hown hK hP 0 rfl rfl 33 (by decide) (hg _ m_1292) (fun _ h9 => h9) rfl d_Mo_openBracket_191 ?_
    refine lv_if_ne (tgt := 206) hx hb d_Mo_openBracket_194 (by decide) (fun hc => ?_) (fun hc => ?_)
    · have hv := hv.trans (if_neg hc)
      have hk := hk.2 hc
      exact B206 _ _ _ x3 σ hv hk (lv_sub hl [0, 1] rfl) hP hD hS
    · have hv := hv.trans (if_pos hc)
      have hk := hk.1 hc
      refine lv_iload_n hx hb d_Mo_openBracket_197 rfl (lv_at hl 1 rfl) ?_
      refine lv_if_lt (tgt := 206) hx hb d_Mo_openBracket_198 (by decide) (fun hc => ?_) (fun hc => ?_)
      · have hv := hv.trans (if_pos hc)
        have hk := hk.1 hc
        exact B206 _ _ _ x3 σ hv hk (lv_sub hl [0, 1] rfl) hP hD hS
      · have hv := hv.trans (if_neg hc)
        have hk := hk.2 hc
        refine lv_iload_n hx hb d_Mo_openBracket_201 rfl (lv_at hl 1 rfl) ?_
        refine lv_iconst (v := 2) hx hb d_Mo_openBracket_202 (by decide) ?_
        refine lv_icmp_le (tgt := 210) hx hb d_Mo_openBracket_203 (by decide) (fun hc => ?_) (fun hc => ?_)
        · have hv := hv.trans (if_pos hc)
          have hk := hk.1 hc
          refine lv_iconst (v := 0) hx hb d_Mo_openBracket_210 (by decide) ?_
          exact B211 _ _ _ x3 0 σ hv hk (lv_sub hl [0, 1] rfl) hP hD hS
        · have hv := hv.trans (if_neg hc)
          have hk := hk.2 hc
          exact B206 _ _ _ x3 σ hv hk (lv_sub hl [0, 1] rfl) hP hD hS
  have B179 : ∀ (H : Heap) (locs : List Loc) (ls : Array Slot) (x3 : Int32) (σ : St), v = f_Mo_openBracket_179 x3 σ → k_Mo_openBracket_179 x3 σ → lv_has ls 4 [(0, .ref (h 0)), (3, .int x3)] → va_P D classes (Wm ty h σ px) H → va_D A (Wm ty h σ px) → va_S A s.heap H locs → W p l e (headSpec w_Mo_openBracket rm_Mo_openBracket).room s m args below meth c H locs 0 0 (MQ below (va_Qv (fun u : St => u = v) (fun u t => va_P D classes (Wm ty h u px) t.heap) A) args s 0 0 A) (F0 m 179 ls []) := by
    intro H locs ls x3 σ hv hk hl hP hD hS
    unfold f_Mo_openBracket_179 at hv
    unfold k_Mo_openBracket_179 at hk
    refine lv_aload_n hx hb d_Mo_openBracket_179 rfl (lv_at hl 0 rfl) ?_
    refine lv_dup hx hb d_Mo_openBracket_180 rfl ?_
    refine va_get (v := .int (σ.1 0 32)) (C := R_Mo) (T := T_Mo) (N := 51) hx hb hg in_Mo hown hK hP 0 rfl rfl 32 (by decide) (hg _ m_1291) (fun _ h9 => h9) rfl d_Mo_openBracket_181 ?_
    refine lv_iconst (v := 1) hx hb d_Mo_openBracket_184 (by decide) ?_
    refine lv_iadd hx hb d_Mo_openBracket_185 ?_
    refine va_put (v := .int ((σ.1 0 32) + 1)) (ty := .int) (C := R_Mo) (T := T_Mo) (N := 51) hx hb hg in_Mo ty_Mo ok_Mo nm_Mo hown hK hP hD hS 0 rfl rfl 32 (by decide) (hg _ m_1291) (fun _ h9 => h9) rfl (by decide +kernel) rfl rfl (Nat.le_of_ble_eq_true rfl) d_Mo_openBracket_186 (fun H locs hP hD hS => ?_)
    have hP : va_P D classes (Wm ty h (sF σ 0 32 ((σ.1 0 32) + 1)) px) H := hP
    have hD : va_D A (Wm ty h (sF σ 0 32 ((σ.1 0 32) + 1)) px) := hD
    exact B189 _ _ _ x3 (sF σ 0 32 ((σ.1 0 32) + 1)) hv hk (lv_sub hl [0, 1] rfl) hP hD hS
  have B164 : ∀ (H : Heap) (locs : List Loc) (ls : Array Slot) (x1 : Int32) (σ : St), v = f_Mo_openBracket_164 x1 σ → k_Mo_openBracket_164 x1 σ → lv_has ls 4 [(0, .ref (h 0)), (1, .int x1)] → va_P D classes (Wm ty h σ px) H → va_D A (Wm ty h σ px) → va_S A s.heap H locs → W p l e (headSpec w_Mo_openBracket rm_Mo_openBracket).room s m args below meth c H locs 0 0 (MQ below (va_Qv (fun u : St => u = v) (fun u t => va_P D classes (Wm ty h u px) t.heap) A) args s 0 0 A) (F0 m 164 ls []) := by
    intro H locs ls x1 σ hv hk hl hP hD hS
    unfold f_Mo_openBracket_164 at hv
    unfold k_Mo_openBracket_164 at hk
    refine lv_iload_n hx hb d_Mo_openBracket_164 rfl (lv_at hl 1 rfl) ?_
    refine lv_bipush (v := 33) hx hb d_Mo_openBracket_165 (by decide) ?_
    refine lv_icmp_eq (tgt := 171) hx hb d_Mo_openBracket_167 (by decide) (fun hc => ?_) (fun hc => ?_)
    · have hv := hv.trans (if_pos hc)
      have hk := hk.1 hc
      refine lv_aload_n hx hb d_Mo_openBracket_171 rfl (lv_at hl 0 rfl) ?_
      obtain ⟨hk0, hk⟩ := hk
      refine zz_callV (va_runV (As := []) (rest := []) ⟨hx, hb, hml, hown, hg⟩ (c_Mo_peek l D ty h px sa σ  hk0) ⟨callB_of 0 hg (gw_C m_1451) rfl rfl rfl (hg _ m_13) (hg _ m_1448) hd_Mo_peek ⟨Nat.le_of_ble_eq_true rfl, Nat.le_of_ble_eq_true rfl⟩, hg _ m_1450, hg _ ms_51⟩ (zz_preV (hM.at hS) hN hK hP 0 rfl rfl) rfl rfl hl.1 rfl (lv_room (Nat.le_of_ble_eq_true rfl)) d_Mo_openBracket_172 ⟨Nat.le_of_ble_eq_true rfl, Nat.le_of_ble_eq_true rfl⟩) ?_
      refine lv_bipush (v := 120) hx hb d_Mo_openBracket_175 (by decide) ?_
      refine lv_isub hx hb d_Mo_openBracket_177 ?_
      refine lv_istore_n (lv' := [(3, .int ((f_Mo_peek σ) - 120)), (0, .ref (h 0)), (1, .int x1)]) hx hb d_Mo_openBracket_178 rfl hl (by decide) rfl (fun ls hl => ?_)
      exact B179 _ _ _ ((f_Mo_peek σ) - 120) σ hv hk (lv_sub hl [1, 0] rfl) hP hD hS
    · have hv := hv.trans (if_neg hc)
      have hk := hk.2 hc
      exact W.vret hx hb hr (fun t ht hW => ⟨⟨_, rfl, hv.symm, by dsimp only; rw [ht]; exact hP⟩, hS.F ht⟩) hS.2.2 d_Mo_openBracket_170
  have B160 : ∀ (H : Heap) (locs : List Loc) (ls : Array Slot) (x1 : Int32) (σ : St), v = f_Mo_openBracket_160 x1 σ → k_Mo_openBracket_160 x1 σ → lv_has ls 4 [(0, .ref (h 0)), (1, .int x1)] → va_P D classes (Wm ty h σ px) H → va_D A (Wm ty h σ px) → va_S A s.heap H locs → W p l e (headSpec w_Mo_openBracket rm_Mo_openBracket).room s m args below meth c H locs 0 0 (MQ below (va_Qv (fun u : St => u = v) (fun u t => va_P D classes (Wm ty h u px) t.heap) A) args s 0 0 A) (F0 m 160 ls []) := by
    intro H locs ls x1 σ hv hk hl hP hD hS
    unfold f_Mo_openBracket_160 at hv
    unfold k_Mo_openBracket_160 at hk
    refine lv_aload_n hx hb d_Mo_openBracket_160 rfl (lv_at hl 0 rfl) ?_
    obtain ⟨hk0, hk⟩ := hk
    refine va_callv (va_runV (As := []) (rest := []) ⟨hx, hb, hml, hown, hg⟩ (c_Mo_blank l D ty h px sa σ H.size  hk0) ⟨callB_of 0 hg (gw_C m_1462) rfl rfl rfl (hg _ m_13) (hg _ m_1459) hd_Mo_blank ⟨Nat.le_of_ble_eq_true rfl, Nat.le_of_ble_eq_true rfl⟩, hg _ m_1461, hg _ ms_53⟩ (zz_preVW hM hS hA hN hK hP hD 0 rfl rfl) rfl rfl hl.1 rfl (lv_room (Nat.le_of_ble_eq_true rfl)) d_Mo_openBracket_161 ⟨Nat.le_of_ble_eq_true rfl, Nat.le_of_ble_eq_true rfl⟩) hS (fun q _ h => zz_free hD hS hA q h) (zz_free hD hS hA) (fun u161 t H locs ht hvm hp hP1 hz hk1 hS => ?_)
    rw [ht] at hP1
    rw [← hp] at hv hk
    have hD : va_D A (Wm ty h u161 px) := zz_D hD rfl
    have hP := hP1
    exact B164 _ _ _ x1 u161 hv hk (lv_sub hl [0, 1] rfl) hP hD hS
  have B150 : ∀ (H : Heap) (locs : List Loc) (ls : Array Slot) (x1 : Int32) (σ : St), v = f_Mo_openBracket_150 x1 σ → k_Mo_openBracket_150 x1 σ → lv_has ls 4 [(0, .ref (h 0)), (1, .int x1)] → va_P D classes (Wm ty h σ px) H → va_D A (Wm ty h σ px) → va_S A s.heap H locs → W p l e (headSpec w_Mo_openBracket rm_Mo_openBracket).room s m args below meth c H locs 0 0 (MQ below (va_Qv (fun u : St => u = v) (fun u t => va_P D classes (Wm ty h u px) t.heap) A) args s 0 0 A) (F0 m 150 ls []) := by
    intro H locs ls x1 σ hv hk hl hP hD hS
    unfold f_Mo_openBracket_150 at hv
    unfold k_Mo_openBracket_150 at hk
    refine lv_aload_n hx hb d_Mo_openBracket_150 rfl (lv_at hl 0 rfl) ?_
    refine lv_dup hx hb d_Mo_openBracket_151 rfl ?_
    refine va_get (v := .int (σ.1 0 34)) (C := R_Mo) (T := T_Mo) (N := 51) hx hb hg in_Mo hown hK hP 0 rfl rfl 34 (by decide) (hg _ m_1293) (fun _ h9 => h9) rfl d_Mo_openBracket_152 ?_
    refine lv_iconst (v := 1) hx hb d_Mo_openBracket_155 (by decide) ?_
    refine lv_iadd hx hb d_Mo_openBracket_156 ?_
    refine va_put (v := .int ((σ.1 0 34) + 1)) (ty := .int) (C := R_Mo) (T := T_Mo) (N := 51) hx hb hg in_Mo ty_Mo ok_Mo nm_Mo hown hK hP hD hS 0 rfl rfl 34 (by decide) (hg _ m_1293) (fun _ h9 => h9) rfl (by decide +kernel) rfl rfl (Nat.le_of_ble_eq_true rfl) d_Mo_openBracket_157 (fun H locs hP hD hS => ?_)
    have hP : va_P D classes (Wm ty h (sF σ 0 34 ((σ.1 0 34) + 1)) px) H := hP
    have hD : va_D A (Wm ty h (sF σ 0 34 ((σ.1 0 34) + 1)) px) := hD
    exact B160 _ _ _ x1 (sF σ 0 34 ((σ.1 0 34) + 1)) hv hk (lv_sub hl [0, 1] rfl) hP hD hS
  have B140 : ∀ (H : Heap) (locs : List Loc) (ls : Array Slot) (x1 : Int32) (σ : St), v = f_Mo_openBracket_140 x1 σ → k_Mo_openBracket_140 x1 σ → lv_has ls 4 [(0, .ref (h 0)), (1, .int x1)] → va_P D classes (Wm ty h σ px) H → va_D A (Wm ty h σ px) → va_S A s.heap H locs → W p l e (headSpec w_Mo_openBracket rm_Mo_openBracket).room s m args below meth c H locs 0 0 (MQ below (va_Qv (fun u : St => u = v) (fun u t => va_P D classes (Wm ty h u px) t.heap) A) args s 0 0 A) (F0 m 140 ls []) := by
    intro H locs ls x1 σ hv hk hl hP hD hS
    unfold f_Mo_openBracket_140 at hv
    unfold k_Mo_openBracket_140 at hk
    refine lv_aload_n hx hb d_Mo_openBracket_140 rfl (lv_at hl 0 rfl) ?_
    refine va_get (v := .ref (h 25)) (C := R_Mo) (T := T_Mo) (N := 51) hx hb hg in_Mo hown hK hP 0 rfl rfl 38 (by decide) (hg _ m_1297) (fun _ h9 => h9) rfl d_Mo_openBracket_141 ?_
    refine lv_aload_n hx hb d_Mo_openBracket_144 rfl (lv_at hl 0 rfl) ?_
    refine va_get (v := .int (σ.1 0 34)) (C := R_Mo) (T := T_Mo) (N := 51) hx hb hg in_Mo hown hK hP 0 rfl rfl 34 (by decide) (hg _ m_1293) (fun _ h9 => h9) rfl d_Mo_openBracket_145 ?_
    refine lv_iconst (v := -1) hx hb d_Mo_openBracket_148 (by decide) ?_
    obtain ⟨hk0, hk⟩ := hk
    refine va_iast hx hb hK hP hD hS 25 0 rfl rfl hk0 d_Mo_openBracket_149 (fun H locs hP hD hS => ?_)
    have hP : va_P D classes (Wm ty h (sA σ 25 (σ.1 0 34) (-1)) px) H := hP
    have hD : va_D A (Wm ty h (sA σ 25 (σ.1 0 34) (-1)) px) := hD
    exact B150 _ _ _ x1 (sA σ 25 (σ.1 0 34) (-1)) hv hk (lv_sub hl [0, 1] rfl) hP hD hS
  have B130 : ∀ (H : Heap) (locs : List Loc) (ls : Array Slot) (x1 : Int32) (σ : St), v = f_Mo_openBracket_130 x1 σ → k_Mo_openBracket_130 x1 σ → lv_has ls 4 [(0, .ref (h 0)), (1, .int x1)] → va_P D classes (Wm ty h σ px) H → va_D A (Wm ty h σ px) → va_S A s.heap H locs → W p l e (headSpec w_Mo_openBracket rm_Mo_openBracket).room s m args below meth c H locs 0 0 (MQ below (va_Qv (fun u : St => u = v) (fun u t => va_P D classes (Wm ty h u px) t.heap) A) args s 0 0 A) (F0 m 130 ls []) := by
    intro H locs ls x1 σ hv hk hl hP hD hS
    unfold f_Mo_openBracket_130 at hv
    unfold k_Mo_openBracket_130 at hk
    refine lv_aload_n hx hb d_Mo_openBracket_130 rfl (lv_at hl 0 rfl) ?_
    refine va_get (v := .ref (h 24)) (C := R_Mo) (T := T_Mo) (N := 51) hx hb hg in_Mo hown hK hP 0 rfl rfl 37 (by decide) (hg _ m_1296) (fun _ h9 => h9) rfl d_Mo_openBracket_131 ?_
    refine lv_aload_n hx hb d_Mo_openBracket_134 rfl (lv_at hl 0 rfl) ?_
    refine va_get (v := .int (σ.1 0 34)) (C := R_Mo) (T := T_Mo) (N := 51) hx hb hg in_Mo hown hK hP 0 rfl rfl 34 (by decide) (hg _ m_1293) (fun _ h9 => h9) rfl d_Mo_openBracket_135 ?_
    refine lv_iconst (v := -1) hx hb d_Mo_openBracket_138 (by decide) ?_
    obtain ⟨hk0, hk⟩ := hk
    refine va_iast hx hb hK hP hD hS 24 0 rfl rfl hk0 d_Mo_openBracket_139 (fun H locs hP hD hS => ?_)
    have hP : va_P D classes (Wm ty h (sA σ 24 (σ.1 0 34) (-1)) px) H := hP
    have hD : va_D A (Wm ty h (sA σ 24 (σ.1 0 34) (-1)) px) := hD
    exact B140 _ _ _ x1 (sA σ 24 (σ.1 0 34) (-1)) hv hk (lv_sub hl [0, 1] rfl) hP hD hS
  have B120 : ∀ (H : Heap) (locs : List Loc) (ls : Array Slot) (x1 : Int32) (σ : St), v = f_Mo_openBracket_120 x1 σ → k_Mo_openBracket_120 x1 σ → lv_has ls 4 [(0, .ref (h 0)), (1, .int x1)] → va_P D classes (Wm ty h σ px) H → va_D A (Wm ty h σ px) → va_S A s.heap H locs → W p l e (headSpec w_Mo_openBracket rm_Mo_openBracket).room s m args below meth c H locs 0 0 (MQ below (va_Qv (fun u : St => u = v) (fun u t => va_P D classes (Wm ty h u px) t.heap) A) args s 0 0 A) (F0 m 120 ls []) := by
    intro H locs ls x1 σ hv hk hl hP hD hS
    unfold f_Mo_openBracket_120 at hv
    unfold k_Mo_openBracket_120 at hk
    refine lv_aload_n hx hb d_Mo_openBracket_120 rfl (lv_at hl 0 rfl) ?_
    refine va_get (v := .ref (h 23)) (C := R_Mo) (T := T_Mo) (N := 51) hx hb hg in_Mo hown hK hP 0 rfl rfl 36 (by decide) (hg _ m_1295) (fun _ h9 => h9) rfl d_Mo_openBracket_121 ?_
    refine lv_aload_n hx hb d_Mo_openBracket_124 rfl (lv_at hl 0 rfl) ?_
    refine va_get (v := .int (σ.1 0 34)) (C := R_Mo) (T := T_Mo) (N := 51) hx hb hg in_Mo hown hK hP 0 rfl rfl 34 (by decide) (hg _ m_1293) (fun _ h9 => h9) rfl d_Mo_openBracket_125 ?_
    refine lv_iconst (v := 0) hx hb d_Mo_openBracket_128 (by decide) ?_
    obtain ⟨hk0, hk⟩ := hk
    refine va_iast hx hb hK hP hD hS 23 0 rfl rfl hk0 d_Mo_openBracket_129 (fun H locs hP hD hS => ?_)
    have hP : va_P D classes (Wm ty h (sA σ 23 (σ.1 0 34) 0) px) H := hP
    have hD : va_D A (Wm ty h (sA σ 23 (σ.1 0 34) 0) px) := hD
    exact B130 _ _ _ x1 (sA σ 23 (σ.1 0 34) 0) hv hk (lv_sub hl [0, 1] rfl) hP hD hS
  have B102 : ∀ (H : Heap) (locs : List Loc) (ls : Array Slot) (x1 : Int32) (σ : St), v = f_Mo_openBracket_102 x1 σ → k_Mo_openBracket_102 x1 σ → lv_has ls 4 [(0, .ref (h 0)), (1, .int x1)] → va_P D classes (Wm ty h σ px) H → va_D A (Wm ty h σ px) → va_S A s.heap H locs → W p l e (headSpec w_Mo_openBracket rm_Mo_openBracket).room s m args below meth c H locs 0 0 (MQ below (va_Qv (fun u : St => u = v) (fun u t => va_P D classes (Wm ty h u px) t.heap) A) args s 0 0 A) (F0 m 102 ls []) := by
    intro H locs ls x1 σ hv hk hl hP hD hS
    unfold f_Mo_openBracket_102 at hv
    unfold k_Mo_openBracket_102 at hk
    refine lv_aload_n hx hb d_Mo_openBracket_102 rfl (lv_at hl 0 rfl) ?_
    refine va_get (v := .int (σ.1 0 33)) (C := R_Mo) (T := T_Mo) (N := 51) hx hb hg in_Mo hown hK hP 0 rfl rfl 33 (by decide) (hg _ m_1292) (fun _ h9 => h9) rfl d_Mo_openBracket_103 ?_
    refine lv_if_eq (tgt := 110) hx hb d_Mo_openBracket_106 (by decide) (fun hc => ?_) (fun hc => ?_)
    · have hv := hv.trans (if_pos hc)
      have hk := hk.1 hc
      refine lv_aload_n hx hb d_Mo_openBracket_110 rfl (lv_at hl 0 rfl) ?_
      refine va_get (v := .ref (h 22)) (C := R_Mo) (T := T_Mo) (N := 51) hx hb hg in_Mo hown hK hP 0 rfl rfl 35 (by decide) (hg _ m_1294) (fun _ h9 => h9) rfl d_Mo_openBracket_111 ?_
      refine lv_aload_n hx hb d_Mo_openBracket_114 rfl (lv_at hl 0 rfl) ?_
      refine va_get (v := .int (σ.1 0 34)) (C := R_Mo) (T := T_Mo) (N := 51) hx hb hg in_Mo hown hK hP 0 rfl rfl 34 (by decide) (hg _ m_1293) (fun _ h9 => h9) rfl d_Mo_openBracket_115 ?_
      refine lv_iload_n hx hb d_Mo_openBracket_118 rfl (lv_at hl 1 rfl) ?_
      obtain ⟨hk0, hk⟩ := hk
      refine va_iast hx hb hK hP hD hS 22 0 rfl rfl hk0 d_Mo_openBracket_119 (fun H locs hP hD hS => ?_)
      have hP : va_P D classes (Wm ty h (sA σ 22 (σ.1 0 34) x1) px) H := hP
      have hD : va_D A (Wm ty h (sA σ 22 (σ.1 0 34) x1) px) := hD
      exact B120 _ _ _ x1 (sA σ 22 (σ.1 0 34) x1) hv hk (lv_sub hl [0, 1] rfl) hP hD hS
    · have hv := hv.trans (if_neg hc)
      have hk := hk.2 hc
      exact W.vret hx hb hr (fun t ht hW => ⟨⟨_, rfl, hv.symm, by dsimp only; rw [ht]; exact hP⟩, hS.F ht⟩) hS.2.2 d_Mo_openBracket_109
  have B99 : ∀ (H : Heap) (locs : List Loc) (ls : Array Slot) (x1 : Int32) (s0 : Int32) (σ : St), v = f_Mo_openBracket_99 x1 s0 σ → k_Mo_openBracket_99 x1 s0 σ → lv_has ls 4 [(0, .ref (h 0)), (1, .int x1)] → va_P D classes (Wm ty h σ px) H → va_D A (Wm ty h σ px) → va_S A s.heap H locs → W p l e (headSpec w_Mo_openBracket rm_Mo_openBracket).room s m args below meth c H locs 0 0 (MQ below (va_Qv (fun u : St => u = v) (fun u t => va_P D classes (Wm ty h u px) t.heap) A) args s 0 0 A) (F0 m 99 ls [.int s0, .ref (h 0)]) := by
    intro H locs ls x1 s0 σ hv hk hl hP hD hS
    unfold f_Mo_openBracket_99 at hv
    unfold k_Mo_openBracket_99 at hk
    obtain ⟨hk0, hk⟩ := hk
    refine va_put (v := .int s0) (ty := .boolean) (C := R_Mo) (T := T_Mo) (N := 51) hx hb hg in_Mo ty_Mo ok_Mo nm_Mo hown hK hP hD hS 0 rfl rfl 33 (by decide) (hg _ m_1292) (fun _ h9 => h9) rfl (by decide +kernel) hk0.1 hk0.2 (Nat.le_of_ble_eq_true rfl) d_Mo_openBracket_99 (fun H locs hP hD hS => ?_)
    have hP : va_P D classes (Wm ty h (sF σ 0 33 s0) px) H := hP
    have hD : va_D A (Wm ty h (sF σ 0 33 s0) px) := hD
    exact B102 _ _ _ x1 (sF σ 0 33 s0) hv hk (lv_sub hl [0, 1] rfl) hP hD hS
  have B94 : ∀ (H : Heap) (locs : List Loc) (ls : Array Slot) (x1 : Int32) (σ : St), v = f_Mo_openBracket_94 x1 σ → k_Mo_openBracket_94 x1 σ → lv_has ls 4 [(0, .ref (h 0)), (1, .int x1)] → va_P D classes (Wm ty h σ px) H → va_D A (Wm ty h σ px) → va_S A s.heap H locs → W p l e (headSpec w_Mo_openBracket rm_Mo_openBracket).room s m args below meth c H locs 0 0 (MQ below (va_Qv (fun u : St => u = v) (fun u t => va_P D classes (Wm ty h u px) t.heap) A) args s 0 0 A) (F0 m 94 ls [.ref (h 0)]) := by
    intro H locs ls x1 σ hv hk hl hP hD hS
    unfold f_Mo_openBracket_94 at hv
    unfold k_Mo_openBracket_94 at hk
    refine lv_iconst (v := 1) hx hb d_Mo_openBracket_94 (by decide) ?_
    refine lv_goto (tgt := 99) hx hb d_Mo_openBracket_95 (by decide) ?_
    exact B99 _ _ _ x1 1 σ hv hk (lv_sub hl [0, 1] rfl) hP hD hS
  have B98 : ∀ (H : Heap) (locs : List Loc) (ls : Array Slot) (x1 : Int32) (σ : St), v = f_Mo_openBracket_98 x1 σ → k_Mo_openBracket_98 x1 σ → lv_has ls 4 [(0, .ref (h 0)), (1, .int x1)] → va_P D classes (Wm ty h σ px) H → va_D A (Wm ty h σ px) → va_S A s.heap H locs → W p l e (headSpec w_Mo_openBracket rm_Mo_openBracket).room s m args below meth c H locs 0 0 (MQ below (va_Qv (fun u : St => u = v) (fun u t => va_P D classes (Wm ty h u px) t.heap) A) args s 0 0 A) (F0 m 98 ls [.ref (h 0)]) := by
    intro H locs ls x1 σ hv hk hl hP hD hS
    unfold f_Mo_openBracket_98 at hv
    unfold k_Mo_openBracket_98 at hk
    refine lv_iconst (v := 0) hx hb d_Mo_openBracket_98 (by decide) ?_
    exact B99 _ _ _ x1 0 σ hv hk (lv_sub hl [0, 1] rfl) hP hD hS
  have B65 : ∀ (H : Heap) (locs : List Loc) (ls : Array Slot) (x1 : Int32) (s0 : Int32) (σ : St), v = f_Mo_openBracket_65 x1 s0 σ → k_Mo_openBracket_65 x1 s0 σ → lv_has ls 4 [(0, .ref (h 0)), (1, .int x1)] → va_P D classes (Wm ty h σ px) H → va_D A (Wm ty h σ px) → va_S A s.heap H locs → W p l e (headSpec w_Mo_openBracket rm_Mo_openBracket).room s m args below meth c H locs 0 0 (MQ below (va_Qv (fun u : St => u = v) (fun u t => va_P D classes (Wm ty h u px) t.heap) A) args s 0 0 A) (F0 m 65 ls [.int s0]) := by
    intro H locs ls x1 s0 σ hv hk hl hP hD hS
    unfold f_Mo_openBracket_65 at hv
    unfold k_Mo_openBracket_65 at hk
    refine lv_istore_n (lv' := [(2, .int s0), (0, .ref (h 0)), (1, .int x1)]) hx hb d_Mo_openBracket_65 rfl hl (by decide) rfl (fun ls hl => ?_)
    refine lv_aload_n hx hb d_Mo_openBracket_66 rfl (lv_at hl 1 rfl) ?_
    refine lv_aload_n hx hb d_Mo_openBracket_67 rfl (lv_at hl 1 rfl) ?_
    refine va_get (v := .int (σ.1 0 33)) (C := R_Mo) (T := T_Mo) (N := 51) hx hb hg in_Mo hown hK hP 0 rfl rfl 33 (by decide) (hg _ m_1292) (fun _ h9 => h9) rfl d_Mo_openBracket_68 ?_
    refine lv_if_ne (tgt := 94) hx hb d_Mo_openBracket_71 (by decide) (fun hc => ?_) (fun hc => ?_)
    · have hv := hv.trans (if_neg hc)
      have hk := hk.2 hc
      exact B94 _ _ _ x1 σ hv hk (lv_sub hl [1, 2] rfl) hP hD hS
    · have hv := hv.trans (if_pos hc)
      have hk := hk.1 hc
      refine lv_aload_n hx hb d_Mo_openBracket_74 rfl (lv_at hl 1 rfl) ?_
      refine va_get (v := .int (σ.1 0 34)) (C := R_Mo) (T := T_Mo) (N := 51) hx hb hg in_Mo hown hK hP 0 rfl rfl 34 (by decide) (hg _ m_1293) (fun _ h9 => h9) rfl d_Mo_openBracket_75 ?_
      refine lv_bipush (v := 12) hx hb d_Mo_openBracket_78 (by decide) ?_
      refine lv_icmp_eq (tgt := 94) hx hb d_Mo_openBracket_80 (by decide) (fun hc => ?_) (fun hc => ?_)
      · have hv := hv.trans (if_pos hc)
        have hk := hk.1 hc
        exact B94 _ _ _ x1 σ hv hk (lv_sub hl [1, 2] rfl) hP hD hS
      · have hv := hv.trans (if_neg hc)
        have hk := hk.2 hc
        refine lv_iload_n hx hb d_Mo_openBracket_83 rfl (lv_at hl 0 rfl) ?_
        refine lv_if_ne (tgt := 98) hx hb d_Mo_openBracket_84 (by decide) (fun hc => ?_) (fun hc => ?_)
        · have hv := hv.trans (if_neg hc)
          have hk := hk.2 hc
          exact B98 _ _ _ x1 σ hv hk (lv_sub hl [1, 2] rfl) hP hD hS
        · have hv := hv.trans (if_pos hc)
          have hk := hk.1 hc
          refine lv_iload_n hx hb d_Mo_openBracket_87 rfl (lv_at hl 2 rfl) ?_
          obtain ⟨hk0, hk⟩ := hk
          refine zz_callV (va_runS (As := [.int x1]) (rest := [.ref (h 0)]) ⟨hx, hb, hml, hown, hg⟩ (c_Mo_isSign l D ty h px sa σ x1 hk0) ⟨callB_of 1 hg (gw_C m_1458) rfl rfl rfl (hg _ m_13) (hg _ m_1456) hd_Mo_isSign ⟨Nat.le_of_ble_eq_true rfl, Nat.le_of_ble_eq_true rfl⟩, hg _ m_1457⟩ (zz_preS (hM.at hS) hN hK hP) rfl rfl hl.1 rfl (lv_room (Nat.le_of_ble_eq_true rfl)) d_Mo_openBracket_88 ⟨Nat.le_of_ble_eq_true rfl, Nat.le_of_ble_eq_true rfl⟩) ?_
          refine lv_if_ne (tgt := 98) hx hb d_Mo_openBracket_91 (by decide) (fun hc => ?_) (fun hc => ?_)
          · have hv := hv.trans (if_neg hc)
            have hk := hk.2 hc
            exact B98 _ _ _ x1 σ hv hk (lv_sub hl [1, 2] rfl) hP hD hS
          · have hv := hv.trans (if_pos hc)
            have hk := hk.1 hc
            exact B94 _ _ _ x1 σ hv hk (lv_sub hl [1, 2] rfl) hP hD hS
  have B64 : ∀ (H : Heap) (locs : List Loc) (ls : Array Slot) (x1 : Int32) (σ : St), v = f_Mo_openBracket_64 x1 σ → k_Mo_openBracket_64 x1 σ → lv_has ls 4 [(0, .ref (h 0)), (1, .int x1)] → va_P D classes (Wm ty h σ px) H → va_D A (Wm ty h σ px) → va_S A s.heap H locs → W p l e (headSpec w_Mo_openBracket rm_Mo_openBracket).room s m args below meth c H locs 0 0 (MQ below (va_Qv (fun u : St => u = v) (fun u t => va_P D classes (Wm ty h u px) t.heap) A) args s 0 0 A) (F0 m 64 ls []) := by
    intro H locs ls x1 σ hv hk hl hP hD hS
    unfold f_Mo_openBracket_64 at hv
    unfold k_Mo_openBracket_64 at hk
    refine lv_iconst (v := 0) hx hb d_Mo_openBracket_64 (by decide) ?_
    exact B65 _ _ _ x1 0 σ hv hk (lv_sub hl [0, 1] rfl) hP hD hS
  have B25 : ∀ (H : Heap) (locs : List Loc) (ls : Array Slot) (x1 : Int32) (σ : St), v = f_Mo_openBracket_25 x1 σ → k_Mo_openBracket_25 x1 σ → lv_has ls 4 [(0, .ref (h 0)), (1, .int x1)] → va_P D classes (Wm ty h σ px) H → va_D A (Wm ty h σ px) → va_S A s.heap H locs → W p l e (headSpec w_Mo_openBracket rm_Mo_openBracket).room s m args below meth c H locs 0 0 (MQ below (va_Qv (fun u : St => u = v) (fun u t => va_P D classes (Wm ty h u px) t.heap) A) args s 0 0 A) (F0 m 25 ls []) := by
    intro H locs ls x1 σ hv hk hl hP hD hS
    unfold f_Mo_openBracket_25 at hv
    unfold k_Mo_openBracket_25 at hk
    refine lv_iload_n hx hb d_Mo_openBracket_25 rfl (lv_at hl 1 rfl) ?_
    refine lv_bipush (v := 97) hx hb d_Mo_openBracket_26 (by decide) ?_
    refine lv_icmp_lt (tgt := 64) hx hb d_Mo_openBracket_28 (by decide) (fun hc => ?_) (fun hc => ?_)
    · have hv := hv.trans (if_pos hc)
      have hk := hk.1 hc
      exact B64 _ _ _ x1 σ hv hk (lv_sub hl [0, 1] rfl) hP hD hS
    · have hv := hv.trans (if_neg hc)
      have hk := hk.2 hc
      refine lv_iload_n hx hb d_Mo_openBracket_31 rfl (lv_at hl 1 rfl) ?_
      refine lv_bipush (v := 108) hx hb d_Mo_openBracket_32 (by decide) ?_
      refine lv_icmp_gt (tgt := 64) hx hb d_Mo_openBracket_34 (by decide) (fun hc => ?_) (fun hc => ?_)
      · have hv := hv.trans (if_pos hc)
        have hk := hk.1 hc
        exact B64 _ _ _ x1 σ hv hk (lv_sub hl [0, 1] rfl) hP hD hS
      · have hv := hv.trans (if_neg hc)
        have hk := hk.2 hc
        refine lv_iload_n hx hb d_Mo_openBracket_37 rfl (lv_at hl 1 rfl) ?_
        refine lv_bipush (v := 97) hx hb d_Mo_openBracket_38 (by decide) ?_
        refine lv_isub hx hb d_Mo_openBracket_40 ?_
        refine lv_aload_n hx hb d_Mo_openBracket_41 rfl (lv_at hl 0 rfl) ?_
        refine va_get (v := .int (σ.1 0 3)) (C := R_Mo) (T := T_Mo) (N := 51) hx hb hg in_Mo hown hK hP 0 rfl rfl 3 (by decide) (hg _ m_1262) (fun _ h9 => h9) rfl d_Mo_openBracket_42 ?_
        refine lv_icmp_ge (tgt := 64) hx hb d_Mo_openBracket_45 (by decide) (fun hc => ?_) (fun hc => ?_)
        · have hv := hv.trans (if_pos hc)
          have hk := hk.1 hc
          exact B64 _ _ _ x1 σ hv hk (lv_sub hl [0, 1] rfl) hP hD hS
        · have hv := hv.trans (if_neg hc)
          have hk := hk.2 hc
          refine lv_aload_n hx hb d_Mo_openBracket_48 rfl (lv_at hl 0 rfl) ?_
          refine va_get (v := .ref (h 2)) (C := R_Mo) (T := T_Mo) (N := 51) hx hb hg in_Mo hown hK hP 0 rfl rfl 5 (by decide) (hg _ m_1264) (fun _ h9 => h9) rfl d_Mo_openBracket_49 ?_
          refine lv_iload_n hx hb d_Mo_openBracket_52 rfl (lv_at hl 1 rfl) ?_
          refine lv_bipush (v := 97) hx hb d_Mo_openBracket_53 (by decide) ?_
          refine lv_isub hx hb d_Mo_openBracket_55 ?_
          obtain ⟨hk0, hk⟩ := hk
          refine va_iald hx hb hK hP 2 0 rfl rfl hk0 d_Mo_openBracket_56 ?_
          refine lv_if_lt (tgt := 64) hx hb d_Mo_openBracket_57 (by decide) (fun hc => ?_) (fun hc => ?_)
          · have hv := hv.trans (if_pos hc)
            have hk := hk.1 hc
            exact B64 _ _ _ x1 σ hv hk (lv_sub hl [0, 1] rfl) hP hD hS
          · have hv := hv.trans (if_neg hc)
            have hk := hk.2 hc
            refine lv_iconst (v := 1) hx hb d_Mo_openBracket_60 (by decide) ?_
            refine lv_goto (tgt := 65) hx hb d_Mo_openBracket_61 (by decide) ?_
            exact B65 _ _ _ x1 1 σ hv hk (lv_sub hl [0, 1] rfl) hP hD hS
  have B15 : ∀ (H : Heap) (locs : List Loc) (ls : Array Slot) (x1 : Int32) (σ : St), v = f_Mo_openBracket_15 x1 σ → k_Mo_openBracket_15 x1 σ → lv_has ls 4 [(0, .ref (h 0)), (1, .int x1)] → va_P D classes (Wm ty h σ px) H → va_D A (Wm ty h σ px) → va_S A s.heap H locs → W p l e (headSpec w_Mo_openBracket rm_Mo_openBracket).room s m args below meth c H locs 0 0 (MQ below (va_Qv (fun u : St => u = v) (fun u t => va_P D classes (Wm ty h u px) t.heap) A) args s 0 0 A) (F0 m 15 ls []) := by
    intro H locs ls x1 σ hv hk hl hP hD hS
    unfold f_Mo_openBracket_15 at hv
    unfold k_Mo_openBracket_15 at hk
    refine lv_aload_n hx hb d_Mo_openBracket_15 rfl (lv_at hl 0 rfl) ?_
    refine lv_dup hx hb d_Mo_openBracket_16 rfl ?_
    refine va_get (v := .int (σ.1 0 32)) (C := R_Mo) (T := T_Mo) (N := 51) hx hb hg in_Mo hown hK hP 0 rfl rfl 32 (by decide) (hg _ m_1291) (fun _ h9 => h9) rfl d_Mo_openBracket_17 ?_
    refine lv_iconst (v := 1) hx hb d_Mo_openBracket_20 (by decide) ?_
    refine lv_iadd hx hb d_Mo_openBracket_21 ?_
    refine va_put (v := .int ((σ.1 0 32) + 1)) (ty := .int) (C := R_Mo) (T := T_Mo) (N := 51) hx hb hg in_Mo ty_Mo ok_Mo nm_Mo hown hK hP hD hS 0 rfl rfl 32 (by decide) (hg _ m_1291) (fun _ h9 => h9) rfl (by decide +kernel) rfl rfl (Nat.le_of_ble_eq_true rfl) d_Mo_openBracket_22 (fun H locs hP hD hS => ?_)
    have hP : va_P D classes (Wm ty h (sF σ 0 32 ((σ.1 0 32) + 1)) px) H := hP
    have hD : va_D A (Wm ty h (sF σ 0 32 ((σ.1 0 32) + 1)) px) := hD
    exact B25 _ _ _ x1 (sF σ 0 32 ((σ.1 0 32) + 1)) hv hk (lv_sub hl [0, 1] rfl) hP hD hS
  have B10 : ∀ (H : Heap) (locs : List Loc) (ls : Array Slot) (σ : St), v = f_Mo_openBracket_10 σ → k_Mo_openBracket_10 σ → lv_has ls 4 [(0, .ref (h 0))] → va_P D classes (Wm ty h σ px) H → va_D A (Wm ty h σ px) → va_S A s.heap H locs → W p l e (headSpec w_Mo_openBracket rm_Mo_openBracket).room s m args below meth c H locs 0 0 (MQ below (va_Qv (fun u : St => u = v) (fun u t => va_P D classes (Wm ty h u px) t.heap) A) args s 0 0 A) (F0 m 10 ls []) := by
    intro H locs ls σ hv hk hl hP hD hS
    unfold f_Mo_openBracket_10 at hv
    unfold k_Mo_openBracket_10 at hk
    refine lv_aload_n hx hb d_Mo_openBracket_10 rfl (lv_at hl 0 rfl) ?_
    obtain ⟨hk0, hk⟩ := hk
    refine zz_callV (va_runV (As := []) (rest := []) ⟨hx, hb, hml, hown, hg⟩ (c_Mo_peek l D ty h px sa σ  hk0) ⟨callB_of 0 hg (gw_C m_1451) rfl rfl rfl (hg _ m_13) (hg _ m_1448) hd_Mo_peek ⟨Nat.le_of_ble_eq_true rfl, Nat.le_of_ble_eq_true rfl⟩, hg _ m_1450, hg _ ms_51⟩ (zz_preV (hM.at hS) hN hK hP 0 rfl rfl) rfl rfl hl.1 rfl (lv_room (Nat.le_of_ble_eq_true rfl)) d_Mo_openBracket_11 ⟨Nat.le_of_ble_eq_true rfl, Nat.le_of_ble_eq_true rfl⟩) ?_
    refine lv_istore_n (lv' := [(1, .int (f_Mo_peek σ)), (0, .ref (h 0))]) hx hb d_Mo_openBracket_14 rfl hl (by decide) rfl (fun ls hl => ?_)
    exact B15 _ _ _ (f_Mo_peek σ) σ hv hk (lv_sub hl [1, 0] rfl) hP hD hS
  unfold f_Mo_openBracket at hv
  unfold k_Mo_openBracket at hk
  refine lv_aload_n hx hb d_Mo_openBracket_0 rfl (lv_at hl 0 rfl) ?_
  refine lv_dup hx hb d_Mo_openBracket_1 rfl ?_
  refine va_get (v := .int (σ.1 0 32)) (C := R_Mo) (T := T_Mo) (N := 51) hx hb hg in_Mo hown hK hP 0 rfl rfl 32 (by decide) (hg _ m_1291) (fun _ h9 => h9) rfl d_Mo_openBracket_2 ?_
  refine lv_iconst (v := 1) hx hb d_Mo_openBracket_5 (by decide) ?_
  refine lv_iadd hx hb d_Mo_openBracket_6 ?_
  refine va_put (v := .int ((σ.1 0 32) + 1)) (ty := .int) (C := R_Mo) (T := T_Mo) (N := 51) hx hb hg in_Mo ty_Mo ok_Mo nm_Mo hown hK hP hD hS 0 rfl rfl 32 (by decide) (hg _ m_1291) (fun _ h9 => h9) rfl (by decide +kernel) rfl rfl (Nat.le_of_ble_eq_true rfl) d_Mo_openBracket_7 (fun H locs hP hD hS => ?_)
  have hP : va_P D classes (Wm ty h (sF σ 0 32 ((σ.1 0 32) + 1)) px) H := hP
  have hD : va_D A (Wm ty h (sF σ 0 32 ((σ.1 0 32) + 1)) px) := hD
  exact B10 _ _ _  (sF σ 0 32 ((σ.1 0 32) + 1)) hv hk (lv_sub hl [0] rfl) hP hD hS

-- ClauseLedgerModel.takesOne(I)Z
abbrev b_Mo_takesOne : ByteArray := prog_14_method_27_code
def y_Mo_takesOne : MethodName := ⟨"ClauseLedgerModel", "takesOne", "(I)Z"⟩
theorem hd_Mo_takesOne : y_Mo_takesOne.cls ≠ "java/lang/invoke/MethodHandle" ∧ y_Mo_takesOne.cls ≠ "java/lang/invoke/VarHandle" ∧ (parseMethodDescriptor y_Mo_takesOne.desc).map (fun d => d.parameters.length) = some 1 := by decide +kernel
theorem d_Mo_takesOne_0 : decode b_Mo_takesOne 0 = .ok (.iload_n 1, 1) := by decide +kernel
theorem d_Mo_takesOne_1 : decode b_Mo_takesOne 1 = .ok (.bipush 126, 2) := by decide +kernel
theorem d_Mo_takesOne_3 : decode b_Mo_takesOne 3 = .ok (.if_icmp .eq 33, 3) := by decide +kernel
theorem d_Mo_takesOne_6 : decode b_Mo_takesOne 6 = .ok (.iload_n 1, 1) := by decide +kernel
theorem d_Mo_takesOne_7 : decode b_Mo_takesOne 7 = .ok (.bipush 33, 2) := by decide +kernel
theorem d_Mo_takesOne_9 : decode b_Mo_takesOne 9 = .ok (.if_icmp .eq 27, 3) := by decide +kernel
theorem d_Mo_takesOne_12 : decode b_Mo_takesOne 12 = .ok (.iload_n 1, 1) := by decide +kernel
theorem d_Mo_takesOne_13 : decode b_Mo_takesOne 13 = .ok (.bipush 97, 2) := by decide +kernel
theorem d_Mo_takesOne_15 : decode b_Mo_takesOne 15 = .ok (.if_icmp .lt 25, 3) := by decide +kernel
theorem d_Mo_takesOne_18 : decode b_Mo_takesOne 18 = .ok (.iload_n 1, 1) := by decide +kernel
theorem d_Mo_takesOne_19 : decode b_Mo_takesOne 19 = .ok (.bipush 108, 2) := by decide +kernel
theorem d_Mo_takesOne_21 : decode b_Mo_takesOne 21 = .ok (.if_icmp .gt 19, 3) := by decide +kernel
theorem d_Mo_takesOne_24 : decode b_Mo_takesOne 24 = .ok (.aload_n 0, 1) := by decide +kernel
theorem d_Mo_takesOne_25 : decode b_Mo_takesOne 25 = .ok (.getfield 20, 3) := by decide +kernel
theorem d_Mo_takesOne_28 : decode b_Mo_takesOne 28 = .ok (.iload_n 1, 1) := by decide +kernel
theorem d_Mo_takesOne_29 : decode b_Mo_takesOne 29 = .ok (.bipush 97, 2) := by decide +kernel
theorem d_Mo_takesOne_31 : decode b_Mo_takesOne 31 = .ok (.isub, 1) := by decide +kernel
theorem d_Mo_takesOne_32 : decode b_Mo_takesOne 32 = .ok (.iaload, 1) := by decide +kernel
theorem d_Mo_takesOne_33 : decode b_Mo_takesOne 33 = .ok (.ifCond .ge 7, 3) := by decide +kernel
theorem d_Mo_takesOne_36 : decode b_Mo_takesOne 36 = .ok (.iconst 1, 1) := by decide +kernel
theorem d_Mo_takesOne_37 : decode b_Mo_takesOne 37 = .ok (.goto 4, 3) := by decide +kernel
theorem d_Mo_takesOne_40 : decode b_Mo_takesOne 40 = .ok (.iconst 0, 1) := by decide +kernel
theorem d_Mo_takesOne_41 : decode b_Mo_takesOne 41 = .ok (.ireturn, 1) := by decide +kernel
def f_Mo_takesOne_41 (s0 : Int32) (σ : St) : Int32 := s0
def k_Mo_takesOne_41 (s0 : Int32) (σ : St) : Prop := (narrow .boolean (.int s0) = .int s0) ∧ True
def f_Mo_takesOne_36 (σ : St) : Int32 := f_Mo_takesOne_41 1 σ
def k_Mo_takesOne_36 (σ : St) : Prop := k_Mo_takesOne_41 1 σ
def f_Mo_takesOne_40 (σ : St) : Int32 := f_Mo_takesOne_41 0 σ
def k_Mo_takesOne_40 (σ : St) : Prop := k_Mo_takesOne_41 0 σ
def f_Mo_takesOne (a1 : Int32) (σ : St) : Int32 := if a1 = 126 then (f_Mo_takesOne_36 σ) else (if a1 = 33 then (f_Mo_takesOne_36 σ) else (if a1 < 97 then (f_Mo_takesOne_40 σ) else (if 108 < a1 then (f_Mo_takesOne_40 σ) else (if 0 ≤ (σ.1 3 (a1 - 97).toNatClampNeg) then (f_Mo_takesOne_40 σ) else (f_Mo_takesOne_36 σ)))))
def k_Mo_takesOne (a1 : Int32) (σ : St) : Prop := (a1 = 126 → (k_Mo_takesOne_36 σ)) ∧ (¬ a1 = 126 → ((a1 = 33 → (k_Mo_takesOne_36 σ)) ∧ (¬ a1 = 33 → ((a1 < 97 → (k_Mo_takesOne_40 σ)) ∧ (¬ a1 < 97 → ((108 < a1 → (k_Mo_takesOne_40 σ)) ∧ (¬ 108 < a1 → (vp_in (a1 - 97) 12 ∧ ((0 ≤ (σ.1 3 (a1 - 97).toNatClampNeg) → (k_Mo_takesOne_40 σ)) ∧ (¬ 0 ≤ (σ.1 3 (a1 - 97).toNatClampNeg) → (k_Mo_takesOne_36 σ)))))))))))
abbrev w_Mo_takesOne : List Cond := Cond.code y_Mo_takesOne b_Mo_takesOne 2 (some .boolean) :: gw
abbrev rm_Mo_takesOne : Room := { frames := 0, cells := 0, slots := 0, locals := 0 }
set_option maxHeartbeats 4000000 in
set_option maxRecDepth 100000 in
theorem c_Mo_takesOne (l : Launch) (D : va_G) (ty : Nat → ClassId) (h : Nat → Nat) (px : va_W) (sa : Nat → Nat) (σ : St) (a1 : Int32) (hk : k_Mo_takesOne a1 σ) : Met l y_Mo_takesOne w_Mo_takesOne rm_Mo_takesOne (va_Pc [.ref (h 0), .int a1] (fun U => va_P D classes (Wm ty h σ px) U.heap ∧ va_K D classes (Ta ty) U ∧ NW U ∧ MK sa (fun _ => False) U U.heap)) (k2_QcV (.int (f_Mo_takesOne a1 σ))) 0 0 (fun _ => False) := by
  refine Met.ofW (cc := b_Mo_takesOne) (maxL := 2) (ret := (some .boolean)) (by decide) rfl ?_
  intro p e s m args below meth c s₁ B hml hv
  obtain ⟨ha, hP, hK, hN, hM⟩ := hv
  have hx := B.exec
  have hb := B.bytes
  have hr := B.returns
  have hg : ∀ w ∈ gw, w.before args s = true := fun w h9 => atoms_spec (ws := w_Mo_takesOne) B.pre w (List.mem_cons_of_mem _ h9)
  have hown : s.vm.findClass "ClauseLedgerModel" = some m.cls := findClass_of_methodNamed B.named
  have hlocks := B.notSynchronized
  have he : entryFrame m args 2 = entryFrame m ([.ref (h 0), .int a1] : List Value).toArray 2 := by rw [ha]
  rw [he, lg_entry_eq]
  have hl := lv_entry ([.ref (h 0), .int a1]) (n := 2) (Nat.le_of_ble_eq_true rfl)
  generalize (lg_sl ([.ref (h 0), .int a1]) ++ List.replicate (2 - (lg_sl ([.ref (h 0), .int a1])).length) Slot.unset).toArray = ls at hl ⊢
  have hl : lv_has ls 2 [(0, .ref (h 0)), (1, .int a1)] := hl
  generalize hv : f_Mo_takesOne a1 σ = v
  replace hv := hv.symm
  have B41 : ∀ (ls : Array Slot) (s0 : Int32), v = f_Mo_takesOne_41 s0 σ → k_Mo_takesOne_41 s0 σ → lv_has ls 2 [] → W p l e (headSpec w_Mo_takesOne rm_Mo_takesOne).room s m args below meth c s.heap [] 0 0 (MQ below (k2_QcV (.int v)) args s 0 0 (fun _ => False)) (F0 m 41 ls [.int s0]) := by
    intro ls s0 hv hk hl
    unfold f_Mo_takesOne_41 at hv
    unfold k_Mo_takesOne_41 at hk
    obtain ⟨hk0, hk⟩ := hk
    exact W.zret hx hb hr hk0 (fun t ht hW => ⟨by rw [hv], ht⟩) (fun q h => nomatch h) d_Mo_takesOne_41
  have B36 : ∀ (ls : Array Slot), v = f_Mo_takesOne_36 σ → k_Mo_takesOne_36 σ → lv_has ls 2 [] → W p l e (headSpec w_Mo_takesOne rm_Mo_takesOne).room s m args below meth c s.heap [] 0 0 (MQ below (k2_QcV (.int v)) args s 0 0 (fun _ => False)) (F0 m 36 ls []) := by
    intro ls hv hk hl
    unfold f_Mo_takesOne_36 at hv
    unfold k_Mo_takesOne_36 at hk
    refine lv_iconst (v := 1) hx hb d_Mo_takesOne_36 (by decide) ?_
    refine lv_goto (tgt := 41) hx hb d_Mo_takesOne_37 (by decide) ?_
    exact B41 _ 1 hv hk (lv_sub hl [] rfl)
  have B40 : ∀ (ls : Array Slot), v = f_Mo_takesOne_40 σ → k_Mo_takesOne_40 σ → lv_has ls 2 [] → W p l e (headSpec w_Mo_takesOne rm_Mo_takesOne).room s m args below meth c s.heap [] 0 0 (MQ below (k2_QcV (.int v)) args s 0 0 (fun _ => False)) (F0 m 40 ls []) := by
    intro ls hv hk hl
    unfold f_Mo_takesOne_40 at hv
    unfold k_Mo_takesOne_40 at hk
    refine lv_iconst (v := 0) hx hb d_Mo_takesOne_40 (by decide) ?_
    exact B41 _ 0 hv hk (lv_sub hl [] rfl)
  unfold f_Mo_takesOne at hv
  unfold k_Mo_takesOne at hk
  refine lv_iload_n hx hb d_Mo_takesOne_0 rfl (lv_at hl 1 rfl) ?_
  refine lv_bipush (v := 126) hx hb d_Mo_takesOne_1 (by decide) ?_
  refine lv_icmp_eq (tgt := 36) hx hb d_Mo_takesOne_3 (by decide) (fun hc => ?_) (fun hc => ?_)
  · have hv := hv.trans (if_pos hc)
    have hk := hk.1 hc
    exact B36 _  hv hk (lv_sub hl [] rfl)
  · have hv := hv.trans (if_neg hc)
    have hk := hk.2 hc
    refine lv_iload_n hx hb d_Mo_takesOne_6 rfl (lv_at hl 1 rfl) ?_
    refine lv_bipush (v := 33) hx hb d_Mo_takesOne_7 (by decide) ?_
    refine lv_icmp_eq (tgt := 36) hx hb d_Mo_takesOne_9 (by decide) (fun hc => ?_) (fun hc => ?_)
    · have hv := hv.trans (if_pos hc)
      have hk := hk.1 hc
      exact B36 _  hv hk (lv_sub hl [] rfl)
    · have hv := hv.trans (if_neg hc)
      have hk := hk.2 hc
      refine lv_iload_n hx hb d_Mo_takesOne_12 rfl (lv_at hl 1 rfl) ?_
      refine lv_bipush (v := 97) hx hb d_Mo_takesOne_13 (by decide) ?_
      refine lv_icmp_lt (tgt := 40) hx hb d_Mo_takesOne_15 (by decide) (fun hc => ?_) (fun hc => ?_)
      · have hv := hv.trans (if_pos hc)
        have hk := hk.1 hc
        exact B40 _  hv hk (lv_sub hl [] rfl)
      · have hv := hv.trans (if_neg hc)
        have hk := hk.2 hc
        refine lv_iload_n hx hb d_Mo_takesOne_18 rfl (lv_at hl 1 rfl) ?_
        refine lv_bipush (v := 108) hx hb d_Mo_takesOne_19 (by decide) ?_
        refine lv_icmp_gt (tgt := 40) hx hb d_Mo_takesOne_21 (by decide) (fun hc => ?_) (fun hc => ?_)
        · have hv := hv.trans (if_pos hc)
          have hk := hk.1 hc
          exact B40 _  hv hk (lv_sub hl [] rfl)
        · have hv := hv.trans (if_neg hc)
          have hk := hk.2 hc
          refine lv_aload_n hx hb d_Mo_takesOne_24 rfl (lv_at hl 0 rfl) ?_
          refine va_get (v := .ref (h 3)) (C := R_Mo) (T := T_Mo) (N := 51) hx hb hg in_Mo hown hK hP 0 rfl rfl 6 (by decide) (hg _ m_1265) (fun _ h9 => h9) rfl d_Mo_takesOne_25 ?_
          refine lv_iload_n hx hb d_Mo_takesOne_28 rfl (lv_at hl 1 rfl) ?_
          refine lv_bipush (v := 97) hx hb d_Mo_takesOne_29 (by decide) ?_
          refine lv_isub hx hb d_Mo_takesOne_31 ?_
          obtain ⟨hk0, hk⟩ := hk
          refine va_iald hx hb hK hP 3 0 rfl rfl hk0 d_Mo_takesOne_32 ?_
          refine lv_if_ge (tgt := 40) hx hb d_Mo_takesOne_33 (by decide) (fun hc => ?_) (fun hc => ?_)
          · have hv := hv.trans (if_pos hc)
            have hk := hk.1 hc
            exact B40 _  hv hk (lv_sub hl [] rfl)
          · have hv := hv.trans (if_neg hc)
            have hk := hk.2 hc
            exact B36 _  hv hk (lv_sub hl [] rfl)

-- ClauseLedgerModel.closeBracket()I
abbrev b_Mo_closeBracket : ByteArray := prog_14_method_28_code
def y_Mo_closeBracket : MethodName := ⟨"ClauseLedgerModel", "closeBracket", "()I"⟩
theorem hd_Mo_closeBracket : y_Mo_closeBracket.cls ≠ "java/lang/invoke/MethodHandle" ∧ y_Mo_closeBracket.cls ≠ "java/lang/invoke/VarHandle" ∧ (parseMethodDescriptor y_Mo_closeBracket.desc).map (fun d => d.parameters.length) = some 0 := by decide +kernel
theorem d_Mo_closeBracket_0 : decode b_Mo_closeBracket 0 = .ok (.aload_n 0, 1) := by decide +kernel
theorem d_Mo_closeBracket_1 : decode b_Mo_closeBracket 1 = .ok (.dup, 1) := by decide +kernel
theorem d_Mo_closeBracket_2 : decode b_Mo_closeBracket 2 = .ok (.getfield 173, 3) := by decide +kernel
theorem d_Mo_closeBracket_5 : decode b_Mo_closeBracket 5 = .ok (.iconst 1, 1) := by decide +kernel
theorem d_Mo_closeBracket_6 : decode b_Mo_closeBracket 6 = .ok (.isub, 1) := by decide +kernel
theorem d_Mo_closeBracket_7 : decode b_Mo_closeBracket 7 = .ok (.putfield 173, 3) := by decide +kernel
theorem d_Mo_closeBracket_10 : decode b_Mo_closeBracket 10 = .ok (.aload_n 0, 1) := by decide +kernel
theorem d_Mo_closeBracket_11 : decode b_Mo_closeBracket 11 = .ok (.getfield 78, 3) := by decide +kernel
theorem d_Mo_closeBracket_14 : decode b_Mo_closeBracket 14 = .ok (.aload_n 0, 1) := by decide +kernel
theorem d_Mo_closeBracket_15 : decode b_Mo_closeBracket 15 = .ok (.getfield 173, 3) := by decide +kernel
theorem d_Mo_closeBracket_18 : decode b_Mo_closeBracket 18 = .ok (.iaload, 1) := by decide +kernel
theorem d_Mo_closeBracket_19 : decode b_Mo_closeBracket 19 = .ok (.istore_n 1, 1) := by decide +kernel
theorem d_Mo_closeBracket_20 : decode b_Mo_closeBracket 20 = .ok (.aload_n 0, 1) := by decide +kernel
theorem d_Mo_closeBracket_21 : decode b_Mo_closeBracket 21 = .ok (.getfield 84, 3) := by decide +kernel
theorem d_Mo_closeBracket_24 : decode b_Mo_closeBracket 24 = .ok (.aload_n 0, 1) := by decide +kernel
theorem d_Mo_closeBracket_25 : decode b_Mo_closeBracket 25 = .ok (.getfield 173, 3) := by decide +kernel
theorem d_Mo_closeBracket_28 : decode b_Mo_closeBracket 28 = .ok (.iaload, 1) := by decide +kernel
theorem d_Mo_closeBracket_29 : decode b_Mo_closeBracket 29 = .ok (.istore_n 2, 1) := by decide +kernel
theorem d_Mo_closeBracket_30 : decode b_Mo_closeBracket 30 = .ok (.aload_n 0, 1) := by decide +kernel
theorem d_Mo_closeBracket_31 : decode b_Mo_closeBracket 31 = .ok (.getfield 87, 3) := by decide +kernel
theorem d_Mo_closeBracket_34 : decode b_Mo_closeBracket 34 = .ok (.aload_n 0, 1) := by decide +kernel
theorem d_Mo_closeBracket_35 : decode b_Mo_closeBracket 35 = .ok (.getfield 173, 3) := by decide +kernel
theorem d_Mo_closeBracket_38 : decode b_Mo_closeBracket 38 = .ok (.iaload, 1) := by decide +kernel
theorem d_Mo_closeBracket_39 : decode b_Mo_closeBracket 39 = .ok (.istore_n 3, 1) := by decide +kernel
theorem d_Mo_closeBracket_40 : decode b_Mo_closeBracket 40 = .ok (.iload_n 1, 1) := by decide +kernel
theorem d_Mo_closeBracket_41 : decode b_Mo_closeBracket 41 = .ok (.bipush 97, 2) := by decide +kernel
theorem d_Mo_closeBracket_43 : decode b_Mo_closeBracket 43 = .ok (.if_icmp .lt 97, 3) := by decide +kernel
theorem d_Mo_closeBracket_46 : decode b_Mo_closeBracket 46 = .ok (.iload_n 1, 1) := by decide +kernel
theorem d_Mo_closeBracket_47 : decode b_Mo_closeBracket 47 = .ok (.bipush 108, 2) := by decide +kernel
theorem d_Mo_closeBracket_49 : decode b_Mo_closeBracket 49 = .ok (.if_icmp .gt 91, 3) := by decide +kernel
theorem d_Mo_closeBracket_52 : decode b_Mo_closeBracket 52 = .ok (.iload_n 1, 1) := by decide +kernel
theorem d_Mo_closeBracket_53 : decode b_Mo_closeBracket 53 = .ok (.bipush 97, 2) := by decide +kernel
theorem d_Mo_closeBracket_55 : decode b_Mo_closeBracket 55 = .ok (.isub, 1) := by decide +kernel
theorem d_Mo_closeBracket_56 : decode b_Mo_closeBracket 56 = .ok (.istore 4, 2) := by decide +kernel
theorem d_Mo_closeBracket_58 : decode b_Mo_closeBracket 58 = .ok (.aload_n 0, 1) := by decide +kernel
theorem d_Mo_closeBracket_59 : decode b_Mo_closeBracket 59 = .ok (.aload_n 0, 1) := by decide +kernel
theorem d_Mo_closeBracket_60 : decode b_Mo_closeBracket 60 = .ok (.getfield 163, 3) := by decide +kernel
theorem d_Mo_closeBracket_63 : decode b_Mo_closeBracket 63 = .ok (.ifCond .ne 39, 3) := by decide +kernel
theorem d_Mo_closeBracket_66 : decode b_Mo_closeBracket 66 = .ok (.aload_n 0, 1) := by decide +kernel
theorem d_Mo_closeBracket_67 : decode b_Mo_closeBracket 67 = .ok (.getfield 29, 3) := by decide +kernel
theorem d_Mo_closeBracket_70 : decode b_Mo_closeBracket 70 = .ok (.iload_n 2, 1) := by decide +kernel
theorem d_Mo_closeBracket_71 : decode b_Mo_closeBracket 71 = .ok (.iaload, 1) := by decide +kernel
theorem d_Mo_closeBracket_72 : decode b_Mo_closeBracket 72 = .ok (.aload_n 0, 1) := by decide +kernel
theorem d_Mo_closeBracket_73 : decode b_Mo_closeBracket 73 = .ok (.getfield 17, 3) := by decide +kernel
theorem d_Mo_closeBracket_76 : decode b_Mo_closeBracket 76 = .ok (.iload 4, 2) := by decide +kernel
theorem d_Mo_closeBracket_78 : decode b_Mo_closeBracket 78 = .ok (.iaload, 1) := by decide +kernel
theorem d_Mo_closeBracket_79 : decode b_Mo_closeBracket 79 = .ok (.if_icmp .ne 23, 3) := by decide +kernel
theorem d_Mo_closeBracket_82 : decode b_Mo_closeBracket 82 = .ok (.iload_n 3, 1) := by decide +kernel
theorem d_Mo_closeBracket_83 : decode b_Mo_closeBracket 83 = .ok (.ifCond .lt 23, 3) := by decide +kernel
theorem d_Mo_closeBracket_86 : decode b_Mo_closeBracket 86 = .ok (.aload_n 0, 1) := by decide +kernel
theorem d_Mo_closeBracket_87 : decode b_Mo_closeBracket 87 = .ok (.getfield 29, 3) := by decide +kernel
theorem d_Mo_closeBracket_90 : decode b_Mo_closeBracket 90 = .ok (.iload_n 3, 1) := by decide +kernel
theorem d_Mo_closeBracket_91 : decode b_Mo_closeBracket 91 = .ok (.iaload, 1) := by decide +kernel
theorem d_Mo_closeBracket_92 : decode b_Mo_closeBracket 92 = .ok (.aload_n 0, 1) := by decide +kernel
theorem d_Mo_closeBracket_93 : decode b_Mo_closeBracket 93 = .ok (.getfield 20, 3) := by decide +kernel
theorem d_Mo_closeBracket_96 : decode b_Mo_closeBracket 96 = .ok (.iload 4, 2) := by decide +kernel
theorem d_Mo_closeBracket_98 : decode b_Mo_closeBracket 98 = .ok (.iaload, 1) := by decide +kernel
theorem d_Mo_closeBracket_99 : decode b_Mo_closeBracket 99 = .ok (.if_icmp .eq 7, 3) := by decide +kernel
theorem d_Mo_closeBracket_102 : decode b_Mo_closeBracket 102 = .ok (.iconst 1, 1) := by decide +kernel
theorem d_Mo_closeBracket_103 : decode b_Mo_closeBracket 103 = .ok (.goto 4, 3) := by decide +kernel
theorem d_Mo_closeBracket_106 : decode b_Mo_closeBracket 106 = .ok (.iconst 0, 1) := by decide +kernel
theorem d_Mo_closeBracket_107 : decode b_Mo_closeBracket 107 = .ok (.putfield 163, 3) := by decide +kernel
theorem d_Mo_closeBracket_110 : decode b_Mo_closeBracket 110 = .ok (.aload_n 0, 1) := by decide +kernel
theorem d_Mo_closeBracket_111 : decode b_Mo_closeBracket 111 = .ok (.getfield 163, 3) := by decide +kernel
theorem d_Mo_closeBracket_114 : decode b_Mo_closeBracket 114 = .ok (.ifCond .eq 7, 3) := by decide +kernel
theorem d_Mo_closeBracket_117 : decode b_Mo_closeBracket 117 = .ok (.iconst 0, 1) := by decide +kernel
theorem d_Mo_closeBracket_118 : decode b_Mo_closeBracket 118 = .ok (.goto 21, 3) := by decide +kernel
theorem d_Mo_closeBracket_121 : decode b_Mo_closeBracket 121 = .ok (.aload_n 0, 1) := by decide +kernel
theorem d_Mo_closeBracket_122 : decode b_Mo_closeBracket 122 = .ok (.iconst 0, 1) := by decide +kernel
theorem d_Mo_closeBracket_123 : decode b_Mo_closeBracket 123 = .ok (.aload_n 0, 1) := by decide +kernel
theorem d_Mo_closeBracket_124 : decode b_Mo_closeBracket 124 = .ok (.getfield 13, 3) := by decide +kernel
theorem d_Mo_closeBracket_127 : decode b_Mo_closeBracket 127 = .ok (.iload 4, 2) := by decide +kernel
theorem d_Mo_closeBracket_129 : decode b_Mo_closeBracket 129 = .ok (.iaload, 1) := by decide +kernel
theorem d_Mo_closeBracket_130 : decode b_Mo_closeBracket 130 = .ok (.iload_n 2, 1) := by decide +kernel
theorem d_Mo_closeBracket_131 : decode b_Mo_closeBracket 131 = .ok (.iload_n 3, 1) := by decide +kernel
theorem d_Mo_closeBracket_132 : decode b_Mo_closeBracket 132 = .ok (.iload 4, 2) := by decide +kernel
theorem d_Mo_closeBracket_134 : decode b_Mo_closeBracket 134 = .ok (.iconst 0, 1) := by decide +kernel
theorem d_Mo_closeBracket_135 : decode b_Mo_closeBracket 135 = .ok (.iconst 0, 1) := by decide +kernel
theorem d_Mo_closeBracket_136 : decode b_Mo_closeBracket 136 = .ok (.invokevirtual 112, 3) := by decide +kernel
theorem d_Mo_closeBracket_139 : decode b_Mo_closeBracket 139 = .ok (.ireturn, 1) := by decide +kernel
theorem d_Mo_closeBracket_140 : decode b_Mo_closeBracket 140 = .ok (.iload_n 1, 1) := by decide +kernel
theorem d_Mo_closeBracket_141 : decode b_Mo_closeBracket 141 = .ok (.invokestatic 182, 3) := by decide +kernel
theorem d_Mo_closeBracket_144 : decode b_Mo_closeBracket 144 = .ok (.istore 4, 2) := by decide +kernel
theorem d_Mo_closeBracket_146 : decode b_Mo_closeBracket 146 = .ok (.iload 4, 2) := by decide +kernel
theorem d_Mo_closeBracket_148 : decode b_Mo_closeBracket 148 = .ok (.iconst 3, 1) := by decide +kernel
theorem d_Mo_closeBracket_149 : decode b_Mo_closeBracket 149 = .ok (.if_icmp .eq 10, 3) := by decide +kernel
theorem d_Mo_closeBracket_152 : decode b_Mo_closeBracket 152 = .ok (.iload 4, 2) := by decide +kernel
theorem d_Mo_closeBracket_154 : decode b_Mo_closeBracket 154 = .ok (.bipush 6, 2) := by decide +kernel
theorem d_Mo_closeBracket_156 : decode b_Mo_closeBracket 156 = .ok (.if_icmp .ne 7, 3) := by decide +kernel
theorem d_Mo_closeBracket_159 : decode b_Mo_closeBracket 159 = .ok (.iconst 1, 1) := by decide +kernel
theorem d_Mo_closeBracket_160 : decode b_Mo_closeBracket 160 = .ok (.goto 4, 3) := by decide +kernel
theorem d_Mo_closeBracket_163 : decode b_Mo_closeBracket 163 = .ok (.iconst 0, 1) := by decide +kernel
theorem d_Mo_closeBracket_164 : decode b_Mo_closeBracket 164 = .ok (.istore 5, 2) := by decide +kernel
theorem d_Mo_closeBracket_166 : decode b_Mo_closeBracket 166 = .ok (.iload 4, 2) := by decide +kernel
theorem d_Mo_closeBracket_168 : decode b_Mo_closeBracket 168 = .ok (.bipush 7, 2) := by decide +kernel
theorem d_Mo_closeBracket_170 : decode b_Mo_closeBracket 170 = .ok (.if_icmp .eq 10, 3) := by decide +kernel
theorem d_Mo_closeBracket_173 : decode b_Mo_closeBracket 173 = .ok (.iload 4, 2) := by decide +kernel
theorem d_Mo_closeBracket_175 : decode b_Mo_closeBracket 175 = .ok (.bipush 10, 2) := by decide +kernel
theorem d_Mo_closeBracket_177 : decode b_Mo_closeBracket 177 = .ok (.if_icmp .ne 11, 3) := by decide +kernel
theorem d_Mo_closeBracket_180 : decode b_Mo_closeBracket 180 = .ok (.aload_n 0, 1) := by decide +kernel
theorem d_Mo_closeBracket_181 : decode b_Mo_closeBracket 181 = .ok (.iload_n 2, 1) := by decide +kernel
theorem d_Mo_closeBracket_182 : decode b_Mo_closeBracket 182 = .ok (.invokevirtual 186, 3) := by decide +kernel
theorem d_Mo_closeBracket_185 : decode b_Mo_closeBracket 185 = .ok (.goto 110, 3) := by decide +kernel
theorem d_Mo_closeBracket_188 : decode b_Mo_closeBracket 188 = .ok (.iload 4, 2) := by decide +kernel
theorem d_Mo_closeBracket_190 : decode b_Mo_closeBracket 190 = .ok (.iconst 5, 1) := by decide +kernel
theorem d_Mo_closeBracket_191 : decode b_Mo_closeBracket 191 = .ok (.if_icmp .ne 26, 3) := by decide +kernel
theorem d_Mo_closeBracket_194 : decode b_Mo_closeBracket 194 = .ok (.aload_n 0, 1) := by decide +kernel
theorem d_Mo_closeBracket_195 : decode b_Mo_closeBracket 195 = .ok (.getfield 29, 3) := by decide +kernel
theorem d_Mo_closeBracket_198 : decode b_Mo_closeBracket 198 = .ok (.iload_n 2, 1) := by decide +kernel
theorem d_Mo_closeBracket_199 : decode b_Mo_closeBracket 199 = .ok (.iaload, 1) := by decide +kernel
theorem d_Mo_closeBracket_200 : decode b_Mo_closeBracket 200 = .ok (.aload_n 0, 1) := by decide +kernel
theorem d_Mo_closeBracket_201 : decode b_Mo_closeBracket 201 = .ok (.getfield 29, 3) := by decide +kernel
theorem d_Mo_closeBracket_204 : decode b_Mo_closeBracket 204 = .ok (.iload_n 3, 1) := by decide +kernel
theorem d_Mo_closeBracket_205 : decode b_Mo_closeBracket 205 = .ok (.iaload, 1) := by decide +kernel
theorem d_Mo_closeBracket_206 : decode b_Mo_closeBracket 206 = .ok (.if_icmp .ne 7, 3) := by decide +kernel
theorem d_Mo_closeBracket_209 : decode b_Mo_closeBracket 209 = .ok (.iconst 1, 1) := by decide +kernel
theorem d_Mo_closeBracket_210 : decode b_Mo_closeBracket 210 = .ok (.goto 85, 3) := by decide +kernel
theorem d_Mo_closeBracket_213 : decode b_Mo_closeBracket 213 = .ok (.iconst 0, 1) := by decide +kernel
theorem d_Mo_closeBracket_214 : decode b_Mo_closeBracket 214 = .ok (.goto 81, 3) := by decide +kernel
theorem d_Mo_closeBracket_217 : decode b_Mo_closeBracket 217 = .ok (.iload 4, 2) := by decide +kernel
theorem d_Mo_closeBracket_219 : decode b_Mo_closeBracket 219 = .ok (.bipush 8, 2) := by decide +kernel
theorem d_Mo_closeBracket_221 : decode b_Mo_closeBracket 221 = .ok (.if_icmp .eq 10, 3) := by decide +kernel
theorem d_Mo_closeBracket_224 : decode b_Mo_closeBracket 224 = .ok (.iload 4, 2) := by decide +kernel
theorem d_Mo_closeBracket_226 : decode b_Mo_closeBracket 226 = .ok (.bipush 9, 2) := by decide +kernel
theorem d_Mo_closeBracket_228 : decode b_Mo_closeBracket 228 = .ok (.if_icmp .ne 27, 3) := by decide +kernel
theorem d_Mo_closeBracket_231 : decode b_Mo_closeBracket 231 = .ok (.aload_n 0, 1) := by decide +kernel
theorem d_Mo_closeBracket_232 : decode b_Mo_closeBracket 232 = .ok (.iload_n 2, 1) := by decide +kernel
theorem d_Mo_closeBracket_233 : decode b_Mo_closeBracket 233 = .ok (.invokevirtual 186, 3) := by decide +kernel
theorem d_Mo_closeBracket_236 : decode b_Mo_closeBracket 236 = .ok (.ifCond .eq 15, 3) := by decide +kernel
theorem d_Mo_closeBracket_239 : decode b_Mo_closeBracket 239 = .ok (.aload_n 0, 1) := by decide +kernel
theorem d_Mo_closeBracket_240 : decode b_Mo_closeBracket 240 = .ok (.iload_n 3, 1) := by decide +kernel
theorem d_Mo_closeBracket_241 : decode b_Mo_closeBracket 241 = .ok (.invokevirtual 186, 3) := by decide +kernel
theorem d_Mo_closeBracket_244 : decode b_Mo_closeBracket 244 = .ok (.ifCond .eq 7, 3) := by decide +kernel
theorem d_Mo_closeBracket_247 : decode b_Mo_closeBracket 247 = .ok (.iconst 1, 1) := by decide +kernel
theorem d_Mo_closeBracket_248 : decode b_Mo_closeBracket 248 = .ok (.goto 47, 3) := by decide +kernel
theorem d_Mo_closeBracket_251 : decode b_Mo_closeBracket 251 = .ok (.iconst 0, 1) := by decide +kernel
theorem d_Mo_closeBracket_252 : decode b_Mo_closeBracket 252 = .ok (.goto 43, 3) := by decide +kernel
theorem d_Mo_closeBracket_255 : decode b_Mo_closeBracket 255 = .ok (.aload_n 0, 1) := by decide +kernel
theorem d_Mo_closeBracket_256 : decode b_Mo_closeBracket 256 = .ok (.getfield 29, 3) := by decide +kernel
theorem d_Mo_closeBracket_259 : decode b_Mo_closeBracket 259 = .ok (.iload_n 2, 1) := by decide +kernel
theorem d_Mo_closeBracket_260 : decode b_Mo_closeBracket 260 = .ok (.iaload, 1) := by decide +kernel
theorem d_Mo_closeBracket_261 : decode b_Mo_closeBracket 261 = .ok (.iconst 1, 1) := by decide +kernel
theorem d_Mo_closeBracket_262 : decode b_Mo_closeBracket 262 = .ok (.if_icmp .ne 32, 3) := by decide +kernel
theorem d_Mo_closeBracket_265 : decode b_Mo_closeBracket 265 = .ok (.aload_n 0, 1) := by decide +kernel
theorem d_Mo_closeBracket_266 : decode b_Mo_closeBracket 266 = .ok (.getfield 29, 3) := by decide +kernel
theorem d_Mo_closeBracket_269 : decode b_Mo_closeBracket 269 = .ok (.iload_n 3, 1) := by decide +kernel
theorem d_Mo_closeBracket_270 : decode b_Mo_closeBracket 270 = .ok (.iaload, 1) := by decide +kernel
theorem d_Mo_closeBracket_271 : decode b_Mo_closeBracket 271 = .ok (.iconst 1, 1) := by decide +kernel
theorem d_Mo_closeBracket_272 : decode b_Mo_closeBracket 272 = .ok (.if_icmp .ne 22, 3) := by decide +kernel
theorem d_Mo_closeBracket_275 : decode b_Mo_closeBracket 275 = .ok (.iload 5, 2) := by decide +kernel
theorem d_Mo_closeBracket_277 : decode b_Mo_closeBracket 277 = .ok (.ifCond .ne 13, 3) := by decide +kernel
theorem d_Mo_closeBracket_280 : decode b_Mo_closeBracket 280 = .ok (.aload_n 0, 1) := by decide +kernel
theorem d_Mo_closeBracket_281 : decode b_Mo_closeBracket 281 = .ok (.getfield 26, 3) := by decide +kernel
theorem d_Mo_closeBracket_284 : decode b_Mo_closeBracket 284 = .ok (.iload_n 2, 1) := by decide +kernel
theorem d_Mo_closeBracket_285 : decode b_Mo_closeBracket 285 = .ok (.iaload, 1) := by decide +kernel
theorem d_Mo_closeBracket_286 : decode b_Mo_closeBracket 286 = .ok (.iconst 2, 1) := by decide +kernel
theorem d_Mo_closeBracket_287 : decode b_Mo_closeBracket 287 = .ok (.if_icmp .ne 7, 3) := by decide +kernel
theorem d_Mo_closeBracket_290 : decode b_Mo_closeBracket 290 = .ok (.iconst 1, 1) := by decide +kernel
theorem d_Mo_closeBracket_291 : decode b_Mo_closeBracket 291 = .ok (.goto 4, 3) := by decide +kernel
theorem d_Mo_closeBracket_294 : decode b_Mo_closeBracket 294 = .ok (.iconst 0, 1) := by decide +kernel
theorem d_Mo_closeBracket_295 : decode b_Mo_closeBracket 295 = .ok (.istore 6, 2) := by decide +kernel
theorem d_Mo_closeBracket_297 : decode b_Mo_closeBracket 297 = .ok (.aload_n 0, 1) := by decide +kernel
theorem d_Mo_closeBracket_298 : decode b_Mo_closeBracket 298 = .ok (.aload_n 0, 1) := by decide +kernel
theorem d_Mo_closeBracket_299 : decode b_Mo_closeBracket 299 = .ok (.getfield 163, 3) := by decide +kernel
theorem d_Mo_closeBracket_302 : decode b_Mo_closeBracket 302 = .ok (.ifCond .ne 8, 3) := by decide +kernel
theorem d_Mo_closeBracket_305 : decode b_Mo_closeBracket 305 = .ok (.iload 6, 2) := by decide +kernel
theorem d_Mo_closeBracket_307 : decode b_Mo_closeBracket 307 = .ok (.ifCond .ne 7, 3) := by decide +kernel
theorem d_Mo_closeBracket_310 : decode b_Mo_closeBracket 310 = .ok (.iconst 1, 1) := by decide +kernel
theorem d_Mo_closeBracket_311 : decode b_Mo_closeBracket 311 = .ok (.goto 4, 3) := by decide +kernel
theorem d_Mo_closeBracket_314 : decode b_Mo_closeBracket 314 = .ok (.iconst 0, 1) := by decide +kernel
theorem d_Mo_closeBracket_315 : decode b_Mo_closeBracket 315 = .ok (.putfield 163, 3) := by decide +kernel
theorem d_Mo_closeBracket_318 : decode b_Mo_closeBracket 318 = .ok (.aload_n 0, 1) := by decide +kernel
theorem d_Mo_closeBracket_319 : decode b_Mo_closeBracket 319 = .ok (.getfield 163, 3) := by decide +kernel
theorem d_Mo_closeBracket_322 : decode b_Mo_closeBracket 322 = .ok (.ifCond .eq 5, 3) := by decide +kernel
theorem d_Mo_closeBracket_325 : decode b_Mo_closeBracket 325 = .ok (.iconst 0, 1) := by decide +kernel
theorem d_Mo_closeBracket_326 : decode b_Mo_closeBracket 326 = .ok (.ireturn, 1) := by decide +kernel
theorem d_Mo_closeBracket_327 : decode b_Mo_closeBracket 327 = .ok (.iload 4, 2) := by decide +kernel
theorem d_Mo_closeBracket_329 : decode b_Mo_closeBracket 329 = .ok (.bipush 10, 2) := by decide +kernel
theorem d_Mo_closeBracket_331 : decode b_Mo_closeBracket 331 = .ok (.if_icmp .ne 18, 3) := by decide +kernel
theorem d_Mo_closeBracket_334 : decode b_Mo_closeBracket 334 = .ok (.aload_n 0, 1) := by decide +kernel
theorem d_Mo_closeBracket_335 : decode b_Mo_closeBracket 335 = .ok (.bipush 10, 2) := by decide +kernel
theorem d_Mo_closeBracket_337 : decode b_Mo_closeBracket 337 = .ok (.iconst 0, 1) := by decide +kernel
theorem d_Mo_closeBracket_338 : decode b_Mo_closeBracket 338 = .ok (.iload_n 2, 1) := by decide +kernel
theorem d_Mo_closeBracket_339 : decode b_Mo_closeBracket 339 = .ok (.iconst (-1), 1) := by decide +kernel
theorem d_Mo_closeBracket_340 : decode b_Mo_closeBracket 340 = .ok (.iload_n 3, 1) := by decide +kernel
theorem d_Mo_closeBracket_341 : decode b_Mo_closeBracket 341 = .ok (.iconst 0, 1) := by decide +kernel
theorem d_Mo_closeBracket_342 : decode b_Mo_closeBracket 342 = .ok (.iconst 0, 1) := by decide +kernel
theorem d_Mo_closeBracket_343 : decode b_Mo_closeBracket 343 = .ok (.invokevirtual 112, 3) := by decide +kernel
theorem d_Mo_closeBracket_346 : decode b_Mo_closeBracket 346 = .ok (.goto 11, 3) := by decide +kernel
theorem d_Mo_closeBracket_349 : decode b_Mo_closeBracket 349 = .ok (.aload_n 0, 1) := by decide +kernel
theorem d_Mo_closeBracket_350 : decode b_Mo_closeBracket 350 = .ok (.iload 4, 2) := by decide +kernel
theorem d_Mo_closeBracket_352 : decode b_Mo_closeBracket 352 = .ok (.iload_n 2, 1) := by decide +kernel
theorem d_Mo_closeBracket_353 : decode b_Mo_closeBracket 353 = .ok (.iload_n 3, 1) := by decide +kernel
theorem d_Mo_closeBracket_354 : decode b_Mo_closeBracket 354 = .ok (.invokevirtual 116, 3) := by decide +kernel
theorem d_Mo_closeBracket_357 : decode b_Mo_closeBracket 357 = .ok (.ireturn, 1) := by decide +kernel
def f_Mo_closeBracket_139 (s0 : Int32) (σ : St) : Int32 × St := (s0, σ)
def k_Mo_closeBracket_139 (s0 : Int32) (σ : St) : Prop := True
def f_Mo_closeBracket_110 (x2 : Int32) (x3 : Int32) (x4 : Int32) (σ : St) : Int32 × St := if (σ.1 0 33) = 0 then (f_Mo_closeBracket_139 ((f_Mo_found 0 (σ.1 1 x4.toNatClampNeg) x2 x3 x4 0 0 σ).1) ((f_Mo_found 0 (σ.1 1 x4.toNatClampNeg) x2 x3 x4 0 0 σ).2)) else (f_Mo_closeBracket_139 0 σ)
def k_Mo_closeBracket_110 (x2 : Int32) (x3 : Int32) (x4 : Int32) (σ : St) : Prop := ((σ.1 0 33) = 0 → (vp_in x4 12 ∧ ((k_Mo_found 0 (σ.1 1 x4.toNatClampNeg) x2 x3 x4 0 0 σ) ∧ (k_Mo_closeBracket_139 ((f_Mo_found 0 (σ.1 1 x4.toNatClampNeg) x2 x3 x4 0 0 σ).1) ((f_Mo_found 0 (σ.1 1 x4.toNatClampNeg) x2 x3 x4 0 0 σ).2))))) ∧ (¬ (σ.1 0 33) = 0 → (k_Mo_closeBracket_139 0 σ))
def f_Mo_closeBracket_107 (x2 : Int32) (x3 : Int32) (x4 : Int32) (s0 : Int32) (σ : St) : Int32 × St := f_Mo_closeBracket_110 x2 x3 x4 (sF σ 0 33 s0)
def k_Mo_closeBracket_107 (x2 : Int32) (x3 : Int32) (x4 : Int32) (s0 : Int32) (σ : St) : Prop := (narrow .boolean (.int s0) = .int s0 ∧ fits .boolean (.int s0) = true) ∧ (k_Mo_closeBracket_110 x2 x3 x4 (sF σ 0 33 s0))
def f_Mo_closeBracket_102 (x2 : Int32) (x3 : Int32) (x4 : Int32) (σ : St) : Int32 × St := f_Mo_closeBracket_107 x2 x3 x4 1 σ
def k_Mo_closeBracket_102 (x2 : Int32) (x3 : Int32) (x4 : Int32) (σ : St) : Prop := k_Mo_closeBracket_107 x2 x3 x4 1 σ
def f_Mo_closeBracket_106 (x2 : Int32) (x3 : Int32) (x4 : Int32) (σ : St) : Int32 × St := f_Mo_closeBracket_107 x2 x3 x4 0 σ
def k_Mo_closeBracket_106 (x2 : Int32) (x3 : Int32) (x4 : Int32) (σ : St) : Prop := k_Mo_closeBracket_107 x2 x3 x4 0 σ
def f_Mo_closeBracket_58 (x2 : Int32) (x3 : Int32) (x4 : Int32) (σ : St) : Int32 × St := if (σ.1 0 33) = 0 then (if (σ.1 6 x2.toNatClampNeg) = (σ.1 2 x4.toNatClampNeg) then (if x3 < 0 then (f_Mo_closeBracket_106 x2 x3 x4 σ) else (if (σ.1 6 x3.toNatClampNeg) = (σ.1 3 x4.toNatClampNeg) then (f_Mo_closeBracket_106 x2 x3 x4 σ) else (f_Mo_closeBracket_102 x2 x3 x4 σ))) else (f_Mo_closeBracket_102 x2 x3 x4 σ)) else (f_Mo_closeBracket_102 x2 x3 x4 σ)
def k_Mo_closeBracket_58 (x2 : Int32) (x3 : Int32) (x4 : Int32) (σ : St) : Prop := ((σ.1 0 33) = 0 → (vp_in x2 400 ∧ (vp_in x4 12 ∧ (((σ.1 6 x2.toNatClampNeg) = (σ.1 2 x4.toNatClampNeg) → ((x3 < 0 → (k_Mo_closeBracket_106 x2 x3 x4 σ)) ∧ (¬ x3 < 0 → (vp_in x3 400 ∧ (vp_in x4 12 ∧ (((σ.1 6 x3.toNatClampNeg) = (σ.1 3 x4.toNatClampNeg) → (k_Mo_closeBracket_106 x2 x3 x4 σ)) ∧ (¬ (σ.1 6 x3.toNatClampNeg) = (σ.1 3 x4.toNatClampNeg) → (k_Mo_closeBracket_102 x2 x3 x4 σ)))))))) ∧ (¬ (σ.1 6 x2.toNatClampNeg) = (σ.1 2 x4.toNatClampNeg) → (k_Mo_closeBracket_102 x2 x3 x4 σ)))))) ∧ (¬ (σ.1 0 33) = 0 → (k_Mo_closeBracket_102 x2 x3 x4 σ))
def f_Mo_closeBracket_357 (s0 : Int32) (σ : St) : Int32 × St := (s0, σ)
def k_Mo_closeBracket_357 (s0 : Int32) (σ : St) : Prop := True
def f_Mo_closeBracket_346 (s0 : Int32) (σ : St) : Int32 × St := f_Mo_closeBracket_357 s0 σ
def k_Mo_closeBracket_346 (s0 : Int32) (σ : St) : Prop := k_Mo_closeBracket_357 s0 σ
def f_Mo_closeBracket_318 (x2 : Int32) (x3 : Int32) (x4 : Int32) (σ : St) : Int32 × St := if (σ.1 0 33) = 0 then (if x4 = 10 then (f_Mo_closeBracket_346 ((f_Mo_found 10 0 x2 (-1) x3 0 0 σ).1) ((f_Mo_found 10 0 x2 (-1) x3 0 0 σ).2)) else (f_Mo_closeBracket_357 ((f_Mo_made x4 x2 x3 σ).1) ((f_Mo_made x4 x2 x3 σ).2))) else (0, σ)
def k_Mo_closeBracket_318 (x2 : Int32) (x3 : Int32) (x4 : Int32) (σ : St) : Prop := ((σ.1 0 33) = 0 → ((x4 = 10 → ((k_Mo_found 10 0 x2 (-1) x3 0 0 σ) ∧ (k_Mo_closeBracket_346 ((f_Mo_found 10 0 x2 (-1) x3 0 0 σ).1) ((f_Mo_found 10 0 x2 (-1) x3 0 0 σ).2)))) ∧ (¬ x4 = 10 → ((k_Mo_made x4 x2 x3 σ) ∧ (k_Mo_closeBracket_357 ((f_Mo_made x4 x2 x3 σ).1) ((f_Mo_made x4 x2 x3 σ).2)))))) ∧ (¬ (σ.1 0 33) = 0 → True)
def f_Mo_closeBracket_315 (x2 : Int32) (x3 : Int32) (x4 : Int32) (s0 : Int32) (σ : St) : Int32 × St := f_Mo_closeBracket_318 x2 x3 x4 (sF σ 0 33 s0)
def k_Mo_closeBracket_315 (x2 : Int32) (x3 : Int32) (x4 : Int32) (s0 : Int32) (σ : St) : Prop := (narrow .boolean (.int s0) = .int s0 ∧ fits .boolean (.int s0) = true) ∧ (k_Mo_closeBracket_318 x2 x3 x4 (sF σ 0 33 s0))
def f_Mo_closeBracket_310 (x2 : Int32) (x3 : Int32) (x4 : Int32) (σ : St) : Int32 × St := f_Mo_closeBracket_315 x2 x3 x4 1 σ
def k_Mo_closeBracket_310 (x2 : Int32) (x3 : Int32) (x4 : Int32) (σ : St) : Prop := k_Mo_closeBracket_315 x2 x3 x4 1 σ
def f_Mo_closeBracket_295 (x2 : Int32) (x3 : Int32) (x4 : Int32) (s0 : Int32) (σ : St) : Int32 × St := if (σ.1 0 33) = 0 then (if s0 = 0 then (f_Mo_closeBracket_310 x2 x3 x4 σ) else (f_Mo_closeBracket_315 x2 x3 x4 0 σ)) else (f_Mo_closeBracket_310 x2 x3 x4 σ)
def k_Mo_closeBracket_295 (x2 : Int32) (x3 : Int32) (x4 : Int32) (s0 : Int32) (σ : St) : Prop := ((σ.1 0 33) = 0 → ((s0 = 0 → (k_Mo_closeBracket_310 x2 x3 x4 σ)) ∧ (¬ s0 = 0 → (k_Mo_closeBracket_315 x2 x3 x4 0 σ)))) ∧ (¬ (σ.1 0 33) = 0 → (k_Mo_closeBracket_310 x2 x3 x4 σ))
def f_Mo_closeBracket_180 (x2 : Int32) (x3 : Int32) (x4 : Int32) (σ : St) : Int32 × St := f_Mo_closeBracket_295 x2 x3 x4 (f_Mo_isTruth x2 σ) σ
def k_Mo_closeBracket_180 (x2 : Int32) (x3 : Int32) (x4 : Int32) (σ : St) : Prop := (k_Mo_isTruth x2 σ) ∧ (k_Mo_closeBracket_295 x2 x3 x4 (f_Mo_isTruth x2 σ) σ)
def f_Mo_closeBracket_251 (x2 : Int32) (x3 : Int32) (x4 : Int32) (σ : St) : Int32 × St := f_Mo_closeBracket_295 x2 x3 x4 0 σ
def k_Mo_closeBracket_251 (x2 : Int32) (x3 : Int32) (x4 : Int32) (σ : St) : Prop := k_Mo_closeBracket_295 x2 x3 x4 0 σ
def f_Mo_closeBracket_231 (x2 : Int32) (x3 : Int32) (x4 : Int32) (σ : St) : Int32 × St := if (f_Mo_isTruth x2 σ) = 0 then (f_Mo_closeBracket_251 x2 x3 x4 σ) else (if (f_Mo_isTruth x3 σ) = 0 then (f_Mo_closeBracket_251 x2 x3 x4 σ) else (f_Mo_closeBracket_295 x2 x3 x4 1 σ))
def k_Mo_closeBracket_231 (x2 : Int32) (x3 : Int32) (x4 : Int32) (σ : St) : Prop := (k_Mo_isTruth x2 σ) ∧ (((f_Mo_isTruth x2 σ) = 0 → (k_Mo_closeBracket_251 x2 x3 x4 σ)) ∧ (¬ (f_Mo_isTruth x2 σ) = 0 → ((k_Mo_isTruth x3 σ) ∧ (((f_Mo_isTruth x3 σ) = 0 → (k_Mo_closeBracket_251 x2 x3 x4 σ)) ∧ (¬ (f_Mo_isTruth x3 σ) = 0 → (k_Mo_closeBracket_295 x2 x3 x4 1 σ))))))
def f_Mo_closeBracket_290 (x2 : Int32) (x3 : Int32) (x4 : Int32) (σ : St) : Int32 × St := f_Mo_closeBracket_295 x2 x3 x4 1 σ
def k_Mo_closeBracket_290 (x2 : Int32) (x3 : Int32) (x4 : Int32) (σ : St) : Prop := k_Mo_closeBracket_295 x2 x3 x4 1 σ
def f_Mo_closeBracket_294 (x2 : Int32) (x3 : Int32) (x4 : Int32) (σ : St) : Int32 × St := f_Mo_closeBracket_295 x2 x3 x4 0 σ
def k_Mo_closeBracket_294 (x2 : Int32) (x3 : Int32) (x4 : Int32) (σ : St) : Prop := k_Mo_closeBracket_295 x2 x3 x4 0 σ
def f_Mo_closeBracket_164 (x2 : Int32) (x3 : Int32) (x4 : Int32) (s0 : Int32) (σ : St) : Int32 × St := if x4 = 7 then (f_Mo_closeBracket_180 x2 x3 x4 σ) else (if x4 = 10 then (f_Mo_closeBracket_180 x2 x3 x4 σ) else (if x4 = 5 then (if (σ.1 6 x2.toNatClampNeg) = (σ.1 6 x3.toNatClampNeg) then (f_Mo_closeBracket_295 x2 x3 x4 1 σ) else (f_Mo_closeBracket_295 x2 x3 x4 0 σ)) else (if x4 = 8 then (f_Mo_closeBracket_231 x2 x3 x4 σ) else (if x4 = 9 then (f_Mo_closeBracket_231 x2 x3 x4 σ) else (if (σ.1 6 x2.toNatClampNeg) = 1 then (if (σ.1 6 x3.toNatClampNeg) = 1 then (if s0 = 0 then (if (σ.1 5 x2.toNatClampNeg) = 2 then (f_Mo_closeBracket_290 x2 x3 x4 σ) else (f_Mo_closeBracket_294 x2 x3 x4 σ)) else (f_Mo_closeBracket_290 x2 x3 x4 σ)) else (f_Mo_closeBracket_294 x2 x3 x4 σ)) else (f_Mo_closeBracket_294 x2 x3 x4 σ))))))
def k_Mo_closeBracket_164 (x2 : Int32) (x3 : Int32) (x4 : Int32) (s0 : Int32) (σ : St) : Prop := (x4 = 7 → (k_Mo_closeBracket_180 x2 x3 x4 σ)) ∧ (¬ x4 = 7 → ((x4 = 10 → (k_Mo_closeBracket_180 x2 x3 x4 σ)) ∧ (¬ x4 = 10 → ((x4 = 5 → (vp_in x2 400 ∧ (vp_in x3 400 ∧ (((σ.1 6 x2.toNatClampNeg) = (σ.1 6 x3.toNatClampNeg) → (k_Mo_closeBracket_295 x2 x3 x4 1 σ)) ∧ (¬ (σ.1 6 x2.toNatClampNeg) = (σ.1 6 x3.toNatClampNeg) → (k_Mo_closeBracket_295 x2 x3 x4 0 σ)))))) ∧ (¬ x4 = 5 → ((x4 = 8 → (k_Mo_closeBracket_231 x2 x3 x4 σ)) ∧ (¬ x4 = 8 → ((x4 = 9 → (k_Mo_closeBracket_231 x2 x3 x4 σ)) ∧ (¬ x4 = 9 → (vp_in x2 400 ∧ (((σ.1 6 x2.toNatClampNeg) = 1 → (vp_in x3 400 ∧ (((σ.1 6 x3.toNatClampNeg) = 1 → ((s0 = 0 → (vp_in x2 400 ∧ (((σ.1 5 x2.toNatClampNeg) = 2 → (k_Mo_closeBracket_290 x2 x3 x4 σ)) ∧ (¬ (σ.1 5 x2.toNatClampNeg) = 2 → (k_Mo_closeBracket_294 x2 x3 x4 σ))))) ∧ (¬ s0 = 0 → (k_Mo_closeBracket_290 x2 x3 x4 σ)))) ∧ (¬ (σ.1 6 x3.toNatClampNeg) = 1 → (k_Mo_closeBracket_294 x2 x3 x4 σ))))) ∧ (¬ (σ.1 6 x2.toNatClampNeg) = 1 → (k_Mo_closeBracket_294 x2 x3 x4 σ)))))))))))))
def f_Mo_closeBracket_159 (x2 : Int32) (x3 : Int32) (x4 : Int32) (σ : St) : Int32 × St := f_Mo_closeBracket_164 x2 x3 x4 1 σ
def k_Mo_closeBracket_159 (x2 : Int32) (x3 : Int32) (x4 : Int32) (σ : St) : Prop := k_Mo_closeBracket_164 x2 x3 x4 1 σ
def f_Mo_closeBracket_146 (x2 : Int32) (x3 : Int32) (x4 : Int32) (σ : St) : Int32 × St := if x4 = 3 then (f_Mo_closeBracket_159 x2 x3 x4 σ) else (if x4 = 6 then (f_Mo_closeBracket_159 x2 x3 x4 σ) else (f_Mo_closeBracket_164 x2 x3 x4 0 σ))
def k_Mo_closeBracket_146 (x2 : Int32) (x3 : Int32) (x4 : Int32) (σ : St) : Prop := (x4 = 3 → (k_Mo_closeBracket_159 x2 x3 x4 σ)) ∧ (¬ x4 = 3 → ((x4 = 6 → (k_Mo_closeBracket_159 x2 x3 x4 σ)) ∧ (¬ x4 = 6 → (k_Mo_closeBracket_164 x2 x3 x4 0 σ))))
def f_Mo_closeBracket_140 (x1 : Int32) (x2 : Int32) (x3 : Int32) (σ : St) : Int32 × St := f_Mo_closeBracket_146 x2 x3 (f_Mo_signOf x1 σ) σ
def k_Mo_closeBracket_140 (x1 : Int32) (x2 : Int32) (x3 : Int32) (σ : St) : Prop := (k_Mo_signOf x1 σ) ∧ (k_Mo_closeBracket_146 x2 x3 (f_Mo_signOf x1 σ) σ)
def f_Mo_closeBracket_40 (x1 : Int32) (x2 : Int32) (x3 : Int32) (σ : St) : Int32 × St := if x1 < 97 then (f_Mo_closeBracket_140 x1 x2 x3 σ) else (if 108 < x1 then (f_Mo_closeBracket_140 x1 x2 x3 σ) else (f_Mo_closeBracket_58 x2 x3 (x1 - 97) σ))
def k_Mo_closeBracket_40 (x1 : Int32) (x2 : Int32) (x3 : Int32) (σ : St) : Prop := (x1 < 97 → (k_Mo_closeBracket_140 x1 x2 x3 σ)) ∧ (¬ x1 < 97 → ((108 < x1 → (k_Mo_closeBracket_140 x1 x2 x3 σ)) ∧ (¬ 108 < x1 → (k_Mo_closeBracket_58 x2 x3 (x1 - 97) σ))))
def f_Mo_closeBracket_30 (x1 : Int32) (x2 : Int32) (σ : St) : Int32 × St := f_Mo_closeBracket_40 x1 x2 (σ.1 25 (σ.1 0 34).toNatClampNeg) σ
def k_Mo_closeBracket_30 (x1 : Int32) (x2 : Int32) (σ : St) : Prop := vp_in (σ.1 0 34) 40 ∧ (k_Mo_closeBracket_40 x1 x2 (σ.1 25 (σ.1 0 34).toNatClampNeg) σ)
def f_Mo_closeBracket_20 (x1 : Int32) (σ : St) : Int32 × St := f_Mo_closeBracket_30 x1 (σ.1 24 (σ.1 0 34).toNatClampNeg) σ
def k_Mo_closeBracket_20 (x1 : Int32) (σ : St) : Prop := vp_in (σ.1 0 34) 40 ∧ (k_Mo_closeBracket_30 x1 (σ.1 24 (σ.1 0 34).toNatClampNeg) σ)
def f_Mo_closeBracket_10 (σ : St) : Int32 × St := f_Mo_closeBracket_20 (σ.1 22 (σ.1 0 34).toNatClampNeg) σ
def k_Mo_closeBracket_10 (σ : St) : Prop := vp_in (σ.1 0 34) 40 ∧ (k_Mo_closeBracket_20 (σ.1 22 (σ.1 0 34).toNatClampNeg) σ)
def f_Mo_closeBracket (σ : St) : Int32 × St := f_Mo_closeBracket_10 (sF σ 0 34 ((σ.1 0 34) - 1))
def k_Mo_closeBracket (σ : St) : Prop := k_Mo_closeBracket_10 (sF σ 0 34 ((σ.1 0 34) - 1))
abbrev w_Mo_closeBracket : List Cond := Cond.code y_Mo_closeBracket b_Mo_closeBracket 7 (some .int) :: gw
abbrev rm_Mo_closeBracket : Room := { frames := 2, cells := 0, slots := 0, locals := 52 }
set_option maxHeartbeats 4000000 in
set_option maxRecDepth 100000 in
theorem c_Mo_closeBracket (l : Launch) (D : va_G) (ty : Nat → ClassId) (h : Nat → Nat) (px : va_W) (sa : Nat → Nat) (σ : St) (sz : Nat) (hk : k_Mo_closeBracket σ) : Met l y_Mo_closeBracket w_Mo_closeBracket rm_Mo_closeBracket (va_Pc [.ref (h 0)] (fun U => U.heap.size = sz ∧ va_P D classes (Wm ty h σ px) U.heap ∧ va_K D classes (Ta ty) U ∧ NW U ∧ MK sa (va_A (Wm ty h σ px) sz) U U.heap ∧ va_D (fun _ => True) (Wm ty h σ px))) (va_Qi (fun r (u : St) => (r, u) = f_Mo_closeBracket σ) (fun u t => va_P D classes (Wm ty h u px) t.heap) (va_A (Wm ty h σ px) sz)) 0 0 (va_A (Wm ty h σ px) sz) := by
  refine Met.ofW (cc := b_Mo_closeBracket) (maxL := 7) (ret := (some .int)) (by decide) rfl ?_
  intro p e s m args below meth c s₁ B hml hv
  obtain ⟨ha, hsz, hP, hK, hN, hM, hD0⟩ := hv
  have hx := B.exec
  have hb := B.bytes
  have hr := B.returns
  have hg : ∀ w ∈ gw, w.before args s = true := fun w h9 => atoms_spec (ws := w_Mo_closeBracket) B.pre w (List.mem_cons_of_mem _ h9)
  have hown : s.vm.findClass "ClauseLedgerModel" = some m.cls := findClass_of_methodNamed B.named
  have hlocks := B.notSynchronized
  subst hsz
  have hD := hD0.self (sz := s.heap.size)
  generalize hAe : va_A (Wm ty h σ px) s.heap.size = A at hD hM ⊢
  have hA : ∀ q : Nat, s.heap.size ≤ q → A q := fun q h9 => by rw [← hAe]; exact Or.inr h9
  have hS : va_S A s.heap s.heap [] := va_S.rf
  have he : entryFrame m args 7 = entryFrame m ([.ref (h 0)] : List Value).toArray 7 := by rw [ha]
  rw [he, lg_entry_eq]
  have hl := lv_entry ([.ref (h 0)]) (n := 7) (Nat.le_of_ble_eq_true rfl)
  generalize (lg_sl ([.ref (h 0)]) ++ List.replicate (7 - (lg_sl ([.ref (h 0)])).length) Slot.unset).toArray = ls at hl ⊢
  have hl : lv_has ls 7 [(0, .ref (h 0))] := hl
  generalize hv : f_Mo_closeBracket σ = v
  replace hv := hv.symm
  have B139 : ∀ (H : Heap) (locs : List Loc) (ls : Array Slot) (s0 : Int32) (σ : St), v = f_Mo_closeBracket_139 s0 σ → k_Mo_closeBracket_139 s0 σ → lv_has ls 7 [] → va_P D classes (Wm ty h σ px) H → va_D A (Wm ty h σ px) → va_S A s.heap H locs → W p l e (headSpec w_Mo_closeBracket rm_Mo_closeBracket).room s m args below meth c H locs 0 0 (MQ below (va_Qi (fun r (u : St) => (r, u) = v) (fun u t => va_P D classes (Wm ty h u px) t.heap) A) args s 0 0 A) (F0 m 139 ls [.int s0]) := by
    intro H locs ls s0 σ hv hk hl hP hD hS
    unfold f_Mo_closeBracket_139 at hv
    unfold k_Mo_closeBracket_139 at hk
    exact W.iret hx hb hr (fun t ht hW => ⟨⟨_, _, rfl, hv.symm, by dsimp only; rw [ht]; exact hP⟩, hS.F ht⟩) hS.2.2 d_Mo_closeBracket_139
  have B110 : ∀ (H : Heap) (locs : List Loc) (ls : Array Slot) (x2 : Int32) (x3 : Int32) (x4 : Int32) (σ : St), v = f_Mo_closeBracket_110 x2 x3 x4 σ → k_Mo_closeBracket_110 x2 x3 x4 σ → lv_has ls 7 [(0, .ref (h 0)), (2, .int x2), (3, .int x3), (4, .int x4)] → va_P D classes (Wm ty h σ px) H → va_D A (Wm ty h σ px) → va_S A s.heap H locs → W p l e (headSpec w_Mo_closeBracket rm_Mo_closeBracket).room s m args below meth c H locs 0 0 (MQ below (va_Qi (fun r (u : St) => (r, u) = v) (fun u t => va_P D classes (Wm ty h u px) t.heap) A) args s 0 0 A) (F0 m 110 ls []) := by
    intro H locs ls x2 x3 x4 σ hv hk hl hP hD hS
    unfold f_Mo_closeBracket_110 at hv
    unfold k_Mo_closeBracket_110 at hk
    refine lv_aload_n hx hb d_Mo_closeBracket_110 rfl (lv_at hl 0 rfl) ?_
    refine va_get (v := .int (σ.1 0 33)) (C := R_Mo) (T := T_Mo) (N := 51) hx hb hg in_Mo hown hK hP 0 rfl rfl 33 (by decide) (hg _ m_1292) (fun _ h9 => h9) rfl d_Mo_closeBracket_111 ?_
    refine lv_if_eq (tgt := 121) hx hb d_Mo_closeBracket_114 (by decide) (fun hc => ?_) (fun hc => ?_)
    · have hv := hv.trans (if_pos hc)
      have hk := hk.1 hc
      refine lv_aload_n hx hb d_Mo_closeBracket_121 rfl (lv_at hl 0 rfl) ?_
      refine lv_iconst (v := 0) hx hb d_Mo_closeBracket_122 (by decide) ?_
      refine lv_aload_n hx hb d_Mo_closeBracket_123 rfl (lv_at hl 0 rfl) ?_
      refine va_get (v := .ref (h 1)) (C := R_Mo) (T := T_Mo) (N := 51) hx hb hg in_Mo hown hK hP 0 rfl rfl 4 (by decide) (hg _ m_1263) (fun _ h9 => h9) rfl d_Mo_closeBracket_124 ?_
      refine lv_iload hx hb d_Mo_closeBracket_127 (lv_at hl 3 rfl) ?_
      obtain ⟨hk0, hk⟩ := hk
      refine va_iald hx hb hK hP 1 0 rfl rfl hk0 d_Mo_closeBracket_129 ?_
      refine lv_iload_n hx hb d_Mo_closeBracket_130 rfl (lv_at hl 1 rfl) ?_
      refine lv_iload_n hx hb d_Mo_closeBracket_131 rfl (lv_at hl 2 rfl) ?_
      refine lv_iload hx hb d_Mo_closeBracket_132 (lv_at hl 3 rfl) ?_
      refine lv_iconst (v := 0) hx hb d_Mo_closeBracket_134 (by decide) ?_
      refine lv_iconst (v := 0) hx hb d_Mo_closeBracket_135 (by decide) ?_
      obtain ⟨hk0, hk⟩ := hk
      refine va_calli (va_runV (As := [.int 0, .int (σ.1 1 x4.toNatClampNeg), .int x2, .int x3, .int x4, .int 0, .int 0]) (rest := []) ⟨hx, hb, hml, hown, hg⟩ (c_Mo_found l D ty h px sa σ H.size 0 (σ.1 1 x4.toNatClampNeg) x2 x3 x4 0 0 hk0) ⟨callB_of 7 hg (gw_C m_1484) rfl rfl rfl (hg _ m_13) (hg _ m_1481) hd_Mo_found ⟨Nat.le_of_ble_eq_true rfl, Nat.le_of_ble_eq_true rfl⟩, hg _ m_1483, hg _ ms_57⟩ (zz_preVW hM hS hA hN hK hP hD 0 rfl rfl) rfl rfl hl.1 rfl (lv_room (Nat.le_of_ble_eq_true rfl)) d_Mo_closeBracket_136 ⟨Nat.le_of_ble_eq_true rfl, Nat.le_of_ble_eq_true rfl⟩) hS (fun q _ h => zz_free hD hS hA q h) (zz_free hD hS hA) (fun r136 u136 t H locs ht hvm hp hP1 hz hk1 hS => ?_)
      rw [ht] at hP1
      rw [← hp] at hv hk
      have hD : va_D A (Wm ty h u136 px) := zz_D hD rfl
      have hP := hP1
      exact B139 _ _ _ r136 u136 hv hk (lv_sub hl [] rfl) hP hD hS
    · have hv := hv.trans (if_neg hc)
      have hk := hk.2 hc
      refine lv_iconst (v := 0) hx hb d_Mo_closeBracket_117 (by decide) ?_
      refine lv_goto (tgt := 139) hx hb d_Mo_closeBracket_118 (by decide) ?_
      exact B139 _ _ _ 0 σ hv hk (lv_sub hl [] rfl) hP hD hS
  have B107 : ∀ (H : Heap) (locs : List Loc) (ls : Array Slot) (x2 : Int32) (x3 : Int32) (x4 : Int32) (s0 : Int32) (σ : St), v = f_Mo_closeBracket_107 x2 x3 x4 s0 σ → k_Mo_closeBracket_107 x2 x3 x4 s0 σ → lv_has ls 7 [(0, .ref (h 0)), (2, .int x2), (3, .int x3), (4, .int x4)] → va_P D classes (Wm ty h σ px) H → va_D A (Wm ty h σ px) → va_S A s.heap H locs → W p l e (headSpec w_Mo_closeBracket rm_Mo_closeBracket).room s m args below meth c H locs 0 0 (MQ below (va_Qi (fun r (u : St) => (r, u) = v) (fun u t => va_P D classes (Wm ty h u px) t.heap) A) args s 0 0 A) (F0 m 107 ls [.int s0, .ref (h 0)]) := by
    intro H locs ls x2 x3 x4 s0 σ hv hk hl hP hD hS
    unfold f_Mo_closeBracket_107 at hv
    unfold k_Mo_closeBracket_107 at hk
    obtain ⟨hk0, hk⟩ := hk
    refine va_put (v := .int s0) (ty := .boolean) (C := R_Mo) (T := T_Mo) (N := 51) hx hb hg in_Mo ty_Mo ok_Mo nm_Mo hown hK hP hD hS 0 rfl rfl 33 (by decide) (hg _ m_1292) (fun _ h9 => h9) rfl (by decide +kernel) hk0.1 hk0.2 (Nat.le_of_ble_eq_true rfl) d_Mo_closeBracket_107 (fun H locs hP hD hS => ?_)
    have hP : va_P D classes (Wm ty h (sF σ 0 33 s0) px) H := hP
    have hD : va_D A (Wm ty h (sF σ 0 33 s0) px) := hD
    exact B110 _ _ _ x2 x3 x4 (sF σ 0 33 s0) hv hk (lv_sub hl [0, 1, 2, 3] rfl) hP hD hS
  have B102 : ∀ (H : Heap) (locs : List Loc) (ls : Array Slot) (x2 : Int32) (x3 : Int32) (x4 : Int32) (σ : St), v = f_Mo_closeBracket_102 x2 x3 x4 σ → k_Mo_closeBracket_102 x2 x3 x4 σ → lv_has ls 7 [(0, .ref (h 0)), (2, .int x2), (3, .int x3), (4, .int x4)] → va_P D classes (Wm ty h σ px) H → va_D A (Wm ty h σ px) → va_S A s.heap H locs → W p l e (headSpec w_Mo_closeBracket rm_Mo_closeBracket).room s m args below meth c H locs 0 0 (MQ below (va_Qi (fun r (u : St) => (r, u) = v) (fun u t => va_P D classes (Wm ty h u px) t.heap) A) args s 0 0 A) (F0 m 102 ls [.ref (h 0)]) := by
    intro H locs ls x2 x3 x4 σ hv hk hl hP hD hS
    unfold f_Mo_closeBracket_102 at hv
    unfold k_Mo_closeBracket_102 at hk
    refine lv_iconst (v := 1) hx hb d_Mo_closeBracket_102 (by decide) ?_
    refine lv_goto (tgt := 107) hx hb d_Mo_closeBracket_103 (by decide) ?_
    exact B107 _ _ _ x2 x3 x4 1 σ hv hk (lv_sub hl [0, 1, 2, 3] rfl) hP hD hS
  have B106 : ∀ (H : Heap) (locs : List Loc) (ls : Array Slot) (x2 : Int32) (x3 : Int32) (x4 : Int32) (σ : St), v = f_Mo_closeBracket_106 x2 x3 x4 σ → k_Mo_closeBracket_106 x2 x3 x4 σ → lv_has ls 7 [(0, .ref (h 0)), (2, .int x2), (3, .int x3), (4, .int x4)] → va_P D classes (Wm ty h σ px) H → va_D A (Wm ty h σ px) → va_S A s.heap H locs → W p l e (headSpec w_Mo_closeBracket rm_Mo_closeBracket).room s m args below meth c H locs 0 0 (MQ below (va_Qi (fun r (u : St) => (r, u) = v) (fun u t => va_P D classes (Wm ty h u px) t.heap) A) args s 0 0 A) (F0 m 106 ls [.ref (h 0)]) := by
    intro H locs ls x2 x3 x4 σ hv hk hl hP hD hS
    unfold f_Mo_closeBracket_106 at hv
    unfold k_Mo_closeBracket_106 at hk
    refine lv_iconst (v := 0) hx hb d_Mo_closeBracket_106 (by decide) ?_
    exact B107 _ _ _ x2 x3 x4 0 σ hv hk (lv_sub hl [0, 1, 2, 3] rfl) hP hD hS
  have B58 : ∀ (H : Heap) (locs : List Loc) (ls : Array Slot) (x2 : Int32) (x3 : Int32) (x4 : Int32) (σ : St), v = f_Mo_closeBracket_58 x2 x3 x4 σ → k_Mo_closeBracket_58 x2 x3 x4 σ → lv_has ls 7 [(0, .ref (h 0)), (2, .int x2), (3, .int x3), (4, .int x4)] → va_P D classes (Wm ty h σ px) H → va_D A (Wm ty h σ px) → va_S A s.heap H locs → W p l e (headSpec w_Mo_closeBracket rm_Mo_closeBracket).room s m args below meth c H locs 0 0 (MQ below (va_Qi (fun r (u : St) => (r, u) = v) (fun u t => va_P D classes (Wm ty h u px) t.heap) A) args s 0 0 A) (F0 m 58 ls []) := by
    intro H locs ls x2 x3 x4 σ hv hk hl hP hD hS
    unfold f_Mo_closeBracket_58 at hv
    unfold k_Mo_closeBracket_58 at hk
    refine lv_aload_n hx hb d_Mo_closeBracket_58 rfl (lv_at hl 0 rfl) ?_
    refine lv_aload_n hx hb d_Mo_closeBracket_59 rfl (lv_at hl 0 rfl) ?_
    refine va_get (v := .int (σ.1 0 33)) (C := R_Mo) (T := T_Mo) (N := 51) hx hb hg in_Mo hown hK hP 0 rfl rfl 33 (by decide) (hg _ m_1292) (fun _ h9 => h9) rfl d_Mo_closeBracket_60 ?_
    refine lv_if_ne (tgt := 102) hx hb d_Mo_closeBracket_63 (by decide) (fun hc => ?_) (fun hc => ?_)
    · have hv := hv.trans (if_neg hc)
      have hk := hk.2 hc
      exact B102 _ _ _ x2 x3 x4 σ hv hk (lv_sub hl [0, 1, 2, 3] rfl) hP hD hS
    · have hv := hv.trans (if_pos hc)
      have hk := hk.1 hc
      refine lv_aload_n hx hb d_Mo_closeBracket_66 rfl (lv_at hl 0 rfl) ?_
      refine va_get (v := .ref (h 6)) (C := R_Mo) (T := T_Mo) (N := 51) hx hb hg in_Mo hown hK hP 0 rfl rfl 11 (by decide) (hg _ m_1270) (fun _ h9 => h9) rfl d_Mo_closeBracket_67 ?_
      refine lv_iload_n hx hb d_Mo_closeBracket_70 rfl (lv_at hl 1 rfl) ?_
      obtain ⟨hk0, hk⟩ := hk
      refine va_iald hx hb hK hP 6 0 rfl rfl hk0 d_Mo_closeBracket_71 ?_
      refine lv_aload_n hx hb d_Mo_closeBracket_72 rfl (lv_at hl 0 rfl) ?_
      refine va_get (v := .ref (h 2)) (C := R_Mo) (T := T_Mo) (N := 51) hx hb hg in_Mo hown hK hP 0 rfl rfl 5 (by decide) (hg _ m_1264) (fun _ h9 => h9) rfl d_Mo_closeBracket_73 ?_
      refine lv_iload hx hb d_Mo_closeBracket_76 (lv_at hl 3 rfl) ?_
      obtain ⟨hk0, hk⟩ := hk
      refine va_iald hx hb hK hP 2 0 rfl rfl hk0 d_Mo_closeBracket_78 ?_
      refine lv_icmp_ne (tgt := 102) hx hb d_Mo_closeBracket_79 (by decide) (fun hc => ?_) (fun hc => ?_)
      · have hv := hv.trans (if_neg hc)
        have hk := hk.2 hc
        exact B102 _ _ _ x2 x3 x4 σ hv hk (lv_sub hl [0, 1, 2, 3] rfl) hP hD hS
      · have hv := hv.trans (if_pos hc)
        have hk := hk.1 hc
        refine lv_iload_n hx hb d_Mo_closeBracket_82 rfl (lv_at hl 2 rfl) ?_
        refine lv_if_lt (tgt := 106) hx hb d_Mo_closeBracket_83 (by decide) (fun hc => ?_) (fun hc => ?_)
        · have hv := hv.trans (if_pos hc)
          have hk := hk.1 hc
          exact B106 _ _ _ x2 x3 x4 σ hv hk (lv_sub hl [0, 1, 2, 3] rfl) hP hD hS
        · have hv := hv.trans (if_neg hc)
          have hk := hk.2 hc
          refine lv_aload_n hx hb d_Mo_closeBracket_86 rfl (lv_at hl 0 rfl) ?_
          refine va_get (v := .ref (h 6)) (C := R_Mo) (T := T_Mo) (N := 51) hx hb hg in_Mo hown hK hP 0 rfl rfl 11 (by decide) (hg _ m_1270) (fun _ h9 => h9) rfl d_Mo_closeBracket_87 ?_
          refine lv_iload_n hx hb d_Mo_closeBracket_90 rfl (lv_at hl 2 rfl) ?_
          obtain ⟨hk0, hk⟩ := hk
          refine va_iald hx hb hK hP 6 0 rfl rfl hk0 d_Mo_closeBracket_91 ?_
          refine lv_aload_n hx hb d_Mo_closeBracket_92 rfl (lv_at hl 0 rfl) ?_
          refine va_get (v := .ref (h 3)) (C := R_Mo) (T := T_Mo) (N := 51) hx hb hg in_Mo hown hK hP 0 rfl rfl 6 (by decide) (hg _ m_1265) (fun _ h9 => h9) rfl d_Mo_closeBracket_93 ?_
          refine lv_iload hx hb d_Mo_closeBracket_96 (lv_at hl 3 rfl) ?_
          obtain ⟨hk0, hk⟩ := hk
          refine va_iald hx hb hK hP 3 0 rfl rfl hk0 d_Mo_closeBracket_98 ?_
          refine lv_icmp_eq (tgt := 106) hx hb d_Mo_closeBracket_99 (by decide) (fun hc => ?_) (fun hc => ?_)
          · have hv := hv.trans (if_pos hc)
            have hk := hk.1 hc
            exact B106 _ _ _ x2 x3 x4 σ hv hk (lv_sub hl [0, 1, 2, 3] rfl) hP hD hS
          · have hv := hv.trans (if_neg hc)
            have hk := hk.2 hc
            exact B102 _ _ _ x2 x3 x4 σ hv hk (lv_sub hl [0, 1, 2, 3] rfl) hP hD hS
  have B357 : ∀ (H : Heap) (locs : List Loc) (ls : Array Slot) (s0 : Int32) (σ : St), v = f_Mo_closeBracket_357 s0 σ → k_Mo_closeBracket_357 s0 σ → lv_has ls 7 [] → va_P D classes (Wm ty h σ px) H → va_D A (Wm ty h σ px) → va_S A s.heap H locs → W p l e (headSpec w_Mo_closeBracket rm_Mo_closeBracket).room s m args below meth c H locs 0 0 (MQ below (va_Qi (fun r (u : St) => (r, u) = v) (fun u t => va_P D classes (Wm ty h u px) t.heap) A) args s 0 0 A) (F0 m 357 ls [.int s0]) := by
    intro H locs ls s0 σ hv hk hl hP hD hS
    unfold f_Mo_closeBracket_357 at hv
    unfold k_Mo_closeBracket_357 at hk
    exact W.iret hx hb hr (fun t ht hW => ⟨⟨_, _, rfl, hv.symm, by dsimp only; rw [ht]; exact hP⟩, hS.F ht⟩) hS.2.2 d_Mo_closeBracket_357
  have B346 : ∀ (H : Heap) (locs : List Loc) (ls : Array Slot) (s0 : Int32) (σ : St), v = f_Mo_closeBracket_346 s0 σ → k_Mo_closeBracket_346 s0 σ → lv_has ls 7 [] → va_P D classes (Wm ty h σ px) H → va_D A (Wm ty h σ px) → va_S A s.heap H locs → W p l e (headSpec w_Mo_closeBracket rm_Mo_closeBracket).room s m args below meth c H locs 0 0 (MQ below (va_Qi (fun r (u : St) => (r, u) = v) (fun u t => va_P D classes (Wm ty h u px) t.heap) A) args s 0 0 A) (F0 m 346 ls [.int s0]) := by
    intro H locs ls s0 σ hv hk hl hP hD hS
    unfold f_Mo_closeBracket_346 at hv
    unfold k_Mo_closeBracket_346 at hk
    refine lv_goto (tgt := 357) hx hb d_Mo_closeBracket_346 (by decide) ?_
    exact B357 _ _ _ s0 σ hv hk (lv_sub hl [] rfl) hP hD hS
  have B318 : ∀ (H : Heap) (locs : List Loc) (ls : Array Slot) (x2 : Int32) (x3 : Int32) (x4 : Int32) (σ : St), v = f_Mo_closeBracket_318 x2 x3 x4 σ → k_Mo_closeBracket_318 x2 x3 x4 σ → lv_has ls 7 [(0, .ref (h 0)), (2, .int x2), (3, .int x3), (4, .int x4)] → va_P D classes (Wm ty h σ px) H → va_D A (Wm ty h σ px) → va_S A s.heap H locs → W p l e (headSpec w_Mo_closeBracket rm_Mo_closeBracket).room s m args below meth c H locs 0 0 (MQ below (va_Qi (fun r (u : St) => (r, u) = v) (fun u t => va_P D classes (Wm ty h u px) t.heap) A) args s 0 0 A) (F0 m 318 ls []) := by
    intro H locs ls x2 x3 x4 σ hv hk hl hP hD hS
    unfold f_Mo_closeBracket_318 at hv
    unfold k_Mo_closeBracket_318 at hk
    refine lv_aload_n hx hb d_Mo_closeBracket_318 rfl (lv_at hl 0 rfl) ?_
    refine va_get (v := .int (σ.1 0 33)) (C := R_Mo) (T := T_Mo) (N := 51) hx hb hg in_Mo hown hK hP 0 rfl rfl 33 (by decide) (hg _ m_1292) (fun _ h9 => h9) rfl d_Mo_closeBracket_319 ?_
    refine lv_if_eq (tgt := 327) hx hb d_Mo_closeBracket_322 (by decide) (fun hc => ?_) (fun hc => ?_)
    · have hv := hv.trans (if_pos hc)
      have hk := hk.1 hc
      refine lv_iload hx hb d_Mo_closeBracket_327 (lv_at hl 3 rfl) ?_
      refine lv_bipush (v := 10) hx hb d_Mo_closeBracket_329 (by decide) ?_
      refine lv_icmp_ne (tgt := 349) hx hb d_Mo_closeBracket_331 (by decide) (fun hc => ?_) (fun hc => ?_)
      · have hv := hv.trans (if_neg hc)
        have hk := hk.2 hc
        refine lv_aload_n hx hb d_Mo_closeBracket_349 rfl (lv_at hl 0 rfl) ?_
        refine lv_iload hx hb d_Mo_closeBracket_350 (lv_at hl 3 rfl) ?_
        refine lv_iload_n hx hb d_Mo_closeBracket_352 rfl (lv_at hl 1 rfl) ?_
        refine lv_iload_n hx hb d_Mo_closeBracket_353 rfl (lv_at hl 2 rfl) ?_
        obtain ⟨hk0, hk⟩ := hk
        refine va_calli (va_runV (As := [.int x4, .int x2, .int x3]) (rest := []) ⟨hx, hb, hml, hown, hg⟩ (c_Mo_made l D ty h px sa σ H.size x4 x2 x3 hk0) ⟨callB_of 3 hg (gw_C m_1503) rfl rfl rfl (hg _ m_13) (hg _ m_1500) hd_Mo_made ⟨Nat.le_of_ble_eq_true rfl, Nat.le_of_ble_eq_true rfl⟩, hg _ m_1502, hg _ ms_61⟩ (zz_preVW hM hS hA hN hK hP hD 0 rfl rfl) rfl rfl hl.1 rfl (lv_room (Nat.le_of_ble_eq_true rfl)) d_Mo_closeBracket_354 ⟨Nat.le_of_ble_eq_true rfl, Nat.le_of_ble_eq_true rfl⟩) hS (fun q _ h => zz_free hD hS hA q h) (zz_free hD hS hA) (fun r354 u354 t H locs ht hvm hp hP1 hz hk1 hS => ?_)
        rw [ht] at hP1
        rw [← hp] at hv hk
        have hD : va_D A (Wm ty h u354 px) := zz_D hD rfl
        have hP := hP1
        exact B357 _ _ _ r354 u354 hv hk (lv_sub hl [] rfl) hP hD hS
      · have hv := hv.trans (if_pos hc)
        have hk := hk.1 hc
        refine lv_aload_n hx hb d_Mo_closeBracket_334 rfl (lv_at hl 0 rfl) ?_
        refine lv_bipush (v := 10) hx hb d_Mo_closeBracket_335 (by decide) ?_
        refine lv_iconst (v := 0) hx hb d_Mo_closeBracket_337 (by decide) ?_
        refine lv_iload_n hx hb d_Mo_closeBracket_338 rfl (lv_at hl 1 rfl) ?_
        refine lv_iconst (v := -1) hx hb d_Mo_closeBracket_339 (by decide) ?_
        refine lv_iload_n hx hb d_Mo_closeBracket_340 rfl (lv_at hl 2 rfl) ?_
        refine lv_iconst (v := 0) hx hb d_Mo_closeBracket_341 (by decide) ?_
        refine lv_iconst (v := 0) hx hb d_Mo_closeBracket_342 (by decide) ?_
        obtain ⟨hk0, hk⟩ := hk
        refine va_calli (va_runV (As := [.int 10, .int 0, .int x2, .int (-1), .int x3, .int 0, .int 0]) (rest := []) ⟨hx, hb, hml, hown, hg⟩ (c_Mo_found l D ty h px sa σ H.size 10 0 x2 (-1) x3 0 0 hk0) ⟨callB_of 7 hg (gw_C m_1484) rfl rfl rfl (hg _ m_13) (hg _ m_1481) hd_Mo_found ⟨Nat.le_of_ble_eq_true rfl, Nat.le_of_ble_eq_true rfl⟩, hg _ m_1483, hg _ ms_57⟩ (zz_preVW hM hS hA hN hK hP hD 0 rfl rfl) rfl rfl hl.1 rfl (lv_room (Nat.le_of_ble_eq_true rfl)) d_Mo_closeBracket_343 ⟨Nat.le_of_ble_eq_true rfl, Nat.le_of_ble_eq_true rfl⟩) hS (fun q _ h => zz_free hD hS hA q h) (zz_free hD hS hA) (fun r343 u343 t H locs ht hvm hp hP1 hz hk1 hS => ?_)
        rw [ht] at hP1
        rw [← hp] at hv hk
        have hD : va_D A (Wm ty h u343 px) := zz_D hD rfl
        have hP := hP1
        exact B346 _ _ _ r343 u343 hv hk (lv_sub hl [] rfl) hP hD hS
    · have hv := hv.trans (if_neg hc)
      have hk := hk.2 hc
      refine lv_iconst (v := 0) hx hb d_Mo_closeBracket_325 (by decide) ?_
      exact W.iret hx hb hr (fun t ht hW => ⟨⟨_, _, rfl, hv.symm, by dsimp only; rw [ht]; exact hP⟩, hS.F ht⟩) hS.2.2 d_Mo_closeBracket_326
  have B315 : ∀ (H : Heap) (locs : List Loc) (ls : Array Slot) (x2 : Int32) (x3 : Int32) (x4 : Int32) (s0 : Int32) (σ : St), v = f_Mo_closeBracket_315 x2 x3 x4 s0 σ → k_Mo_closeBracket_315 x2 x3 x4 s0 σ → lv_has ls 7 [(0, .ref (h 0)), (2, .int x2), (3, .int x3), (4, .int x4)] → va_P D classes (Wm ty h σ px) H → va_D A (Wm ty h σ px) → va_S A s.heap H locs → W p l e (headSpec w_Mo_closeBracket rm_Mo_closeBracket).room s m args below meth c H locs 0 0 (MQ below (va_Qi (fun r (u : St) => (r, u) = v) (fun u t => va_P D classes (Wm ty h u px) t.heap) A) args s 0 0 A) (F0 m 315 ls [.int s0, .ref (h 0)]) := by
    intro H locs ls x2 x3 x4 s0 σ hv hk hl hP hD hS
    unfold f_Mo_closeBracket_315 at hv
    unfold k_Mo_closeBracket_315 at hk
    obtain ⟨hk0, hk⟩ := hk
    refine va_put (v := .int s0) (ty := .boolean) (C := R_Mo) (T := T_Mo) (N := 51) hx hb hg in_Mo ty_Mo ok_Mo nm_Mo hown hK hP hD hS 0 rfl rfl 33 (by decide) (hg _ m_1292) (fun _ h9 => h9) rfl (by decide +kernel) hk0.1 hk0.2 (Nat.le_of_ble_eq_true rfl) d_Mo_closeBracket_315 (fun H locs hP hD hS => ?_)
    have hP : va_P D classes (Wm ty h (sF σ 0 33 s0) px) H := hP
    have hD : va_D A (Wm ty h (sF σ 0 33 s0) px) := hD
    exact B318 _ _ _ x2 x3 x4 (sF σ 0 33 s0) hv hk (lv_sub hl [0, 1, 2, 3] rfl) hP hD hS
  have B310 : ∀ (H : Heap) (locs : List Loc) (ls : Array Slot) (x2 : Int32) (x3 : Int32) (x4 : Int32) (σ : St), v = f_Mo_closeBracket_310 x2 x3 x4 σ → k_Mo_closeBracket_310 x2 x3 x4 σ → lv_has ls 7 [(0, .ref (h 0)), (2, .int x2), (3, .int x3), (4, .int x4)] → va_P D classes (Wm ty h σ px) H → va_D A (Wm ty h σ px) → va_S A s.heap H locs → W p l e (headSpec w_Mo_closeBracket rm_Mo_closeBracket).room s m args below meth c H locs 0 0 (MQ below (va_Qi (fun r (u : St) => (r, u) = v) (fun u t => va_P D classes (Wm ty h u px) t.heap) A) args s 0 0 A) (F0 m 310 ls [.ref (h 0)]) := by
    intro H locs ls x2 x3 x4 σ hv hk hl hP hD hS
    unfold f_Mo_closeBracket_310 at hv
    unfold k_Mo_closeBracket_310 at hk
    refine lv_iconst (v := 1) hx hb d_Mo_closeBracket_310 (by decide) ?_
    refine lv_goto (tgt := 315) hx hb d_Mo_closeBracket_311 (by decide) ?_
    exact B315 _ _ _ x2 x3 x4 1 σ hv hk (lv_sub hl [0, 1, 2, 3] rfl) hP hD hS
  have B295 : ∀ (H : Heap) (locs : List Loc) (ls : Array Slot) (x2 : Int32) (x3 : Int32) (x4 : Int32) (s0 : Int32) (σ : St), v = f_Mo_closeBracket_295 x2 x3 x4 s0 σ → k_Mo_closeBracket_295 x2 x3 x4 s0 σ → lv_has ls 7 [(0, .ref (h 0)), (2, .int x2), (3, .int x3), (4, .int x4)] → va_P D classes (Wm ty h σ px) H → va_D A (Wm ty h σ px) → va_S A s.heap H locs → W p l e (headSpec w_Mo_closeBracket rm_Mo_closeBracket).room s m args below meth c H locs 0 0 (MQ below (va_Qi (fun r (u : St) => (r, u) = v) (fun u t => va_P D classes (Wm ty h u px) t.heap) A) args s 0 0 A) (F0 m 295 ls [.int s0]) := by
    intro H locs ls x2 x3 x4 s0 σ hv hk hl hP hD hS
    unfold f_Mo_closeBracket_295 at hv
    unfold k_Mo_closeBracket_295 at hk
    refine lv_istore (lv' := [(6, .int s0), (0, .ref (h 0)), (2, .int x2), (3, .int x3), (4, .int x4)]) hx hb d_Mo_closeBracket_295 hl (by decide) rfl (fun ls hl => ?_)
    refine lv_aload_n hx hb d_Mo_closeBracket_297 rfl (lv_at hl 1 rfl) ?_
    refine lv_aload_n hx hb d_Mo_closeBracket_298 rfl (lv_at hl 1 rfl) ?_
    refine va_get (v := .int (σ.1 0 33)) (C := R_Mo) (T := T_Mo) (N := 51) hx hb hg in_Mo hown hK hP 0 rfl rfl 33 (by decide) (hg _ m_1292) (fun _ h9 => h9) rfl d_Mo_closeBracket_299 ?_
    refine lv_if_ne (tgt := 310) hx hb d_Mo_closeBracket_302 (by decide) (fun hc => ?_) (fun hc => ?_)
    · have hv := hv.trans (if_neg hc)
      have hk := hk.2 hc
      exact B310 _ _ _ x2 x3 x4 σ hv hk (lv_sub hl [1, 2, 3, 4] rfl) hP hD hS
    · have hv := hv.trans (if_pos hc)
      have hk := hk.1 hc
      refine lv_iload hx hb d_Mo_closeBracket_305 (lv_at hl 0 rfl) ?_
      refine lv_if_ne (tgt := 314) hx hb d_Mo_closeBracket_307 (by decide) (fun hc => ?_) (fun hc => ?_)
      · have hv := hv.trans (if_neg hc)
        have hk := hk.2 hc
        refine lv_iconst (v := 0) hx hb d_Mo_closeBracket_314 (by decide) ?_
        exact B315 _ _ _ x2 x3 x4 0 σ hv hk (lv_sub hl [1, 2, 3, 4] rfl) hP hD hS
      · have hv := hv.trans (if_pos hc)
        have hk := hk.1 hc
        exact B310 _ _ _ x2 x3 x4 σ hv hk (lv_sub hl [1, 2, 3, 4] rfl) hP hD hS
  have B180 : ∀ (H : Heap) (locs : List Loc) (ls : Array Slot) (x2 : Int32) (x3 : Int32) (x4 : Int32) (σ : St), v = f_Mo_closeBracket_180 x2 x3 x4 σ → k_Mo_closeBracket_180 x2 x3 x4 σ → lv_has ls 7 [(0, .ref (h 0)), (2, .int x2), (3, .int x3), (4, .int x4)] → va_P D classes (Wm ty h σ px) H → va_D A (Wm ty h σ px) → va_S A s.heap H locs → W p l e (headSpec w_Mo_closeBracket rm_Mo_closeBracket).room s m args below meth c H locs 0 0 (MQ below (va_Qi (fun r (u : St) => (r, u) = v) (fun u t => va_P D classes (Wm ty h u px) t.heap) A) args s 0 0 A) (F0 m 180 ls []) := by
    intro H locs ls x2 x3 x4 σ hv hk hl hP hD hS
    unfold f_Mo_closeBracket_180 at hv
    unfold k_Mo_closeBracket_180 at hk
    refine lv_aload_n hx hb d_Mo_closeBracket_180 rfl (lv_at hl 0 rfl) ?_
    refine lv_iload_n hx hb d_Mo_closeBracket_181 rfl (lv_at hl 1 rfl) ?_
    obtain ⟨hk0, hk⟩ := hk
    refine zz_callV (va_runV (As := [.int x2]) (rest := []) ⟨hx, hb, hml, hown, hg⟩ (c_Mo_isTruth l D ty h px sa σ x2 hk0) ⟨callB_of 1 hg (gw_C m_1499) rfl rfl rfl (hg _ m_13) (hg _ m_1496) hd_Mo_isTruth ⟨Nat.le_of_ble_eq_true rfl, Nat.le_of_ble_eq_true rfl⟩, hg _ m_1498, hg _ ms_60⟩ (zz_preV (hM.at hS) hN hK hP 0 rfl rfl) rfl rfl hl.1 rfl (lv_room (Nat.le_of_ble_eq_true rfl)) d_Mo_closeBracket_182 ⟨Nat.le_of_ble_eq_true rfl, Nat.le_of_ble_eq_true rfl⟩) ?_
    refine lv_goto (tgt := 295) hx hb d_Mo_closeBracket_185 (by decide) ?_
    exact B295 _ _ _ x2 x3 x4 (f_Mo_isTruth x2 σ) σ hv hk (lv_sub hl [0, 1, 2, 3] rfl) hP hD hS
  have B251 : ∀ (H : Heap) (locs : List Loc) (ls : Array Slot) (x2 : Int32) (x3 : Int32) (x4 : Int32) (σ : St), v = f_Mo_closeBracket_251 x2 x3 x4 σ → k_Mo_closeBracket_251 x2 x3 x4 σ → lv_has ls 7 [(0, .ref (h 0)), (2, .int x2), (3, .int x3), (4, .int x4)] → va_P D classes (Wm ty h σ px) H → va_D A (Wm ty h σ px) → va_S A s.heap H locs → W p l e (headSpec w_Mo_closeBracket rm_Mo_closeBracket).room s m args below meth c H locs 0 0 (MQ below (va_Qi (fun r (u : St) => (r, u) = v) (fun u t => va_P D classes (Wm ty h u px) t.heap) A) args s 0 0 A) (F0 m 251 ls []) := by
    intro H locs ls x2 x3 x4 σ hv hk hl hP hD hS
    unfold f_Mo_closeBracket_251 at hv
    unfold k_Mo_closeBracket_251 at hk
    refine lv_iconst (v := 0) hx hb d_Mo_closeBracket_251 (by decide) ?_
    refine lv_goto (tgt := 295) hx hb d_Mo_closeBracket_252 (by decide) ?_
    exact B295 _ _ _ x2 x3 x4 0 σ hv hk (lv_sub hl [0, 1, 2, 3] rfl) hP hD hS
  have B231 : ∀ (H : Heap) (locs : List Loc) (ls : Array Slot) (x2 : Int32) (x3 : Int32) (x4 : Int32) (σ : St), v = f_Mo_closeBracket_231 x2 x3 x4 σ → k_Mo_closeBracket_231 x2 x3 x4 σ → lv_has ls 7 [(0, .ref (h 0)), (2, .int x2), (3, .int x3), (4, .int x4)] → va_P D classes (Wm ty h σ px) H → va_D A (Wm ty h σ px) → va_S A s.heap H locs → W p l e (headSpec w_Mo_closeBracket rm_Mo_closeBracket).room s m args below meth c H locs 0 0 (MQ below (va_Qi (fun r (u : St) => (r, u) = v) (fun u t => va_P D classes (Wm ty h u px) t.heap) A) args s 0 0 A) (F0 m 231 ls []) := by
    intro H locs ls x2 x3 x4 σ hv hk hl hP hD hS
    unfold f_Mo_closeBracket_231 at hv
    unfold k_Mo_closeBracket_231 at hk
    refine lv_aload_n hx hb d_Mo_closeBracket_231 rfl (lv_at hl 0 rfl) ?_
    refine lv_iload_n hx hb d_Mo_closeBracket_232 rfl (lv_at hl 1 rfl) ?_
    obtain ⟨hk0, hk⟩ := hk
    refine zz_callV (va_runV (As := [.int x2]) (rest := []) ⟨hx, hb, hml, hown, hg⟩ (c_Mo_isTruth l D ty h px sa σ x2 hk0) ⟨callB_of 1 hg (gw_C m_1499) rfl rfl rfl (hg _ m_13) (hg _ m_1496) hd_Mo_isTruth ⟨Nat.le_of_ble_eq_true rfl, Nat.le_of_ble_eq_true rfl⟩, hg _ m_1498, hg _ ms_60⟩ (zz_preV (hM.at hS) hN hK hP 0 rfl rfl) rfl rfl hl.1 rfl (lv_room (Nat.le_of_ble_eq_true rfl)) d_Mo_closeBracket_233 ⟨Nat.le_of_ble_eq_true rfl, Nat.le_of_ble_eq_true rfl⟩) ?_
    refine lv_if_eq (tgt := 251) hx hb d_Mo_closeBracket_236 (by decide) (fun hc => ?_) (fun hc => ?_)
    · have hv := hv.trans (if_pos hc)
      have hk := hk.1 hc
      exact B251 _ _ _ x2 x3 x4 σ hv hk (lv_sub hl [0, 1, 2, 3] rfl) hP hD hS
    · have hv := hv.trans (if_neg hc)
      have hk := hk.2 hc
      refine lv_aload_n hx hb d_Mo_closeBracket_239 rfl (lv_at hl 0 rfl) ?_
      refine lv_iload_n hx hb d_Mo_closeBracket_240 rfl (lv_at hl 2 rfl) ?_
      obtain ⟨hk0, hk⟩ := hk
      refine zz_callV (va_runV (As := [.int x3]) (rest := []) ⟨hx, hb, hml, hown, hg⟩ (c_Mo_isTruth l D ty h px sa σ x3 hk0) ⟨callB_of 1 hg (gw_C m_1499) rfl rfl rfl (hg _ m_13) (hg _ m_1496) hd_Mo_isTruth ⟨Nat.le_of_ble_eq_true rfl, Nat.le_of_ble_eq_true rfl⟩, hg _ m_1498, hg _ ms_60⟩ (zz_preV (hM.at hS) hN hK hP 0 rfl rfl) rfl rfl hl.1 rfl (lv_room (Nat.le_of_ble_eq_true rfl)) d_Mo_closeBracket_241 ⟨Nat.le_of_ble_eq_true rfl, Nat.le_of_ble_eq_true rfl⟩) ?_
      refine lv_if_eq (tgt := 251) hx hb d_Mo_closeBracket_244 (by decide) (fun hc => ?_) (fun hc => ?_)
      · have hv := hv.trans (if_pos hc)
        have hk := hk.1 hc
        exact B251 _ _ _ x2 x3 x4 σ hv hk (lv_sub hl [0, 1, 2, 3] rfl) hP hD hS
      · have hv := hv.trans (if_neg hc)
        have hk := hk.2 hc
        refine lv_iconst (v := 1) hx hb d_Mo_closeBracket_247 (by decide) ?_
        refine lv_goto (tgt := 295) hx hb d_Mo_closeBracket_248 (by decide) ?_
        exact B295 _ _ _ x2 x3 x4 1 σ hv hk (lv_sub hl [0, 1, 2, 3] rfl) hP hD hS
  have B290 : ∀ (H : Heap) (locs : List Loc) (ls : Array Slot) (x2 : Int32) (x3 : Int32) (x4 : Int32) (σ : St), v = f_Mo_closeBracket_290 x2 x3 x4 σ → k_Mo_closeBracket_290 x2 x3 x4 σ → lv_has ls 7 [(0, .ref (h 0)), (2, .int x2), (3, .int x3), (4, .int x4)] → va_P D classes (Wm ty h σ px) H → va_D A (Wm ty h σ px) → va_S A s.heap H locs → W p l e (headSpec w_Mo_closeBracket rm_Mo_closeBracket).room s m args below meth c H locs 0 0 (MQ below (va_Qi (fun r (u : St) => (r, u) = v) (fun u t => va_P D classes (Wm ty h u px) t.heap) A) args s 0 0 A) (F0 m 290 ls []) := by
    intro H locs ls x2 x3 x4 σ hv hk hl hP hD hS
    unfold f_Mo_closeBracket_290 at hv
    unfold k_Mo_closeBracket_290 at hk
    refine lv_iconst (v := 1) hx hb d_Mo_closeBracket_290 (by decide) ?_
    refine lv_goto (tgt := 295) hx hb d_Mo_closeBracket_291 (by decide) ?_
    exact B295 _ _ _ x2 x3 x4 1 σ hv hk (lv_sub hl [0, 1, 2, 3] rfl) hP hD hS
  have B294 : ∀ (H : Heap) (locs : List Loc) (ls : Array Slot) (x2 : Int32) (x3 : Int32) (x4 : Int32) (σ : St), v = f_Mo_closeBracket_294 x2 x3 x4 σ → k_Mo_closeBracket_294 x2 x3 x4 σ → lv_has ls 7 [(0, .ref (h 0)), (2, .int x2), (3, .int x3), (4, .int x4)] → va_P D classes (Wm ty h σ px) H → va_D A (Wm ty h σ px) → va_S A s.heap H locs → W p l e (headSpec w_Mo_closeBracket rm_Mo_closeBracket).room s m args below meth c H locs 0 0 (MQ below (va_Qi (fun r (u : St) => (r, u) = v) (fun u t => va_P D classes (Wm ty h u px) t.heap) A) args s 0 0 A) (F0 m 294 ls []) := by
    intro H locs ls x2 x3 x4 σ hv hk hl hP hD hS
    unfold f_Mo_closeBracket_294 at hv
    unfold k_Mo_closeBracket_294 at hk
    refine lv_iconst (v := 0) hx hb d_Mo_closeBracket_294 (by decide) ?_
    exact B295 _ _ _ x2 x3 x4 0 σ hv hk (lv_sub hl [0, 1, 2, 3] rfl) hP hD hS
  have B164 : ∀ (H : Heap) (locs : List Loc) (ls : Array Slot) (x2 : Int32) (x3 : Int32) (x4 : Int32) (s0 : Int32) (σ : St), v = f_Mo_closeBracket_164 x2 x3 x4 s0 σ → k_Mo_closeBracket_164 x2 x3 x4 s0 σ → lv_has ls 7 [(0, .ref (h 0)), (2, .int x2), (3, .int x3), (4, .int x4)] → va_P D classes (Wm ty h σ px) H → va_D A (Wm ty h σ px) → va_S A s.heap H locs → W p l e (headSpec w_Mo_closeBracket rm_Mo_closeBracket).room s m args below meth c H locs 0 0 (MQ below (va_Qi (fun r (u : St) => (r, u) = v) (fun u t => va_P D classes (Wm ty h u px) t.heap) A) args s 0 0 A) (F0 m 164 ls [.int s0]) := by
    intro H locs ls x2 x3 x4 s0 σ hv hk hl hP hD hS
    unfold f_Mo_closeBracket_164 at hv
    unfold k_Mo_closeBracket_164 at hk
    refine lv_istore (lv' := [(5, .int s0), (0, .ref (h 0)), (2, .int x2), (3, .int x3), (4, .int x4)]) hx hb d_Mo_closeBracket_164 hl (by decide) rfl (fun ls hl => ?_)
    refine lv_iload hx hb d_Mo_closeBracket_166 (lv_at hl 4 rfl) ?_
    refine lv_bipush (v := 7) hx hb d_Mo_closeBracket_168 (by decide) ?_
    refine lv_icmp_eq (tgt := 180) hx hb d_Mo_closeBracket_170 (by decide) (fun hc => ?_) (fun hc => ?_)
    · have hv := hv.trans (if_pos hc)
      have hk := hk.1 hc
      exact B180 _ _ _ x2 x3 x4 σ hv hk (lv_sub hl [1, 2, 3, 4] rfl) hP hD hS
    · have hv := hv.trans (if_neg hc)
      have hk := hk.2 hc
      refine lv_iload hx hb d_Mo_closeBracket_173 (lv_at hl 4 rfl) ?_
      refine lv_bipush (v := 10) hx hb d_Mo_closeBracket_175 (by decide) ?_
      refine lv_icmp_ne (tgt := 188) hx hb d_Mo_closeBracket_177 (by decide) (fun hc => ?_) (fun hc => ?_)
      · have hv := hv.trans (if_neg hc)
        have hk := hk.2 hc
        refine lv_iload hx hb d_Mo_closeBracket_188 (lv_at hl 4 rfl) ?_
        refine lv_iconst (v := 5) hx hb d_Mo_closeBracket_190 (by decide) ?_
        refine lv_icmp_ne (tgt := 217) hx hb d_Mo_closeBracket_191 (by decide) (fun hc => ?_) (fun hc => ?_)
        · have hv := hv.trans (if_neg hc)
          have hk := hk.2 hc
          refine lv_iload hx hb d_Mo_closeBracket_217 (lv_at hl 4 rfl) ?_
          refine lv_bipush (v := 8) hx hb d_Mo_closeBracket_219 (by decide) ?_
          refine lv_icmp_eq (tgt := 231) hx hb d_Mo_closeBracket_221 (by decide) (fun hc => ?_) (fun hc => ?_)
          · have hv := hv.trans (if_pos hc)
            have hk := hk.1 hc
            exact B231 _ _ _ x2 x3 x4 σ hv hk (lv_sub hl [1, 2, 3, 4] rfl) hP hD hS
          · have hv := hv.trans (if_neg hc)
            have hk := hk.2 hc
            refine lv_iload hx hb d_Mo_closeBracket_224 (lv_at hl 4 rfl) ?_
            refine lv_bipush (v := 9) hx hb d_Mo_closeBracket_226 (by decide) ?_
            refine lv_icmp_ne (tgt := 255) hx hb d_Mo_closeBracket_228 (by decide) (fun hc => ?_) (fun hc => ?_)
            · have hv := hv.trans (if_neg hc)
              have hk := hk.2 hc
              refine lv_aload_n hx hb d_Mo_closeBracket_255 rfl (lv_at hl 1 rfl) ?_
              refine va_get (v := .ref (h 6)) (C := R_Mo) (T := T_Mo) (N := 51) hx hb hg in_Mo hown hK hP 0 rfl rfl 11 (by decide) (hg _ m_1270) (fun _ h9 => h9) rfl d_Mo_closeBracket_256 ?_
              refine lv_iload_n hx hb d_Mo_closeBracket_259 rfl (lv_at hl 2 rfl) ?_
              obtain ⟨hk0, hk⟩ := hk
              refine va_iald hx hb hK hP 6 0 rfl rfl hk0 d_Mo_closeBracket_260 ?_
              refine lv_iconst (v := 1) hx hb d_Mo_closeBracket_261 (by decide) ?_
              refine lv_icmp_ne (tgt := 294) hx hb d_Mo_closeBracket_262 (by decide) (fun hc => ?_) (fun hc => ?_)
              · have hv := hv.trans (if_neg hc)
                have hk := hk.2 hc
                exact B294 _ _ _ x2 x3 x4 σ hv hk (lv_sub hl [1, 2, 3, 4] rfl) hP hD hS
              · have hv := hv.trans (if_pos hc)
                have hk := hk.1 hc
                refine lv_aload_n hx hb d_Mo_closeBracket_265 rfl (lv_at hl 1 rfl) ?_
                refine va_get (v := .ref (h 6)) (C := R_Mo) (T := T_Mo) (N := 51) hx hb hg in_Mo hown hK hP 0 rfl rfl 11 (by decide) (hg _ m_1270) (fun _ h9 => h9) rfl d_Mo_closeBracket_266 ?_
                refine lv_iload_n hx hb d_Mo_closeBracket_269 rfl (lv_at hl 3 rfl) ?_
                obtain ⟨hk0, hk⟩ := hk
                refine va_iald hx hb hK hP 6 0 rfl rfl hk0 d_Mo_closeBracket_270 ?_
                refine lv_iconst (v := 1) hx hb d_Mo_closeBracket_271 (by decide) ?_
                refine lv_icmp_ne (tgt := 294) hx hb d_Mo_closeBracket_272 (by decide) (fun hc => ?_) (fun hc => ?_)
                · have hv := hv.trans (if_neg hc)
                  have hk := hk.2 hc
                  exact B294 _ _ _ x2 x3 x4 σ hv hk (lv_sub hl [1, 2, 3, 4] rfl) hP hD hS
                · have hv := hv.trans (if_pos hc)
                  have hk := hk.1 hc
                  refine lv_iload hx hb d_Mo_closeBracket_275 (lv_at hl 0 rfl) ?_
                  refine lv_if_ne (tgt := 290) hx hb d_Mo_closeBracket_277 (by decide) (fun hc => ?_) (fun hc => ?_)
                  · have hv := hv.trans (if_neg hc)
                    have hk := hk.2 hc
                    exact B290 _ _ _ x2 x3 x4 σ hv hk (lv_sub hl [1, 2, 3, 4] rfl) hP hD hS
                  · have hv := hv.trans (if_pos hc)
                    have hk := hk.1 hc
                    refine lv_aload_n hx hb d_Mo_closeBracket_280 rfl (lv_at hl 1 rfl) ?_
                    refine va_get (v := .ref (h 5)) (C := R_Mo) (T := T_Mo) (N := 51) hx hb hg in_Mo hown hK hP 0 rfl rfl 10 (by decide) (hg _ m_1269) (fun _ h9 => h9) rfl d_Mo_closeBracket_281 ?_
                    refine lv_iload_n hx hb d_Mo_closeBracket_284 rfl (lv_at hl 2 rfl) ?_
                    obtain ⟨hk0, hk⟩ := hk
                    refine va_iald hx hb hK hP 5 0 rfl rfl hk0 d_Mo_closeBracket_285 ?_
                    refine lv_iconst (v := 2) hx hb d_Mo_closeBracket_286 (by decide) ?_
                    refine lv_icmp_ne (tgt := 294) hx hb d_Mo_closeBracket_287 (by decide) (fun hc => ?_) (fun hc => ?_)
                    · have hv := hv.trans (if_neg hc)
                      have hk := hk.2 hc
                      exact B294 _ _ _ x2 x3 x4 σ hv hk (lv_sub hl [1, 2, 3, 4] rfl) hP hD hS
                    · have hv := hv.trans (if_pos hc)
                      have hk := hk.1 hc
                      exact B290 _ _ _ x2 x3 x4 σ hv hk (lv_sub hl [1, 2, 3, 4] rfl) hP hD hS
            · have hv := hv.trans (if_pos hc)
              have hk := hk.1 hc
              exact B231 _ _ _ x2 x3 x4 σ hv hk (lv_sub hl [1, 2, 3, 4] rfl) hP hD hS
        · have hv := hv.trans (if_pos hc)
          have hk := hk.1 hc
          refine lv_aload_n hx hb d_Mo_closeBracket_194 rfl (lv_at hl 1 rfl) ?_
          refine va_get (v := .ref (h 6)) (C := R_Mo) (T := T_Mo) (N := 51) hx hb hg in_Mo hown hK hP 0 rfl rfl 11 (by decide) (hg _ m_1270) (fun _ h9 => h9) rfl d_Mo_closeBracket_195 ?_
          refine lv_iload_n hx hb d_Mo_closeBracket_198 rfl (lv_at hl 2 rfl) ?_
          obtain ⟨hk0, hk⟩ := hk
          refine va_iald hx hb hK hP 6 0 rfl rfl hk0 d_Mo_closeBracket_199 ?_
          refine lv_aload_n hx hb d_Mo_closeBracket_200 rfl (lv_at hl 1 rfl) ?_
          refine va_get (v := .ref (h 6)) (C := R_Mo) (T := T_Mo) (N := 51) hx hb hg in_Mo hown hK hP 0 rfl rfl 11 (by decide) (hg _ m_1270) (fun _ h9 => h9) rfl d_Mo_closeBracket_201 ?_
          refine lv_iload_n hx hb d_Mo_closeBracket_204 rfl (lv_at hl 3 rfl) ?_
          obtain ⟨hk0, hk⟩ := hk
          refine va_iald hx hb hK hP 6 0 rfl rfl hk0 d_Mo_closeBracket_205 ?_
          refine lv_icmp_ne (tgt := 213) hx hb d_Mo_closeBracket_206 (by decide) (fun hc => ?_) (fun hc => ?_)
          · have hv := hv.trans (if_neg hc)
            have hk := hk.2 hc
            refine lv_iconst (v := 0) hx hb d_Mo_closeBracket_213 (by decide) ?_
            refine lv_goto (tgt := 295) hx hb d_Mo_closeBracket_214 (by decide) ?_
            exact B295 _ _ _ x2 x3 x4 0 σ hv hk (lv_sub hl [1, 2, 3, 4] rfl) hP hD hS
          · have hv := hv.trans (if_pos hc)
            have hk := hk.1 hc
            refine lv_iconst (v := 1) hx hb d_Mo_closeBracket_209 (by decide) ?_
            refine lv_goto (tgt := 295) hx hb d_Mo_closeBracket_210 (by decide) ?_
            exact B295 _ _ _ x2 x3 x4 1 σ hv hk (lv_sub hl [1, 2, 3, 4] rfl) hP hD hS
      · have hv := hv.trans (if_pos hc)
        have hk := hk.1 hc
        exact B180 _ _ _ x2 x3 x4 σ hv hk (lv_sub hl [1, 2, 3, 4] rfl) hP hD hS
  have B159 : ∀ (H : Heap) (locs : List Loc) (ls : Array Slot) (x2 : Int32) (x3 : Int32) (x4 : Int32) (σ : St), v = f_Mo_closeBracket_159 x2 x3 x4 σ → k_Mo_closeBracket_159 x2 x3 x4 σ → lv_has ls 7 [(0, .ref (h 0)), (2, .int x2), (3, .int x3), (4, .int x4)] → va_P D classes (Wm ty h σ px) H → va_D A (Wm ty h σ px) → va_S A s.heap H locs → W p l e (headSpec w_Mo_closeBracket rm_Mo_closeBracket).room s m args below meth c H locs 0 0 (MQ below (va_Qi (fun r (u : St) => (r, u) = v) (fun u t => va_P D classes (Wm ty h u px) t.heap) A) args s 0 0 A) (F0 m 159 ls []) := by
    intro H locs ls x2 x3 x4 σ hv hk hl hP hD hS
    unfold f_Mo_closeBracket_159 at hv
    unfold k_Mo_closeBracket_159 at hk
    refine lv_iconst (v := 1) hx hb d_Mo_closeBracket_159 (by decide) ?_
    refine lv_goto (tgt := 164) hx hb d_Mo_closeBracket_160 (by decide) ?_
    exact B164 _ _ _ x2 x3 x4 1 σ hv hk (lv_sub hl [0, 1, 2, 3] rfl) hP hD hS
  have B146 : ∀ (H : Heap) (locs : List Loc) (ls : Array Slot) (x2 : Int32) (x3 : Int32) (x4 : Int32) (σ : St), v = f_Mo_closeBracket_146 x2 x3 x4 σ → k_Mo_closeBracket_146 x2 x3 x4 σ → lv_has ls 7 [(0, .ref (h 0)), (2, .int x2), (3, .int x3), (4, .int x4)] → va_P D classes (Wm ty h σ px) H → va_D A (Wm ty h σ px) → va_S A s.heap H locs → W p l e (headSpec w_Mo_closeBracket rm_Mo_closeBracket).room s m args below meth c H locs 0 0 (MQ below (va_Qi (fun r (u : St) => (r, u) = v) (fun u t => va_P D classes (Wm ty h u px) t.heap) A) args s 0 0 A) (F0 m 146 ls []) := by
    intro H locs ls x2 x3 x4 σ hv hk hl hP hD hS
    unfold f_Mo_closeBracket_146 at hv
    unfold k_Mo_closeBracket_146 at hk
    refine lv_iload hx hb d_Mo_closeBracket_146 (lv_at hl 3 rfl) ?_
    refine lv_iconst (v := 3) hx hb d_Mo_closeBracket_148 (by decide) ?_
    refine lv_icmp_eq (tgt := 159) hx hb d_Mo_closeBracket_149 (by decide) (fun hc => ?_) (fun hc => ?_)
    · have hv := hv.trans (if_pos hc)
      have hk := hk.1 hc
      exact B159 _ _ _ x2 x3 x4 σ hv hk (lv_sub hl [0, 1, 2, 3] rfl) hP hD hS
    · have hv := hv.trans (if_neg hc)
      have hk := hk.2 hc
      refine lv_iload hx hb d_Mo_closeBracket_152 (lv_at hl 3 rfl) ?_
      refine lv_bipush (v := 6) hx hb d_Mo_closeBracket_154 (by decide) ?_
      refine lv_icmp_ne (tgt := 163) hx hb d_Mo_closeBracket_156 (by decide) (fun hc => ?_) (fun hc => ?_)
      · have hv := hv.trans (if_neg hc)
        have hk := hk.2 hc
        refine lv_iconst (v := 0) hx hb d_Mo_closeBracket_163 (by decide) ?_
        exact B164 _ _ _ x2 x3 x4 0 σ hv hk (lv_sub hl [0, 1, 2, 3] rfl) hP hD hS
      · have hv := hv.trans (if_pos hc)
        have hk := hk.1 hc
        exact B159 _ _ _ x2 x3 x4 σ hv hk (lv_sub hl [0, 1, 2, 3] rfl) hP hD hS
  have B140 : ∀ (H : Heap) (locs : List Loc) (ls : Array Slot) (x1 : Int32) (x2 : Int32) (x3 : Int32) (σ : St), v = f_Mo_closeBracket_140 x1 x2 x3 σ → k_Mo_closeBracket_140 x1 x2 x3 σ → lv_has ls 7 [(0, .ref (h 0)), (1, .int x1), (2, .int x2), (3, .int x3)] → va_P D classes (Wm ty h σ px) H → va_D A (Wm ty h σ px) → va_S A s.heap H locs → W p l e (headSpec w_Mo_closeBracket rm_Mo_closeBracket).room s m args below meth c H locs 0 0 (MQ below (va_Qi (fun r (u : St) => (r, u) = v) (fun u t => va_P D classes (Wm ty h u px) t.heap) A) args s 0 0 A) (F0 m 140 ls []) := by
    intro H locs ls x1 x2 x3 σ hv hk hl hP hD hS
    unfold f_Mo_closeBracket_140 at hv
    unfold k_Mo_closeBracket_140 at hk
    refine lv_iload_n hx hb d_Mo_closeBracket_140 rfl (lv_at hl 1 rfl) ?_
    obtain ⟨hk0, hk⟩ := hk
    refine zz_callV (va_runS (As := [.int x1]) (rest := []) ⟨hx, hb, hml, hown, hg⟩ (c_Mo_signOf l D ty h px sa σ x1 hk0) ⟨callB_of 1 hg (gw_C m_1495) rfl rfl rfl (hg _ m_13) (hg _ m_1493) hd_Mo_signOf ⟨Nat.le_of_ble_eq_true rfl, Nat.le_of_ble_eq_true rfl⟩, hg _ m_1494⟩ (zz_preS (hM.at hS) hN hK hP) rfl rfl hl.1 rfl (lv_room (Nat.le_of_ble_eq_true rfl)) d_Mo_closeBracket_141 ⟨Nat.le_of_ble_eq_true rfl, Nat.le_of_ble_eq_true rfl⟩) ?_
    refine lv_istore (lv' := [(4, .int (f_Mo_signOf x1 σ)), (0, .ref (h 0)), (1, .int x1), (2, .int x2), (3, .int x3)]) hx hb d_Mo_closeBracket_144 hl (by decide) rfl (fun ls hl => ?_)
    exact B146 _ _ _ x2 x3 (f_Mo_signOf x1 σ) σ hv hk (lv_sub hl [1, 3, 4, 0] rfl) hP hD hS
  have B40 : ∀ (H : Heap) (locs : List Loc) (ls : Array Slot) (x1 : Int32) (x2 : Int32) (x3 : Int32) (σ : St), v = f_Mo_closeBracket_40 x1 x2 x3 σ → k_Mo_closeBracket_40 x1 x2 x3 σ → lv_has ls 7 [(0, .ref (h 0)), (1, .int x1), (2, .int x2), (3, .int x3)] → va_P D classes (Wm ty h σ px) H → va_D A (Wm ty h σ px) → va_S A s.heap H locs → W p l e (headSpec w_Mo_closeBracket rm_Mo_closeBracket).room s m args below meth c H locs 0 0 (MQ below (va_Qi (fun r (u : St) => (r, u) = v) (fun u t => va_P D classes (Wm ty h u px) t.heap) A) args s 0 0 A) (F0 m 40 ls []) := by
    intro H locs ls x1 x2 x3 σ hv hk hl hP hD hS
    unfold f_Mo_closeBracket_40 at hv
    unfold k_Mo_closeBracket_40 at hk
    refine lv_iload_n hx hb d_Mo_closeBracket_40 rfl (lv_at hl 1 rfl) ?_
    refine lv_bipush (v := 97) hx hb d_Mo_closeBracket_41 (by decide) ?_
    refine lv_icmp_lt (tgt := 140) hx hb d_Mo_closeBracket_43 (by decide) (fun hc => ?_) (fun hc => ?_)
    · have hv := hv.trans (if_pos hc)
      have hk := hk.1 hc
      exact B140 _ _ _ x1 x2 x3 σ hv hk (lv_sub hl [0, 1, 2, 3] rfl) hP hD hS
    · have hv := hv.trans (if_neg hc)
      have hk := hk.2 hc
      refine lv_iload_n hx hb d_Mo_closeBracket_46 rfl (lv_at hl 1 rfl) ?_
      refine lv_bipush (v := 108) hx hb d_Mo_closeBracket_47 (by decide) ?_
      refine lv_icmp_gt (tgt := 140) hx hb d_Mo_closeBracket_49 (by decide) (fun hc => ?_) (fun hc => ?_)
      · have hv := hv.trans (if_pos hc)
        have hk := hk.1 hc
        exact B140 _ _ _ x1 x2 x3 σ hv hk (lv_sub hl [0, 1, 2, 3] rfl) hP hD hS
      · have hv := hv.trans (if_neg hc)
        have hk := hk.2 hc
        refine lv_iload_n hx hb d_Mo_closeBracket_52 rfl (lv_at hl 1 rfl) ?_
        refine lv_bipush (v := 97) hx hb d_Mo_closeBracket_53 (by decide) ?_
        refine lv_isub hx hb d_Mo_closeBracket_55 ?_
        refine lv_istore (lv' := [(4, .int (x1 - 97)), (0, .ref (h 0)), (1, .int x1), (2, .int x2), (3, .int x3)]) hx hb d_Mo_closeBracket_56 hl (by decide) rfl (fun ls hl => ?_)
        exact B58 _ _ _ x2 x3 (x1 - 97) σ hv hk (lv_sub hl [1, 3, 4, 0] rfl) hP hD hS
  have B30 : ∀ (H : Heap) (locs : List Loc) (ls : Array Slot) (x1 : Int32) (x2 : Int32) (σ : St), v = f_Mo_closeBracket_30 x1 x2 σ → k_Mo_closeBracket_30 x1 x2 σ → lv_has ls 7 [(0, .ref (h 0)), (1, .int x1), (2, .int x2)] → va_P D classes (Wm ty h σ px) H → va_D A (Wm ty h σ px) → va_S A s.heap H locs → W p l e (headSpec w_Mo_closeBracket rm_Mo_closeBracket).room s m args below meth c H locs 0 0 (MQ below (va_Qi (fun r (u : St) => (r, u) = v) (fun u t => va_P D classes (Wm ty h u px) t.heap) A) args s 0 0 A) (F0 m 30 ls []) := by
    intro H locs ls x1 x2 σ hv hk hl hP hD hS
    unfold f_Mo_closeBracket_30 at hv
    unfold k_Mo_closeBracket_30 at hk
    refine lv_aload_n hx hb d_Mo_closeBracket_30 rfl (lv_at hl 0 rfl) ?_
    refine va_get (v := .ref (h 25)) (C := R_Mo) (T := T_Mo) (N := 51) hx hb hg in_Mo hown hK hP 0 rfl rfl 38 (by decide) (hg _ m_1297) (fun _ h9 => h9) rfl d_Mo_closeBracket_31 ?_
    refine lv_aload_n hx hb d_Mo_closeBracket_34 rfl (lv_at hl 0 rfl) ?_
    refine va_get (v := .int (σ.1 0 34)) (C := R_Mo) (T := T_Mo) (N := 51) hx hb hg in_Mo hown hK hP 0 rfl rfl 34 (by decide) (hg _ m_1293) (fun _ h9 => h9) rfl d_Mo_closeBracket_35 ?_
    obtain ⟨hk0, hk⟩ := hk
    refine va_iald hx hb hK hP 25 0 rfl rfl hk0 d_Mo_closeBracket_38 ?_
    refine lv_istore_n (lv' := [(3, .int (σ.1 25 (σ.1 0 34).toNatClampNeg)), (0, .ref (h 0)), (1, .int x1), (2, .int x2)]) hx hb d_Mo_closeBracket_39 rfl hl (by decide) rfl (fun ls hl => ?_)
    exact B40 _ _ _ x1 x2 (σ.1 25 (σ.1 0 34).toNatClampNeg) σ hv hk (lv_sub hl [1, 2, 3, 0] rfl) hP hD hS
  have B20 : ∀ (H : Heap) (locs : List Loc) (ls : Array Slot) (x1 : Int32) (σ : St), v = f_Mo_closeBracket_20 x1 σ → k_Mo_closeBracket_20 x1 σ → lv_has ls 7 [(0, .ref (h 0)), (1, .int x1)] → va_P D classes (Wm ty h σ px) H → va_D A (Wm ty h σ px) → va_S A s.heap H locs → W p l e (headSpec w_Mo_closeBracket rm_Mo_closeBracket).room s m args below meth c H locs 0 0 (MQ below (va_Qi (fun r (u : St) => (r, u) = v) (fun u t => va_P D classes (Wm ty h u px) t.heap) A) args s 0 0 A) (F0 m 20 ls []) := by
    intro H locs ls x1 σ hv hk hl hP hD hS
    unfold f_Mo_closeBracket_20 at hv
    unfold k_Mo_closeBracket_20 at hk
    refine lv_aload_n hx hb d_Mo_closeBracket_20 rfl (lv_at hl 0 rfl) ?_
    refine va_get (v := .ref (h 24)) (C := R_Mo) (T := T_Mo) (N := 51) hx hb hg in_Mo hown hK hP 0 rfl rfl 37 (by decide) (hg _ m_1296) (fun _ h9 => h9) rfl d_Mo_closeBracket_21 ?_
    refine lv_aload_n hx hb d_Mo_closeBracket_24 rfl (lv_at hl 0 rfl) ?_
    refine va_get (v := .int (σ.1 0 34)) (C := R_Mo) (T := T_Mo) (N := 51) hx hb hg in_Mo hown hK hP 0 rfl rfl 34 (by decide) (hg _ m_1293) (fun _ h9 => h9) rfl d_Mo_closeBracket_25 ?_
    obtain ⟨hk0, hk⟩ := hk
    refine va_iald hx hb hK hP 24 0 rfl rfl hk0 d_Mo_closeBracket_28 ?_
    refine lv_istore_n (lv' := [(2, .int (σ.1 24 (σ.1 0 34).toNatClampNeg)), (0, .ref (h 0)), (1, .int x1)]) hx hb d_Mo_closeBracket_29 rfl hl (by decide) rfl (fun ls hl => ?_)
    exact B30 _ _ _ x1 (σ.1 24 (σ.1 0 34).toNatClampNeg) σ hv hk (lv_sub hl [1, 2, 0] rfl) hP hD hS
  have B10 : ∀ (H : Heap) (locs : List Loc) (ls : Array Slot) (σ : St), v = f_Mo_closeBracket_10 σ → k_Mo_closeBracket_10 σ → lv_has ls 7 [(0, .ref (h 0))] → va_P D classes (Wm ty h σ px) H → va_D A (Wm ty h σ px) → va_S A s.heap H locs → W p l e (headSpec w_Mo_closeBracket rm_Mo_closeBracket).room s m args below meth c H locs 0 0 (MQ below (va_Qi (fun r (u : St) => (r, u) = v) (fun u t => va_P D classes (Wm ty h u px) t.heap) A) args s 0 0 A) (F0 m 10 ls []) := by
    intro H locs ls σ hv hk hl hP hD hS
    unfold f_Mo_closeBracket_10 at hv
    unfold k_Mo_closeBracket_10 at hk
    refine lv_aload_n hx hb d_Mo_closeBracket_10 rfl (lv_at hl 0 rfl) ?_
    refine va_get (v := .ref (h 22)) (C := R_Mo) (T := T_Mo) (N := 51) hx hb hg in_Mo hown hK hP 0 rfl rfl 35 (by decide) (hg _ m_1294) (fun _ h9 => h9) rfl d_Mo_closeBracket_11 ?_
    refine lv_aload_n hx hb d_Mo_closeBracket_14 rfl (lv_at hl 0 rfl) ?_
    refine va_get (v := .int (σ.1 0 34)) (C := R_Mo) (T := T_Mo) (N := 51) hx hb hg in_Mo hown hK hP 0 rfl rfl 34 (by decide) (hg _ m_1293) (fun _ h9 => h9) rfl d_Mo_closeBracket_15 ?_
    obtain ⟨hk0, hk⟩ := hk
    refine va_iald hx hb hK hP 22 0 rfl rfl hk0 d_Mo_closeBracket_18 ?_
    refine lv_istore_n (lv' := [(1, .int (σ.1 22 (σ.1 0 34).toNatClampNeg)), (0, .ref (h 0))]) hx hb d_Mo_closeBracket_19 rfl hl (by decide) rfl (fun ls hl => ?_)
    exact B20 _ _ _ (σ.1 22 (σ.1 0 34).toNatClampNeg) σ hv hk (lv_sub hl [1, 0] rfl) hP hD hS
  unfold f_Mo_closeBracket at hv
  unfold k_Mo_closeBracket at hk
  refine lv_aload_n hx hb d_Mo_closeBracket_0 rfl (lv_at hl 0 rfl) ?_
  refine lv_dup hx hb d_Mo_closeBracket_1 rfl ?_
  refine va_get (v := .int (σ.1 0 34)) (C := R_Mo) (T := T_Mo) (N := 51) hx hb hg in_Mo hown hK hP 0 rfl rfl 34 (by decide) (hg _ m_1293) (fun _ h9 => h9) rfl d_Mo_closeBracket_2 ?_
  refine lv_iconst (v := 1) hx hb d_Mo_closeBracket_5 (by decide) ?_
  refine lv_isub hx hb d_Mo_closeBracket_6 ?_
  refine va_put (v := .int ((σ.1 0 34) - 1)) (ty := .int) (C := R_Mo) (T := T_Mo) (N := 51) hx hb hg in_Mo ty_Mo ok_Mo nm_Mo hown hK hP hD hS 0 rfl rfl 34 (by decide) (hg _ m_1293) (fun _ h9 => h9) rfl (by decide +kernel) rfl rfl (Nat.le_of_ble_eq_true rfl) d_Mo_closeBracket_7 (fun H locs hP hD hS => ?_)
  have hP : va_P D classes (Wm ty h (sF σ 0 34 ((σ.1 0 34) - 1)) px) H := hP
  have hD : va_D A (Wm ty h (sF σ 0 34 ((σ.1 0 34) - 1)) px) := hD
  exact B10 _ _ _  (sF σ 0 34 ((σ.1 0 34) - 1)) hv hk (lv_sub hl [0] rfl) hP hD hS

-- ClauseLedgerModel.readAll()I
abbrev b_Mo_readAll : ByteArray := prog_14_method_29_code
def y_Mo_readAll : MethodName := ⟨"ClauseLedgerModel", "readAll", "()I"⟩
theorem hd_Mo_readAll : y_Mo_readAll.cls ≠ "java/lang/invoke/MethodHandle" ∧ y_Mo_readAll.cls ≠ "java/lang/invoke/VarHandle" ∧ (parseMethodDescriptor y_Mo_readAll.desc).map (fun d => d.parameters.length) = some 0 := by decide +kernel
theorem d_Mo_readAll_0 : decode b_Mo_readAll 0 = .ok (.iconst (-1), 1) := by decide +kernel
theorem d_Mo_readAll_1 : decode b_Mo_readAll 1 = .ok (.istore_n 1, 1) := by decide +kernel
theorem d_Mo_readAll_2 : decode b_Mo_readAll 2 = .ok (.iconst 0, 1) := by decide +kernel
theorem d_Mo_readAll_3 : decode b_Mo_readAll 3 = .ok (.istore_n 2, 1) := by decide +kernel
theorem d_Mo_readAll_4 : decode b_Mo_readAll 4 = .ok (.iload_n 2, 1) := by decide +kernel
theorem d_Mo_readAll_5 : decode b_Mo_readAll 5 = .ok (.sipush 400, 3) := by decide +kernel
theorem d_Mo_readAll_8 : decode b_Mo_readAll 8 = .ok (.if_icmp .ge 182, 3) := by decide +kernel
theorem d_Mo_readAll_11 : decode b_Mo_readAll 11 = .ok (.aload_n 0, 1) := by decide +kernel
theorem d_Mo_readAll_12 : decode b_Mo_readAll 12 = .ok (.getfield 163, 3) := by decide +kernel
theorem d_Mo_readAll_15 : decode b_Mo_readAll 15 = .ok (.ifCond .ne 175, 3) := by decide +kernel
theorem d_Mo_readAll_18 : decode b_Mo_readAll 18 = .ok (.iload_n 1, 1) := by decide +kernel
theorem d_Mo_readAll_19 : decode b_Mo_readAll 19 = .ok (.ifCond .lt 10, 3) := by decide +kernel
theorem d_Mo_readAll_22 : decode b_Mo_readAll 22 = .ok (.aload_n 0, 1) := by decide +kernel
theorem d_Mo_readAll_23 : decode b_Mo_readAll 23 = .ok (.getfield 173, 3) := by decide +kernel
theorem d_Mo_readAll_26 : decode b_Mo_readAll 26 = .ok (.ifCond .le 164, 3) := by decide +kernel
theorem d_Mo_readAll_29 : decode b_Mo_readAll 29 = .ok (.iload_n 1, 1) := by decide +kernel
theorem d_Mo_readAll_30 : decode b_Mo_readAll 30 = .ok (.ifCond .ge 27, 3) := by decide +kernel
theorem d_Mo_readAll_33 : decode b_Mo_readAll 33 = .ok (.aload_n 0, 1) := by decide +kernel
theorem d_Mo_readAll_34 : decode b_Mo_readAll 34 = .ok (.invokevirtual 152, 3) := by decide +kernel
theorem d_Mo_readAll_37 : decode b_Mo_readAll 37 = .ok (.bipush 40, 2) := by decide +kernel
theorem d_Mo_readAll_39 : decode b_Mo_readAll 39 = .ok (.if_icmp .ne 10, 3) := by decide +kernel
theorem d_Mo_readAll_42 : decode b_Mo_readAll 42 = .ok (.aload_n 0, 1) := by decide +kernel
theorem d_Mo_readAll_43 : decode b_Mo_readAll 43 = .ok (.invokevirtual 189, 3) := by decide +kernel
theorem d_Mo_readAll_46 : decode b_Mo_readAll 46 = .ok (.goto 138, 3) := by decide +kernel
theorem d_Mo_readAll_49 : decode b_Mo_readAll 49 = .ok (.aload_n 0, 1) := by decide +kernel
theorem d_Mo_readAll_50 : decode b_Mo_readAll 50 = .ok (.invokevirtual 192, 3) := by decide +kernel
theorem d_Mo_readAll_53 : decode b_Mo_readAll 53 = .ok (.istore_n 1, 1) := by decide +kernel
theorem d_Mo_readAll_54 : decode b_Mo_readAll 54 = .ok (.goto 130, 3) := by decide +kernel
theorem d_Mo_readAll_57 : decode b_Mo_readAll 57 = .ok (.aload_n 0, 1) := by decide +kernel
theorem d_Mo_readAll_58 : decode b_Mo_readAll 58 = .ok (.getfield 173, 3) := by decide +kernel
theorem d_Mo_readAll_61 : decode b_Mo_readAll 61 = .ok (.iconst 1, 1) := by decide +kernel
theorem d_Mo_readAll_62 : decode b_Mo_readAll 62 = .ok (.isub, 1) := by decide +kernel
theorem d_Mo_readAll_63 : decode b_Mo_readAll 63 = .ok (.istore_n 3, 1) := by decide +kernel
theorem d_Mo_readAll_64 : decode b_Mo_readAll 64 = .ok (.aload_n 0, 1) := by decide +kernel
theorem d_Mo_readAll_65 : decode b_Mo_readAll 65 = .ok (.getfield 81, 3) := by decide +kernel
theorem d_Mo_readAll_68 : decode b_Mo_readAll 68 = .ok (.iload_n 3, 1) := by decide +kernel
theorem d_Mo_readAll_69 : decode b_Mo_readAll 69 = .ok (.dup2, 1) := by decide +kernel
theorem d_Mo_readAll_70 : decode b_Mo_readAll 70 = .ok (.iaload, 1) := by decide +kernel
theorem d_Mo_readAll_71 : decode b_Mo_readAll 71 = .ok (.iconst 1, 1) := by decide +kernel
theorem d_Mo_readAll_72 : decode b_Mo_readAll 72 = .ok (.iadd, 1) := by decide +kernel
theorem d_Mo_readAll_73 : decode b_Mo_readAll 73 = .ok (.iastore, 1) := by decide +kernel
theorem d_Mo_readAll_74 : decode b_Mo_readAll 74 = .ok (.aload_n 0, 1) := by decide +kernel
theorem d_Mo_readAll_75 : decode b_Mo_readAll 75 = .ok (.getfield 81, 3) := by decide +kernel
theorem d_Mo_readAll_78 : decode b_Mo_readAll 78 = .ok (.iload_n 3, 1) := by decide +kernel
theorem d_Mo_readAll_79 : decode b_Mo_readAll 79 = .ok (.iaload, 1) := by decide +kernel
theorem d_Mo_readAll_80 : decode b_Mo_readAll 80 = .ok (.iconst 1, 1) := by decide +kernel
theorem d_Mo_readAll_81 : decode b_Mo_readAll 81 = .ok (.if_icmp .ne 13, 3) := by decide +kernel
theorem d_Mo_readAll_84 : decode b_Mo_readAll 84 = .ok (.aload_n 0, 1) := by decide +kernel
theorem d_Mo_readAll_85 : decode b_Mo_readAll 85 = .ok (.getfield 84, 3) := by decide +kernel
theorem d_Mo_readAll_88 : decode b_Mo_readAll 88 = .ok (.iload_n 3, 1) := by decide +kernel
theorem d_Mo_readAll_89 : decode b_Mo_readAll 89 = .ok (.iload_n 1, 1) := by decide +kernel
theorem d_Mo_readAll_90 : decode b_Mo_readAll 90 = .ok (.iastore, 1) := by decide +kernel
theorem d_Mo_readAll_91 : decode b_Mo_readAll 91 = .ok (.goto 10, 3) := by decide +kernel
theorem d_Mo_readAll_94 : decode b_Mo_readAll 94 = .ok (.aload_n 0, 1) := by decide +kernel
theorem d_Mo_readAll_95 : decode b_Mo_readAll 95 = .ok (.getfield 87, 3) := by decide +kernel
theorem d_Mo_readAll_98 : decode b_Mo_readAll 98 = .ok (.iload_n 3, 1) := by decide +kernel
theorem d_Mo_readAll_99 : decode b_Mo_readAll 99 = .ok (.iload_n 1, 1) := by decide +kernel
theorem d_Mo_readAll_100 : decode b_Mo_readAll 100 = .ok (.iastore, 1) := by decide +kernel
theorem d_Mo_readAll_101 : decode b_Mo_readAll 101 = .ok (.iconst (-1), 1) := by decide +kernel
theorem d_Mo_readAll_102 : decode b_Mo_readAll 102 = .ok (.istore_n 1, 1) := by decide +kernel
theorem d_Mo_readAll_103 : decode b_Mo_readAll 103 = .ok (.aload_n 0, 1) := by decide +kernel
theorem d_Mo_readAll_104 : decode b_Mo_readAll 104 = .ok (.getfield 81, 3) := by decide +kernel
theorem d_Mo_readAll_107 : decode b_Mo_readAll 107 = .ok (.iload_n 3, 1) := by decide +kernel
theorem d_Mo_readAll_108 : decode b_Mo_readAll 108 = .ok (.iaload, 1) := by decide +kernel
theorem d_Mo_readAll_109 : decode b_Mo_readAll 109 = .ok (.iconst 2, 1) := by decide +kernel
theorem d_Mo_readAll_110 : decode b_Mo_readAll 110 = .ok (.if_icmp .eq 16, 3) := by decide +kernel
theorem d_Mo_readAll_113 : decode b_Mo_readAll 113 = .ok (.aload_n 0, 1) := by decide +kernel
theorem d_Mo_readAll_114 : decode b_Mo_readAll 114 = .ok (.aload_n 0, 1) := by decide +kernel
theorem d_Mo_readAll_115 : decode b_Mo_readAll 115 = .ok (.getfield 78, 3) := by decide +kernel
theorem d_Mo_readAll_118 : decode b_Mo_readAll 118 = .ok (.iload_n 3, 1) := by decide +kernel
theorem d_Mo_readAll_119 : decode b_Mo_readAll 119 = .ok (.iaload, 1) := by decide +kernel
theorem d_Mo_readAll_120 : decode b_Mo_readAll 120 = .ok (.invokevirtual 195, 3) := by decide +kernel
theorem d_Mo_readAll_123 : decode b_Mo_readAll 123 = .ok (.ifCond .eq 57, 3) := by decide +kernel
theorem d_Mo_readAll_126 : decode b_Mo_readAll 126 = .ok (.aload_n 0, 1) := by decide +kernel
theorem d_Mo_readAll_127 : decode b_Mo_readAll 127 = .ok (.aload_n 0, 1) := by decide +kernel
theorem d_Mo_readAll_128 : decode b_Mo_readAll 128 = .ok (.getfield 163, 3) := by decide +kernel
theorem d_Mo_readAll_131 : decode b_Mo_readAll 131 = .ok (.ifCond .ne 12, 3) := by decide +kernel
theorem d_Mo_readAll_134 : decode b_Mo_readAll 134 = .ok (.aload_n 0, 1) := by decide +kernel
theorem d_Mo_readAll_135 : decode b_Mo_readAll 135 = .ok (.invokevirtual 152, 3) := by decide +kernel
theorem d_Mo_readAll_138 : decode b_Mo_readAll 138 = .ok (.bipush 41, 2) := by decide +kernel
theorem d_Mo_readAll_140 : decode b_Mo_readAll 140 = .ok (.if_icmp .eq 7, 3) := by decide +kernel
theorem d_Mo_readAll_143 : decode b_Mo_readAll 143 = .ok (.iconst 1, 1) := by decide +kernel
theorem d_Mo_readAll_144 : decode b_Mo_readAll 144 = .ok (.goto 4, 3) := by decide +kernel
theorem d_Mo_readAll_147 : decode b_Mo_readAll 147 = .ok (.iconst 0, 1) := by decide +kernel
theorem d_Mo_readAll_148 : decode b_Mo_readAll 148 = .ok (.putfield 163, 3) := by decide +kernel
theorem d_Mo_readAll_151 : decode b_Mo_readAll 151 = .ok (.aload_n 0, 1) := by decide +kernel
theorem d_Mo_readAll_152 : decode b_Mo_readAll 152 = .ok (.dup, 1) := by decide +kernel
theorem d_Mo_readAll_153 : decode b_Mo_readAll 153 = .ok (.getfield 149, 3) := by decide +kernel
theorem d_Mo_readAll_156 : decode b_Mo_readAll 156 = .ok (.iconst 1, 1) := by decide +kernel
theorem d_Mo_readAll_157 : decode b_Mo_readAll 157 = .ok (.iadd, 1) := by decide +kernel
theorem d_Mo_readAll_158 : decode b_Mo_readAll 158 = .ok (.putfield 149, 3) := by decide +kernel
theorem d_Mo_readAll_161 : decode b_Mo_readAll 161 = .ok (.aload_n 0, 1) := by decide +kernel
theorem d_Mo_readAll_162 : decode b_Mo_readAll 162 = .ok (.getfield 163, 3) := by decide +kernel
theorem d_Mo_readAll_165 : decode b_Mo_readAll 165 = .ok (.ifCond .eq 7, 3) := by decide +kernel
theorem d_Mo_readAll_168 : decode b_Mo_readAll 168 = .ok (.iconst 0, 1) := by decide +kernel
theorem d_Mo_readAll_169 : decode b_Mo_readAll 169 = .ok (.goto 7, 3) := by decide +kernel
theorem d_Mo_readAll_172 : decode b_Mo_readAll 172 = .ok (.aload_n 0, 1) := by decide +kernel
theorem d_Mo_readAll_173 : decode b_Mo_readAll 173 = .ok (.invokevirtual 198, 3) := by decide +kernel
theorem d_Mo_readAll_176 : decode b_Mo_readAll 176 = .ok (.istore_n 1, 1) := by decide +kernel
theorem d_Mo_readAll_177 : decode b_Mo_readAll 177 = .ok (.goto 7, 3) := by decide +kernel
theorem d_Mo_readAll_180 : decode b_Mo_readAll 180 = .ok (.aload_n 0, 1) := by decide +kernel
theorem d_Mo_readAll_181 : decode b_Mo_readAll 181 = .ok (.invokevirtual 179, 3) := by decide +kernel
theorem d_Mo_readAll_184 : decode b_Mo_readAll 184 = .ok (.iinc 2 1, 3) := by decide +kernel
theorem d_Mo_readAll_187 : decode b_Mo_readAll 187 = .ok (.goto (-183), 3) := by decide +kernel
theorem d_Mo_readAll_190 : decode b_Mo_readAll 190 = .ok (.aload_n 0, 1) := by decide +kernel
theorem d_Mo_readAll_191 : decode b_Mo_readAll 191 = .ok (.aload_n 0, 1) := by decide +kernel
theorem d_Mo_readAll_192 : decode b_Mo_readAll 192 = .ok (.getfield 163, 3) := by decide +kernel
theorem d_Mo_readAll_195 : decode b_Mo_readAll 195 = .ok (.ifCond .ne 18, 3) := by decide +kernel
theorem d_Mo_readAll_198 : decode b_Mo_readAll 198 = .ok (.iload_n 1, 1) := by decide +kernel
theorem d_Mo_readAll_199 : decode b_Mo_readAll 199 = .ok (.ifCond .lt 14, 3) := by decide +kernel
theorem d_Mo_readAll_202 : decode b_Mo_readAll 202 = .ok (.aload_n 0, 1) := by decide +kernel
theorem d_Mo_readAll_203 : decode b_Mo_readAll 203 = .ok (.getfield 149, 3) := by decide +kernel
theorem d_Mo_readAll_206 : decode b_Mo_readAll 206 = .ok (.aload_n 0, 1) := by decide +kernel
theorem d_Mo_readAll_207 : decode b_Mo_readAll 207 = .ok (.getfield 146, 3) := by decide +kernel
theorem d_Mo_readAll_210 : decode b_Mo_readAll 210 = .ok (.if_icmp .eq 7, 3) := by decide +kernel
theorem d_Mo_readAll_213 : decode b_Mo_readAll 213 = .ok (.iconst 1, 1) := by decide +kernel
theorem d_Mo_readAll_214 : decode b_Mo_readAll 214 = .ok (.goto 4, 3) := by decide +kernel
theorem d_Mo_readAll_217 : decode b_Mo_readAll 217 = .ok (.iconst 0, 1) := by decide +kernel
theorem d_Mo_readAll_218 : decode b_Mo_readAll 218 = .ok (.putfield 163, 3) := by decide +kernel
theorem d_Mo_readAll_221 : decode b_Mo_readAll 221 = .ok (.iload_n 1, 1) := by decide +kernel
theorem d_Mo_readAll_222 : decode b_Mo_readAll 222 = .ok (.ireturn, 1) := by decide +kernel
def f_Mo_readAll_184 (F4 : (Int32 → Int32 → St → Int32 × St)) (x1 : Int32) (x2 : Int32) (σ : St) : Int32 × St := F4 x1 (x2 + 1) σ
def k_Mo_readAll_184 (K4 : (Int32 → Int32 → St → Prop)) (x1 : Int32) (x2 : Int32) (σ : St) : Prop := K4 x1 (x2 + 1) σ
def f_Mo_readAll_46 (F4 : (Int32 → Int32 → St → Int32 × St)) (x1 : Int32) (x2 : Int32) (σ : St) : Int32 × St := f_Mo_readAll_184 F4 x1 x2 σ
def k_Mo_readAll_46 (K4 : (Int32 → Int32 → St → Prop)) (x1 : Int32) (x2 : Int32) (σ : St) : Prop := k_Mo_readAll_184 K4 x1 x2 σ
def f_Mo_readAll_54 (F4 : (Int32 → Int32 → St → Int32 × St)) (x1 : Int32) (x2 : Int32) (σ : St) : Int32 × St := f_Mo_readAll_184 F4 x1 x2 σ
def k_Mo_readAll_54 (K4 : (Int32 → Int32 → St → Prop)) (x1 : Int32) (x2 : Int32) (σ : St) : Prop := k_Mo_readAll_184 K4 x1 x2 σ
def f_Mo_readAll_53 (F4 : (Int32 → Int32 → St → Int32 × St)) (x2 : Int32) (s0 : Int32) (σ : St) : Int32 × St := f_Mo_readAll_54 F4 s0 x2 σ
def k_Mo_readAll_53 (K4 : (Int32 → Int32 → St → Prop)) (x2 : Int32) (s0 : Int32) (σ : St) : Prop := k_Mo_readAll_54 K4 s0 x2 σ
def f_Mo_readAll_177 (F4 : (Int32 → Int32 → St → Int32 × St)) (x1 : Int32) (x2 : Int32) (σ : St) : Int32 × St := f_Mo_readAll_184 F4 x1 x2 σ
def k_Mo_readAll_177 (K4 : (Int32 → Int32 → St → Prop)) (x1 : Int32) (x2 : Int32) (σ : St) : Prop := k_Mo_readAll_184 K4 x1 x2 σ
def f_Mo_readAll_176 (F4 : (Int32 → Int32 → St → Int32 × St)) (x2 : Int32) (s0 : Int32) (σ : St) : Int32 × St := f_Mo_readAll_177 F4 s0 x2 σ
def k_Mo_readAll_176 (K4 : (Int32 → Int32 → St → Prop)) (x2 : Int32) (s0 : Int32) (σ : St) : Prop := k_Mo_readAll_177 K4 s0 x2 σ
def f_Mo_readAll_161 (F4 : (Int32 → Int32 → St → Int32 × St)) (x2 : Int32) (σ : St) : Int32 × St := if (σ.1 0 33) = 0 then (f_Mo_readAll_176 F4 x2 ((f_Mo_closeBracket σ).1) ((f_Mo_closeBracket σ).2)) else (f_Mo_readAll_176 F4 x2 0 σ)
def k_Mo_readAll_161 (K4 : (Int32 → Int32 → St → Prop)) (x2 : Int32) (σ : St) : Prop := ((σ.1 0 33) = 0 → ((k_Mo_closeBracket σ) ∧ (k_Mo_readAll_176 K4 x2 ((f_Mo_closeBracket σ).1) ((f_Mo_closeBracket σ).2)))) ∧ (¬ (σ.1 0 33) = 0 → (k_Mo_readAll_176 K4 x2 0 σ))
def f_Mo_readAll_151 (F4 : (Int32 → Int32 → St → Int32 × St)) (x2 : Int32) (σ : St) : Int32 × St := f_Mo_readAll_161 F4 x2 (sF σ 0 32 ((σ.1 0 32) + 1))
def k_Mo_readAll_151 (K4 : (Int32 → Int32 → St → Prop)) (x2 : Int32) (σ : St) : Prop := k_Mo_readAll_161 K4 x2 (sF σ 0 32 ((σ.1 0 32) + 1))
def f_Mo_readAll_148 (F4 : (Int32 → Int32 → St → Int32 × St)) (x2 : Int32) (s0 : Int32) (σ : St) : Int32 × St := f_Mo_readAll_151 F4 x2 (sF σ 0 33 s0)
def k_Mo_readAll_148 (K4 : (Int32 → Int32 → St → Prop)) (x2 : Int32) (s0 : Int32) (σ : St) : Prop := (narrow .boolean (.int s0) = .int s0 ∧ fits .boolean (.int s0) = true) ∧ (k_Mo_readAll_151 K4 x2 (sF σ 0 33 s0))
def f_Mo_readAll_143 (F4 : (Int32 → Int32 → St → Int32 × St)) (x2 : Int32) (σ : St) : Int32 × St := f_Mo_readAll_148 F4 x2 1 σ
def k_Mo_readAll_143 (K4 : (Int32 → Int32 → St → Prop)) (x2 : Int32) (σ : St) : Prop := k_Mo_readAll_148 K4 x2 1 σ
def f_Mo_readAll_126 (F4 : (Int32 → Int32 → St → Int32 × St)) (x2 : Int32) (σ : St) : Int32 × St := if (σ.1 0 33) = 0 then (if (f_Mo_peek σ) = 41 then (f_Mo_readAll_148 F4 x2 0 σ) else (f_Mo_readAll_143 F4 x2 σ)) else (f_Mo_readAll_143 F4 x2 σ)
def k_Mo_readAll_126 (K4 : (Int32 → Int32 → St → Prop)) (x2 : Int32) (σ : St) : Prop := ((σ.1 0 33) = 0 → ((k_Mo_peek σ) ∧ (((f_Mo_peek σ) = 41 → (k_Mo_readAll_148 K4 x2 0 σ)) ∧ (¬ (f_Mo_peek σ) = 41 → (k_Mo_readAll_143 K4 x2 σ))))) ∧ (¬ (σ.1 0 33) = 0 → (k_Mo_readAll_143 K4 x2 σ))
def f_Mo_readAll_101 (F4 : (Int32 → Int32 → St → Int32 × St)) (x2 : Int32) (x3 : Int32) (σ : St) : Int32 × St := if (σ.1 23 x3.toNatClampNeg) = 2 then (f_Mo_readAll_126 F4 x2 σ) else (if (f_Mo_takesOne (σ.1 22 x3.toNatClampNeg) σ) = 0 then (f_Mo_readAll_184 F4 (-1) x2 (f_Mo_blank σ)) else (f_Mo_readAll_126 F4 x2 σ))
def k_Mo_readAll_101 (K4 : (Int32 → Int32 → St → Prop)) (x2 : Int32) (x3 : Int32) (σ : St) : Prop := vp_in x3 40 ∧ (((σ.1 23 x3.toNatClampNeg) = 2 → (k_Mo_readAll_126 K4 x2 σ)) ∧ (¬ (σ.1 23 x3.toNatClampNeg) = 2 → (vp_in x3 40 ∧ ((k_Mo_takesOne (σ.1 22 x3.toNatClampNeg) σ) ∧ (((f_Mo_takesOne (σ.1 22 x3.toNatClampNeg) σ) = 0 → ((k_Mo_blank σ) ∧ (k_Mo_readAll_184 K4 (-1) x2 (f_Mo_blank σ)))) ∧ (¬ (f_Mo_takesOne (σ.1 22 x3.toNatClampNeg) σ) = 0 → (k_Mo_readAll_126 K4 x2 σ)))))))
def f_Mo_readAll_91 (F4 : (Int32 → Int32 → St → Int32 × St)) (x2 : Int32) (x3 : Int32) (σ : St) : Int32 × St := f_Mo_readAll_101 F4 x2 x3 σ
def k_Mo_readAll_91 (K4 : (Int32 → Int32 → St → Prop)) (x2 : Int32) (x3 : Int32) (σ : St) : Prop := k_Mo_readAll_101 K4 x2 x3 σ
def f_Mo_readAll_74 (F4 : (Int32 → Int32 → St → Int32 × St)) (x1 : Int32) (x2 : Int32) (x3 : Int32) (σ : St) : Int32 × St := if (σ.1 23 x3.toNatClampNeg) = 1 then (f_Mo_readAll_91 F4 x2 x3 (sA σ 24 x3 x1)) else (f_Mo_readAll_101 F4 x2 x3 (sA σ 25 x3 x1))
def k_Mo_readAll_74 (K4 : (Int32 → Int32 → St → Prop)) (x1 : Int32) (x2 : Int32) (x3 : Int32) (σ : St) : Prop := vp_in x3 40 ∧ (((σ.1 23 x3.toNatClampNeg) = 1 → (vp_in x3 40 ∧ (k_Mo_readAll_91 K4 x2 x3 (sA σ 24 x3 x1)))) ∧ (¬ (σ.1 23 x3.toNatClampNeg) = 1 → (vp_in x3 40 ∧ (k_Mo_readAll_101 K4 x2 x3 (sA σ 25 x3 x1)))))
def f_Mo_readAll_64 (F4 : (Int32 → Int32 → St → Int32 × St)) (x1 : Int32) (x2 : Int32) (x3 : Int32) (σ : St) : Int32 × St := f_Mo_readAll_74 F4 x1 x2 x3 (sA σ 23 x3 ((σ.1 23 x3.toNatClampNeg) + 1))
def k_Mo_readAll_64 (K4 : (Int32 → Int32 → St → Prop)) (x1 : Int32) (x2 : Int32) (x3 : Int32) (σ : St) : Prop := vp_in x3 40 ∧ (vp_in x3 40 ∧ (k_Mo_readAll_74 K4 x1 x2 x3 (sA σ 23 x3 ((σ.1 23 x3.toNatClampNeg) + 1))))
def f_Mo_readAll_29 (F4 : (Int32 → Int32 → St → Int32 × St)) (x1 : Int32) (x2 : Int32) (σ : St) : Int32 × St := if 0 ≤ x1 then (f_Mo_readAll_64 F4 x1 x2 ((σ.1 0 34) - 1) σ) else (if (f_Mo_peek σ) = 40 then (f_Mo_readAll_46 F4 x1 x2 (f_Mo_openBracket σ)) else (f_Mo_readAll_53 F4 x2 ((f_Mo_readSimple σ).1) ((f_Mo_readSimple σ).2)))
def k_Mo_readAll_29 (K4 : (Int32 → Int32 → St → Prop)) (x1 : Int32) (x2 : Int32) (σ : St) : Prop := (0 ≤ x1 → (k_Mo_readAll_64 K4 x1 x2 ((σ.1 0 34) - 1) σ)) ∧ (¬ 0 ≤ x1 → ((k_Mo_peek σ) ∧ (((f_Mo_peek σ) = 40 → ((k_Mo_openBracket σ) ∧ (k_Mo_readAll_46 K4 x1 x2 (f_Mo_openBracket σ)))) ∧ (¬ (f_Mo_peek σ) = 40 → ((k_Mo_readSimple σ) ∧ (k_Mo_readAll_53 K4 x2 ((f_Mo_readSimple σ).1) ((f_Mo_readSimple σ).2)))))))
def f_Mo_readAll_221 (x1 : Int32) (σ : St) : Int32 × St := (x1, σ)
def k_Mo_readAll_221 (x1 : Int32) (σ : St) : Prop := True
def f_Mo_readAll_218 (x1 : Int32) (s0 : Int32) (σ : St) : Int32 × St := f_Mo_readAll_221 x1 (sF σ 0 33 s0)
def k_Mo_readAll_218 (x1 : Int32) (s0 : Int32) (σ : St) : Prop := (narrow .boolean (.int s0) = .int s0 ∧ fits .boolean (.int s0) = true) ∧ (k_Mo_readAll_221 x1 (sF σ 0 33 s0))
def f_Mo_readAll_213 (x1 : Int32) (σ : St) : Int32 × St := f_Mo_readAll_218 x1 1 σ
def k_Mo_readAll_213 (x1 : Int32) (σ : St) : Prop := k_Mo_readAll_218 x1 1 σ
def f_Mo_readAll_190 (x1 : Int32) (σ : St) : Int32 × St := if (σ.1 0 33) = 0 then (if x1 < 0 then (f_Mo_readAll_213 x1 σ) else (if (σ.1 0 32) = (σ.1 0 30) then (f_Mo_readAll_218 x1 0 σ) else (f_Mo_readAll_213 x1 σ))) else (f_Mo_readAll_213 x1 σ)
def k_Mo_readAll_190 (x1 : Int32) (σ : St) : Prop := ((σ.1 0 33) = 0 → ((x1 < 0 → (k_Mo_readAll_213 x1 σ)) ∧ (¬ x1 < 0 → (((σ.1 0 32) = (σ.1 0 30) → (k_Mo_readAll_218 x1 0 σ)) ∧ (¬ (σ.1 0 32) = (σ.1 0 30) → (k_Mo_readAll_213 x1 σ)))))) ∧ (¬ (σ.1 0 33) = 0 → (k_Mo_readAll_213 x1 σ))
def f_Mo_readAll_4 : Nat → Int32 → Int32 → St → Int32 × St
  | 0, _, _, σ => (0, σ)
  | n + 1, x1, x2, σ => if 400 ≤ x2 then (f_Mo_readAll_190 x1 σ) else (if (σ.1 0 33) = 0 then (if x1 < 0 then (f_Mo_readAll_29 (f_Mo_readAll_4 n) x1 x2 σ) else (if (σ.1 0 34) ≤ 0 then (f_Mo_readAll_190 x1 σ) else (f_Mo_readAll_29 (f_Mo_readAll_4 n) x1 x2 σ))) else (f_Mo_readAll_190 x1 σ))
def k_Mo_readAll_4 : Nat → Int32 → Int32 → St → Prop
  | 0, _, _, _ => False
  | n + 1, x1, x2, σ => (400 ≤ x2 → (k_Mo_readAll_190 x1 σ)) ∧ (¬ 400 ≤ x2 → (((σ.1 0 33) = 0 → ((x1 < 0 → (k_Mo_readAll_29 (k_Mo_readAll_4 n) x1 x2 σ)) ∧ (¬ x1 < 0 → (((σ.1 0 34) ≤ 0 → (k_Mo_readAll_190 x1 σ)) ∧ (¬ (σ.1 0 34) ≤ 0 → (k_Mo_readAll_29 (k_Mo_readAll_4 n) x1 x2 σ)))))) ∧ (¬ (σ.1 0 33) = 0 → (k_Mo_readAll_190 x1 σ))))
def f_Mo_readAll (σ : St) : Int32 × St := f_Mo_readAll_4 1000 (-1) 0 σ
def k_Mo_readAll (σ : St) : Prop := k_Mo_readAll_4 1000 (-1) 0 σ
abbrev w_Mo_readAll : List Cond := Cond.code y_Mo_readAll b_Mo_readAll 4 (some .int) :: gw
abbrev rm_Mo_readAll : Room := { frames := 4, cells := 0, slots := 0, locals := 87 }
set_option maxHeartbeats 4000000 in
set_option maxRecDepth 100000 in
theorem c_Mo_readAll (l : Launch) (D : va_G) (ty : Nat → ClassId) (h : Nat → Nat) (px : va_W) (sa : Nat → Nat) (σ : St) (sz : Nat) (hk : k_Mo_readAll σ) : Met l y_Mo_readAll w_Mo_readAll rm_Mo_readAll (va_Pc [.ref (h 0)] (fun U => U.heap.size = sz ∧ va_P D classes (Wm ty h σ px) U.heap ∧ va_K D classes (Ta ty) U ∧ NW U ∧ MK sa (va_A (Wm ty h σ px) sz) U U.heap ∧ va_D (fun _ => True) (Wm ty h σ px))) (va_Qi (fun r (u : St) => (r, u) = f_Mo_readAll σ) (fun u t => va_P D classes (Wm ty h u px) t.heap) (va_A (Wm ty h σ px) sz)) 0 0 (va_A (Wm ty h σ px) sz) := by
  refine Met.ofW (cc := b_Mo_readAll) (maxL := 4) (ret := (some .int)) (by decide) rfl ?_
  intro p e s m args below meth c s₁ B hml hv
  obtain ⟨ha, hsz, hP, hK, hN, hM, hD0⟩ := hv
  have hx := B.exec
  have hb := B.bytes
  have hr := B.returns
  have hg : ∀ w ∈ gw, w.before args s = true := fun w h9 => atoms_spec (ws := w_Mo_readAll) B.pre w (List.mem_cons_of_mem _ h9)
  have hown : s.vm.findClass "ClauseLedgerModel" = some m.cls := findClass_of_methodNamed B.named
  have hlocks := B.notSynchronized
  subst hsz
  have hD := hD0.self (sz := s.heap.size)
  generalize hAe : va_A (Wm ty h σ px) s.heap.size = A at hD hM ⊢
  have hA : ∀ q : Nat, s.heap.size ≤ q → A q := fun q h9 => by rw [← hAe]; exact Or.inr h9
  have hS : va_S A s.heap s.heap [] := va_S.rf
  have he : entryFrame m args 4 = entryFrame m ([.ref (h 0)] : List Value).toArray 4 := by rw [ha]
  rw [he, lg_entry_eq]
  have hl := lv_entry ([.ref (h 0)]) (n := 4) (Nat.le_of_ble_eq_true rfl)
  generalize (lg_sl ([.ref (h 0)]) ++ List.replicate (4 - (lg_sl ([.ref (h 0)])).length) Slot.unset).toArray = ls at hl ⊢
  have hl : lv_has ls 4 [(0, .ref (h 0))] := hl
  generalize hv : f_Mo_readAll σ = v
  replace hv := hv.symm
  have B221 : ∀ (H : Heap) (locs : List Loc) (ls : Array Slot) (x1 : Int32) (σ : St), v = f_Mo_readAll_221 x1 σ → k_Mo_readAll_221 x1 σ → lv_has ls 4 [(1, .int x1)] → va_P D classes (Wm ty h σ px) H → va_D A (Wm ty h σ px) → va_S A s.heap H locs → W p l e (headSpec w_Mo_readAll rm_Mo_readAll).room s m args below meth c H locs 0 0 (MQ below (va_Qi (fun r (u : St) => (r, u) = v) (fun u t => va_P D classes (Wm ty h u px) t.heap) A) args s 0 0 A) (F0 m 221 ls []) := by
    intro H locs ls x1 σ hv hk hl hP hD hS
    unfold f_Mo_readAll_221 at hv
    unfold k_Mo_readAll_221 at hk
    refine lv_iload_n hx hb d_Mo_readAll_221 rfl (lv_at hl 0 rfl) ?_
    exact W.iret hx hb hr (fun t ht hW => ⟨⟨_, _, rfl, hv.symm, by dsimp only; rw [ht]; exact hP⟩, hS.F ht⟩) hS.2.2 d_Mo_readAll_222
  have B218 : ∀ (H : Heap) (locs : List Loc) (ls : Array Slot) (x1 : Int32) (s0 : Int32) (σ : St), v = f_Mo_readAll_218 x1 s0 σ → k_Mo_readAll_218 x1 s0 σ → lv_has ls 4 [(1, .int x1)] → va_P D classes (Wm ty h σ px) H → va_D A (Wm ty h σ px) → va_S A s.heap H locs → W p l e (headSpec w_Mo_readAll rm_Mo_readAll).room s m args below meth c H locs 0 0 (MQ below (va_Qi (fun r (u : St) => (r, u) = v) (fun u t => va_P D classes (Wm ty h u px) t.heap) A) args s 0 0 A) (F0 m 218 ls [.int s0, .ref (h 0)]) := by
    intro H locs ls x1 s0 σ hv hk hl hP hD hS
    unfold f_Mo_readAll_218 at hv
    unfold k_Mo_readAll_218 at hk
    obtain ⟨hk0, hk⟩ := hk
    refine va_put (v := .int s0) (ty := .boolean) (C := R_Mo) (T := T_Mo) (N := 51) hx hb hg in_Mo ty_Mo ok_Mo nm_Mo hown hK hP hD hS 0 rfl rfl 33 (by decide) (hg _ m_1292) (fun _ h9 => h9) rfl (by decide +kernel) hk0.1 hk0.2 (Nat.le_of_ble_eq_true rfl) d_Mo_readAll_218 (fun H locs hP hD hS => ?_)
    have hP : va_P D classes (Wm ty h (sF σ 0 33 s0) px) H := hP
    have hD : va_D A (Wm ty h (sF σ 0 33 s0) px) := hD
    exact B221 _ _ _ x1 (sF σ 0 33 s0) hv hk (lv_sub hl [0] rfl) hP hD hS
  have B213 : ∀ (H : Heap) (locs : List Loc) (ls : Array Slot) (x1 : Int32) (σ : St), v = f_Mo_readAll_213 x1 σ → k_Mo_readAll_213 x1 σ → lv_has ls 4 [(1, .int x1)] → va_P D classes (Wm ty h σ px) H → va_D A (Wm ty h σ px) → va_S A s.heap H locs → W p l e (headSpec w_Mo_readAll rm_Mo_readAll).room s m args below meth c H locs 0 0 (MQ below (va_Qi (fun r (u : St) => (r, u) = v) (fun u t => va_P D classes (Wm ty h u px) t.heap) A) args s 0 0 A) (F0 m 213 ls [.ref (h 0)]) := by
    intro H locs ls x1 σ hv hk hl hP hD hS
    unfold f_Mo_readAll_213 at hv
    unfold k_Mo_readAll_213 at hk
    refine lv_iconst (v := 1) hx hb d_Mo_readAll_213 (by decide) ?_
    refine lv_goto (tgt := 218) hx hb d_Mo_readAll_214 (by decide) ?_
    exact B218 _ _ _ x1 1 σ hv hk (lv_sub hl [0] rfl) hP hD hS
  have B190 : ∀ (H : Heap) (locs : List Loc) (ls : Array Slot) (x1 : Int32) (σ : St), v = f_Mo_readAll_190 x1 σ → k_Mo_readAll_190 x1 σ → lv_has ls 4 [(0, .ref (h 0)), (1, .int x1)] → va_P D classes (Wm ty h σ px) H → va_D A (Wm ty h σ px) → va_S A s.heap H locs → W p l e (headSpec w_Mo_readAll rm_Mo_readAll).room s m args below meth c H locs 0 0 (MQ below (va_Qi (fun r (u : St) => (r, u) = v) (fun u t => va_P D classes (Wm ty h u px) t.heap) A) args s 0 0 A) (F0 m 190 ls []) := by
    intro H locs ls x1 σ hv hk hl hP hD hS
    unfold f_Mo_readAll_190 at hv
    unfold k_Mo_readAll_190 at hk
    refine lv_aload_n hx hb d_Mo_readAll_190 rfl (lv_at hl 0 rfl) ?_
    refine lv_aload_n hx hb d_Mo_readAll_191 rfl (lv_at hl 0 rfl) ?_
    refine va_get (v := .int (σ.1 0 33)) (C := R_Mo) (T := T_Mo) (N := 51) hx hb hg in_Mo hown hK hP 0 rfl rfl 33 (by decide) (hg _ m_1292) (fun _ h9 => h9) rfl d_Mo_readAll_192 ?_
    refine lv_if_ne (tgt := 213) hx hb d_Mo_readAll_195 (by decide) (fun hc => ?_) (fun hc => ?_)
    · have hv := hv.trans (if_neg hc)
      have hk := hk.2 hc
      exact B213 _ _ _ x1 σ hv hk (lv_sub hl [1] rfl) hP hD hS
    · have hv := hv.trans (if_pos hc)
      have hk := hk.1 hc
      refine lv_iload_n hx hb d_Mo_readAll_198 rfl (lv_at hl 1 rfl) ?_
      refine lv_if_lt (tgt := 213) hx hb d_Mo_readAll_199 (by decide) (fun hc => ?_) (fun hc => ?_)
      · have hv := hv.trans (if_pos hc)
        have hk := hk.1 hc
        exact B213 _ _ _ x1 σ hv hk (lv_sub hl [1] rfl) hP hD hS
      · have hv := hv.trans (if_neg hc)
        have hk := hk.2 hc
        refine lv_aload_n hx hb d_Mo_readAll_202 rfl (lv_at hl 0 rfl) ?_
        refine va_get (v := .int (σ.1 0 32)) (C := R_Mo) (T := T_Mo) (N := 51) hx hb hg in_Mo hown hK hP 0 rfl rfl 32 (by decide) (hg _ m_1291) (fun _ h9 => h9) rfl d_Mo_readAll_203 ?_
        refine lv_aload_n hx hb d_Mo_readAll_206 rfl (lv_at hl 0 rfl) ?_
        refine va_get (v := .int (σ.1 0 30)) (C := R_Mo) (T := T_Mo) (N := 51) hx hb hg in_Mo hown hK hP 0 rfl rfl 30 (by decide) (hg _ m_1289) (fun _ h9 => h9) rfl d_Mo_readAll_207 ?_
        refine lv_icmp_eq (tgt := 217) hx hb d_Mo_readAll_210 (by decide) (fun hc => ?_) (fun hc => ?_)
        · have hv := hv.trans (if_pos hc)
          have hk := hk.1 hc
          refine lv_iconst (v := 0) hx hb d_Mo_readAll_217 (by decide) ?_
          exact B218 _ _ _ x1 0 σ hv hk (lv_sub hl [1] rfl) hP hD hS
        · have hv := hv.trans (if_neg hc)
          have hk := hk.2 hc
          exact B213 _ _ _ x1 σ hv hk (lv_sub hl [1] rfl) hP hD hS
  have B4 : ∀ (n4 : Nat) (H : Heap) (locs : List Loc) (ls : Array Slot) (x1 : Int32) (x2 : Int32) (σ : St), v = f_Mo_readAll_4 n4 x1 x2 σ → k_Mo_readAll_4 n4 x1 x2 σ → lv_has ls 4 [(0, .ref (h 0)), (1, .int x1), (2, .int x2)] → va_P D classes (Wm ty h σ px) H → va_D A (Wm ty h σ px) → va_S A s.heap H locs → W p l e (headSpec w_Mo_readAll rm_Mo_readAll).room s m args below meth c H locs 0 0 (MQ below (va_Qi (fun r (u : St) => (r, u) = v) (fun u t => va_P D classes (Wm ty h u px) t.heap) A) args s 0 0 A) (F0 m 4 ls []) := by
    intro n4
    induction n4 with
    | zero => intro H locs ls x1 x2 σ hv hk hl hP hD hS; exact hk.elim
    | succ n4 ih4 =>
      have B184 : ∀ (H : Heap) (locs : List Loc) (ls : Array Slot) (x1 : Int32) (x2 : Int32) (σ : St), v = f_Mo_readAll_184 (f_Mo_readAll_4 n4) x1 x2 σ → k_Mo_readAll_184 (k_Mo_readAll_4 n4) x1 x2 σ → lv_has ls 4 [(0, .ref (h 0)), (1, .int x1), (2, .int x2)] → va_P D classes (Wm ty h σ px) H → va_D A (Wm ty h σ px) → va_S A s.heap H locs → W p l e (headSpec w_Mo_readAll rm_Mo_readAll).room s m args below meth c H locs 0 0 (MQ below (va_Qi (fun r (u : St) => (r, u) = v) (fun u t => va_P D classes (Wm ty h u px) t.heap) A) args s 0 0 A) (F0 m 184 ls []) := by
        intro H locs ls x1 x2 σ hv hk hl hP hD hS
        unfold f_Mo_readAll_184 at hv
        unfold k_Mo_readAll_184 at hk
        refine lv_iinc (k := 2) (v := x2 + 1) (lv' := [(2, .int (x2 + 1)), (0, .ref (h 0)), (1, .int x1)]) hx hb d_Mo_readAll_184 hl rfl (by first | rfl | simp [lit1, litm1]) (by decide) rfl (fun ls hl => ?_)
        refine lv_goto (tgt := 4) hx hb d_Mo_readAll_187 (by decide) ?_
        exact ih4 _ _ _ x1 (x2 + 1) σ hv hk (lv_sub hl [1, 2, 0] rfl) hP hD hS
      have B46 : ∀ (H : Heap) (locs : List Loc) (ls : Array Slot) (x1 : Int32) (x2 : Int32) (σ : St), v = f_Mo_readAll_46 (f_Mo_readAll_4 n4) x1 x2 σ → k_Mo_readAll_46 (k_Mo_readAll_4 n4) x1 x2 σ → lv_has ls 4 [(0, .ref (h 0)), (1, .int x1), (2, .int x2)] → va_P D classes (Wm ty h σ px) H → va_D A (Wm ty h σ px) → va_S A s.heap H locs → W p l e (headSpec w_Mo_readAll rm_Mo_readAll).room s m args below meth c H locs 0 0 (MQ below (va_Qi (fun r (u : St) => (r, u) = v) (fun u t => va_P D classes (Wm ty h u px) t.heap) A) args s 0 0 A) (F0 m 46 ls []) := by
        intro H locs ls x1 x2 σ hv hk hl hP hD hS
        unfold f_Mo_readAll_46 at hv
        unfold k_Mo_readAll_46 at hk
        refine lv_goto (tgt := 184) hx hb d_Mo_readAll_46 (by decide) ?_
        exact B184 _ _ _ x1 x2 σ hv hk (lv_sub hl [0, 1, 2] rfl) hP hD hS
      have B54 : ∀ (H : Heap) (locs : List Loc) (ls : Array Slot) (x1 : Int32) (x2 : Int32) (σ : St), v = f_Mo_readAll_54 (f_Mo_readAll_4 n4) x1 x2 σ → k_Mo_readAll_54 (k_Mo_readAll_4 n4) x1 x2 σ → lv_has ls 4 [(0, .ref (h 0)), (1, .int x1), (2, .int x2)] → va_P D classes (Wm ty h σ px) H → va_D A (Wm ty h σ px) → va_S A s.heap H locs → W p l e (headSpec w_Mo_readAll rm_Mo_readAll).room s m args below meth c H locs 0 0 (MQ below (va_Qi (fun r (u : St) => (r, u) = v) (fun u t => va_P D classes (Wm ty h u px) t.heap) A) args s 0 0 A) (F0 m 54 ls []) := by
        intro H locs ls x1 x2 σ hv hk hl hP hD hS
        unfold f_Mo_readAll_54 at hv
        unfold k_Mo_readAll_54 at hk
        refine lv_goto (tgt := 184) hx hb d_Mo_readAll_54 (by decide) ?_
        exact B184 _ _ _ x1 x2 σ hv hk (lv_sub hl [0, 1, 2] rfl) hP hD hS
      have B53 : ∀ (H : Heap) (locs : List Loc) (ls : Array Slot) (x2 : Int32) (s0 : Int32) (σ : St), v = f_Mo_readAll_53 (f_Mo_readAll_4 n4) x2 s0 σ → k_Mo_readAll_53 (k_Mo_readAll_4 n4) x2 s0 σ → lv_has ls 4 [(0, .ref (h 0)), (2, .int x2)] → va_P D classes (Wm ty h σ px) H → va_D A (Wm ty h σ px) → va_S A s.heap H locs → W p l e (headSpec w_Mo_readAll rm_Mo_readAll).room s m args below meth c H locs 0 0 (MQ below (va_Qi (fun r (u : St) => (r, u) = v) (fun u t => va_P D classes (Wm ty h u px) t.heap) A) args s 0 0 A) (F0 m 53 ls [.int s0]) := by
        intro H locs ls x2 s0 σ hv hk hl hP hD hS
        unfold f_Mo_readAll_53 at hv
        unfold k_Mo_readAll_53 at hk
        refine lv_istore_n (lv' := [(1, .int s0), (0, .ref (h 0)), (2, .int x2)]) hx hb d_Mo_readAll_53 rfl hl (by decide) rfl (fun ls hl => ?_)
        exact B54 _ _ _ s0 x2 σ hv hk (lv_sub hl [1, 0, 2] rfl) hP hD hS
      have B177 : ∀ (H : Heap) (locs : List Loc) (ls : Array Slot) (x1 : Int32) (x2 : Int32) (σ : St), v = f_Mo_readAll_177 (f_Mo_readAll_4 n4) x1 x2 σ → k_Mo_readAll_177 (k_Mo_readAll_4 n4) x1 x2 σ → lv_has ls 4 [(0, .ref (h 0)), (1, .int x1), (2, .int x2)] → va_P D classes (Wm ty h σ px) H → va_D A (Wm ty h σ px) → va_S A s.heap H locs → W p l e (headSpec w_Mo_readAll rm_Mo_readAll).room s m args below meth c H locs 0 0 (MQ below (va_Qi (fun r (u : St) => (r, u) = v) (fun u t => va_P D classes (Wm ty h u px) t.heap) A) args s 0 0 A) (F0 m 177 ls []) := by
        intro H locs ls x1 x2 σ hv hk hl hP hD hS
        unfold f_Mo_readAll_177 at hv
        unfold k_Mo_readAll_177 at hk
        refine lv_goto (tgt := 184) hx hb d_Mo_readAll_177 (by decide) ?_
        exact B184 _ _ _ x1 x2 σ hv hk (lv_sub hl [0, 1, 2] rfl) hP hD hS
      have B176 : ∀ (H : Heap) (locs : List Loc) (ls : Array Slot) (x2 : Int32) (s0 : Int32) (σ : St), v = f_Mo_readAll_176 (f_Mo_readAll_4 n4) x2 s0 σ → k_Mo_readAll_176 (k_Mo_readAll_4 n4) x2 s0 σ → lv_has ls 4 [(0, .ref (h 0)), (2, .int x2)] → va_P D classes (Wm ty h σ px) H → va_D A (Wm ty h σ px) → va_S A s.heap H locs → W p l e (headSpec w_Mo_readAll rm_Mo_readAll).room s m args below meth c H locs 0 0 (MQ below (va_Qi (fun r (u : St) => (r, u) = v) (fun u t => va_P D classes (Wm ty h u px) t.heap) A) args s 0 0 A) (F0 m 176 ls [.int s0]) := by
        intro H locs ls x2 s0 σ hv hk hl hP hD hS
        unfold f_Mo_readAll_176 at hv
        unfold k_Mo_readAll_176 at hk
        refine lv_istore_n (lv' := [(1, .int s0), (0, .ref (h 0)), (2, .int x2)]) hx hb d_Mo_readAll_176 rfl hl (by decide) rfl (fun ls hl => ?_)
        exact B177 _ _ _ s0 x2 σ hv hk (lv_sub hl [1, 0, 2] rfl) hP hD hS
      have B161 : ∀ (H : Heap) (locs : List Loc) (ls : Array Slot) (x2 : Int32) (σ : St), v = f_Mo_readAll_161 (f_Mo_readAll_4 n4) x2 σ → k_Mo_readAll_161 (k_Mo_readAll_4 n4) x2 σ → lv_has ls 4 [(0, .ref (h 0)), (2, .int x2)] → va_P D classes (Wm ty h σ px) H → va_D A (Wm ty h σ px) → va_S A s.heap H locs → W p l e (headSpec w_Mo_readAll rm_Mo_readAll).room s m args below meth c H locs 0 0 (MQ below (va_Qi (fun r (u : St) => (r, u) = v) (fun u t => va_P D classes (Wm ty h u px) t.heap) A) args s 0 0 A) (F0 m 161 ls []) := by
        intro H locs ls x2 σ hv hk hl hP hD hS
        unfold f_Mo_readAll_161 at hv
        unfold k_Mo_readAll_161 at hk
        refine lv_aload_n hx hb d_Mo_readAll_161 rfl (lv_at hl 0 rfl) ?_
        refine va_get (v := .int (σ.1 0 33)) (C := R_Mo) (T := T_Mo) (N := 51) hx hb hg in_Mo hown hK hP 0 rfl rfl 33 (by decide) (hg _ m_1292) (fun _ h9 => h9) rfl d_Mo_readAll_162 ?_
        refine lv_if_eq (tgt := 172) hx hb d_Mo_readAll_165 (by decide) (fun hc => ?_) (fun hc => ?_)
        · have hv := hv.trans (if_pos hc)
          have hk := hk.1 hc
          refine lv_aload_n hx hb d_Mo_readAll_172 rfl (lv_at hl 0 rfl) ?_
          obtain ⟨hk0, hk⟩ := hk
          refine va_calli (va_runV (As := []) (rest := []) ⟨hx, hb, hml, hown, hg⟩ (c_Mo_closeBracket l D ty h px sa σ H.size  hk0) ⟨callB_of 0 hg (gw_C m_1492) rfl rfl rfl (hg _ m_13) (hg _ m_1489) hd_Mo_closeBracket ⟨Nat.le_of_ble_eq_true rfl, Nat.le_of_ble_eq_true rfl⟩, hg _ m_1491, hg _ ms_59⟩ (zz_preVW hM hS hA hN hK hP hD 0 rfl rfl) rfl rfl hl.1 rfl (lv_room (Nat.le_of_ble_eq_true rfl)) d_Mo_readAll_173 ⟨Nat.le_of_ble_eq_true rfl, Nat.le_of_ble_eq_true rfl⟩) hS (fun q _ h => zz_free hD hS hA q h) (zz_free hD hS hA) (fun r173 u173 t H locs ht hvm hp hP1 hz hk1 hS => ?_)
          rw [ht] at hP1
          rw [← hp] at hv hk
          have hD : va_D A (Wm ty h u173 px) := zz_D hD rfl
          have hP := hP1
          exact B176 _ _ _ x2 r173 u173 hv hk (lv_sub hl [0, 1] rfl) hP hD hS
        · have hv := hv.trans (if_neg hc)
          have hk := hk.2 hc
          refine lv_iconst (v := 0) hx hb d_Mo_readAll_168 (by decide) ?_
          refine lv_goto (tgt := 176) hx hb d_Mo_readAll_169 (by decide) ?_
          exact B176 _ _ _ x2 0 σ hv hk (lv_sub hl [0, 1] rfl) hP hD hS
      have B151 : ∀ (H : Heap) (locs : List Loc) (ls : Array Slot) (x2 : Int32) (σ : St), v = f_Mo_readAll_151 (f_Mo_readAll_4 n4) x2 σ → k_Mo_readAll_151 (k_Mo_readAll_4 n4) x2 σ → lv_has ls 4 [(0, .ref (h 0)), (2, .int x2)] → va_P D classes (Wm ty h σ px) H → va_D A (Wm ty h σ px) → va_S A s.heap H locs → W p l e (headSpec w_Mo_readAll rm_Mo_readAll).room s m args below meth c H locs 0 0 (MQ below (va_Qi (fun r (u : St) => (r, u) = v) (fun u t => va_P D classes (Wm ty h u px) t.heap) A) args s 0 0 A) (F0 m 151 ls []) := by
        intro H locs ls x2 σ hv hk hl hP hD hS
        unfold f_Mo_readAll_151 at hv
        unfold k_Mo_readAll_151 at hk
        refine lv_aload_n hx hb d_Mo_readAll_151 rfl (lv_at hl 0 rfl) ?_
        refine lv_dup hx hb d_Mo_readAll_152 rfl ?_
        refine va_get (v := .int (σ.1 0 32)) (C := R_Mo) (T := T_Mo) (N := 51) hx hb hg in_Mo hown hK hP 0 rfl rfl 32 (by decide) (hg _ m_1291) (fun _ h9 => h9) rfl d_Mo_readAll_153 ?_
        refine lv_iconst (v := 1) hx hb d_Mo_readAll_156 (by decide) ?_
        refine lv_iadd hx hb d_Mo_readAll_157 ?_
        refine va_put (v := .int ((σ.1 0 32) + 1)) (ty := .int) (C := R_Mo) (T := T_Mo) (N := 51) hx hb hg in_Mo ty_Mo ok_Mo nm_Mo hown hK hP hD hS 0 rfl rfl 32 (by decide) (hg _ m_1291) (fun _ h9 => h9) rfl (by decide +kernel) rfl rfl (Nat.le_of_ble_eq_true rfl) d_Mo_readAll_158 (fun H locs hP hD hS => ?_)
        have hP : va_P D classes (Wm ty h (sF σ 0 32 ((σ.1 0 32) + 1)) px) H := hP
        have hD : va_D A (Wm ty h (sF σ 0 32 ((σ.1 0 32) + 1)) px) := hD
        exact B161 _ _ _ x2 (sF σ 0 32 ((σ.1 0 32) + 1)) hv hk (lv_sub hl [0, 1] rfl) hP hD hS
      have B148 : ∀ (H : Heap) (locs : List Loc) (ls : Array Slot) (x2 : Int32) (s0 : Int32) (σ : St), v = f_Mo_readAll_148 (f_Mo_readAll_4 n4) x2 s0 σ → k_Mo_readAll_148 (k_Mo_readAll_4 n4) x2 s0 σ → lv_has ls 4 [(0, .ref (h 0)), (2, .int x2)] → va_P D classes (Wm ty h σ px) H → va_D A (Wm ty h σ px) → va_S A s.heap H locs → W p l e (headSpec w_Mo_readAll rm_Mo_readAll).room s m args below meth c H locs 0 0 (MQ below (va_Qi (fun r (u : St) => (r, u) = v) (fun u t => va_P D classes (Wm ty h u px) t.heap) A) args s 0 0 A) (F0 m 148 ls [.int s0, .ref (h 0)]) := by
        intro H locs ls x2 s0 σ hv hk hl hP hD hS
        unfold f_Mo_readAll_148 at hv
        unfold k_Mo_readAll_148 at hk
        obtain ⟨hk0, hk⟩ := hk
        refine va_put (v := .int s0) (ty := .boolean) (C := R_Mo) (T := T_Mo) (N := 51) hx hb hg in_Mo ty_Mo ok_Mo nm_Mo hown hK hP hD hS 0 rfl rfl 33 (by decide) (hg _ m_1292) (fun _ h9 => h9) rfl (by decide +kernel) hk0.1 hk0.2 (Nat.le_of_ble_eq_true rfl) d_Mo_readAll_148 (fun H locs hP hD hS => ?_)
        have hP : va_P D classes (Wm ty h (sF σ 0 33 s0) px) H := hP
        have hD : va_D A (Wm ty h (sF σ 0 33 s0) px) := hD
        exact B151 _ _ _ x2 (sF σ 0 33 s0) hv hk (lv_sub hl [0, 1] rfl) hP hD hS
      have B143 : ∀ (H : Heap) (locs : List Loc) (ls : Array Slot) (x2 : Int32) (σ : St), v = f_Mo_readAll_143 (f_Mo_readAll_4 n4) x2 σ → k_Mo_readAll_143 (k_Mo_readAll_4 n4) x2 σ → lv_has ls 4 [(0, .ref (h 0)), (2, .int x2)] → va_P D classes (Wm ty h σ px) H → va_D A (Wm ty h σ px) → va_S A s.heap H locs → W p l e (headSpec w_Mo_readAll rm_Mo_readAll).room s m args below meth c H locs 0 0 (MQ below (va_Qi (fun r (u : St) => (r, u) = v) (fun u t => va_P D classes (Wm ty h u px) t.heap) A) args s 0 0 A) (F0 m 143 ls [.ref (h 0)]) := by
        intro H locs ls x2 σ hv hk hl hP hD hS
        unfold f_Mo_readAll_143 at hv
        unfold k_Mo_readAll_143 at hk
        refine lv_iconst (v := 1) hx hb d_Mo_readAll_143 (by decide) ?_
        refine lv_goto (tgt := 148) hx hb d_Mo_readAll_144 (by decide) ?_
        exact B148 _ _ _ x2 1 σ hv hk (lv_sub hl [0, 1] rfl) hP hD hS
      have B126 : ∀ (H : Heap) (locs : List Loc) (ls : Array Slot) (x2 : Int32) (σ : St), v = f_Mo_readAll_126 (f_Mo_readAll_4 n4) x2 σ → k_Mo_readAll_126 (k_Mo_readAll_4 n4) x2 σ → lv_has ls 4 [(0, .ref (h 0)), (2, .int x2)] → va_P D classes (Wm ty h σ px) H → va_D A (Wm ty h σ px) → va_S A s.heap H locs → W p l e (headSpec w_Mo_readAll rm_Mo_readAll).room s m args below meth c H locs 0 0 (MQ below (va_Qi (fun r (u : St) => (r, u) = v) (fun u t => va_P D classes (Wm ty h u px) t.heap) A) args s 0 0 A) (F0 m 126 ls []) := by
        intro H locs ls x2 σ hv hk hl hP hD hS
        unfold f_Mo_readAll_126 at hv
        unfold k_Mo_readAll_126 at hk
        refine lv_aload_n hx hb d_Mo_readAll_126 rfl (lv_at hl 0 rfl) ?_
        refine lv_aload_n hx hb d_Mo_readAll_127 rfl (lv_at hl 0 rfl) ?_
        refine va_get (v := .int (σ.1 0 33)) (C := R_Mo) (T := T_Mo) (N := 51) hx hb hg in_Mo hown hK hP 0 rfl rfl 33 (by decide) (hg _ m_1292) (fun _ h9 => h9) rfl d_Mo_readAll_128 ?_
        refine lv_if_ne (tgt := 143) hx hb d_Mo_readAll_131 (by decide) (fun hc => ?_) (fun hc => ?_)
        · have hv := hv.trans (if_neg hc)
          have hk := hk.2 hc
          exact B143 _ _ _ x2 σ hv hk (lv_sub hl [0, 1] rfl) hP hD hS
        · have hv := hv.trans (if_pos hc)
          have hk := hk.1 hc
          refine lv_aload_n hx hb d_Mo_readAll_134 rfl (lv_at hl 0 rfl) ?_
          obtain ⟨hk0, hk⟩ := hk
          refine zz_callV (va_runV (As := []) (rest := [.ref (h 0)]) ⟨hx, hb, hml, hown, hg⟩ (c_Mo_peek l D ty h px sa σ  hk0) ⟨callB_of 0 hg (gw_C m_1451) rfl rfl rfl (hg _ m_13) (hg _ m_1448) hd_Mo_peek ⟨Nat.le_of_ble_eq_true rfl, Nat.le_of_ble_eq_true rfl⟩, hg _ m_1450, hg _ ms_51⟩ (zz_preV (hM.at hS) hN hK hP 0 rfl rfl) rfl rfl hl.1 rfl (lv_room (Nat.le_of_ble_eq_true rfl)) d_Mo_readAll_135 ⟨Nat.le_of_ble_eq_true rfl, Nat.le_of_ble_eq_true rfl⟩) ?_
          refine lv_bipush (v := 41) hx hb d_Mo_readAll_138 (by decide) ?_
          refine lv_icmp_eq (tgt := 147) hx hb d_Mo_readAll_140 (by decide) (fun hc => ?_) (fun hc => ?_)
          · have hv := hv.trans (if_pos hc)
            have hk := hk.1 hc
            refine lv_iconst (v := 0) hx hb d_Mo_readAll_147 (by decide) ?_
            exact B148 _ _ _ x2 0 σ hv hk (lv_sub hl [0, 1] rfl) hP hD hS
          · have hv := hv.trans (if_neg hc)
            have hk := hk.2 hc
            exact B143 _ _ _ x2 σ hv hk (lv_sub hl [0, 1] rfl) hP hD hS
      have B101 : ∀ (H : Heap) (locs : List Loc) (ls : Array Slot) (x2 : Int32) (x3 : Int32) (σ : St), v = f_Mo_readAll_101 (f_Mo_readAll_4 n4) x2 x3 σ → k_Mo_readAll_101 (k_Mo_readAll_4 n4) x2 x3 σ → lv_has ls 4 [(0, .ref (h 0)), (2, .int x2), (3, .int x3)] → va_P D classes (Wm ty h σ px) H → va_D A (Wm ty h σ px) → va_S A s.heap H locs → W p l e (headSpec w_Mo_readAll rm_Mo_readAll).room s m args below meth c H locs 0 0 (MQ below (va_Qi (fun r (u : St) => (r, u) = v) (fun u t => va_P D classes (Wm ty h u px) t.heap) A) args s 0 0 A) (F0 m 101 ls []) := by
        intro H locs ls x2 x3 σ hv hk hl hP hD hS
        unfold f_Mo_readAll_101 at hv
        unfold k_Mo_readAll_101 at hk
        refine lv_iconst (v := -1) hx hb d_Mo_readAll_101 (by decide) ?_
        refine lv_istore_n (lv' := [(1, .int (-1)), (0, .ref (h 0)), (2, .int x2), (3, .int x3)]) hx hb d_Mo_readAll_102 rfl hl (by decide) rfl (fun ls hl => ?_)
        refine lv_aload_n hx hb d_Mo_readAll_103 rfl (lv_at hl 1 rfl) ?_
        refine va_get (v := .ref (h 23)) (C := R_Mo) (T := T_Mo) (N := 51) hx hb hg in_Mo hown hK hP 0 rfl rfl 36 (by decide) (hg _ m_1295) (fun _ h9 => h9) rfl d_Mo_readAll_104 ?_
        refine lv_iload_n hx hb d_Mo_readAll_107 rfl (lv_at hl 3 rfl) ?_
        obtain ⟨hk0, hk⟩ := hk
        refine va_iald hx hb hK hP 23 0 rfl rfl hk0 d_Mo_readAll_108 ?_
        refine lv_iconst (v := 2) hx hb d_Mo_readAll_109 (by decide) ?_
        refine lv_icmp_eq (tgt := 126) hx hb d_Mo_readAll_110 (by decide) (fun hc => ?_) (fun hc => ?_)
        · have hv := hv.trans (if_pos hc)
          have hk := hk.1 hc
          exact B126 _ _ _ x2 σ hv hk (lv_sub hl [1, 2] rfl) hP hD hS
        · have hv := hv.trans (if_neg hc)
          have hk := hk.2 hc
          refine lv_aload_n hx hb d_Mo_readAll_113 rfl (lv_at hl 1 rfl) ?_
          refine lv_aload_n hx hb d_Mo_readAll_114 rfl (lv_at hl 1 rfl) ?_
          refine va_get (v := .ref (h 22)) (C := R_Mo) (T := T_Mo) (N := 51) hx hb hg in_Mo hown hK hP 0 rfl rfl 35 (by decide) (hg _ m_1294) (fun _ h9 => h9) rfl d_Mo_readAll_115 ?_
          refine lv_iload_n hx hb d_Mo_readAll_118 rfl (lv_at hl 3 rfl) ?_
          obtain ⟨hk0, hk⟩ := hk
          refine va_iald hx hb hK hP 22 0 rfl rfl hk0 d_Mo_readAll_119 ?_
          obtain ⟨hk0, hk⟩ := hk
          refine zz_callV (va_runV (As := [.int (σ.1 22 x3.toNatClampNeg)]) (rest := []) ⟨hx, hb, hml, hown, hg⟩ (c_Mo_takesOne l D ty h px sa σ (σ.1 22 x3.toNatClampNeg) hk0) ⟨callB_of 1 hg (gw_C m_1488) rfl rfl rfl (hg _ m_13) (hg _ m_1485) hd_Mo_takesOne ⟨Nat.le_of_ble_eq_true rfl, Nat.le_of_ble_eq_true rfl⟩, hg _ m_1487, hg _ ms_58⟩ (zz_preV (hM.at hS) hN hK hP 0 rfl rfl) rfl rfl hl.1 rfl (lv_room (Nat.le_of_ble_eq_true rfl)) d_Mo_readAll_120 ⟨Nat.le_of_ble_eq_true rfl, Nat.le_of_ble_eq_true rfl⟩) ?_
          refine lv_if_eq (tgt := 180) hx hb d_Mo_readAll_123 (by decide) (fun hc => ?_) (fun hc => ?_)
          · have hv := hv.trans (if_pos hc)
            have hk := hk.1 hc
            refine lv_aload_n hx hb d_Mo_readAll_180 rfl (lv_at hl 1 rfl) ?_
            obtain ⟨hk0, hk⟩ := hk
            refine va_callv (va_runV (As := []) (rest := []) ⟨hx, hb, hml, hown, hg⟩ (c_Mo_blank l D ty h px sa σ H.size  hk0) ⟨callB_of 0 hg (gw_C m_1462) rfl rfl rfl (hg _ m_13) (hg _ m_1459) hd_Mo_blank ⟨Nat.le_of_ble_eq_true rfl, Nat.le_of_ble_eq_true rfl⟩, hg _ m_1461, hg _ ms_53⟩ (zz_preVW hM hS hA hN hK hP hD 0 rfl rfl) rfl rfl hl.1 rfl (lv_room (Nat.le_of_ble_eq_true rfl)) d_Mo_readAll_181 ⟨Nat.le_of_ble_eq_true rfl, Nat.le_of_ble_eq_true rfl⟩) hS (fun q _ h => zz_free hD hS hA q h) (zz_free hD hS hA) (fun u181 t H locs ht hvm hp hP1 hz hk1 hS => ?_)
            rw [ht] at hP1
            rw [← hp] at hv hk
            have hD : va_D A (Wm ty h u181 px) := zz_D hD rfl
            have hP := hP1
            exact B184 _ _ _ (-1) x2 u181 hv hk (lv_sub hl [1, 0, 2] rfl) hP hD hS
          · have hv := hv.trans (if_neg hc)
            have hk := hk.2 hc
            exact B126 _ _ _ x2 σ hv hk (lv_sub hl [1, 2] rfl) hP hD hS
      have B91 : ∀ (H : Heap) (locs : List Loc) (ls : Array Slot) (x2 : Int32) (x3 : Int32) (σ : St), v = f_Mo_readAll_91 (f_Mo_readAll_4 n4) x2 x3 σ → k_Mo_readAll_91 (k_Mo_readAll_4 n4) x2 x3 σ → lv_has ls 4 [(0, .ref (h 0)), (2, .int x2), (3, .int x3)] → va_P D classes (Wm ty h σ px) H → va_D A (Wm ty h σ px) → va_S A s.heap H locs → W p l e (headSpec w_Mo_readAll rm_Mo_readAll).room s m args below meth c H locs 0 0 (MQ below (va_Qi (fun r (u : St) => (r, u) = v) (fun u t => va_P D classes (Wm ty h u px) t.heap) A) args s 0 0 A) (F0 m 91 ls []) := by
        intro H locs ls x2 x3 σ hv hk hl hP hD hS
        unfold f_Mo_readAll_91 at hv
        unfold k_Mo_readAll_91 at hk
        refine lv_goto (tgt := 101) hx hb d_Mo_readAll_91 (by decide) ?_
        exact B101 _ _ _ x2 x3 σ hv hk (lv_sub hl [0, 1, 2] rfl) hP hD hS
      have B74 : ∀ (H : Heap) (locs : List Loc) (ls : Array Slot) (x1 : Int32) (x2 : Int32) (x3 : Int32) (σ : St), v = f_Mo_readAll_74 (f_Mo_readAll_4 n4) x1 x2 x3 σ → k_Mo_readAll_74 (k_Mo_readAll_4 n4) x1 x2 x3 σ → lv_has ls 4 [(0, .ref (h 0)), (1, .int x1), (2, .int x2), (3, .int x3)] → va_P D classes (Wm ty h σ px) H → va_D A (Wm ty h σ px) → va_S A s.heap H locs → W p l e (headSpec w_Mo_readAll rm_Mo_readAll).room s m args below meth c H locs 0 0 (MQ below (va_Qi (fun r (u : St) => (r, u) = v) (fun u t => va_P D classes (Wm ty h u px) t.heap) A) args s 0 0 A) (F0 m 74 ls []) := by
        intro H locs ls x1 x2 x3 σ hv hk hl hP hD hS
        unfold f_Mo_readAll_74 at hv
        unfold k_Mo_readAll_74 at hk
        refine lv_aload_n hx hb d_Mo_readAll_74 rfl (lv_at hl 0 rfl) ?_
        refine va_get (v := .ref (h 23)) (C := R_Mo) (T := T_Mo) (N := 51) hx hb hg in_Mo hown hK hP 0 rfl rfl 36 (by decide) (hg _ m_1295) (fun _ h9 => h9) rfl d_Mo_readAll_75 ?_
        refine lv_iload_n hx hb d_Mo_readAll_78 rfl (lv_at hl 3 rfl) ?_
        obtain ⟨hk0, hk⟩ := hk
        refine va_iald hx hb hK hP 23 0 rfl rfl hk0 d_Mo_readAll_79 ?_
        refine lv_iconst (v := 1) hx hb d_Mo_readAll_80 (by decide) ?_
        refine lv_icmp_ne (tgt := 94) hx hb d_Mo_readAll_81 (by decide) (fun hc => ?_) (fun hc => ?_)
        · have hv := hv.trans (if_neg hc)
          have hk := hk.2 hc
          refine lv_aload_n hx hb d_Mo_readAll_94 rfl (lv_at hl 0 rfl) ?_
          refine va_get (v := .ref (h 25)) (C := R_Mo) (T := T_Mo) (N := 51) hx hb hg in_Mo hown hK hP 0 rfl rfl 38 (by decide) (hg _ m_1297) (fun _ h9 => h9) rfl d_Mo_readAll_95 ?_
          refine lv_iload_n hx hb d_Mo_readAll_98 rfl (lv_at hl 3 rfl) ?_
          refine lv_iload_n hx hb d_Mo_readAll_99 rfl (lv_at hl 1 rfl) ?_
          obtain ⟨hk0, hk⟩ := hk
          refine va_iast hx hb hK hP hD hS 25 0 rfl rfl hk0 d_Mo_readAll_100 (fun H locs hP hD hS => ?_)
          have hP : va_P D classes (Wm ty h (sA σ 25 x3 x1) px) H := hP
          have hD : va_D A (Wm ty h (sA σ 25 x3 x1) px) := hD
          exact B101 _ _ _ x2 x3 (sA σ 25 x3 x1) hv hk (lv_sub hl [0, 2, 3] rfl) hP hD hS
        · have hv := hv.trans (if_pos hc)
          have hk := hk.1 hc
          refine lv_aload_n hx hb d_Mo_readAll_84 rfl (lv_at hl 0 rfl) ?_
          refine va_get (v := .ref (h 24)) (C := R_Mo) (T := T_Mo) (N := 51) hx hb hg in_Mo hown hK hP 0 rfl rfl 37 (by decide) (hg _ m_1296) (fun _ h9 => h9) rfl d_Mo_readAll_85 ?_
          refine lv_iload_n hx hb d_Mo_readAll_88 rfl (lv_at hl 3 rfl) ?_
          refine lv_iload_n hx hb d_Mo_readAll_89 rfl (lv_at hl 1 rfl) ?_
          obtain ⟨hk0, hk⟩ := hk
          refine va_iast hx hb hK hP hD hS 24 0 rfl rfl hk0 d_Mo_readAll_90 (fun H locs hP hD hS => ?_)
          have hP : va_P D classes (Wm ty h (sA σ 24 x3 x1) px) H := hP
          have hD : va_D A (Wm ty h (sA σ 24 x3 x1) px) := hD
          exact B91 _ _ _ x2 x3 (sA σ 24 x3 x1) hv hk (lv_sub hl [0, 2, 3] rfl) hP hD hS
      have B64 : ∀ (H : Heap) (locs : List Loc) (ls : Array Slot) (x1 : Int32) (x2 : Int32) (x3 : Int32) (σ : St), v = f_Mo_readAll_64 (f_Mo_readAll_4 n4) x1 x2 x3 σ → k_Mo_readAll_64 (k_Mo_readAll_4 n4) x1 x2 x3 σ → lv_has ls 4 [(0, .ref (h 0)), (1, .int x1), (2, .int x2), (3, .int x3)] → va_P D classes (Wm ty h σ px) H → va_D A (Wm ty h σ px) → va_S A s.heap H locs → W p l e (headSpec w_Mo_readAll rm_Mo_readAll).room s m args below meth c H locs 0 0 (MQ below (va_Qi (fun r (u : St) => (r, u) = v) (fun u t => va_P D classes (Wm ty h u px) t.heap) A) args s 0 0 A) (F0 m 64 ls []) := by
        intro H locs ls x1 x2 x3 σ hv hk hl hP hD hS
        unfold f_Mo_readAll_64 at hv
        unfold k_Mo_readAll_64 at hk
        refine lv_aload_n hx hb d_Mo_readAll_64 rfl (lv_at hl 0 rfl) ?_
        refine va_get (v := .ref (h 23)) (C := R_Mo) (T := T_Mo) (N := 51) hx hb hg in_Mo hown hK hP 0 rfl rfl 36 (by decide) (hg _ m_1295) (fun _ h9 => h9) rfl d_Mo_readAll_65 ?_
        refine lv_iload_n hx hb d_Mo_readAll_68 rfl (lv_at hl 3 rfl) ?_
        refine lv_dup2_11 hx hb d_Mo_readAll_69 rfl rfl ?_
        obtain ⟨hk0, hk⟩ := hk
        refine va_iald hx hb hK hP 23 0 rfl rfl hk0 d_Mo_readAll_70 ?_
        refine lv_iconst (v := 1) hx hb d_Mo_readAll_71 (by decide) ?_
        refine lv_iadd hx hb d_Mo_readAll_72 ?_
        obtain ⟨hk0, hk⟩ := hk
        refine va_iast hx hb hK hP hD hS 23 0 rfl rfl hk0 d_Mo_readAll_73 (fun H locs hP hD hS => ?_)
        have hP : va_P D classes (Wm ty h (sA σ 23 x3 ((σ.1 23 x3.toNatClampNeg) + 1)) px) H := hP
        have hD : va_D A (Wm ty h (sA σ 23 x3 ((σ.1 23 x3.toNatClampNeg) + 1)) px) := hD
        exact B74 _ _ _ x1 x2 x3 (sA σ 23 x3 ((σ.1 23 x3.toNatClampNeg) + 1)) hv hk (lv_sub hl [0, 1, 2, 3] rfl) hP hD hS
      have B29 : ∀ (H : Heap) (locs : List Loc) (ls : Array Slot) (x1 : Int32) (x2 : Int32) (σ : St), v = f_Mo_readAll_29 (f_Mo_readAll_4 n4) x1 x2 σ → k_Mo_readAll_29 (k_Mo_readAll_4 n4) x1 x2 σ → lv_has ls 4 [(0, .ref (h 0)), (1, .int x1), (2, .int x2)] → va_P D classes (Wm ty h σ px) H → va_D A (Wm ty h σ px) → va_S A s.heap H locs → W p l e (headSpec w_Mo_readAll rm_Mo_readAll).room s m args below meth c H locs 0 0 (MQ below (va_Qi (fun r (u : St) => (r, u) = v) (fun u t => va_P D classes (Wm ty h u px) t.heap) A) args s 0 0 A) (F0 m 29 ls []) := by
        intro H locs ls x1 x2 σ hv hk hl hP hD hS
        unfold f_Mo_readAll_29 at hv
        unfold k_Mo_readAll_29 at hk
        refine lv_iload_n hx hb d_Mo_readAll_29 rfl (lv_at hl 1 rfl) ?_
        refine lv_if_ge (tgt := 57) hx hb d_Mo_readAll_30 (by decide) (fun hc => ?_) (fun hc => ?_)
        · have hv := hv.trans (if_pos hc)
          have hk := hk.1 hc
          refine lv_aload_n hx hb d_Mo_readAll_57 rfl (lv_at hl 0 rfl) ?_
          refine va_get (v := .int (σ.1 0 34)) (C := R_Mo) (T := T_Mo) (N := 51) hx hb hg in_Mo hown hK hP 0 rfl rfl 34 (by decide) (hg _ m_1293) (fun _ h9 => h9) rfl d_Mo_readAll_58 ?_
          refine lv_iconst (v := 1) hx hb d_Mo_readAll_61 (by decide) ?_
          refine lv_isub hx hb d_Mo_readAll_62 ?_
          refine lv_istore_n (lv' := [(3, .int ((σ.1 0 34) - 1)), (0, .ref (h 0)), (1, .int x1), (2, .int x2)]) hx hb d_Mo_readAll_63 rfl hl (by decide) rfl (fun ls hl => ?_)
          exact B64 _ _ _ x1 x2 ((σ.1 0 34) - 1) σ hv hk (lv_sub hl [1, 2, 3, 0] rfl) hP hD hS
        · have hv := hv.trans (if_neg hc)
          have hk := hk.2 hc
          refine lv_aload_n hx hb d_Mo_readAll_33 rfl (lv_at hl 0 rfl) ?_
          obtain ⟨hk0, hk⟩ := hk
          refine zz_callV (va_runV (As := []) (rest := []) ⟨hx, hb, hml, hown, hg⟩ (c_Mo_peek l D ty h px sa σ  hk0) ⟨callB_of 0 hg (gw_C m_1451) rfl rfl rfl (hg _ m_13) (hg _ m_1448) hd_Mo_peek ⟨Nat.le_of_ble_eq_true rfl, Nat.le_of_ble_eq_true rfl⟩, hg _ m_1450, hg _ ms_51⟩ (zz_preV (hM.at hS) hN hK hP 0 rfl rfl) rfl rfl hl.1 rfl (lv_room (Nat.le_of_ble_eq_true rfl)) d_Mo_readAll_34 ⟨Nat.le_of_ble_eq_true rfl, Nat.le_of_ble_eq_true rfl⟩) ?_
          refine lv_bipush (v := 40) hx hb d_Mo_readAll_37 (by decide) ?_
          refine lv_icmp_ne (tgt := 49) hx hb d_Mo_readAll_39 (by decide) (fun hc => ?_) (fun hc => ?_)
          · have hv := hv.trans (if_neg hc)
            have hk := hk.2 hc
            refine lv_aload_n hx hb d_Mo_readAll_49 rfl (lv_at hl 0 rfl) ?_
            obtain ⟨hk0, hk⟩ := hk
            refine va_calli (va_runV (As := []) (rest := []) ⟨hx, hb, hml, hown, hg⟩ (c_Mo_readSimple l D ty h px sa σ H.size  hk0) ⟨callB_of 0 hg (gw_C m_1466) rfl rfl rfl (hg _ m_13) (hg _ m_1463) hd_Mo_readSimple ⟨Nat.le_of_ble_eq_true rfl, Nat.le_of_ble_eq_true rfl⟩, hg _ m_1465, hg _ ms_54⟩ (zz_preVW hM hS hA hN hK hP hD 0 rfl rfl) rfl rfl hl.1 rfl (lv_room (Nat.le_of_ble_eq_true rfl)) d_Mo_readAll_50 ⟨Nat.le_of_ble_eq_true rfl, Nat.le_of_ble_eq_true rfl⟩) hS (fun q _ h => zz_free hD hS hA q h) (zz_free hD hS hA) (fun r50 u50 t H locs ht hvm hp hP1 hz hk1 hS => ?_)
            rw [ht] at hP1
            rw [← hp] at hv hk
            have hD : va_D A (Wm ty h u50 px) := zz_D hD rfl
            have hP := hP1
            exact B53 _ _ _ x2 r50 u50 hv hk (lv_sub hl [0, 2] rfl) hP hD hS
          · have hv := hv.trans (if_pos hc)
            have hk := hk.1 hc
            refine lv_aload_n hx hb d_Mo_readAll_42 rfl (lv_at hl 0 rfl) ?_
            obtain ⟨hk0, hk⟩ := hk
            refine va_callv (va_runV (As := []) (rest := []) ⟨hx, hb, hml, hown, hg⟩ (c_Mo_openBracket l D ty h px sa σ H.size  hk0) ⟨callB_of 0 hg (gw_C m_1455) rfl rfl rfl (hg _ m_13) (hg _ m_1452) hd_Mo_openBracket ⟨Nat.le_of_ble_eq_true rfl, Nat.le_of_ble_eq_true rfl⟩, hg _ m_1454, hg _ ms_52⟩ (zz_preVW hM hS hA hN hK hP hD 0 rfl rfl) rfl rfl hl.1 rfl (lv_room (Nat.le_of_ble_eq_true rfl)) d_Mo_readAll_43 ⟨Nat.le_of_ble_eq_true rfl, Nat.le_of_ble_eq_true rfl⟩) hS (fun q _ h => zz_free hD hS hA q h) (zz_free hD hS hA) (fun u43 t H locs ht hvm hp hP1 hz hk1 hS => ?_)
            rw [ht] at hP1
            rw [← hp] at hv hk
            have hD : va_D A (Wm ty h u43 px) := zz_D hD rfl
            have hP := hP1
            exact B46 _ _ _ x1 x2 u43 hv hk (lv_sub hl [0, 1, 2] rfl) hP hD hS
      intro H locs ls x1 x2 σ hv hk hl hP hD hS
      rw [f_Mo_readAll_4] at hv
      rw [k_Mo_readAll_4] at hk
      refine lv_iload_n hx hb d_Mo_readAll_4 rfl (lv_at hl 2 rfl) ?_
      refine lv_sipush (v := 400) hx hb d_Mo_readAll_5 (by decide) ?_
      refine lv_icmp_ge (tgt := 190) hx hb d_Mo_readAll_8 (by decide) (fun hc => ?_) (fun hc => ?_)
      · have hv := hv.trans (if_pos hc)
        have hk := hk.1 hc
        exact B190 _ _ _ x1 σ hv hk (lv_sub hl [0, 1] rfl) hP hD hS
      · have hv := hv.trans (if_neg hc)
        have hk := hk.2 hc
        refine lv_aload_n hx hb d_Mo_readAll_11 rfl (lv_at hl 0 rfl) ?_
        refine va_get (v := .int (σ.1 0 33)) (C := R_Mo) (T := T_Mo) (N := 51) hx hb hg in_Mo hown hK hP 0 rfl rfl 33 (by decide) (hg _ m_1292) (fun _ h9 => h9) rfl d_Mo_readAll_12 ?_
        refine lv_if_ne (tgt := 190) hx hb d_Mo_readAll_15 (by decide) (fun hc => ?_) (fun hc => ?_)
        · have hv := hv.trans (if_neg hc)
          have hk := hk.2 hc
          exact B190 _ _ _ x1 σ hv hk (lv_sub hl [0, 1] rfl) hP hD hS
        · have hv := hv.trans (if_pos hc)
          have hk := hk.1 hc
          refine lv_iload_n hx hb d_Mo_readAll_18 rfl (lv_at hl 1 rfl) ?_
          refine lv_if_lt (tgt := 29) hx hb d_Mo_readAll_19 (by decide) (fun hc => ?_) (fun hc => ?_)
          · have hv := hv.trans (if_pos hc)
            have hk := hk.1 hc
            exact B29 _ _ _ x1 x2 σ hv hk (lv_sub hl [0, 1, 2] rfl) hP hD hS
          · have hv := hv.trans (if_neg hc)
            have hk := hk.2 hc
            refine lv_aload_n hx hb d_Mo_readAll_22 rfl (lv_at hl 0 rfl) ?_
            refine va_get (v := .int (σ.1 0 34)) (C := R_Mo) (T := T_Mo) (N := 51) hx hb hg in_Mo hown hK hP 0 rfl rfl 34 (by decide) (hg _ m_1293) (fun _ h9 => h9) rfl d_Mo_readAll_23 ?_
            refine lv_if_le (tgt := 190) hx hb d_Mo_readAll_26 (by decide) (fun hc => ?_) (fun hc => ?_)
            · have hv := hv.trans (if_pos hc)
              have hk := hk.1 hc
              exact B190 _ _ _ x1 σ hv hk (lv_sub hl [0, 1] rfl) hP hD hS
            · have hv := hv.trans (if_neg hc)
              have hk := hk.2 hc
              exact B29 _ _ _ x1 x2 σ hv hk (lv_sub hl [0, 1, 2] rfl) hP hD hS
  unfold f_Mo_readAll at hv
  unfold k_Mo_readAll at hk
  refine lv_iconst (v := -1) hx hb d_Mo_readAll_0 (by decide) ?_
  refine lv_istore_n (lv' := [(1, .int (-1)), (0, .ref (h 0))]) hx hb d_Mo_readAll_1 rfl hl (by decide) rfl (fun ls hl => ?_)
  refine lv_iconst (v := 0) hx hb d_Mo_readAll_2 (by decide) ?_
  refine lv_istore_n (lv' := [(2, .int 0), (1, .int (-1)), (0, .ref (h 0))]) hx hb d_Mo_readAll_3 rfl hl (by decide) rfl (fun ls hl => ?_)
  exact B4 1000 _ _ _ (-1) 0 σ hv hk (lv_sub hl [2, 1, 0] rfl) hP hD hS

