abbrev b_La_law : ByteArray := code
theorem rotP {D : va_G} {cl : List vw_C} {a b : va_W} {H : Heap} (h : va_P D cl (a ++ b) H) : va_P D cl (b ++ a) H := va_P.swap (a := []) (b := a) (c := b) h
theorem rotD {A : Nat → Prop} {a b : va_W} (h : va_D A (a ++ b)) : va_D A (b ++ a) := va_D.swap (a := []) (b := a) (c := b) h
abbrev lA (s : State) : Nat → Prop := fun q => s.heap.size ≤ q
theorem lA_in (s : State) : ∀ q, s.heap.size ≤ q → lA s q := fun _ h => h
/-- what stands all along the law's run -/
def lwC (p : Program) (s : State) (m : MethodId) (args : Array Value) (c : Code) (b L : Nat) (xs : Nat → Int32) (D : va_G) (ty sa : Nat → Nat) : Prop :=
  p.tables.exec = Jvm.exec ∧ c.code = code ∧ c.maxLocals = 7 ∧ s.vm.findClass "ClauseLedgerLaw" = some m.cls ∧ (∀ w ∈ gw, w.before args s = true) ∧ va_X b L xs s s.heap ∧ b < s.heap.size ∧ va_K D classes (Ta ty) s ∧ NW s ∧ NC s ∧ XK sa (lA s) s s.heap ∧ MK sa (lA s) s s.heap
abbrev lS (a b : Int32) : Int64 := (a.toInt64 <<< ((32 : Int32).toInt64 &&& 63)) ||| (b.toInt64 &&& 4294967295)
section LAB
variable {p : Program} {l : Launch} {e : Env} {R : Room} {s : State} {m : MethodId} {args : Array Value} {below : List Frame} {meth : Method} {c : Code} {H H0 : Heap} {locs : List Loc} {cells slots : Nat} {Q : State → Prop}
variable {D : va_G} {cl : List vw_C} {tys : List (ClassId × FieldType)} {ws : va_W} {A : Nat → Prop} {pc : Nat} {ls : Array Slot} {rest : List Value} {cc : ByteArray} {sa : Nat → Nat}
theorem zz_preL (hM : MK sa A s s.heap) (hN : NW s) (hC : NC s) (hX : XK sa A s s.heap) (hS : va_S A s.heap H locs) (hA : ∀ q, s.heap.size ≤ q → A q) (hK : va_K D cl tys s) (hP : va_P D cl ws H) (hD : va_D A ws) {As : List Value} : PreS s H (va_Pc As (fun U => U.heap.size = H.size ∧ va_P D cl ws U.heap ∧ va_K D cl tys U ∧ NW U ∧ NC U ∧ XK sa (va_A ws H.size) U U.heap ∧ MK sa (va_A ws H.size) U U.heap ∧ va_D (fun _ => True) ws)) As :=
  ⟨fun a U g mk h => ⟨h.1, h.2.1, h.2.2.1, va_K.moved (u := U) (U := U.calling g mk a) (Vm.Alike.refl U.vm) h.2.2.2.1, NW.same (u := U) rfl h.2.2.2.2.1, NC.moved (u := U) (U := U.calling g mk a) (Vm.Alike.refl U.vm) h.2.2.2.2.2.1, ⟨SR.same (u := U) rfl h.2.2.2.2.2.2.1.1, h.2.2.2.2.2.2.1.2⟩, MK.same (u := U) rfl h.2.2.2.2.2.2.2.1, h.2.2.2.2.2.2.2.2⟩, fun U hU hW => ⟨rfl, by rw [hU], by rw [hU]; exact hP, va_K.moved hW.alike hK, NW.warm hW hN, NC.moved hW.alike hC, ⟨SR.warm hW hX.1, by rw [hU]; exact hX.2.go hW.alike hS.1 hS.2.1 (fun q9 _ h9 => zz_free hD hS hA q9 h9)⟩, by rw [hU]; exact hM.go hW hS.2.1 (zz_free hD hS hA), hD.weaken (fun _ _ _ _ => trivial)⟩⟩
theorem nI_plus (a b : Nat) : nI a + nI b = nI (a + b) := by
  apply Int32.toBitVec_inj.mp
  simp [nI, Int32.toBitVec_add, Int32.toBitVec_ofNat, BitVec.ofNat_add]
/-- a read of the script at i + k -/
theorem la_ld (hexec : p.tables.exec = Jvm.exec) (hb : c.code = cc) {b L i k : Nat} {xs : Nat → Int32} (hX : va_X b L xs s s.heap) (hbl : b < s.heap.size) (hS : va_S (lA s) s.heap H locs) (hk : i + k < L) (hL : L < 2 ^ 31) (hdg : decode cc pc = .ok (.iaload, 1))
    (kk : W p l e R s m args below meth c H locs cells slots Q (F0 m (pc + 1) ls (.int (xs (i + k)) :: rest))) : W p l e R s m args below meth c H locs cells slots Q (F0 m pc ls (.int (nI i + nI k) :: .ref b :: rest)) := by
  rw [nI_plus]
  have hc : (nI (i + k)).toNatClampNeg = i + k := nI_clamp (by omega)
  refine va_sld hexec hb hX hbl (fun h => absurd hbl (Nat.not_lt.mpr h)) hS (fun h => ?_) hdg (by rw [hc]; exact kk)
  rcases h with h | h
  · exact nI_pos (by omega) h
  · rw [hc] at h; omega
theorem la_ld0 (hexec : p.tables.exec = Jvm.exec) (hb : c.code = cc) {b L i : Nat} {xs : Nat → Int32} (hX : va_X b L xs s s.heap) (hbl : b < s.heap.size) (hS : va_S (lA s) s.heap H locs) (hk : i < L) (hL : L < 2 ^ 31) (hdg : decode cc pc = .ok (.iaload, 1))
    (kk : W p l e R s m args below meth c H locs cells slots Q (F0 m (pc + 1) ls (.int (xs i) :: rest))) : W p l e R s m args below meth c H locs cells slots Q (F0 m pc ls (.int (nI i) :: .ref b :: rest)) := by
  have hc : (nI i).toNatClampNeg = i := nI_clamp (by omega)
  refine va_sld hexec hb hX hbl (fun h => absurd hbl (Nat.not_lt.mpr h)) hS (fun h => ?_) hdg (by rw [hc]; exact kk)
  rcases h with h | h
  · exact nI_pos (by omega) h
  · rw [hc] at h; omega
end LAB
theorem d_La_law_0 : decode b_La_law 0 = .ok (.new 8, 3) := by decide +kernel
theorem d_La_law_3 : decode b_La_law 3 = .ok (.dup, 1) := by decide +kernel
theorem d_La_law_4 : decode b_La_law 4 = .ok (.invokespecial 61, 3) := by decide +kernel
theorem d_La_law_7 : decode b_La_law 7 = .ok (.astore_n 1, 1) := by decide +kernel
theorem d_La_law_8 : decode b_La_law 8 = .ok (.new 62, 3) := by decide +kernel
theorem d_La_law_11 : decode b_La_law 11 = .ok (.dup, 1) := by decide +kernel
theorem d_La_law_12 : decode b_La_law 12 = .ok (.invokespecial 64, 3) := by decide +kernel
theorem d_La_law_15 : decode b_La_law 15 = .ok (.astore_n 2, 1) := by decide +kernel
theorem d_La_law_16 : decode b_La_law 16 = .ok (.iconst 1, 1) := by decide +kernel
theorem d_La_law_17 : decode b_La_law 17 = .ok (.newarray .long, 2) := by decide +kernel
theorem d_La_law_19 : decode b_La_law 19 = .ok (.astore_n 3, 1) := by decide +kernel
theorem d_La_law_20 : decode b_La_law 20 = .ok (.iconst 0, 1) := by decide +kernel
theorem d_La_law_21 : decode b_La_law 21 = .ok (.istore 4, 2) := by decide +kernel
theorem d_La_law_23 : decode b_La_law 23 = .ok (.iload 4, 2) := by decide +kernel
theorem d_La_law_25 : decode b_La_law 25 = .ok (.aload_n 0, 1) := by decide +kernel
theorem d_La_law_26 : decode b_La_law 26 = .ok (.arraylength, 1) := by decide +kernel
theorem d_La_law_27 : decode b_La_law 27 = .ok (.bipush 7, 2) := by decide +kernel
theorem d_La_law_29 : decode b_La_law 29 = .ok (.isub, 1) := by decide +kernel
theorem d_La_law_30 : decode b_La_law 30 = .ok (.if_icmp .gt 1263, 3) := by decide +kernel
theorem d_La_law_33 : decode b_La_law 33 = .ok (.aload_n 0, 1) := by decide +kernel
theorem d_La_law_34 : decode b_La_law 34 = .ok (.iload 4, 2) := by decide +kernel
theorem d_La_law_36 : decode b_La_law 36 = .ok (.iaload, 1) := by decide +kernel
theorem d_La_law_37 : decode b_La_law 37 = .ok (.bipush 31, 2) := by decide +kernel
theorem d_La_law_39 : decode b_La_law 39 = .ok (.iand, 1) := by decide +kernel
theorem d_La_law_40 : decode b_La_law 40 = .ok (.tableswitch 1247 0 21 #[104, 117, 166, 203, 260, 304, 360, 440, 508, 576, 632, 700, 756, 824, 942, 1010, 1054, 1098, 1135, 1160, 1173, 1210], 104) := by decide +kernel
theorem d_La_law_144 : decode b_La_law 144 = .ok (.aload_n 1, 1) := by decide +kernel
theorem d_La_law_145 : decode b_La_law 145 = .ok (.invokevirtual 65, 3) := by decide +kernel
theorem d_La_law_148 : decode b_La_law 148 = .ok (.aload_n 2, 1) := by decide +kernel
theorem d_La_law_149 : decode b_La_law 149 = .ok (.invokevirtual 68, 3) := by decide +kernel
theorem d_La_law_152 : decode b_La_law 152 = .ok (.if_icmp .eq 1135, 3) := by decide +kernel
theorem d_La_law_155 : decode b_La_law 155 = .ok (.iconst 0, 1) := by decide +kernel
theorem d_La_law_156 : decode b_La_law 156 = .ok (.ireturn, 1) := by decide +kernel
theorem d_La_law_157 : decode b_La_law 157 = .ok (.aload_n 1, 1) := by decide +kernel
theorem d_La_law_158 : decode b_La_law 158 = .ok (.aload_n 0, 1) := by decide +kernel
theorem d_La_law_159 : decode b_La_law 159 = .ok (.iload 4, 2) := by decide +kernel
theorem d_La_law_161 : decode b_La_law 161 = .ok (.iconst 1, 1) := by decide +kernel
theorem d_La_law_162 : decode b_La_law 162 = .ok (.iadd, 1) := by decide +kernel
theorem d_La_law_163 : decode b_La_law 163 = .ok (.iaload, 1) := by decide +kernel
theorem d_La_law_164 : decode b_La_law 164 = .ok (.aload_n 0, 1) := by decide +kernel
theorem d_La_law_165 : decode b_La_law 165 = .ok (.iload 4, 2) := by decide +kernel
theorem d_La_law_167 : decode b_La_law 167 = .ok (.iconst 2, 1) := by decide +kernel
theorem d_La_law_168 : decode b_La_law 168 = .ok (.iadd, 1) := by decide +kernel
theorem d_La_law_169 : decode b_La_law 169 = .ok (.iaload, 1) := by decide +kernel
theorem d_La_law_170 : decode b_La_law 170 = .ok (.aload_n 0, 1) := by decide +kernel
theorem d_La_law_171 : decode b_La_law 171 = .ok (.iload 4, 2) := by decide +kernel
theorem d_La_law_173 : decode b_La_law 173 = .ok (.iconst 3, 1) := by decide +kernel
theorem d_La_law_174 : decode b_La_law 174 = .ok (.iadd, 1) := by decide +kernel
theorem d_La_law_175 : decode b_La_law 175 = .ok (.iaload, 1) := by decide +kernel
theorem d_La_law_176 : decode b_La_law 176 = .ok (.invokevirtual 69, 3) := by decide +kernel
theorem d_La_law_179 : decode b_La_law 179 = .ok (.aload_n 2, 1) := by decide +kernel
theorem d_La_law_180 : decode b_La_law 180 = .ok (.aload_n 0, 1) := by decide +kernel
theorem d_La_law_181 : decode b_La_law 181 = .ok (.iload 4, 2) := by decide +kernel
theorem d_La_law_183 : decode b_La_law 183 = .ok (.iconst 1, 1) := by decide +kernel
theorem d_La_law_184 : decode b_La_law 184 = .ok (.iadd, 1) := by decide +kernel
theorem d_La_law_185 : decode b_La_law 185 = .ok (.iaload, 1) := by decide +kernel
theorem d_La_law_186 : decode b_La_law 186 = .ok (.aload_n 0, 1) := by decide +kernel
theorem d_La_law_187 : decode b_La_law 187 = .ok (.iload 4, 2) := by decide +kernel
theorem d_La_law_189 : decode b_La_law 189 = .ok (.iconst 2, 1) := by decide +kernel
theorem d_La_law_190 : decode b_La_law 190 = .ok (.iadd, 1) := by decide +kernel
theorem d_La_law_191 : decode b_La_law 191 = .ok (.iaload, 1) := by decide +kernel
theorem d_La_law_192 : decode b_La_law 192 = .ok (.aload_n 0, 1) := by decide +kernel
theorem d_La_law_193 : decode b_La_law 193 = .ok (.iload 4, 2) := by decide +kernel
theorem d_La_law_195 : decode b_La_law 195 = .ok (.iconst 3, 1) := by decide +kernel
theorem d_La_law_196 : decode b_La_law 196 = .ok (.iadd, 1) := by decide +kernel
theorem d_La_law_197 : decode b_La_law 197 = .ok (.iaload, 1) := by decide +kernel
theorem d_La_law_198 : decode b_La_law 198 = .ok (.invokevirtual 72, 3) := by decide +kernel
theorem d_La_law_201 : decode b_La_law 201 = .ok (.if_icmp .eq 1086, 3) := by decide +kernel
theorem d_La_law_204 : decode b_La_law 204 = .ok (.iconst 0, 1) := by decide +kernel
theorem d_La_law_205 : decode b_La_law 205 = .ok (.ireturn, 1) := by decide +kernel
theorem d_La_law_206 : decode b_La_law 206 = .ok (.aload_n 1, 1) := by decide +kernel
theorem d_La_law_207 : decode b_La_law 207 = .ok (.aload_n 0, 1) := by decide +kernel
theorem d_La_law_208 : decode b_La_law 208 = .ok (.iload 4, 2) := by decide +kernel
theorem d_La_law_210 : decode b_La_law 210 = .ok (.iconst 1, 1) := by decide +kernel
theorem d_La_law_211 : decode b_La_law 211 = .ok (.iadd, 1) := by decide +kernel
theorem d_La_law_212 : decode b_La_law 212 = .ok (.iaload, 1) := by decide +kernel
theorem d_La_law_213 : decode b_La_law 213 = .ok (.aload_n 0, 1) := by decide +kernel
theorem d_La_law_214 : decode b_La_law 214 = .ok (.iload 4, 2) := by decide +kernel
theorem d_La_law_216 : decode b_La_law 216 = .ok (.iconst 2, 1) := by decide +kernel
theorem d_La_law_217 : decode b_La_law 217 = .ok (.iadd, 1) := by decide +kernel
theorem d_La_law_218 : decode b_La_law 218 = .ok (.iaload, 1) := by decide +kernel
theorem d_La_law_219 : decode b_La_law 219 = .ok (.invokevirtual 73, 3) := by decide +kernel
theorem d_La_law_222 : decode b_La_law 222 = .ok (.aload_n 2, 1) := by decide +kernel
theorem d_La_law_223 : decode b_La_law 223 = .ok (.aload_n 0, 1) := by decide +kernel
theorem d_La_law_224 : decode b_La_law 224 = .ok (.iload 4, 2) := by decide +kernel
theorem d_La_law_226 : decode b_La_law 226 = .ok (.iconst 1, 1) := by decide +kernel
theorem d_La_law_227 : decode b_La_law 227 = .ok (.iadd, 1) := by decide +kernel
theorem d_La_law_228 : decode b_La_law 228 = .ok (.iaload, 1) := by decide +kernel
theorem d_La_law_229 : decode b_La_law 229 = .ok (.aload_n 0, 1) := by decide +kernel
theorem d_La_law_230 : decode b_La_law 230 = .ok (.iload 4, 2) := by decide +kernel
theorem d_La_law_232 : decode b_La_law 232 = .ok (.iconst 2, 1) := by decide +kernel
theorem d_La_law_233 : decode b_La_law 233 = .ok (.iadd, 1) := by decide +kernel
theorem d_La_law_234 : decode b_La_law 234 = .ok (.iaload, 1) := by decide +kernel
theorem d_La_law_235 : decode b_La_law 235 = .ok (.invokevirtual 77, 3) := by decide +kernel
theorem d_La_law_238 : decode b_La_law 238 = .ok (.if_icmp .eq 1049, 3) := by decide +kernel
theorem d_La_law_241 : decode b_La_law 241 = .ok (.iconst 0, 1) := by decide +kernel
theorem d_La_law_242 : decode b_La_law 242 = .ok (.ireturn, 1) := by decide +kernel
theorem d_La_law_243 : decode b_La_law 243 = .ok (.aload_n 1, 1) := by decide +kernel
theorem d_La_law_244 : decode b_La_law 244 = .ok (.aload_n 0, 1) := by decide +kernel
theorem d_La_law_245 : decode b_La_law 245 = .ok (.iload 4, 2) := by decide +kernel
theorem d_La_law_247 : decode b_La_law 247 = .ok (.iconst 1, 1) := by decide +kernel
theorem d_La_law_248 : decode b_La_law 248 = .ok (.iadd, 1) := by decide +kernel
theorem d_La_law_249 : decode b_La_law 249 = .ok (.iaload, 1) := by decide +kernel
theorem d_La_law_250 : decode b_La_law 250 = .ok (.i2l, 1) := by decide +kernel
theorem d_La_law_251 : decode b_La_law 251 = .ok (.bipush 32, 2) := by decide +kernel
theorem d_La_law_253 : decode b_La_law 253 = .ok (.lshl, 1) := by decide +kernel
theorem d_La_law_254 : decode b_La_law 254 = .ok (.aload_n 0, 1) := by decide +kernel
theorem d_La_law_255 : decode b_La_law 255 = .ok (.iload 4, 2) := by decide +kernel
theorem d_La_law_257 : decode b_La_law 257 = .ok (.iconst 2, 1) := by decide +kernel
theorem d_La_law_258 : decode b_La_law 258 = .ok (.iadd, 1) := by decide +kernel
theorem d_La_law_259 : decode b_La_law 259 = .ok (.iaload, 1) := by decide +kernel
theorem d_La_law_260 : decode b_La_law 260 = .ok (.i2l, 1) := by decide +kernel
theorem d_La_law_261 : decode b_La_law 261 = .ok (.ldc2_w 78, 3) := by decide +kernel
theorem d_La_law_264 : decode b_La_law 264 = .ok (.land, 1) := by decide +kernel
theorem d_La_law_265 : decode b_La_law 265 = .ok (.lor, 1) := by decide +kernel
theorem d_La_law_266 : decode b_La_law 266 = .ok (.invokevirtual 80, 3) := by decide +kernel
theorem d_La_law_269 : decode b_La_law 269 = .ok (.aload_n 2, 1) := by decide +kernel
theorem d_La_law_270 : decode b_La_law 270 = .ok (.aload_n 0, 1) := by decide +kernel
theorem d_La_law_271 : decode b_La_law 271 = .ok (.iload 4, 2) := by decide +kernel
theorem d_La_law_273 : decode b_La_law 273 = .ok (.iconst 1, 1) := by decide +kernel
theorem d_La_law_274 : decode b_La_law 274 = .ok (.iadd, 1) := by decide +kernel
theorem d_La_law_275 : decode b_La_law 275 = .ok (.iaload, 1) := by decide +kernel
theorem d_La_law_276 : decode b_La_law 276 = .ok (.i2l, 1) := by decide +kernel
theorem d_La_law_277 : decode b_La_law 277 = .ok (.bipush 32, 2) := by decide +kernel
theorem d_La_law_279 : decode b_La_law 279 = .ok (.lshl, 1) := by decide +kernel
theorem d_La_law_280 : decode b_La_law 280 = .ok (.aload_n 0, 1) := by decide +kernel
theorem d_La_law_281 : decode b_La_law 281 = .ok (.iload 4, 2) := by decide +kernel
theorem d_La_law_283 : decode b_La_law 283 = .ok (.iconst 2, 1) := by decide +kernel
theorem d_La_law_284 : decode b_La_law 284 = .ok (.iadd, 1) := by decide +kernel
theorem d_La_law_285 : decode b_La_law 285 = .ok (.iaload, 1) := by decide +kernel
theorem d_La_law_286 : decode b_La_law 286 = .ok (.i2l, 1) := by decide +kernel
theorem d_La_law_287 : decode b_La_law 287 = .ok (.ldc2_w 78, 3) := by decide +kernel
theorem d_La_law_290 : decode b_La_law 290 = .ok (.land, 1) := by decide +kernel
theorem d_La_law_291 : decode b_La_law 291 = .ok (.lor, 1) := by decide +kernel
theorem d_La_law_292 : decode b_La_law 292 = .ok (.invokevirtual 84, 3) := by decide +kernel
theorem d_La_law_295 : decode b_La_law 295 = .ok (.if_icmp .eq 992, 3) := by decide +kernel
theorem d_La_law_298 : decode b_La_law 298 = .ok (.iconst 0, 1) := by decide +kernel
theorem d_La_law_299 : decode b_La_law 299 = .ok (.ireturn, 1) := by decide +kernel
theorem d_La_law_300 : decode b_La_law 300 = .ok (.aload_n 1, 1) := by decide +kernel
theorem d_La_law_301 : decode b_La_law 301 = .ok (.aload_n 3, 1) := by decide +kernel
theorem d_La_law_302 : decode b_La_law 302 = .ok (.invokestatic 85, 3) := by decide +kernel
theorem d_La_law_305 : decode b_La_law 305 = .ok (.istore 5, 2) := by decide +kernel
theorem d_La_law_307 : decode b_La_law 307 = .ok (.aload_n 2, 1) := by decide +kernel
theorem d_La_law_308 : decode b_La_law 308 = .ok (.invokevirtual 90, 3) := by decide +kernel
theorem d_La_law_311 : decode b_La_law 311 = .ok (.istore 6, 2) := by decide +kernel
theorem d_La_law_313 : decode b_La_law 313 = .ok (.aload_n 2, 1) := by decide +kernel
theorem d_La_law_314 : decode b_La_law 314 = .ok (.invokevirtual 91, 3) := by decide +kernel
theorem d_La_law_317 : decode b_La_law 317 = .ok (.iload 5, 2) := by decide +kernel
theorem d_La_law_319 : decode b_La_law 319 = .ok (.if_icmp .eq 5, 3) := by decide +kernel
theorem d_La_law_322 : decode b_La_law 322 = .ok (.iconst 0, 1) := by decide +kernel
theorem d_La_law_323 : decode b_La_law 323 = .ok (.ireturn, 1) := by decide +kernel
theorem d_La_law_324 : decode b_La_law 324 = .ok (.iload 5, 2) := by decide +kernel
theorem d_La_law_326 : decode b_La_law 326 = .ok (.ifCond .ne 15, 3) := by decide +kernel
theorem d_La_law_329 : decode b_La_law 329 = .ok (.aload_n 3, 1) := by decide +kernel
theorem d_La_law_330 : decode b_La_law 330 = .ok (.iconst 0, 1) := by decide +kernel
theorem d_La_law_331 : decode b_La_law 331 = .ok (.laload, 1) := by decide +kernel
theorem d_La_law_332 : decode b_La_law 332 = .ok (.iload 6, 2) := by decide +kernel
theorem d_La_law_334 : decode b_La_law 334 = .ok (.i2l, 1) := by decide +kernel
theorem d_La_law_335 : decode b_La_law 335 = .ok (.lcmp, 1) := by decide +kernel
theorem d_La_law_336 : decode b_La_law 336 = .ok (.ifCond .eq 5, 3) := by decide +kernel
theorem d_La_law_339 : decode b_La_law 339 = .ok (.iconst 0, 1) := by decide +kernel
theorem d_La_law_340 : decode b_La_law 340 = .ok (.ireturn, 1) := by decide +kernel
theorem d_La_law_341 : decode b_La_law 341 = .ok (.goto 946, 3) := by decide +kernel
theorem d_La_law_344 : decode b_La_law 344 = .ok (.aload_n 1, 1) := by decide +kernel
theorem d_La_law_345 : decode b_La_law 345 = .ok (.aload_n 0, 1) := by decide +kernel
theorem d_La_law_346 : decode b_La_law 346 = .ok (.iload 4, 2) := by decide +kernel
theorem d_La_law_348 : decode b_La_law 348 = .ok (.iconst 1, 1) := by decide +kernel
theorem d_La_law_349 : decode b_La_law 349 = .ok (.iadd, 1) := by decide +kernel
theorem d_La_law_350 : decode b_La_law 350 = .ok (.iaload, 1) := by decide +kernel
theorem d_La_law_351 : decode b_La_law 351 = .ok (.aload_n 3, 1) := by decide +kernel
theorem d_La_law_352 : decode b_La_law 352 = .ok (.invokestatic 94, 3) := by decide +kernel
theorem d_La_law_355 : decode b_La_law 355 = .ok (.istore 5, 2) := by decide +kernel
theorem d_La_law_357 : decode b_La_law 357 = .ok (.aload_n 2, 1) := by decide +kernel
theorem d_La_law_358 : decode b_La_law 358 = .ok (.aload_n 0, 1) := by decide +kernel
theorem d_La_law_359 : decode b_La_law 359 = .ok (.iload 4, 2) := by decide +kernel
theorem d_La_law_361 : decode b_La_law 361 = .ok (.iconst 1, 1) := by decide +kernel
theorem d_La_law_362 : decode b_La_law 362 = .ok (.iadd, 1) := by decide +kernel
theorem d_La_law_363 : decode b_La_law 363 = .ok (.iaload, 1) := by decide +kernel
theorem d_La_law_364 : decode b_La_law 364 = .ok (.invokevirtual 97, 3) := by decide +kernel
theorem d_La_law_367 : decode b_La_law 367 = .ok (.istore 6, 2) := by decide +kernel
theorem d_La_law_369 : decode b_La_law 369 = .ok (.aload_n 2, 1) := by decide +kernel
theorem d_La_law_370 : decode b_La_law 370 = .ok (.invokevirtual 91, 3) := by decide +kernel
theorem d_La_law_373 : decode b_La_law 373 = .ok (.iload 5, 2) := by decide +kernel
theorem d_La_law_375 : decode b_La_law 375 = .ok (.if_icmp .eq 5, 3) := by decide +kernel
theorem d_La_law_378 : decode b_La_law 378 = .ok (.iconst 0, 1) := by decide +kernel
theorem d_La_law_379 : decode b_La_law 379 = .ok (.ireturn, 1) := by decide +kernel
theorem d_La_law_380 : decode b_La_law 380 = .ok (.iload 5, 2) := by decide +kernel
theorem d_La_law_382 : decode b_La_law 382 = .ok (.ifCond .ne 15, 3) := by decide +kernel
theorem d_La_law_385 : decode b_La_law 385 = .ok (.aload_n 3, 1) := by decide +kernel
theorem d_La_law_386 : decode b_La_law 386 = .ok (.iconst 0, 1) := by decide +kernel
theorem d_La_law_387 : decode b_La_law 387 = .ok (.laload, 1) := by decide +kernel
theorem d_La_law_388 : decode b_La_law 388 = .ok (.iload 6, 2) := by decide +kernel
theorem d_La_law_390 : decode b_La_law 390 = .ok (.i2l, 1) := by decide +kernel
theorem d_La_law_391 : decode b_La_law 391 = .ok (.lcmp, 1) := by decide +kernel
theorem d_La_law_392 : decode b_La_law 392 = .ok (.ifCond .eq 5, 3) := by decide +kernel
theorem d_La_law_395 : decode b_La_law 395 = .ok (.iconst 0, 1) := by decide +kernel
theorem d_La_law_396 : decode b_La_law 396 = .ok (.ireturn, 1) := by decide +kernel
theorem d_La_law_397 : decode b_La_law 397 = .ok (.goto 890, 3) := by decide +kernel
theorem d_La_law_400 : decode b_La_law 400 = .ok (.aload_n 1, 1) := by decide +kernel
theorem d_La_law_401 : decode b_La_law 401 = .ok (.aload_n 0, 1) := by decide +kernel
theorem d_La_law_402 : decode b_La_law 402 = .ok (.iload 4, 2) := by decide +kernel
theorem d_La_law_404 : decode b_La_law 404 = .ok (.iconst 1, 1) := by decide +kernel
theorem d_La_law_405 : decode b_La_law 405 = .ok (.iadd, 1) := by decide +kernel
theorem d_La_law_406 : decode b_La_law 406 = .ok (.iaload, 1) := by decide +kernel
theorem d_La_law_407 : decode b_La_law 407 = .ok (.aload_n 0, 1) := by decide +kernel
theorem d_La_law_408 : decode b_La_law 408 = .ok (.iload 4, 2) := by decide +kernel
theorem d_La_law_410 : decode b_La_law 410 = .ok (.iconst 2, 1) := by decide +kernel
theorem d_La_law_411 : decode b_La_law 411 = .ok (.iadd, 1) := by decide +kernel
theorem d_La_law_412 : decode b_La_law 412 = .ok (.iaload, 1) := by decide +kernel
theorem d_La_law_413 : decode b_La_law 413 = .ok (.aload_n 0, 1) := by decide +kernel
theorem d_La_law_414 : decode b_La_law 414 = .ok (.iload 4, 2) := by decide +kernel
theorem d_La_law_416 : decode b_La_law 416 = .ok (.iconst 3, 1) := by decide +kernel
theorem d_La_law_417 : decode b_La_law 417 = .ok (.iadd, 1) := by decide +kernel
theorem d_La_law_418 : decode b_La_law 418 = .ok (.iaload, 1) := by decide +kernel
theorem d_La_law_419 : decode b_La_law 419 = .ok (.aload_n 3, 1) := by decide +kernel
theorem d_La_law_420 : decode b_La_law 420 = .ok (.invokestatic 98, 3) := by decide +kernel
theorem d_La_law_423 : decode b_La_law 423 = .ok (.istore 5, 2) := by decide +kernel
theorem d_La_law_425 : decode b_La_law 425 = .ok (.aload_n 2, 1) := by decide +kernel
theorem d_La_law_426 : decode b_La_law 426 = .ok (.aload_n 0, 1) := by decide +kernel
theorem d_La_law_427 : decode b_La_law 427 = .ok (.iload 4, 2) := by decide +kernel
theorem d_La_law_429 : decode b_La_law 429 = .ok (.iconst 1, 1) := by decide +kernel
theorem d_La_law_430 : decode b_La_law 430 = .ok (.iadd, 1) := by decide +kernel
theorem d_La_law_431 : decode b_La_law 431 = .ok (.iaload, 1) := by decide +kernel
theorem d_La_law_432 : decode b_La_law 432 = .ok (.aload_n 0, 1) := by decide +kernel
theorem d_La_law_433 : decode b_La_law 433 = .ok (.iload 4, 2) := by decide +kernel
theorem d_La_law_435 : decode b_La_law 435 = .ok (.iconst 2, 1) := by decide +kernel
theorem d_La_law_436 : decode b_La_law 436 = .ok (.iadd, 1) := by decide +kernel
theorem d_La_law_437 : decode b_La_law 437 = .ok (.iaload, 1) := by decide +kernel
theorem d_La_law_438 : decode b_La_law 438 = .ok (.aload_n 0, 1) := by decide +kernel
theorem d_La_law_439 : decode b_La_law 439 = .ok (.iload 4, 2) := by decide +kernel
theorem d_La_law_441 : decode b_La_law 441 = .ok (.iconst 3, 1) := by decide +kernel
theorem d_La_law_442 : decode b_La_law 442 = .ok (.iadd, 1) := by decide +kernel
theorem d_La_law_443 : decode b_La_law 443 = .ok (.iaload, 1) := by decide +kernel
theorem d_La_law_444 : decode b_La_law 444 = .ok (.invokevirtual 101, 3) := by decide +kernel
theorem d_La_law_447 : decode b_La_law 447 = .ok (.istore 6, 2) := by decide +kernel
theorem d_La_law_449 : decode b_La_law 449 = .ok (.aload_n 2, 1) := by decide +kernel
theorem d_La_law_450 : decode b_La_law 450 = .ok (.invokevirtual 91, 3) := by decide +kernel
theorem d_La_law_453 : decode b_La_law 453 = .ok (.iload 5, 2) := by decide +kernel
theorem d_La_law_455 : decode b_La_law 455 = .ok (.if_icmp .eq 5, 3) := by decide +kernel
theorem d_La_law_458 : decode b_La_law 458 = .ok (.iconst 0, 1) := by decide +kernel
theorem d_La_law_459 : decode b_La_law 459 = .ok (.ireturn, 1) := by decide +kernel
theorem d_La_law_460 : decode b_La_law 460 = .ok (.iload 5, 2) := by decide +kernel
theorem d_La_law_462 : decode b_La_law 462 = .ok (.ifCond .ne 15, 3) := by decide +kernel
theorem d_La_law_465 : decode b_La_law 465 = .ok (.aload_n 3, 1) := by decide +kernel
theorem d_La_law_466 : decode b_La_law 466 = .ok (.iconst 0, 1) := by decide +kernel
theorem d_La_law_467 : decode b_La_law 467 = .ok (.laload, 1) := by decide +kernel
theorem d_La_law_468 : decode b_La_law 468 = .ok (.iload 6, 2) := by decide +kernel
theorem d_La_law_470 : decode b_La_law 470 = .ok (.i2l, 1) := by decide +kernel
theorem d_La_law_471 : decode b_La_law 471 = .ok (.lcmp, 1) := by decide +kernel
theorem d_La_law_472 : decode b_La_law 472 = .ok (.ifCond .eq 5, 3) := by decide +kernel
theorem d_La_law_475 : decode b_La_law 475 = .ok (.iconst 0, 1) := by decide +kernel
theorem d_La_law_476 : decode b_La_law 476 = .ok (.ireturn, 1) := by decide +kernel
theorem d_La_law_477 : decode b_La_law 477 = .ok (.goto 810, 3) := by decide +kernel
theorem d_La_law_480 : decode b_La_law 480 = .ok (.aload_n 1, 1) := by decide +kernel
theorem d_La_law_481 : decode b_La_law 481 = .ok (.aload_n 0, 1) := by decide +kernel
theorem d_La_law_482 : decode b_La_law 482 = .ok (.iload 4, 2) := by decide +kernel
theorem d_La_law_484 : decode b_La_law 484 = .ok (.iconst 1, 1) := by decide +kernel
theorem d_La_law_485 : decode b_La_law 485 = .ok (.iadd, 1) := by decide +kernel
theorem d_La_law_486 : decode b_La_law 486 = .ok (.iaload, 1) := by decide +kernel
theorem d_La_law_487 : decode b_La_law 487 = .ok (.aload_n 0, 1) := by decide +kernel
theorem d_La_law_488 : decode b_La_law 488 = .ok (.iload 4, 2) := by decide +kernel
theorem d_La_law_490 : decode b_La_law 490 = .ok (.iconst 2, 1) := by decide +kernel
theorem d_La_law_491 : decode b_La_law 491 = .ok (.iadd, 1) := by decide +kernel
theorem d_La_law_492 : decode b_La_law 492 = .ok (.iaload, 1) := by decide +kernel
