theorem m_1094 : (Cond.methodLink "ClauseLedger" 197 ⟨"ClauseLedger$Balance", "start", "()V"⟩) ∈ gw := gt_5 (i := 134) rfl rfl
theorem m_1095 : (Cond.instanceMethod ⟨"ClauseLedger$Balance", "start", "()V"⟩) ∈ gw := gt_5 (i := 135) rfl rfl
theorem m_1096 : (Cond.selects "ClauseLedger$Balance" ⟨"ClauseLedger$Balance", "start", "()V"⟩ ⟨"ClauseLedger$Balance", "start", "()V"⟩) ∈ gw := gt_5 (i := 136) rfl rfl
theorem m_1097 : (Cond.code ⟨"ClauseLedger$Balance", "start", "()V"⟩ prog_2_method_3_code 1 none) ∈ gw := gt_5 (i := 137) rfl rfl
theorem m_1098 : (Cond.methodLink "ClauseLedger$Balance" 51 ⟨"ClauseLedger$Sum", "wipe", "()V"⟩) ∈ gw := gt_5 (i := 138) rfl rfl
theorem m_1099 : (Cond.instanceMethod ⟨"ClauseLedger$Sum", "wipe", "()V"⟩) ∈ gw := gt_5 (i := 139) rfl rfl
theorem m_1100 : (Cond.selects "ClauseLedger$Sum" ⟨"ClauseLedger$Sum", "wipe", "()V"⟩ ⟨"ClauseLedger$Sum", "wipe", "()V"⟩) ∈ gw := gt_5 (i := 140) rfl rfl
theorem m_1101 : (Cond.code ⟨"ClauseLedger$Sum", "wipe", "()V"⟩ prog_10_method_4_code 1 none) ∈ gw := gt_5 (i := 141) rfl rfl
theorem m_1102 : (Cond.methodLink "ClauseLedger" 200 ⟨"ClauseLedger$Balance", "load", "(II)V"⟩) ∈ gw := gt_5 (i := 142) rfl rfl
theorem m_1103 : (Cond.instanceMethod ⟨"ClauseLedger$Balance", "load", "(II)V"⟩) ∈ gw := gt_5 (i := 143) rfl rfl
theorem m_1104 : (Cond.selects "ClauseLedger$Balance" ⟨"ClauseLedger$Balance", "load", "(II)V"⟩ ⟨"ClauseLedger$Balance", "load", "(II)V"⟩) ∈ gw := gt_5 (i := 144) rfl rfl
theorem m_1105 : (Cond.code ⟨"ClauseLedger$Balance", "load", "(II)V"⟩ prog_2_method_4_code 6 none) ∈ gw := gt_5 (i := 145) rfl rfl
theorem m_1106 : (Cond.methodLink "ClauseLedger$Balance" 57 ⟨"ClauseLedger$Terms", "secondOf", "(I)I"⟩) ∈ gw := gt_5 (i := 146) rfl rfl
theorem m_1107 : (Cond.methodLink "ClauseLedger$Balance" 60 ⟨"ClauseLedger$Balance", "sumOf", "(II)LClauseLedger$Sum;"⟩) ∈ gw := gt_5 (i := 147) rfl rfl
theorem m_1109 : (Cond.instanceMethod ⟨"ClauseLedger$Balance", "sumOf", "(II)LClauseLedger$Sum;"⟩) ∈ gw := gt_5 (i := 149) rfl rfl
theorem m_1110 : (Cond.code ⟨"ClauseLedger$Balance", "sumOf", "(II)LClauseLedger$Sum;"⟩ prog_2_method_9_code 4 (some (.object "ClauseLedger$Sum"))) ∈ gw := gt_5 (i := 150) rfl rfl
theorem m_1111 : (Cond.methodLink "ClauseLedger$Balance" 84 ⟨"ClauseLedger$Balance", "workOut", "(II)LClauseLedger$Sum;"⟩) ∈ gw := gt_5 (i := 151) rfl rfl
theorem m_1113 : (Cond.instanceMethod ⟨"ClauseLedger$Balance", "workOut", "(II)LClauseLedger$Sum;"⟩) ∈ gw := gt_5 (i := 153) rfl rfl
theorem m_1114 : (Cond.code ⟨"ClauseLedger$Balance", "workOut", "(II)LClauseLedger$Sum;"⟩ prog_2_method_10_code 6 (some (.object "ClauseLedger$Sum"))) ∈ gw := gt_5 (i := 154) rfl rfl
theorem m_1115 : (Cond.methodLink "ClauseLedger$Balance" 87 ⟨"ClauseLedger$Terms", "topOf", "(I)I"⟩) ∈ gw := gt_5 (i := 155) rfl rfl
theorem m_1116 : (Cond.methodLink "ClauseLedger$Balance" 90 ⟨"ClauseLedger$Terms", "bottomOf", "(I)I"⟩) ∈ gw := gt_5 (i := 156) rfl rfl
theorem m_1117 : (Cond.methodLink "ClauseLedger$Balance" 93 ⟨"ClauseLedger$Balance", "single", "(III)LClauseLedger$Sum;"⟩) ∈ gw := gt_5 (i := 157) rfl rfl
theorem m_1118 : (Cond.static ⟨"ClauseLedger$Balance", "single", "(III)LClauseLedger$Sum;"⟩) ∈ gw := gt_5 (i := 158) rfl rfl
theorem m_1119 : (Cond.code ⟨"ClauseLedger$Balance", "single", "(III)LClauseLedger$Sum;"⟩ prog_2_method_12_code 4 (some (.object "ClauseLedger$Sum"))) ∈ gw := gt_5 (i := 159) rfl rfl
theorem m_1120 : (Cond.methodLink "ClauseLedger$Balance" 110 ⟨"ClauseLedger$Sum", "addEntry", "(IJJ)V"⟩) ∈ gw := gt_5 (i := 160) rfl rfl
theorem m_1121 : (Cond.instanceMethod ⟨"ClauseLedger$Sum", "addEntry", "(IJJ)V"⟩) ∈ gw := gt_5 (i := 161) rfl rfl
theorem m_1122 : (Cond.selects "ClauseLedger$Sum" ⟨"ClauseLedger$Sum", "addEntry", "(IJJ)V"⟩ ⟨"ClauseLedger$Sum", "addEntry", "(IJJ)V"⟩) ∈ gw := gt_5 (i := 162) rfl rfl
theorem m_1123 : (Cond.code ⟨"ClauseLedger$Sum", "addEntry", "(IJJ)V"⟩ prog_10_method_6_code 15 none) ∈ gw := gt_5 (i := 163) rfl rfl
theorem m_1134 : (Cond.methodLink "ClauseLedger$Balance" 97 ⟨"ClauseLedger$Balance", "product", "(ILClauseLedger$Sum;)LClauseLedger$Sum;"⟩) ∈ gw := gt_5 (i := 174) rfl rfl
theorem m_1136 : (Cond.instanceMethod ⟨"ClauseLedger$Balance", "product", "(ILClauseLedger$Sum;)LClauseLedger$Sum;"⟩) ∈ gw := gt_5 (i := 176) rfl rfl
theorem m_1137 : (Cond.code ⟨"ClauseLedger$Balance", "product", "(ILClauseLedger$Sum;)LClauseLedger$Sum;"⟩ prog_2_method_11_code 4 (some (.object "ClauseLedger$Sum"))) ∈ gw := gt_5 (i := 177) rfl rfl
theorem m_1138 : (Cond.methodLink "ClauseLedger$Balance" 101 ⟨"ClauseLedger$Sum", "size", "()I"⟩) ∈ gw := gt_5 (i := 178) rfl rfl
theorem m_1139 : (Cond.instanceMethod ⟨"ClauseLedger$Sum", "size", "()I"⟩) ∈ gw := gt_5 (i := 179) rfl rfl
theorem m_1140 : (Cond.selects "ClauseLedger$Sum" ⟨"ClauseLedger$Sum", "size", "()I"⟩ ⟨"ClauseLedger$Sum", "size", "()I"⟩) ∈ gw := gt_5 (i := 180) rfl rfl
theorem m_1141 : (Cond.code ⟨"ClauseLedger$Sum", "size", "()I"⟩ prog_10_method_2_code 1 (some .int)) ∈ gw := gt_5 (i := 181) rfl rfl
theorem m_1142 : (Cond.methodLink "ClauseLedger$Balance" 64 ⟨"ClauseLedger$Sum", "addTimes", "(LClauseLedger$Sum;JJ)V"⟩) ∈ gw := gt_5 (i := 182) rfl rfl
theorem m_1143 : (Cond.instanceMethod ⟨"ClauseLedger$Sum", "addTimes", "(LClauseLedger$Sum;JJ)V"⟩) ∈ gw := gt_5 (i := 183) rfl rfl
theorem m_1144 : (Cond.selects "ClauseLedger$Sum" ⟨"ClauseLedger$Sum", "addTimes", "(LClauseLedger$Sum;JJ)V"⟩ ⟨"ClauseLedger$Sum", "addTimes", "(LClauseLedger$Sum;JJ)V"⟩) ∈ gw := gt_5 (i := 184) rfl rfl
theorem m_1145 : (Cond.code ⟨"ClauseLedger$Sum", "addTimes", "(LClauseLedger$Sum;JJ)V"⟩ prog_10_method_5_code 7 none) ∈ gw := gt_5 (i := 185) rfl rfl
theorem m_1146 : (Cond.methodLink "ClauseLedger$Sum" 30 ⟨"ClauseLedger$Sum", "addEntry", "(IJJ)V"⟩) ∈ gw := gt_5 (i := 186) rfl rfl
theorem m_1147 : (Cond.methodLink "ClauseLedger$Balance" 104 ⟨"java/lang/Math", "min", "(II)I"⟩) ∈ gw := gt_5 (i := 187) rfl rfl
theorem m_1148 : (Cond.constantLong "ClauseLedger$Balance" 68 (-1)) ∈ gw := gt_5 (i := 188) rfl rfl
theorem m_1149 : (Cond.methodLink "ClauseLedger" 203 ⟨"ClauseLedger$Balance", "tooGreat", "()Z"⟩) ∈ gw := gt_5 (i := 189) rfl rfl
theorem m_1150 : (Cond.instanceMethod ⟨"ClauseLedger$Balance", "tooGreat", "()Z"⟩) ∈ gw := gt_5 (i := 190) rfl rfl
theorem m_1151 : (Cond.selects "ClauseLedger$Balance" ⟨"ClauseLedger$Balance", "tooGreat", "()Z"⟩ ⟨"ClauseLedger$Balance", "tooGreat", "()Z"⟩) ∈ gw := gt_5 (i := 191) rfl rfl
theorem m_1152 : (Cond.code ⟨"ClauseLedger$Balance", "tooGreat", "()Z"⟩ prog_2_method_5_code 1 (some .boolean)) ∈ gw := gt_5 (i := 192) rfl rfl
theorem m_1153 : (Cond.methodLink "ClauseLedger$Balance" 70 ⟨"ClauseLedger$Sum", "isTooGreat", "()Z"⟩) ∈ gw := gt_5 (i := 193) rfl rfl
theorem m_1154 : (Cond.instanceMethod ⟨"ClauseLedger$Sum", "isTooGreat", "()Z"⟩) ∈ gw := gt_5 (i := 194) rfl rfl
theorem m_1155 : (Cond.selects "ClauseLedger$Sum" ⟨"ClauseLedger$Sum", "isTooGreat", "()Z"⟩ ⟨"ClauseLedger$Sum", "isTooGreat", "()Z"⟩) ∈ gw := gt_5 (i := 195) rfl rfl
theorem m_1156 : (Cond.code ⟨"ClauseLedger$Sum", "isTooGreat", "()Z"⟩ prog_10_method_3_code 1 (some .boolean)) ∈ gw := gt_5 (i := 196) rfl rfl
theorem m_1157 : (Cond.methodLink "ClauseLedger" 206 ⟨"ClauseLedger$Balance", "grants", "()Z"⟩) ∈ gw := gt_5 (i := 197) rfl rfl
theorem m_1158 : (Cond.instanceMethod ⟨"ClauseLedger$Balance", "grants", "()Z"⟩) ∈ gw := gt_5 (i := 198) rfl rfl
theorem m_1159 : (Cond.selects "ClauseLedger$Balance" ⟨"ClauseLedger$Balance", "grants", "()Z"⟩ ⟨"ClauseLedger$Balance", "grants", "()Z"⟩) ∈ gw := gt_5 (i := 199) rfl rfl
theorem m_1160 : (Cond.code ⟨"ClauseLedger$Balance", "grants", "()Z"⟩ prog_2_method_6_code 2 (some .boolean)) ∈ gw := gt_5 (i := 200) rfl rfl
theorem m_1161 : (Cond.methodLink "ClauseLedger$Balance" 74 ⟨"ClauseLedger$Sum", "signOfConstant", "()I"⟩) ∈ gw := gt_5 (i := 201) rfl rfl
theorem m_1162 : (Cond.instanceMethod ⟨"ClauseLedger$Sum", "signOfConstant", "()I"⟩) ∈ gw := gt_5 (i := 202) rfl rfl
theorem m_1163 : (Cond.selects "ClauseLedger$Sum" ⟨"ClauseLedger$Sum", "signOfConstant", "()I"⟩ ⟨"ClauseLedger$Sum", "signOfConstant", "()I"⟩) ∈ gw := gt_5 (i := 203) rfl rfl
theorem m_1164 : (Cond.code ⟨"ClauseLedger$Sum", "signOfConstant", "()I"⟩ prog_10_method_8_code 2 (some .int)) ∈ gw := gt_5 (i := 204) rfl rfl
theorem m_1168 : (Cond.methodLink "ClauseLedger$Balance" 78 ⟨"ClauseLedger$Sum", "hasAtom", "()Z"⟩) ∈ gw := gt_5 (i := 208) rfl rfl
theorem m_1169 : (Cond.instanceMethod ⟨"ClauseLedger$Sum", "hasAtom", "()Z"⟩) ∈ gw := gt_5 (i := 209) rfl rfl
theorem m_1170 : (Cond.selects "ClauseLedger$Sum" ⟨"ClauseLedger$Sum", "hasAtom", "()Z"⟩ ⟨"ClauseLedger$Sum", "hasAtom", "()Z"⟩) ∈ gw := gt_5 (i := 210) rfl rfl
theorem m_1171 : (Cond.code ⟨"ClauseLedger$Sum", "hasAtom", "()Z"⟩ prog_10_method_7_code 2 (some .boolean)) ∈ gw := gt_5 (i := 211) rfl rfl
theorem ms_42 : (Cond.selects "ClauseLedger$Balance" ⟨"ClauseLedger$Balance", "sumOf", "(II)LClauseLedger$Sum;"⟩ ⟨"ClauseLedger$Balance", "sumOf", "(II)LClauseLedger$Sum;"⟩) ∈ gw := gw_sel (i := 42) rfl rfl
theorem ms_43 : (Cond.selects "ClauseLedger$Balance" ⟨"ClauseLedger$Balance", "workOut", "(II)LClauseLedger$Sum;"⟩ ⟨"ClauseLedger$Balance", "workOut", "(II)LClauseLedger$Sum;"⟩) ∈ gw := gw_sel (i := 43) rfl rfl
theorem ms_45 : (Cond.selects "ClauseLedger$Balance" ⟨"ClauseLedger$Balance", "product", "(ILClauseLedger$Sum;)LClauseLedger$Sum;"⟩ ⟨"ClauseLedger$Balance", "product", "(ILClauseLedger$Sum;)LClauseLedger$Sum;"⟩) ∈ gw := gw_sel (i := 45) rfl rfl
-- ClauseLedger$Sum.addTimes(LClauseLedger$Sum;JJ)V
abbrev b_Su_addTimes : ByteArray := prog_10_method_5_code
def y_Su_addTimes : MethodName := ⟨"ClauseLedger$Sum", "addTimes", "(LClauseLedger$Sum;JJ)V"⟩
theorem hd_Su_addTimes : y_Su_addTimes.cls ≠ "java/lang/invoke/MethodHandle" ∧ y_Su_addTimes.cls ≠ "java/lang/invoke/VarHandle" ∧ (parseMethodDescriptor y_Su_addTimes.desc).map (fun d => d.parameters.length) = some 3 := by decide +kernel
theorem d_Su_addTimes_0 : decode b_Su_addTimes 0 = .ok (.aload_n 0, 1) := by decide +kernel
theorem d_Su_addTimes_1 : decode b_Su_addTimes 1 = .ok (.aload_n 0, 1) := by decide +kernel
theorem d_Su_addTimes_2 : decode b_Su_addTimes 2 = .ok (.getfield 15, 3) := by decide +kernel
theorem d_Su_addTimes_5 : decode b_Su_addTimes 5 = .ok (.ifCond .ne 10, 3) := by decide +kernel
theorem d_Su_addTimes_8 : decode b_Su_addTimes 8 = .ok (.aload_n 1, 1) := by decide +kernel
theorem d_Su_addTimes_9 : decode b_Su_addTimes 9 = .ok (.getfield 15, 3) := by decide +kernel
theorem d_Su_addTimes_12 : decode b_Su_addTimes 12 = .ok (.ifCond .eq 7, 3) := by decide +kernel
theorem d_Su_addTimes_15 : decode b_Su_addTimes 15 = .ok (.iconst 1, 1) := by decide +kernel
theorem d_Su_addTimes_16 : decode b_Su_addTimes 16 = .ok (.goto 4, 3) := by decide +kernel
theorem d_Su_addTimes_19 : decode b_Su_addTimes 19 = .ok (.iconst 0, 1) := by decide +kernel
theorem d_Su_addTimes_20 : decode b_Su_addTimes 20 = .ok (.putfield 15, 3) := by decide +kernel
theorem d_Su_addTimes_23 : decode b_Su_addTimes 23 = .ok (.iconst 0, 1) := by decide +kernel
theorem d_Su_addTimes_24 : decode b_Su_addTimes 24 = .ok (.istore 6, 2) := by decide +kernel
theorem d_Su_addTimes_26 : decode b_Su_addTimes 26 = .ok (.iload 6, 2) := by decide +kernel
theorem d_Su_addTimes_28 : decode b_Su_addTimes 28 = .ok (.aload_n 1, 1) := by decide +kernel
theorem d_Su_addTimes_29 : decode b_Su_addTimes 29 = .ok (.getfield 9, 3) := by decide +kernel
theorem d_Su_addTimes_32 : decode b_Su_addTimes 32 = .ok (.if_icmp .ge 46, 3) := by decide +kernel
theorem d_Su_addTimes_35 : decode b_Su_addTimes 35 = .ok (.aload_n 0, 1) := by decide +kernel
theorem d_Su_addTimes_36 : decode b_Su_addTimes 36 = .ok (.getfield 15, 3) := by decide +kernel
theorem d_Su_addTimes_39 : decode b_Su_addTimes 39 = .ok (.ifCond .ne 39, 3) := by decide +kernel
theorem d_Su_addTimes_42 : decode b_Su_addTimes 42 = .ok (.aload_n 0, 1) := by decide +kernel
theorem d_Su_addTimes_43 : decode b_Su_addTimes 43 = .ok (.aload_n 1, 1) := by decide +kernel
theorem d_Su_addTimes_44 : decode b_Su_addTimes 44 = .ok (.getfield 19, 3) := by decide +kernel
theorem d_Su_addTimes_47 : decode b_Su_addTimes 47 = .ok (.iload 6, 2) := by decide +kernel
theorem d_Su_addTimes_49 : decode b_Su_addTimes 49 = .ok (.iaload, 1) := by decide +kernel
theorem d_Su_addTimes_50 : decode b_Su_addTimes 50 = .ok (.aload_n 1, 1) := by decide +kernel
theorem d_Su_addTimes_51 : decode b_Su_addTimes 51 = .ok (.getfield 23, 3) := by decide +kernel
theorem d_Su_addTimes_54 : decode b_Su_addTimes 54 = .ok (.iload 6, 2) := by decide +kernel
theorem d_Su_addTimes_56 : decode b_Su_addTimes 56 = .ok (.laload, 1) := by decide +kernel
theorem d_Su_addTimes_57 : decode b_Su_addTimes 57 = .ok (.lload_n 2, 1) := by decide +kernel
theorem d_Su_addTimes_58 : decode b_Su_addTimes 58 = .ok (.lmul, 1) := by decide +kernel
theorem d_Su_addTimes_59 : decode b_Su_addTimes 59 = .ok (.aload_n 1, 1) := by decide +kernel
theorem d_Su_addTimes_60 : decode b_Su_addTimes 60 = .ok (.getfield 27, 3) := by decide +kernel
theorem d_Su_addTimes_63 : decode b_Su_addTimes 63 = .ok (.iload 6, 2) := by decide +kernel
theorem d_Su_addTimes_65 : decode b_Su_addTimes 65 = .ok (.laload, 1) := by decide +kernel
theorem d_Su_addTimes_66 : decode b_Su_addTimes 66 = .ok (.lload 4, 2) := by decide +kernel
theorem d_Su_addTimes_68 : decode b_Su_addTimes 68 = .ok (.lmul, 1) := by decide +kernel
theorem d_Su_addTimes_69 : decode b_Su_addTimes 69 = .ok (.invokevirtual 30, 3) := by decide +kernel
theorem d_Su_addTimes_72 : decode b_Su_addTimes 72 = .ok (.iinc 6 1, 3) := by decide +kernel
theorem d_Su_addTimes_75 : decode b_Su_addTimes 75 = .ok (.goto (-49), 3) := by decide +kernel
theorem d_Su_addTimes_78 : decode b_Su_addTimes 78 = .ok (.return_, 1) := by decide +kernel
abbrev w_Su_addTimes : List Cond := Cond.code y_Su_addTimes b_Su_addTimes 7 none :: gw
/-- addTimes: other is ω -/
def g_at (ω : St) (tp bt : Int64) : Nat → Int32 → St → St
  | 0, _, σ => σ
  | n + 1, i, σ => if ω.1 0 3 ≤ i then σ else (if σ.1 0 4 = 0 then g_at ω tp bt n (i + 1) (f_Su_addEntrys (ω.1 1 i.toNatClampNeg) (ω.2 2 i.toNatClampNeg * tp) (ω.2 3 i.toNatClampNeg * bt) σ) else σ)
def kg_at (ω : St) (tp bt : Int64) : Nat → Int32 → St → Prop
  | 0, _, _ => False
  | n + 1, i, σ => ¬ ω.1 0 3 ≤ i → σ.1 0 4 = 0 → vp_in i (ω.1 99 0).toNatClampNeg ∧ k_Su_addEntrys (ω.1 1 i.toNatClampNeg) (ω.2 2 i.toNatClampNeg * tp) (ω.2 3 i.toNatClampNeg * bt) σ ∧ kg_at ω tp bt n (i + 1) (f_Su_addEntrys (ω.1 1 i.toNatClampNeg) (ω.2 2 i.toNatClampNeg * tp) (ω.2 3 i.toNatClampNeg * bt) σ)
/-- its first row: too great already -/
def h_at (ω σ : St) : St := sF σ 0 4 (if σ.1 0 4 = 0 then (if ω.1 0 4 = 0 then 0 else 1) else 1)
def f_at (ω : St) (tp bt : Int64) (σ : St) : St := g_at ω tp bt 1000 0 (h_at ω σ)
def k_at (ω : St) (tp bt : Int64) (σ : St) : Prop := kg_at ω tp bt 1000 0 (h_at ω σ)
abbrev rm_Su_addTimes : Room := { frames := 2, cells := 0, slots := 0, locals := 64 }
set_option maxHeartbeats 4000000 in
set_option maxRecDepth 100000 in
theorem c_Su_addTimes (l : Launch) (D : va_G) (ty : Nat → ClassId) (h g : Nat → Nat) (px : va_W) (sa : Nat → Nat) (σ ω : St) (sz : Nat) (tp bt : Int64) (hk : k_at ω tp bt σ) : Met l y_Su_addTimes w_Su_addTimes rm_Su_addTimes (va_Pc [.ref (h 0), .ref (g 0), .long tp, .long bt] (fun U => U.heap.size = sz ∧ va_P D classes (Ws ty h σ (Ws ty g ω px)) U.heap ∧ va_K D classes (Ta ty) U ∧ NW U ∧ MK sa (va_A (Ws ty h σ (Ws ty g ω px)) sz) U U.heap ∧ va_D (fun _ => True) (Ws ty h σ (Ws ty g ω px)))) (va_Qv (fun u : St => u = f_at ω tp bt σ) (fun u t => va_P D classes (Ws ty h u (Ws ty g ω px)) t.heap) (va_A (Ws ty h σ (Ws ty g ω px)) sz)) 0 0 (va_A (Ws ty h σ (Ws ty g ω px)) sz) := by
  refine Met.ofW (cc := b_Su_addTimes) (maxL := 7) (ret := none) (by decide) rfl ?_
  intro p e s m args below meth c s₁ B hml hv
  obtain ⟨ha, hsz, hP, hK, hN, hM, hD0⟩ := hv
  have hx := B.exec
  have hb := B.bytes
  have hr := B.returns
  have hg : ∀ w ∈ gw, w.before args s = true := fun w h9 => atoms_spec (ws := w_Su_addTimes) B.pre w (List.mem_cons_of_mem _ h9)
  have hown : s.vm.findClass "ClauseLedger$Sum" = some m.cls := findClass_of_methodNamed B.named
  have hlocks := B.notSynchronized
  subst hsz
  have hD := hD0.self (sz := s.heap.size)
  generalize hAe : va_A (Ws ty h σ (Ws ty g ω px)) s.heap.size = A at hD hM ⊢
  have hA : ∀ q : Nat, s.heap.size ≤ q → A q := fun q h9 => by rw [← hAe]; exact Or.inr h9
  have hS : va_S A s.heap s.heap [] := va_S.rf
  have he : entryFrame m args 7 = entryFrame m ([.ref (h 0), .ref (g 0), .long tp, .long bt] : List Value).toArray 7 := by rw [ha]
  rw [he, lg_entry_eq]
  have hl := lv_entry ([.ref (h 0), .ref (g 0), .long tp, .long bt]) (n := 7) (Nat.le_of_ble_eq_true rfl)
  generalize (lg_sl ([.ref (h 0), .ref (g 0), .long tp, .long bt]) ++ List.replicate (7 - (lg_sl ([.ref (h 0), .ref (g 0), .long tp, .long bt])).length) Slot.unset).toArray = ls at hl ⊢
  have hl : lv_has ls 7 [(0, .ref (h 0)), (1, .ref (g 0)), (2, .long tp), (4, .long bt)] := hl
  generalize hv : f_at ω tp bt σ = v
  replace hv := hv.symm
  have B26 : ∀ (n : Nat) (H : Heap) (locs : List Loc) (ls : Array Slot) (i : Int32) (σ : St), v = g_at ω tp bt n i σ → kg_at ω tp bt n i σ → lv_has ls 7 [(0, .ref (h 0)), (1, .ref (g 0)), (2, .long tp), (4, .long bt), (6, .int i)] → va_P D classes (Ws ty h σ (Ws ty g ω px)) H → va_D A (Ws ty h σ (Ws ty g ω px)) → va_S A s.heap H locs → W p l e (headSpec w_Su_addTimes rm_Su_addTimes).room s m args below meth c H locs 0 0 (MQ below (va_Qv (fun u : St => u = v) (fun u t => va_P D classes (Ws ty h u (Ws ty g ω px)) t.heap) A) args s 0 0 A) (F0 m 26 ls []) := by
    intro n
    induction n with
    | zero => intro H locs ls i σ hv hk; exact hk.elim
    | succ n ih =>
      intro H locs ls i σ hv hk hl hP hD hS
      rw [g_at] at hv
      rw [kg_at] at hk
      refine lv_iload hx hb d_Su_addTimes_26 (lv_at hl 4 rfl) ?_
      refine lv_aload_n hx hb d_Su_addTimes_28 rfl (lv_at hl 1 rfl) ?_
      refine va_get (v := .int (ω.1 0 3)) (C := R_Su) (T := T_Su) (N := 5) hx hb hg in_Su hown hK hP 4 rfl rfl 3 (by decide) (hg _ m_194) (fun _ h9 => h9) rfl d_Su_addTimes_29 ?_
      refine lv_icmp_ge (tgt := 78) hx hb d_Su_addTimes_32 (by decide) (fun hc => ?_) (fun hc => ?_)
      · have hv := hv.trans (if_pos hc)
        exact W.vret hx hb hr (fun t ht hW => ⟨⟨_, rfl, hv.symm, by dsimp only; rw [ht]; exact hP⟩, hS.F ht⟩) hS.2.2 d_Su_addTimes_78
      · have hv := hv.trans (if_neg hc)
        have hk := hk hc
        refine lv_aload_n hx hb d_Su_addTimes_35 rfl (lv_at hl 0 rfl) ?_
        refine va_get (v := .int (σ.1 0 4)) (C := R_Su) (T := T_Su) (N := 5) hx hb hg in_Su hown hK hP 0 rfl rfl 4 (by decide) (hg _ m_195) (fun _ h9 => h9) rfl d_Su_addTimes_36 ?_
        refine lv_if_ne (tgt := 78) hx hb d_Su_addTimes_39 (by decide) (fun hc => ?_) (fun hc => ?_)
        · have hv := hv.trans (if_neg hc)
          exact W.vret hx hb hr (fun t ht hW => ⟨⟨_, rfl, hv.symm, by dsimp only; rw [ht]; exact hP⟩, hS.F ht⟩) hS.2.2 d_Su_addTimes_78
        · have hv := hv.trans (if_pos hc)
          obtain ⟨hin, hk0, hk⟩ := hk hc
          refine lv_aload_n hx hb d_Su_addTimes_42 rfl (lv_at hl 0 rfl) ?_
          refine lv_aload_n hx hb d_Su_addTimes_43 rfl (lv_at hl 1 rfl) ?_
          refine va_get (v := .ref (g 1)) (C := R_Su) (T := T_Su) (N := 5) hx hb hg in_Su hown hK hP 4 rfl rfl 0 (by decide) (hg _ m_191) (fun _ h9 => h9) rfl d_Su_addTimes_44 ?_
          refine lv_iload hx hb d_Su_addTimes_47 (lv_at hl 4 rfl) ?_
          refine va_iald hx hb hK hP 5 0 rfl rfl hin d_Su_addTimes_49 ?_
          refine lv_aload_n hx hb d_Su_addTimes_50 rfl (lv_at hl 1 rfl) ?_
          refine va_get (v := .ref (g 2)) (C := R_Su) (T := T_Su) (N := 5) hx hb hg in_Su hown hK hP 4 rfl rfl 1 (by decide) (hg _ m_192) (fun _ h9 => h9) rfl d_Su_addTimes_51 ?_
          refine lv_iload hx hb d_Su_addTimes_54 (lv_at hl 4 rfl) ?_
          refine va_lald hx hb hK hP 6 1 rfl rfl hin d_Su_addTimes_56 ?_
          refine lv_lload_n hx hb d_Su_addTimes_57 rfl (lv_at hl 2 rfl) ?_
          refine lv_lmul hx hb d_Su_addTimes_58 ?_
          refine lv_aload_n hx hb d_Su_addTimes_59 rfl (lv_at hl 1 rfl) ?_
          refine va_get (v := .ref (g 3)) (C := R_Su) (T := T_Su) (N := 5) hx hb hg in_Su hown hK hP 4 rfl rfl 2 (by decide) (hg _ m_193) (fun _ h9 => h9) rfl d_Su_addTimes_60 ?_
          refine lv_iload hx hb d_Su_addTimes_63 (lv_at hl 4 rfl) ?_
          refine va_lald hx hb hK hP 7 1 rfl rfl hin d_Su_addTimes_65 ?_
          refine lv_lload hx hb d_Su_addTimes_66 (lv_at hl 3 rfl) ?_
          refine lv_lmul hx hb d_Su_addTimes_68 ?_
          refine va_callv (va_runV (As := [.int (ω.1 1 i.toNatClampNeg), .long (ω.2 2 i.toNatClampNeg * tp), .long (ω.2 3 i.toNatClampNeg * bt)]) (rest := []) ⟨hx, hb, hml, hown, hg⟩ (c_Su_addEntrys l D ty h (Ws ty g ω px) sa σ H.size _ _ _ hk0) ⟨callB_of 3 hg (gw_C m_1123) rfl rfl rfl (hg _ m_9) (hg _ m_1146) hd_Su_addEntrys ⟨Nat.le_of_ble_eq_true rfl, Nat.le_of_ble_eq_true rfl⟩, hg _ m_1121, hg _ m_1122⟩ (zz_preVW hM hS hA hN hK hP hD 0 rfl rfl) rfl rfl hl.1 rfl (lv_room (Nat.le_of_ble_eq_true rfl)) d_Su_addTimes_69 ⟨Nat.le_of_ble_eq_true rfl, Nat.le_of_ble_eq_true rfl⟩) hS (fun q _ h => zz_free hD hS hA q h) (zz_free hD hS hA) (fun u69 t H locs ht hvm hp hP1 hz hk1 hS => ?_)
          rw [ht] at hP1
          rw [← hp] at hv hk
          have hD : va_D A (Ws ty h u69 (Ws ty g ω px)) := zz_D hD rfl
          have hP := hP1
          refine lv_iinc (k := 4) (v := i + 1) (lv' := [(6, .int (i + 1)), (0, .ref (h 0)), (1, .ref (g 0)), (2, .long tp), (4, .long bt)]) hx hb d_Su_addTimes_72 hl rfl (by first | rfl | simp [lit1, litm1]) (by decide) rfl (fun ls hl => ?_)
          refine lv_goto (tgt := 26) hx hb d_Su_addTimes_75 (by decide) ?_
          exact ih _ _ _ (i + 1) u69 hv hk (lv_sub hl [1, 2, 3, 4, 0] rfl) hP hD hS
  have B20 : ∀ (ls : Array Slot) (x : Int32), (x = 0 ∨ x = 1) → (if σ.1 0 4 = 0 then (if ω.1 0 4 = 0 then (0 : Int32) else 1) else 1) = x → lv_has ls 7 [(0, .ref (h 0)), (1, .ref (g 0)), (2, .long tp), (4, .long bt)] → W p l e (headSpec w_Su_addTimes rm_Su_addTimes).room s m args below meth c s.heap [] 0 0 (MQ below (va_Qv (fun u : St => u = v) (fun u t => va_P D classes (Ws ty h u (Ws ty g ω px)) t.heap) A) args s 0 0 A) (F0 m 20 ls [.int x, .ref (h 0)]) := by
    intro ls x hx01 hxe hl
    have hnb : narrow .boolean (.int x) = .int x ∧ fits .boolean (.int x) = true := by rcases hx01 with rfl | rfl <;> exact ⟨rfl, rfl⟩
    refine va_put (v := .int x) (ty := .boolean) (C := R_Su) (T := T_Su) (N := 5) hx hb hg in_Su ty_Su ok_Su nm_Su hown hK hP hD hS 0 rfl rfl 4 (by decide) (hg _ m_195) (fun _ h9 => h9) rfl (by decide +kernel) hnb.1 hnb.2 (Nat.le_of_ble_eq_true rfl) d_Su_addTimes_20 (fun H locs hP hD hS => ?_)
    have hP : va_P D classes (Ws ty h (sF σ 0 4 x) (Ws ty g ω px)) H := hP
    have hD : va_D A (Ws ty h (sF σ 0 4 x) (Ws ty g ω px)) := hD
    refine lv_iconst (v := 0) hx hb d_Su_addTimes_23 (by decide) ?_
    refine lv_istore (lv' := [(6, .int 0), (0, .ref (h 0)), (1, .ref (g 0)), (2, .long tp), (4, .long bt)]) hx hb d_Su_addTimes_24 hl (by decide) rfl (fun ls hl => ?_)
    have ee : h_at ω σ = sF σ 0 4 x := by unfold h_at; rw [hxe]
    unfold f_at at hv
    unfold k_at at hk
    rw [ee] at hv hk
    exact B26 1000 _ _ _ 0 _ hv hk (lv_sub hl [1, 2, 3, 4, 0] rfl) hP hD hS
  refine lv_aload_n hx hb d_Su_addTimes_0 rfl (lv_at hl 0 rfl) ?_
  refine lv_aload_n hx hb d_Su_addTimes_1 rfl (lv_at hl 0 rfl) ?_
  refine va_get (v := .int (σ.1 0 4)) (C := R_Su) (T := T_Su) (N := 5) hx hb hg in_Su hown hK hP 0 rfl rfl 4 (by decide) (hg _ m_195) (fun _ h9 => h9) rfl d_Su_addTimes_2 ?_
  refine lv_if_ne (tgt := 15) hx hb d_Su_addTimes_5 (by decide) (fun hc => ?_) (fun hc => ?_)
  · refine lv_iconst (v := 1) hx hb d_Su_addTimes_15 (by decide) ?_
    refine lv_goto (tgt := 20) hx hb d_Su_addTimes_16 (by decide) ?_
    exact B20 _ 1 (Or.inr rfl) (if_neg hc) hl
  · refine lv_aload_n hx hb d_Su_addTimes_8 rfl (lv_at hl 1 rfl) ?_
    refine va_get (v := .int (ω.1 0 4)) (C := R_Su) (T := T_Su) (N := 5) hx hb hg in_Su hown hK hP 4 rfl rfl 4 (by decide) (hg _ m_195) (fun _ h9 => h9) rfl d_Su_addTimes_9 ?_
    refine lv_if_eq (tgt := 19) hx hb d_Su_addTimes_12 (by decide) (fun hc2 => ?_) (fun hc2 => ?_)
    · refine lv_iconst (v := 0) hx hb d_Su_addTimes_19 (by decide) ?_
      exact B20 _ 0 (Or.inl rfl) ((if_pos hc).trans (if_pos hc2)) hl
    · refine lv_iconst (v := 1) hx hb d_Su_addTimes_15 (by decide) ?_
      refine lv_goto (tgt := 20) hx hb d_Su_addTimes_16 (by decide) ?_
      exact B20 _ 1 (Or.inr rfl) ((if_pos hc).trans (if_neg hc2)) hl
