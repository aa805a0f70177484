theorem gt_1 {i : Nat} {w : Cond} (h : tables_1_1[i]? = some w) (hg : goodWord w = true) : w ∈ gw := by
  have h9 := List.mem_of_getElem? h
  exact List.mem_filter.mpr ⟨List.mem_append_right _ (List.mem_append_left _ h9), hg⟩
theorem gt_2 {i : Nat} {w : Cond} (h : tables_1_2[i]? = some w) (hg : goodWord w = true) : w ∈ gw := by
  have h9 := List.mem_of_getElem? h
  exact List.mem_filter.mpr ⟨List.mem_append_right _ (List.mem_append_right _ (List.mem_append_left _ h9)), hg⟩
theorem gt_3 {i : Nat} {w : Cond} (h : tables_1_3[i]? = some w) (hg : goodWord w = true) : w ∈ gw := by
  have h9 := List.mem_of_getElem? h
  exact List.mem_filter.mpr ⟨List.mem_append_right _ (List.mem_append_right _ (List.mem_append_right _ (List.mem_append_left _ h9))), hg⟩
theorem gt_4 {i : Nat} {w : Cond} (h : tables_1_4[i]? = some w) (hg : goodWord w = true) : w ∈ gw := by
  have h9 := List.mem_of_getElem? h
  exact List.mem_filter.mpr ⟨List.mem_append_right _ (List.mem_append_right _ (List.mem_append_right _ (List.mem_append_right _ (List.mem_append_left _ h9)))), hg⟩
theorem gt_5 {i : Nat} {w : Cond} (h : tables_1_5[i]? = some w) (hg : goodWord w = true) : w ∈ gw := by
  have h9 := List.mem_of_getElem? h
  exact List.mem_filter.mpr ⟨List.mem_append_right _ (List.mem_append_right _ (List.mem_append_right _ (List.mem_append_right _ (List.mem_append_right _ (List.mem_append_left _ h9))))), hg⟩
theorem gt_6 {i : Nat} {w : Cond} (h : tables_1_6[i]? = some w) (hg : goodWord w = true) : w ∈ gw := by
  have h9 := List.mem_of_getElem? h
  exact List.mem_filter.mpr ⟨List.mem_append_right _ (List.mem_append_right _ (List.mem_append_right _ (List.mem_append_right _ (List.mem_append_right _ (List.mem_append_right _ (List.mem_append_left _ h9)))))), hg⟩
theorem gt_7 {i : Nat} {w : Cond} (h : tables_1_7[i]? = some w) (hg : goodWord w = true) : w ∈ gw := by
  have h9 := List.mem_of_getElem? h
  exact List.mem_filter.mpr ⟨List.mem_append_right _ (List.mem_append_right _ (List.mem_append_right _ (List.mem_append_right _ (List.mem_append_right _ (List.mem_append_right _ (List.mem_append_right _ (h9))))))), hg⟩
theorem m_0 : (Cond.initialized "ClauseLedgerLaw") ∈ gw := gt_1 (i := 0) rfl rfl
theorem m_1 : (Cond.initialized "ClauseLedger") ∈ gw := gt_1 (i := 1) rfl rfl
theorem m_2 : (Cond.initialized "ClauseLedger$Signature") ∈ gw := gt_1 (i := 2) rfl rfl
theorem m_3 : (Cond.initialized "ClauseLedger$Terms") ∈ gw := gt_1 (i := 3) rfl rfl
theorem m_4 : (Cond.initialized "ClauseLedger$Draft") ∈ gw := gt_1 (i := 4) rfl rfl
theorem m_5 : (Cond.initialized "ClauseLedger$Reader") ∈ gw := gt_1 (i := 5) rfl rfl
theorem m_6 : (Cond.initialized "ClauseLedger$Writer") ∈ gw := gt_1 (i := 6) rfl rfl
theorem m_7 : (Cond.initialized "ClauseLedger$Putting") ∈ gw := gt_1 (i := 7) rfl rfl
theorem m_8 : (Cond.initialized "ClauseLedger$Balance") ∈ gw := gt_1 (i := 8) rfl rfl
theorem m_9 : (Cond.initialized "ClauseLedger$Sum") ∈ gw := gt_1 (i := 9) rfl rfl
theorem m_10 : (Cond.initialized "ClauseLedger$Row") ∈ gw := gt_1 (i := 10) rfl rfl
theorem m_11 : (Cond.initialized "ClauseLedger$Scopes") ∈ gw := gt_1 (i := 11) rfl rfl
theorem m_12 : (Cond.initialized "ClauseLedger$Steps") ∈ gw := gt_1 (i := 12) rfl rfl
theorem m_13 : (Cond.initialized "ClauseLedgerModel") ∈ gw := gt_1 (i := 13) rfl rfl
theorem m_14 : (Cond.initialized "java/lang/Math") ∈ gw := gt_1 (i := 14) rfl rfl
theorem m_15 : (Cond.initialized "java/lang/String") ∈ gw := gt_1 (i := 15) rfl rfl
theorem m_16 : (Cond.initialized "java/lang/StringLatin1") ∈ gw := gt_1 (i := 16) rfl rfl
theorem m_18 : (Cond.initialized "jdk/internal/util/Preconditions") ∈ gw := gt_1 (i := 18) rfl rfl
theorem m_20 : (Cond.initialized "java/lang/Throwable") ∈ gw := gt_1 (i := 20) rfl rfl
theorem m_23 : (Cond.initialized "java/lang/IllegalArgumentException") ∈ gw := gt_1 (i := 23) rfl rfl
theorem m_24 : (Cond.initialized "java/lang/ArithmeticException") ∈ gw := gt_1 (i := 24) rfl rfl
theorem m_25 : (Cond.initialized "java/lang/IllegalStateException") ∈ gw := gt_1 (i := 25) rfl rfl
theorem m_26 : (Cond.initialized "java/lang/IndexOutOfBoundsException") ∈ gw := gt_1 (i := 26) rfl rfl
theorem m_27 : (Cond.initialized "java/lang/Long") ∈ gw := gt_1 (i := 27) rfl rfl
theorem m_28 : (Cond.initialized "java/util/Arrays") ∈ gw := gt_1 (i := 28) rfl rfl
theorem m_29 : (Cond.classLink "ClauseLedgerLaw" 8 "ClauseLedger") ∈ gw := gt_1 (i := 29) rfl rfl
theorem m_30 : (Cond.instantiable "ClauseLedger" 11) ∈ gw := gt_1 (i := 30) rfl rfl
theorem m_31 : (Cond.methodLink "ClauseLedgerLaw" 61 ⟨"ClauseLedger", "<init>", "()V"⟩) ∈ gw := gt_1 (i := 31) rfl rfl
theorem m_32 : (Cond.instanceMethod ⟨"ClauseLedger", "<init>", "()V"⟩) ∈ gw := gt_1 (i := 32) rfl rfl
theorem m_33 : (Cond.code ⟨"ClauseLedger", "<init>", "()V"⟩ prog_1_method_1_code 1 none) ∈ gw := gt_1 (i := 33) rfl rfl
theorem m_34 : (Cond.methodLink "ClauseLedger" 1 ⟨"java/lang/Object", "<init>", "()V"⟩) ∈ gw := gt_1 (i := 34) rfl rfl
theorem m_35 : (Cond.instanceMethod ⟨"java/lang/Object", "<init>", "()V"⟩) ∈ gw := gt_1 (i := 35) rfl rfl
theorem m_36 : (Cond.code ⟨"java/lang/Object", "<init>", "()V"⟩ object_method_1_code 1 none) ∈ gw := gt_1 (i := 36) rfl rfl
theorem m_37 : (Cond.classLink "ClauseLedger" 7 "ClauseLedger$Signature") ∈ gw := gt_1 (i := 37) rfl rfl
theorem m_38 : (Cond.instantiable "ClauseLedger$Signature" 6) ∈ gw := gt_1 (i := 38) rfl rfl
theorem m_40 : (Cond.instanceMethod ⟨"ClauseLedger$Signature", "<init>", "()V"⟩) ∈ gw := gt_1 (i := 40) rfl rfl
theorem m_41 : (Cond.code ⟨"ClauseLedger$Signature", "<init>", "()V"⟩ prog_8_method_1_code 1 none) ∈ gw := gt_1 (i := 41) rfl rfl
theorem m_42 : (Cond.methodLink "ClauseLedger$Signature" 3 ⟨"java/lang/Object", "<init>", "()V"⟩) ∈ gw := gt_1 (i := 42) rfl rfl
theorem m_43 : (Cond.fieldLink "ClauseLedger$Signature" 11 "ClauseLedger$Signature" "sorts" "[I") ∈ gw := gt_1 (i := 43) rfl rfl
theorem m_44 : (Cond.fieldLink "ClauseLedger$Signature" 15 "ClauseLedger$Signature" "firsts" "[I") ∈ gw := gt_1 (i := 44) rfl rfl
theorem m_45 : (Cond.fieldLink "ClauseLedger$Signature" 18 "ClauseLedger$Signature" "seconds" "[I") ∈ gw := gt_1 (i := 45) rfl rfl
theorem m_46 : (Cond.fieldLink "ClauseLedger$Signature" 21 "ClauseLedger$Signature" "variables" "[I") ∈ gw := gt_1 (i := 46) rfl rfl
theorem m_47 : (Cond.fieldLink "ClauseLedger$Signature" 24 "ClauseLedger$Signature" "sortCount" "I") ∈ gw := gt_1 (i := 47) rfl rfl
theorem m_48 : (Cond.fieldLink "ClauseLedger$Signature" 28 "ClauseLedger$Signature" "symbolCount" "I") ∈ gw := gt_1 (i := 48) rfl rfl
theorem m_49 : (Cond.laysFinal "ClauseLedger$Signature" "ClauseLedger$Signature" "sorts" "[I") ∈ gw := gt_1 (i := 49) rfl rfl
theorem m_51 : (Cond.laysFinal "ClauseLedger$Signature" "ClauseLedger$Signature" "firsts" "[I") ∈ gw := gt_1 (i := 51) rfl rfl
theorem m_53 : (Cond.laysFinal "ClauseLedger$Signature" "ClauseLedger$Signature" "seconds" "[I") ∈ gw := gt_1 (i := 53) rfl rfl
theorem m_55 : (Cond.laysFinal "ClauseLedger$Signature" "ClauseLedger$Signature" "variables" "[I") ∈ gw := gt_1 (i := 55) rfl rfl
theorem m_57 : (Cond.lays "ClauseLedger$Signature" "ClauseLedger$Signature" "sortCount" "I") ∈ gw := gt_1 (i := 57) rfl rfl
theorem m_59 : (Cond.lays "ClauseLedger$Signature" "ClauseLedger$Signature" "symbolCount" "I") ∈ gw := gt_1 (i := 59) rfl rfl
theorem m_62 : (Cond.arrayClass .int) ∈ gw := gt_1 (i := 62) rfl rfl
theorem m_63 : (Cond.classLink "ClauseLedger" 16 "ClauseLedger$Terms") ∈ gw := gt_1 (i := 63) rfl rfl
theorem m_64 : (Cond.instantiable "ClauseLedger$Terms" 14) ∈ gw := gt_1 (i := 64) rfl rfl
theorem m_66 : (Cond.instanceMethod ⟨"ClauseLedger$Terms", "<init>", "()V"⟩) ∈ gw := gt_1 (i := 66) rfl rfl
theorem m_67 : (Cond.code ⟨"ClauseLedger$Terms", "<init>", "()V"⟩ prog_11_method_1_code 1 none) ∈ gw := gt_1 (i := 67) rfl rfl
theorem m_68 : (Cond.methodLink "ClauseLedger$Terms" 3 ⟨"java/lang/Object", "<init>", "()V"⟩) ∈ gw := gt_1 (i := 68) rfl rfl
theorem m_69 : (Cond.fieldLink "ClauseLedger$Terms" 11 "ClauseLedger$Terms" "kinds" "[I") ∈ gw := gt_1 (i := 69) rfl rfl
theorem m_70 : (Cond.fieldLink "ClauseLedger$Terms" 15 "ClauseLedger$Terms" "sorts" "[I") ∈ gw := gt_1 (i := 70) rfl rfl
theorem m_71 : (Cond.fieldLink "ClauseLedger$Terms" 18 "ClauseLedger$Terms" "names" "[I") ∈ gw := gt_1 (i := 71) rfl rfl
theorem m_72 : (Cond.fieldLink "ClauseLedger$Terms" 21 "ClauseLedger$Terms" "firsts" "[I") ∈ gw := gt_1 (i := 72) rfl rfl
theorem m_73 : (Cond.fieldLink "ClauseLedger$Terms" 24 "ClauseLedger$Terms" "seconds" "[I") ∈ gw := gt_1 (i := 73) rfl rfl
theorem m_74 : (Cond.fieldLink "ClauseLedger$Terms" 27 "ClauseLedger$Terms" "tops" "[I") ∈ gw := gt_1 (i := 74) rfl rfl
theorem m_75 : (Cond.fieldLink "ClauseLedger$Terms" 30 "ClauseLedger$Terms" "bottoms" "[I") ∈ gw := gt_1 (i := 75) rfl rfl
theorem m_76 : (Cond.fieldLink "ClauseLedger$Terms" 33 "ClauseLedger$Terms" "depths" "[I") ∈ gw := gt_1 (i := 76) rfl rfl
theorem m_77 : (Cond.fieldLink "ClauseLedger$Terms" 36 "ClauseLedger$Terms" "lengths" "[I") ∈ gw := gt_1 (i := 77) rfl rfl
theorem m_78 : (Cond.fieldLink "ClauseLedger$Terms" 39 "ClauseLedger$Terms" "frees" "[I") ∈ gw := gt_1 (i := 78) rfl rfl
theorem m_79 : (Cond.fieldLink "ClauseLedger$Terms" 42 "ClauseLedger$Terms" "keys" "[J") ∈ gw := gt_1 (i := 79) rfl rfl
theorem m_80 : (Cond.fieldLink "ClauseLedger$Terms" 46 "ClauseLedger$Terms" "count" "I") ∈ gw := gt_1 (i := 80) rfl rfl
theorem m_81 : (Cond.fieldLink "ClauseLedger$Terms" 50 "ClauseLedger$Terms" "kept" "I") ∈ gw := gt_1 (i := 81) rfl rfl
theorem m_82 : (Cond.fieldLink "ClauseLedger$Terms" 53 "ClauseLedger$Terms" "deep" "Z") ∈ gw := gt_1 (i := 82) rfl rfl
theorem m_83 : (Cond.laysFinal "ClauseLedger$Terms" "ClauseLedger$Terms" "kinds" "[I") ∈ gw := gt_1 (i := 83) rfl rfl
theorem m_85 : (Cond.laysFinal "ClauseLedger$Terms" "ClauseLedger$Terms" "sorts" "[I") ∈ gw := gt_1 (i := 85) rfl rfl
theorem m_87 : (Cond.laysFinal "ClauseLedger$Terms" "ClauseLedger$Terms" "names" "[I") ∈ gw := gt_1 (i := 87) rfl rfl
theorem m_89 : (Cond.laysFinal "ClauseLedger$Terms" "ClauseLedger$Terms" "firsts" "[I") ∈ gw := gt_1 (i := 89) rfl rfl
theorem m_91 : (Cond.laysFinal "ClauseLedger$Terms" "ClauseLedger$Terms" "seconds" "[I") ∈ gw := gt_1 (i := 91) rfl rfl
theorem m_93 : (Cond.laysFinal "ClauseLedger$Terms" "ClauseLedger$Terms" "tops" "[I") ∈ gw := gt_1 (i := 93) rfl rfl
theorem m_95 : (Cond.laysFinal "ClauseLedger$Terms" "ClauseLedger$Terms" "bottoms" "[I") ∈ gw := gt_1 (i := 95) rfl rfl
theorem m_97 : (Cond.laysFinal "ClauseLedger$Terms" "ClauseLedger$Terms" "depths" "[I") ∈ gw := gt_1 (i := 97) rfl rfl
theorem m_99 : (Cond.laysFinal "ClauseLedger$Terms" "ClauseLedger$Terms" "lengths" "[I") ∈ gw := gt_1 (i := 99) rfl rfl
theorem m_101 : (Cond.laysFinal "ClauseLedger$Terms" "ClauseLedger$Terms" "frees" "[I") ∈ gw := gt_1 (i := 101) rfl rfl
theorem m_103 : (Cond.laysFinal "ClauseLedger$Terms" "ClauseLedger$Terms" "keys" "[J") ∈ gw := gt_1 (i := 103) rfl rfl
theorem m_105 : (Cond.lays "ClauseLedger$Terms" "ClauseLedger$Terms" "count" "I") ∈ gw := gt_1 (i := 105) rfl rfl
theorem m_107 : (Cond.lays "ClauseLedger$Terms" "ClauseLedger$Terms" "kept" "I") ∈ gw := gt_1 (i := 107) rfl rfl
theorem m_109 : (Cond.lays "ClauseLedger$Terms" "ClauseLedger$Terms" "deep" "Z") ∈ gw := gt_1 (i := 109) rfl rfl
theorem m_112 : (Cond.arrayClass .long) ∈ gw := gt_1 (i := 112) rfl rfl
theorem m_113 : (Cond.classLink "ClauseLedger" 23 "ClauseLedger$Draft") ∈ gw := gt_1 (i := 113) rfl rfl
theorem m_114 : (Cond.instantiable "ClauseLedger$Draft" 2) ∈ gw := gt_1 (i := 114) rfl rfl
theorem m_116 : (Cond.instanceMethod ⟨"ClauseLedger$Draft", "<init>", "()V"⟩) ∈ gw := gt_1 (i := 116) rfl rfl
theorem m_117 : (Cond.code ⟨"ClauseLedger$Draft", "<init>", "()V"⟩ prog_3_method_1_code 1 none) ∈ gw := gt_1 (i := 117) rfl rfl
theorem m_118 : (Cond.methodLink "ClauseLedger$Draft" 1 ⟨"java/lang/Object", "<init>", "()V"⟩) ∈ gw := gt_1 (i := 118) rfl rfl
theorem m_119 : (Cond.fieldLink "ClauseLedger$Draft" 9 "ClauseLedger$Draft" "letters" "[C") ∈ gw := gt_1 (i := 119) rfl rfl
theorem m_120 : (Cond.fieldLink "ClauseLedger$Draft" 13 "ClauseLedger$Draft" "size" "I") ∈ gw := gt_1 (i := 120) rfl rfl
theorem m_121 : (Cond.laysFinal "ClauseLedger$Draft" "ClauseLedger$Draft" "letters" "[C") ∈ gw := gt_1 (i := 121) rfl rfl
theorem m_123 : (Cond.lays "ClauseLedger$Draft" "ClauseLedger$Draft" "size" "I") ∈ gw := gt_1 (i := 123) rfl rfl
theorem m_126 : (Cond.arrayClass .char) ∈ gw := gt_1 (i := 126) rfl rfl
theorem m_127 : (Cond.classLink "ClauseLedger" 30 "ClauseLedger$Reader") ∈ gw := gt_1 (i := 127) rfl rfl
theorem m_128 : (Cond.instantiable "ClauseLedger$Reader" 4) ∈ gw := gt_1 (i := 128) rfl rfl
theorem m_129 : (Cond.methodLink "ClauseLedger" 32 ⟨"ClauseLedger$Reader", "<init>", "(LClauseLedger$Draft;LClauseLedger$Signature;LClauseLedger$Terms;)V"⟩) ∈ gw := gt_1 (i := 129) rfl rfl
theorem m_130 : (Cond.instanceMethod ⟨"ClauseLedger$Reader", "<init>", "(LClauseLedger$Draft;LClauseLedger$Signature;LClauseLedger$Terms;)V"⟩) ∈ gw := gt_1 (i := 130) rfl rfl
theorem m_131 : (Cond.code ⟨"ClauseLedger$Reader", "<init>", "(LClauseLedger$Draft;LClauseLedger$Signature;LClauseLedger$Terms;)V"⟩ prog_5_method_1_code 4 none) ∈ gw := gt_1 (i := 131) rfl rfl
theorem m_132 : (Cond.methodLink "ClauseLedger$Reader" 3 ⟨"java/lang/Object", "<init>", "()V"⟩) ∈ gw := gt_1 (i := 132) rfl rfl
theorem m_133 : (Cond.fieldLink "ClauseLedger$Reader" 15 "ClauseLedger$Reader" "draft" "LClauseLedger$Draft;") ∈ gw := gt_1 (i := 133) rfl rfl
theorem m_134 : (Cond.fieldLink "ClauseLedger$Reader" 19 "ClauseLedger$Reader" "signature" "LClauseLedger$Signature;") ∈ gw := gt_1 (i := 134) rfl rfl
theorem m_135 : (Cond.fieldLink "ClauseLedger$Reader" 23 "ClauseLedger$Reader" "terms" "LClauseLedger$Terms;") ∈ gw := gt_1 (i := 135) rfl rfl
theorem m_136 : (Cond.fieldLink "ClauseLedger$Reader" 9 "ClauseLedger$Reader" "position" "I") ∈ gw := gt_1 (i := 136) rfl rfl
theorem m_137 : (Cond.laysFinal "ClauseLedger$Reader" "ClauseLedger$Reader" "draft" "LClauseLedger$Draft;") ∈ gw := gt_1 (i := 137) rfl rfl
theorem m_139 : (Cond.laysFinal "ClauseLedger$Reader" "ClauseLedger$Reader" "signature" "LClauseLedger$Signature;") ∈ gw := gt_1 (i := 139) rfl rfl
theorem m_141 : (Cond.laysFinal "ClauseLedger$Reader" "ClauseLedger$Reader" "terms" "LClauseLedger$Terms;") ∈ gw := gt_1 (i := 141) rfl rfl
theorem m_143 : (Cond.lays "ClauseLedger$Reader" "ClauseLedger$Reader" "position" "I") ∈ gw := gt_1 (i := 143) rfl rfl
theorem m_146 : (Cond.classLink "ClauseLedger" 39 "ClauseLedger$Writer") ∈ gw := gt_1 (i := 146) rfl rfl
theorem m_147 : (Cond.instantiable "ClauseLedger$Writer" 1) ∈ gw := gt_1 (i := 147) rfl rfl
theorem m_148 : (Cond.methodLink "ClauseLedger" 41 ⟨"ClauseLedger$Writer", "<init>", "(LClauseLedger$Terms;)V"⟩) ∈ gw := gt_1 (i := 148) rfl rfl
theorem m_149 : (Cond.instanceMethod ⟨"ClauseLedger$Writer", "<init>", "(LClauseLedger$Terms;)V"⟩) ∈ gw := gt_1 (i := 149) rfl rfl
theorem m_150 : (Cond.code ⟨"ClauseLedger$Writer", "<init>", "(LClauseLedger$Terms;)V"⟩ prog_12_method_1_code 2 none) ∈ gw := gt_1 (i := 150) rfl rfl
theorem m_151 : (Cond.methodLink "ClauseLedger$Writer" 3 ⟨"java/lang/Object", "<init>", "()V"⟩) ∈ gw := gt_1 (i := 151) rfl rfl
theorem m_152 : (Cond.fieldLink "ClauseLedger$Writer" 9 "ClauseLedger$Writer" "terms" "LClauseLedger$Terms;") ∈ gw := gt_1 (i := 152) rfl rfl
theorem m_153 : (Cond.laysFinal "ClauseLedger$Writer" "ClauseLedger$Writer" "terms" "LClauseLedger$Terms;") ∈ gw := gt_1 (i := 153) rfl rfl
theorem m_156 : (Cond.classLink "ClauseLedger" 48 "ClauseLedger$Putting") ∈ gw := gt_1 (i := 156) rfl rfl
theorem m_157 : (Cond.instantiable "ClauseLedger$Putting" 5) ∈ gw := gt_1 (i := 157) rfl rfl
theorem m_158 : (Cond.methodLink "ClauseLedger" 50 ⟨"ClauseLedger$Putting", "<init>", "(LClauseLedger$Terms;)V"⟩) ∈ gw := gt_1 (i := 158) rfl rfl
theorem m_159 : (Cond.instanceMethod ⟨"ClauseLedger$Putting", "<init>", "(LClauseLedger$Terms;)V"⟩) ∈ gw := gt_1 (i := 159) rfl rfl
theorem m_160 : (Cond.code ⟨"ClauseLedger$Putting", "<init>", "(LClauseLedger$Terms;)V"⟩ prog_4_method_1_code 2 none) ∈ gw := gt_1 (i := 160) rfl rfl
theorem m_161 : (Cond.methodLink "ClauseLedger$Putting" 3 ⟨"java/lang/Object", "<init>", "()V"⟩) ∈ gw := gt_1 (i := 161) rfl rfl
theorem m_162 : (Cond.fieldLink "ClauseLedger$Putting" 26 "ClauseLedger$Putting" "terms" "LClauseLedger$Terms;") ∈ gw := gt_1 (i := 162) rfl rfl
theorem m_163 : (Cond.fieldLink "ClauseLedger$Putting" 9 "ClauseLedger$Putting" "results" "[I") ∈ gw := gt_1 (i := 163) rfl rfl
theorem m_164 : (Cond.fieldLink "ClauseLedger$Putting" 15 "ClauseLedger$Putting" "variable" "I") ∈ gw := gt_1 (i := 164) rfl rfl
theorem m_165 : (Cond.fieldLink "ClauseLedger$Putting" 19 "ClauseLedger$Putting" "value" "I") ∈ gw := gt_1 (i := 165) rfl rfl
theorem m_166 : (Cond.fieldLink "ClauseLedger$Putting" 22 "ClauseLedger$Putting" "failed" "Z") ∈ gw := gt_1 (i := 166) rfl rfl
theorem m_167 : (Cond.laysFinal "ClauseLedger$Putting" "ClauseLedger$Putting" "terms" "LClauseLedger$Terms;") ∈ gw := gt_1 (i := 167) rfl rfl
theorem m_169 : (Cond.laysFinal "ClauseLedger$Putting" "ClauseLedger$Putting" "results" "[I") ∈ gw := gt_1 (i := 169) rfl rfl
theorem m_171 : (Cond.lays "ClauseLedger$Putting" "ClauseLedger$Putting" "variable" "I") ∈ gw := gt_1 (i := 171) rfl rfl
theorem m_173 : (Cond.lays "ClauseLedger$Putting" "ClauseLedger$Putting" "value" "I") ∈ gw := gt_1 (i := 173) rfl rfl
theorem m_175 : (Cond.lays "ClauseLedger$Putting" "ClauseLedger$Putting" "failed" "Z") ∈ gw := gt_1 (i := 175) rfl rfl
theorem m_178 : (Cond.classLink "ClauseLedger" 55 "ClauseLedger$Balance") ∈ gw := gt_1 (i := 178) rfl rfl
theorem m_179 : (Cond.instantiable "ClauseLedger$Balance" 6) ∈ gw := gt_1 (i := 179) rfl rfl
theorem m_180 : (Cond.methodLink "ClauseLedger" 57 ⟨"ClauseLedger$Balance", "<init>", "(LClauseLedger$Terms;)V"⟩) ∈ gw := gt_1 (i := 180) rfl rfl
theorem m_181 : (Cond.instanceMethod ⟨"ClauseLedger$Balance", "<init>", "(LClauseLedger$Terms;)V"⟩) ∈ gw := gt_1 (i := 181) rfl rfl
theorem m_182 : (Cond.code ⟨"ClauseLedger$Balance", "<init>", "(LClauseLedger$Terms;)V"⟩ prog_2_method_1_code 2 none) ∈ gw := gt_1 (i := 182) rfl rfl
theorem m_183 : (Cond.methodLink "ClauseLedger$Balance" 3 ⟨"java/lang/Object", "<init>", "()V"⟩) ∈ gw := gt_1 (i := 183) rfl rfl
theorem m_184 : (Cond.classLink "ClauseLedger$Balance" 9 "ClauseLedger$Sum") ∈ gw := gt_1 (i := 184) rfl rfl
theorem m_186 : (Cond.instantiable "ClauseLedger$Sum" 5) ∈ gw := gt_1 (i := 186) rfl rfl
theorem m_187 : (Cond.methodLink "ClauseLedger$Balance" 17 ⟨"ClauseLedger$Sum", "<init>", "(I)V"⟩) ∈ gw := gt_1 (i := 187) rfl rfl
theorem m_188 : (Cond.instanceMethod ⟨"ClauseLedger$Sum", "<init>", "(I)V"⟩) ∈ gw := gt_1 (i := 188) rfl rfl
theorem m_189 : (Cond.code ⟨"ClauseLedger$Sum", "<init>", "(I)V"⟩ prog_10_method_1_code 2 none) ∈ gw := gt_1 (i := 189) rfl rfl
theorem m_190 : (Cond.methodLink "ClauseLedger$Sum" 3 ⟨"java/lang/Object", "<init>", "()V"⟩) ∈ gw := gt_1 (i := 190) rfl rfl
theorem m_191 : (Cond.fieldLink "ClauseLedger$Sum" 19 "ClauseLedger$Sum" "atoms" "[I") ∈ gw := gt_1 (i := 191) rfl rfl
theorem m_192 : (Cond.fieldLink "ClauseLedger$Sum" 23 "ClauseLedger$Sum" "tops" "[J") ∈ gw := gt_1 (i := 192) rfl rfl
theorem m_193 : (Cond.fieldLink "ClauseLedger$Sum" 27 "ClauseLedger$Sum" "bottoms" "[J") ∈ gw := gt_1 (i := 193) rfl rfl
theorem m_194 : (Cond.fieldLink "ClauseLedger$Sum" 9 "ClauseLedger$Sum" "size" "I") ∈ gw := gt_1 (i := 194) rfl rfl
theorem m_195 : (Cond.fieldLink "ClauseLedger$Sum" 15 "ClauseLedger$Sum" "tooGreat" "Z") ∈ gw := gt_1 (i := 195) rfl rfl
theorem m_196 : (Cond.laysFinal "ClauseLedger$Sum" "ClauseLedger$Sum" "atoms" "[I") ∈ gw := gt_1 (i := 196) rfl rfl
theorem m_198 : (Cond.laysFinal "ClauseLedger$Sum" "ClauseLedger$Sum" "tops" "[J") ∈ gw := gt_1 (i := 198) rfl rfl
theorem m_200 : (Cond.laysFinal "ClauseLedger$Sum" "ClauseLedger$Sum" "bottoms" "[J") ∈ gw := gt_1 (i := 200) rfl rfl
theorem m_202 : (Cond.lays "ClauseLedger$Sum" "ClauseLedger$Sum" "size" "I") ∈ gw := gt_1 (i := 202) rfl rfl
theorem m_204 : (Cond.lays "ClauseLedger$Sum" "ClauseLedger$Sum" "tooGreat" "Z") ∈ gw := gt_1 (i := 204) rfl rfl
theorem m_207 : (Cond.fieldLink "ClauseLedger$Balance" 34 "ClauseLedger$Balance" "terms" "LClauseLedger$Terms;") ∈ gw := gt_1 (i := 207) rfl rfl
theorem m_208 : (Cond.fieldLink "ClauseLedger$Balance" 11 "ClauseLedger$Balance" "sums" "[LClauseLedger$Sum;") ∈ gw := gt_1 (i := 208) rfl rfl
theorem m_209 : (Cond.fieldLink "ClauseLedger$Balance" 20 "ClauseLedger$Balance" "nothing" "LClauseLedger$Sum;") ∈ gw := gt_1 (i := 209) rfl rfl
theorem m_210 : (Cond.fieldLink "ClauseLedger$Balance" 24 "ClauseLedger$Balance" "excess" "LClauseLedger$Sum;") ∈ gw := gt_1 (i := 210) rfl rfl
theorem m_211 : (Cond.fieldLink "ClauseLedger$Balance" 27 "ClauseLedger$Balance" "total" "LClauseLedger$Sum;") ∈ gw := gt_1 (i := 211) rfl rfl
theorem m_212 : (Cond.fieldLink "ClauseLedger$Balance" 30 "ClauseLedger$Balance" "strict" "Z") ∈ gw := gt_1 (i := 212) rfl rfl
theorem m_213 : (Cond.laysFinal "ClauseLedger$Balance" "ClauseLedger$Balance" "terms" "LClauseLedger$Terms;") ∈ gw := gt_1 (i := 213) rfl rfl
theorem m_215 : (Cond.laysFinal "ClauseLedger$Balance" "ClauseLedger$Balance" "sums" "[LClauseLedger$Sum;") ∈ gw := gt_1 (i := 215) rfl rfl
theorem m_217 : (Cond.laysFinal "ClauseLedger$Balance" "ClauseLedger$Balance" "nothing" "LClauseLedger$Sum;") ∈ gw := gt_1 (i := 217) rfl rfl
theorem m_219 : (Cond.laysFinal "ClauseLedger$Balance" "ClauseLedger$Balance" "excess" "LClauseLedger$Sum;") ∈ gw := gt_1 (i := 219) rfl rfl
theorem m_221 : (Cond.laysFinal "ClauseLedger$Balance" "ClauseLedger$Balance" "total" "LClauseLedger$Sum;") ∈ gw := gt_1 (i := 221) rfl rfl
theorem m_223 : (Cond.lays "ClauseLedger$Balance" "ClauseLedger$Balance" "strict" "Z") ∈ gw := gt_1 (i := 223) rfl rfl
theorem m_226 : (Cond.classLink "ClauseLedger" 62 "ClauseLedger$Row") ∈ gw := gt_1 (i := 226) rfl rfl
theorem m_227 : (Cond.instantiable "ClauseLedger$Row" 2) ∈ gw := gt_1 (i := 227) rfl rfl
theorem m_229 : (Cond.instanceMethod ⟨"ClauseLedger$Row", "<init>", "()V"⟩) ∈ gw := gt_1 (i := 229) rfl rfl
theorem m_230 : (Cond.code ⟨"ClauseLedger$Row", "<init>", "()V"⟩ prog_6_method_1_code 1 none) ∈ gw := gt_1 (i := 230) rfl rfl
theorem m_231 : (Cond.methodLink "ClauseLedger$Row" 3 ⟨"java/lang/Object", "<init>", "()V"⟩) ∈ gw := gt_1 (i := 231) rfl rfl
theorem m_232 : (Cond.fieldLink "ClauseLedger$Row" 9 "ClauseLedger$Row" "truths" "[I") ∈ gw := gt_1 (i := 232) rfl rfl
theorem m_233 : (Cond.fieldLink "ClauseLedger$Row" 15 "ClauseLedger$Row" "size" "I") ∈ gw := gt_1 (i := 233) rfl rfl
theorem m_234 : (Cond.laysFinal "ClauseLedger$Row" "ClauseLedger$Row" "truths" "[I") ∈ gw := gt_1 (i := 234) rfl rfl
theorem m_236 : (Cond.lays "ClauseLedger$Row" "ClauseLedger$Row" "size" "I") ∈ gw := gt_1 (i := 236) rfl rfl
theorem m_239 : (Cond.classLink "ClauseLedger" 69 "ClauseLedger$Scopes") ∈ gw := gt_1 (i := 239) rfl rfl
theorem m_240 : (Cond.instantiable "ClauseLedger$Scopes" 5) ∈ gw := gt_2 (i := 0) rfl rfl
theorem m_242 : (Cond.instanceMethod ⟨"ClauseLedger$Scopes", "<init>", "()V"⟩) ∈ gw := gt_2 (i := 2) rfl rfl
theorem m_243 : (Cond.code ⟨"ClauseLedger$Scopes", "<init>", "()V"⟩ prog_7_method_1_code 1 none) ∈ gw := gt_2 (i := 3) rfl rfl
theorem m_244 : (Cond.methodLink "ClauseLedger$Scopes" 3 ⟨"java/lang/Object", "<init>", "()V"⟩) ∈ gw := gt_2 (i := 4) rfl rfl
theorem m_245 : (Cond.fieldLink "ClauseLedger$Scopes" 9 "ClauseLedger$Scopes" "arounds" "[I") ∈ gw := gt_2 (i := 5) rfl rfl
theorem m_246 : (Cond.fieldLink "ClauseLedger$Scopes" 15 "ClauseLedger$Scopes" "depths" "[I") ∈ gw := gt_2 (i := 6) rfl rfl
theorem m_247 : (Cond.fieldLink "ClauseLedger$Scopes" 18 "ClauseLedger$Scopes" "closed" "[Z") ∈ gw := gt_2 (i := 7) rfl rfl
theorem m_248 : (Cond.fieldLink "ClauseLedger$Scopes" 22 "ClauseLedger$Scopes" "count" "I") ∈ gw := gt_2 (i := 8) rfl rfl
theorem m_249 : (Cond.fieldLink "ClauseLedger$Scopes" 26 "ClauseLedger$Scopes" "innermost" "I") ∈ gw := gt_2 (i := 9) rfl rfl
theorem m_250 : (Cond.laysFinal "ClauseLedger$Scopes" "ClauseLedger$Scopes" "arounds" "[I") ∈ gw := gt_2 (i := 10) rfl rfl
theorem m_252 : (Cond.laysFinal "ClauseLedger$Scopes" "ClauseLedger$Scopes" "depths" "[I") ∈ gw := gt_2 (i := 12) rfl rfl
theorem m_254 : (Cond.laysFinal "ClauseLedger$Scopes" "ClauseLedger$Scopes" "closed" "[Z") ∈ gw := gt_2 (i := 14) rfl rfl
theorem m_256 : (Cond.lays "ClauseLedger$Scopes" "ClauseLedger$Scopes" "count" "I") ∈ gw := gt_2 (i := 16) rfl rfl
theorem m_258 : (Cond.lays "ClauseLedger$Scopes" "ClauseLedger$Scopes" "innermost" "I") ∈ gw := gt_2 (i := 18) rfl rfl
theorem m_261 : (Cond.arrayClass .boolean) ∈ gw := gt_2 (i := 21) rfl rfl
theorem m_262 : (Cond.classLink "ClauseLedger" 76 "ClauseLedger$Steps") ∈ gw := gt_2 (i := 22) rfl rfl
theorem m_263 : (Cond.instantiable "ClauseLedger$Steps" 5) ∈ gw := gt_2 (i := 23) rfl rfl
theorem m_265 : (Cond.instanceMethod ⟨"ClauseLedger$Steps", "<init>", "()V"⟩) ∈ gw := gt_2 (i := 25) rfl rfl
theorem m_266 : (Cond.code ⟨"ClauseLedger$Steps", "<init>", "()V"⟩ prog_9_method_1_code 1 none) ∈ gw := gt_2 (i := 26) rfl rfl
theorem m_267 : (Cond.methodLink "ClauseLedger$Steps" 3 ⟨"java/lang/Object", "<init>", "()V"⟩) ∈ gw := gt_2 (i := 27) rfl rfl
theorem m_268 : (Cond.fieldLink "ClauseLedger$Steps" 9 "ClauseLedger$Steps" "truths" "[I") ∈ gw := gt_2 (i := 28) rfl rfl
theorem m_269 : (Cond.fieldLink "ClauseLedger$Steps" 15 "ClauseLedger$Steps" "sizes" "[I") ∈ gw := gt_2 (i := 29) rfl rfl
theorem m_270 : (Cond.fieldLink "ClauseLedger$Steps" 18 "ClauseLedger$Steps" "scopes" "[I") ∈ gw := gt_2 (i := 30) rfl rfl
theorem m_271 : (Cond.fieldLink "ClauseLedger$Steps" 21 "ClauseLedger$Steps" "assumed" "[Z") ∈ gw := gt_2 (i := 31) rfl rfl
theorem m_272 : (Cond.fieldLink "ClauseLedger$Steps" 25 "ClauseLedger$Steps" "count" "I") ∈ gw := gt_2 (i := 32) rfl rfl
theorem m_273 : (Cond.laysFinal "ClauseLedger$Steps" "ClauseLedger$Steps" "truths" "[I") ∈ gw := gt_2 (i := 33) rfl rfl
theorem m_275 : (Cond.laysFinal "ClauseLedger$Steps" "ClauseLedger$Steps" "sizes" "[I") ∈ gw := gt_2 (i := 35) rfl rfl
theorem m_277 : (Cond.laysFinal "ClauseLedger$Steps" "ClauseLedger$Steps" "scopes" "[I") ∈ gw := gt_2 (i := 37) rfl rfl
theorem m_279 : (Cond.laysFinal "ClauseLedger$Steps" "ClauseLedger$Steps" "assumed" "[Z") ∈ gw := gt_2 (i := 39) rfl rfl
theorem m_281 : (Cond.lays "ClauseLedger$Steps" "ClauseLedger$Steps" "count" "I") ∈ gw := gt_2 (i := 41) rfl rfl
theorem m_284 : (Cond.fieldLink "ClauseLedger" 10 "ClauseLedger" "signature" "LClauseLedger$Signature;") ∈ gw := gt_2 (i := 44) rfl rfl
theorem m_285 : (Cond.fieldLink "ClauseLedger" 19 "ClauseLedger" "terms" "LClauseLedger$Terms;") ∈ gw := gt_2 (i := 45) rfl rfl
theorem m_286 : (Cond.fieldLink "ClauseLedger" 26 "ClauseLedger" "draft" "LClauseLedger$Draft;") ∈ gw := gt_2 (i := 46) rfl rfl
theorem m_287 : (Cond.fieldLink "ClauseLedger" 35 "ClauseLedger" "reader" "LClauseLedger$Reader;") ∈ gw := gt_2 (i := 47) rfl rfl
theorem m_288 : (Cond.fieldLink "ClauseLedger" 44 "ClauseLedger" "writer" "LClauseLedger$Writer;") ∈ gw := gt_2 (i := 48) rfl rfl
theorem m_289 : (Cond.fieldLink "ClauseLedger" 51 "ClauseLedger" "putting" "LClauseLedger$Putting;") ∈ gw := gt_2 (i := 49) rfl rfl
theorem m_290 : (Cond.fieldLink "ClauseLedger" 58 "ClauseLedger" "balance" "LClauseLedger$Balance;") ∈ gw := gt_2 (i := 50) rfl rfl
theorem m_291 : (Cond.fieldLink "ClauseLedger" 65 "ClauseLedger" "row" "LClauseLedger$Row;") ∈ gw := gt_2 (i := 51) rfl rfl
theorem m_292 : (Cond.fieldLink "ClauseLedger" 72 "ClauseLedger" "scopes" "LClauseLedger$Scopes;") ∈ gw := gt_2 (i := 52) rfl rfl
theorem m_293 : (Cond.fieldLink "ClauseLedger" 79 "ClauseLedger" "steps" "LClauseLedger$Steps;") ∈ gw := gt_2 (i := 53) rfl rfl
theorem m_294 : (Cond.fieldLink "ClauseLedger" 267 "ClauseLedger" "thrown" "I") ∈ gw := gt_2 (i := 54) rfl rfl
theorem m_295 : (Cond.laysFinal "ClauseLedger" "ClauseLedger" "signature" "LClauseLedger$Signature;") ∈ gw := gt_2 (i := 55) rfl rfl
theorem m_297 : (Cond.laysFinal "ClauseLedger" "ClauseLedger" "terms" "LClauseLedger$Terms;") ∈ gw := gt_2 (i := 57) rfl rfl
theorem m_299 : (Cond.laysFinal "ClauseLedger" "ClauseLedger" "draft" "LClauseLedger$Draft;") ∈ gw := gt_2 (i := 59) rfl rfl
theorem m_301 : (Cond.laysFinal "ClauseLedger" "ClauseLedger" "reader" "LClauseLedger$Reader;") ∈ gw := gt_2 (i := 61) rfl rfl
theorem m_303 : (Cond.laysFinal "ClauseLedger" "ClauseLedger" "writer" "LClauseLedger$Writer;") ∈ gw := gt_2 (i := 63) rfl rfl
theorem m_305 : (Cond.laysFinal "ClauseLedger" "ClauseLedger" "putting" "LClauseLedger$Putting;") ∈ gw := gt_2 (i := 65) rfl rfl
theorem m_307 : (Cond.laysFinal "ClauseLedger" "ClauseLedger" "balance" "LClauseLedger$Balance;") ∈ gw := gt_2 (i := 67) rfl rfl
theorem m_309 : (Cond.laysFinal "ClauseLedger" "ClauseLedger" "row" "LClauseLedger$Row;") ∈ gw := gt_2 (i := 69) rfl rfl
theorem m_311 : (Cond.laysFinal "ClauseLedger" "ClauseLedger" "scopes" "LClauseLedger$Scopes;") ∈ gw := gt_2 (i := 71) rfl rfl
theorem m_313 : (Cond.laysFinal "ClauseLedger" "ClauseLedger" "steps" "LClauseLedger$Steps;") ∈ gw := gt_2 (i := 73) rfl rfl
theorem m_315 : (Cond.lays "ClauseLedger" "ClauseLedger" "thrown" "I") ∈ gw := gt_2 (i := 75) rfl rfl
theorem m_318 : (Cond.methodLink "ClauseLedgerLaw" 65 ⟨"ClauseLedger", "sort", "()I"⟩) ∈ gw := gt_2 (i := 78) rfl rfl
theorem m_319 : (Cond.instanceMethod ⟨"ClauseLedger", "sort", "()I"⟩) ∈ gw := gt_2 (i := 79) rfl rfl
theorem m_320 : (Cond.selects "ClauseLedger" ⟨"ClauseLedger", "sort", "()I"⟩ ⟨"ClauseLedger", "sort", "()I"⟩) ∈ gw := gt_2 (i := 80) rfl rfl
theorem m_321 : (Cond.code ⟨"ClauseLedger", "sort", "()I"⟩ prog_1_method_2_code 1 (some .int)) ∈ gw := gt_2 (i := 81) rfl rfl
theorem m_322 : (Cond.methodLink "ClauseLedger" 83 ⟨"ClauseLedger$Signature", "addSort", "()I"⟩) ∈ gw := gt_2 (i := 82) rfl rfl
theorem m_323 : (Cond.instanceMethod ⟨"ClauseLedger$Signature", "addSort", "()I"⟩) ∈ gw := gt_2 (i := 83) rfl rfl
theorem m_324 : (Cond.selects "ClauseLedger$Signature" ⟨"ClauseLedger$Signature", "addSort", "()I"⟩ ⟨"ClauseLedger$Signature", "addSort", "()I"⟩) ∈ gw := gt_2 (i := 84) rfl rfl
theorem m_325 : (Cond.code ⟨"ClauseLedger$Signature", "addSort", "()I"⟩ prog_8_method_2_code 1 (some .int)) ∈ gw := gt_2 (i := 85) rfl rfl
theorem m_326 : (Cond.methodLink "ClauseLedgerLaw" 69 ⟨"ClauseLedger", "symbol", "(III)I"⟩) ∈ gw := gt_2 (i := 86) rfl rfl
theorem m_327 : (Cond.instanceMethod ⟨"ClauseLedger", "symbol", "(III)I"⟩) ∈ gw := gt_2 (i := 87) rfl rfl
theorem m_328 : (Cond.selects "ClauseLedger" ⟨"ClauseLedger", "symbol", "(III)I"⟩ ⟨"ClauseLedger", "symbol", "(III)I"⟩) ∈ gw := gt_2 (i := 88) rfl rfl
theorem m_329 : (Cond.code ⟨"ClauseLedger", "symbol", "(III)I"⟩ prog_1_method_3_code 4 (some .int)) ∈ gw := gt_2 (i := 89) rfl rfl
theorem m_330 : (Cond.methodLink "ClauseLedger" 87 ⟨"ClauseLedger$Signature", "addSymbol", "(III)I"⟩) ∈ gw := gt_2 (i := 90) rfl rfl
theorem m_331 : (Cond.instanceMethod ⟨"ClauseLedger$Signature", "addSymbol", "(III)I"⟩) ∈ gw := gt_2 (i := 91) rfl rfl
theorem m_332 : (Cond.selects "ClauseLedger$Signature" ⟨"ClauseLedger$Signature", "addSymbol", "(III)I"⟩ ⟨"ClauseLedger$Signature", "addSymbol", "(III)I"⟩) ∈ gw := gt_2 (i := 92) rfl rfl
theorem m_333 : (Cond.code ⟨"ClauseLedger$Signature", "addSymbol", "(III)I"⟩ prog_8_method_3_code 4 (some .int)) ∈ gw := gt_2 (i := 93) rfl rfl
theorem m_334 : (Cond.methodLink "ClauseLedger$Signature" 31 ⟨"ClauseLedger$Signature", "isSort", "(I)Z"⟩) ∈ gw := gt_2 (i := 94) rfl rfl
theorem m_336 : (Cond.instanceMethod ⟨"ClauseLedger$Signature", "isSort", "(I)Z"⟩) ∈ gw := gt_2 (i := 96) rfl rfl
theorem m_337 : (Cond.code ⟨"ClauseLedger$Signature", "isSort", "(I)Z"⟩ prog_8_method_11_code 2 (some .boolean)) ∈ gw := gt_2 (i := 97) rfl rfl
theorem m_338 : (Cond.methodLink "ClauseLedger$Signature" 35 ⟨"ClauseLedger$Signature", "isSortOrNone", "(I)Z"⟩) ∈ gw := gt_2 (i := 98) rfl rfl
theorem m_340 : (Cond.instanceMethod ⟨"ClauseLedger$Signature", "isSortOrNone", "(I)Z"⟩) ∈ gw := gt_2 (i := 100) rfl rfl
theorem m_341 : (Cond.code ⟨"ClauseLedger$Signature", "isSortOrNone", "(I)Z"⟩ prog_8_method_12_code 2 (some .boolean)) ∈ gw := gt_2 (i := 101) rfl rfl
theorem m_342 : (Cond.methodLink "ClauseLedgerLaw" 73 ⟨"ClauseLedger", "variable", "(II)Z"⟩) ∈ gw := gt_2 (i := 102) rfl rfl
theorem m_343 : (Cond.instanceMethod ⟨"ClauseLedger", "variable", "(II)Z"⟩) ∈ gw := gt_2 (i := 103) rfl rfl
theorem m_344 : (Cond.selects "ClauseLedger" ⟨"ClauseLedger", "variable", "(II)Z"⟩ ⟨"ClauseLedger", "variable", "(II)Z"⟩) ∈ gw := gt_2 (i := 104) rfl rfl
theorem m_345 : (Cond.code ⟨"ClauseLedger", "variable", "(II)Z"⟩ prog_1_method_4_code 3 (some .boolean)) ∈ gw := gt_2 (i := 105) rfl rfl
theorem m_346 : (Cond.methodLink "ClauseLedger" 91 ⟨"ClauseLedger$Terms", "count", "()I"⟩) ∈ gw := gt_2 (i := 106) rfl rfl
theorem m_347 : (Cond.instanceMethod ⟨"ClauseLedger$Terms", "count", "()I"⟩) ∈ gw := gt_2 (i := 107) rfl rfl
theorem m_348 : (Cond.selects "ClauseLedger$Terms" ⟨"ClauseLedger$Terms", "count", "()I"⟩ ⟨"ClauseLedger$Terms", "count", "()I"⟩) ∈ gw := gt_2 (i := 108) rfl rfl
theorem m_349 : (Cond.code ⟨"ClauseLedger$Terms", "count", "()I"⟩ prog_11_method_2_code 1 (some .int)) ∈ gw := gt_2 (i := 109) rfl rfl
theorem m_350 : (Cond.methodLink "ClauseLedger" 94 ⟨"ClauseLedger$Signature", "setVariable", "(II)Z"⟩) ∈ gw := gt_2 (i := 110) rfl rfl
theorem m_351 : (Cond.instanceMethod ⟨"ClauseLedger$Signature", "setVariable", "(II)Z"⟩) ∈ gw := gt_2 (i := 111) rfl rfl
theorem m_352 : (Cond.selects "ClauseLedger$Signature" ⟨"ClauseLedger$Signature", "setVariable", "(II)Z"⟩ ⟨"ClauseLedger$Signature", "setVariable", "(II)Z"⟩) ∈ gw := gt_2 (i := 112) rfl rfl
theorem m_353 : (Cond.code ⟨"ClauseLedger$Signature", "setVariable", "(II)Z"⟩ prog_8_method_4_code 3 (some .boolean)) ∈ gw := gt_2 (i := 113) rfl rfl
theorem m_354 : (Cond.methodLink "ClauseLedger$Signature" 38 ⟨"ClauseLedger$Signature", "isVariable", "(I)Z"⟩) ∈ gw := gt_2 (i := 114) rfl rfl
theorem m_355 : (Cond.instanceMethod ⟨"ClauseLedger$Signature", "isVariable", "(I)Z"⟩) ∈ gw := gt_2 (i := 115) rfl rfl
theorem m_356 : (Cond.selects "ClauseLedger$Signature" ⟨"ClauseLedger$Signature", "isVariable", "(I)Z"⟩ ⟨"ClauseLedger$Signature", "isVariable", "(I)Z"⟩) ∈ gw := gt_2 (i := 116) rfl rfl
theorem m_357 : (Cond.code ⟨"ClauseLedger$Signature", "isVariable", "(I)Z"⟩ prog_8_method_6_code 2 (some .boolean)) ∈ gw := gt_2 (i := 117) rfl rfl
theorem m_358 : (Cond.methodLink "ClauseLedgerLaw" 80 ⟨"ClauseLedger", "draft", "(J)Z"⟩) ∈ gw := gt_2 (i := 118) rfl rfl
theorem m_359 : (Cond.instanceMethod ⟨"ClauseLedger", "draft", "(J)Z"⟩) ∈ gw := gt_2 (i := 119) rfl rfl
theorem m_360 : (Cond.selects "ClauseLedger" ⟨"ClauseLedger", "draft", "(J)Z"⟩ ⟨"ClauseLedger", "draft", "(J)Z"⟩) ∈ gw := gt_2 (i := 120) rfl rfl
theorem m_361 : (Cond.code ⟨"ClauseLedger", "draft", "(J)Z"⟩ prog_1_method_5_code 3 (some .boolean)) ∈ gw := gt_2 (i := 121) rfl rfl
theorem m_362 : (Cond.methodLink "ClauseLedger" 98 ⟨"ClauseLedger$Draft", "append", "(J)Z"⟩) ∈ gw := gt_2 (i := 122) rfl rfl
theorem m_363 : (Cond.instanceMethod ⟨"ClauseLedger$Draft", "append", "(J)Z"⟩) ∈ gw := gt_2 (i := 123) rfl rfl
theorem m_364 : (Cond.selects "ClauseLedger$Draft" ⟨"ClauseLedger$Draft", "append", "(J)Z"⟩ ⟨"ClauseLedger$Draft", "append", "(J)Z"⟩) ∈ gw := gt_2 (i := 124) rfl rfl
theorem m_365 : (Cond.code ⟨"ClauseLedger$Draft", "append", "(J)Z"⟩ prog_3_method_5_code 5 (some .boolean)) ∈ gw := gt_2 (i := 125) rfl rfl
theorem m_366 : (Cond.methodLink "ClauseLedger$Draft" 17 ⟨"ClauseLedger$Draft", "byteOf", "(JI)I"⟩) ∈ gw := gt_2 (i := 126) rfl rfl
theorem m_367 : (Cond.static ⟨"ClauseLedger$Draft", "byteOf", "(JI)I"⟩) ∈ gw := gt_2 (i := 127) rfl rfl
theorem m_368 : (Cond.code ⟨"ClauseLedger$Draft", "byteOf", "(JI)I"⟩ prog_3_method_6_code 3 (some .int)) ∈ gw := gt_2 (i := 128) rfl rfl
theorem m_369 : (Cond.methodLink "ClauseLedgerLaw" 134 ⟨"ClauseLedger", "clause", "(II)I"⟩) ∈ gw := gt_2 (i := 129) rfl rfl
theorem m_370 : (Cond.instanceMethod ⟨"ClauseLedger", "clause", "(II)I"⟩) ∈ gw := gt_2 (i := 130) rfl rfl
theorem m_371 : (Cond.selects "ClauseLedger" ⟨"ClauseLedger", "clause", "(II)I"⟩ ⟨"ClauseLedger", "clause", "(II)I"⟩) ∈ gw := gt_2 (i := 131) rfl rfl
theorem m_372 : (Cond.code ⟨"ClauseLedger", "clause", "(II)I"⟩ prog_1_method_19_code 3 (some .int)) ∈ gw := gt_2 (i := 132) rfl rfl
theorem m_373 : (Cond.methodLink "ClauseLedger" 242 ⟨"ClauseLedger$Steps", "sizeOf", "(I)I"⟩) ∈ gw := gt_2 (i := 133) rfl rfl
theorem m_374 : (Cond.instanceMethod ⟨"ClauseLedger$Steps", "sizeOf", "(I)I"⟩) ∈ gw := gt_2 (i := 134) rfl rfl
theorem m_375 : (Cond.selects "ClauseLedger$Steps" ⟨"ClauseLedger$Steps", "sizeOf", "(I)I"⟩ ⟨"ClauseLedger$Steps", "sizeOf", "(I)I"⟩) ∈ gw := gt_2 (i := 135) rfl rfl
theorem m_376 : (Cond.code ⟨"ClauseLedger$Steps", "sizeOf", "(I)I"⟩ prog_9_method_5_code 2 (some .int)) ∈ gw := gt_2 (i := 136) rfl rfl
theorem m_377 : (Cond.methodLink "ClauseLedger$Steps" 29 ⟨"ClauseLedger$Steps", "has", "(I)Z"⟩) ∈ gw := gt_2 (i := 137) rfl rfl
theorem m_378 : (Cond.instanceMethod ⟨"ClauseLedger$Steps", "has", "(I)Z"⟩) ∈ gw := gt_2 (i := 138) rfl rfl
theorem m_379 : (Cond.selects "ClauseLedger$Steps" ⟨"ClauseLedger$Steps", "has", "(I)Z"⟩ ⟨"ClauseLedger$Steps", "has", "(I)Z"⟩) ∈ gw := gt_2 (i := 139) rfl rfl
theorem m_380 : (Cond.code ⟨"ClauseLedger$Steps", "has", "(I)Z"⟩ prog_9_method_4_code 2 (some .boolean)) ∈ gw := gt_2 (i := 140) rfl rfl
theorem m_381 : (Cond.methodLink "ClauseLedger" 245 ⟨"ClauseLedger$Steps", "truthOf", "(II)I"⟩) ∈ gw := gt_2 (i := 141) rfl rfl
theorem m_382 : (Cond.instanceMethod ⟨"ClauseLedger$Steps", "truthOf", "(II)I"⟩) ∈ gw := gt_2 (i := 142) rfl rfl
theorem m_383 : (Cond.selects "ClauseLedger$Steps" ⟨"ClauseLedger$Steps", "truthOf", "(II)I"⟩ ⟨"ClauseLedger$Steps", "truthOf", "(II)I"⟩) ∈ gw := gt_2 (i := 143) rfl rfl
theorem m_384 : (Cond.code ⟨"ClauseLedger$Steps", "truthOf", "(II)I"⟩ prog_9_method_6_code 3 (some .int)) ∈ gw := gt_2 (i := 144) rfl rfl
theorem m_385 : (Cond.methodLink "ClauseLedger$Steps" 33 ⟨"ClauseLedger$Steps", "sizeOf", "(I)I"⟩) ∈ gw := gt_2 (i := 145) rfl rfl
theorem m_386 : (Cond.methodLink "ClauseLedgerLaw" 138 ⟨"ClauseLedger", "scope", "(I)I"⟩) ∈ gw := gt_2 (i := 146) rfl rfl
theorem m_387 : (Cond.instanceMethod ⟨"ClauseLedger", "scope", "(I)I"⟩) ∈ gw := gt_2 (i := 147) rfl rfl
theorem m_388 : (Cond.selects "ClauseLedger" ⟨"ClauseLedger", "scope", "(I)I"⟩ ⟨"ClauseLedger", "scope", "(I)I"⟩) ∈ gw := gt_2 (i := 148) rfl rfl
theorem m_389 : (Cond.code ⟨"ClauseLedger", "scope", "(I)I"⟩ prog_1_method_20_code 2 (some .int)) ∈ gw := gt_2 (i := 149) rfl rfl
theorem m_390 : (Cond.methodLink "ClauseLedger" 248 ⟨"ClauseLedger$Steps", "has", "(I)Z"⟩) ∈ gw := gt_2 (i := 150) rfl rfl
theorem m_391 : (Cond.methodLink "ClauseLedger" 249 ⟨"ClauseLedger$Steps", "scopeOf", "(I)I"⟩) ∈ gw := gt_2 (i := 151) rfl rfl
theorem m_392 : (Cond.instanceMethod ⟨"ClauseLedger$Steps", "scopeOf", "(I)I"⟩) ∈ gw := gt_2 (i := 152) rfl rfl
theorem m_393 : (Cond.selects "ClauseLedger$Steps" ⟨"ClauseLedger$Steps", "scopeOf", "(I)I"⟩ ⟨"ClauseLedger$Steps", "scopeOf", "(I)I"⟩) ∈ gw := gt_2 (i := 153) rfl rfl
theorem m_394 : (Cond.code ⟨"ClauseLedger$Steps", "scopeOf", "(I)I"⟩ prog_9_method_7_code 2 (some .int)) ∈ gw := gt_2 (i := 154) rfl rfl
theorem m_395 : (Cond.methodLink "ClauseLedger" 252 ⟨"ClauseLedger$Scopes", "depthOf", "(I)I"⟩) ∈ gw := gt_2 (i := 155) rfl rfl
theorem m_396 : (Cond.instanceMethod ⟨"ClauseLedger$Scopes", "depthOf", "(I)I"⟩) ∈ gw := gt_2 (i := 156) rfl rfl
theorem m_397 : (Cond.selects "ClauseLedger$Scopes" ⟨"ClauseLedger$Scopes", "depthOf", "(I)I"⟩ ⟨"ClauseLedger$Scopes", "depthOf", "(I)I"⟩) ∈ gw := gt_2 (i := 157) rfl rfl
theorem m_398 : (Cond.code ⟨"ClauseLedger$Scopes", "depthOf", "(I)I"⟩ prog_7_method_5_code 2 (some .int)) ∈ gw := gt_2 (i := 158) rfl rfl
theorem m_399 : (Cond.methodLink "ClauseLedger$Scopes" 29 ⟨"ClauseLedger$Scopes", "has", "(I)Z"⟩) ∈ gw := gt_2 (i := 159) rfl rfl
theorem m_401 : (Cond.instanceMethod ⟨"ClauseLedger$Scopes", "has", "(I)Z"⟩) ∈ gw := gt_2 (i := 161) rfl rfl
theorem m_402 : (Cond.code ⟨"ClauseLedger$Scopes", "has", "(I)Z"⟩ prog_7_method_9_code 2 (some .boolean)) ∈ gw := gt_2 (i := 162) rfl rfl
theorem m_403 : (Cond.methodLink "ClauseLedger" 152 ⟨"ClauseLedger", "stands", "(I)Z"⟩) ∈ gw := gt_2 (i := 163) rfl rfl
theorem m_405 : (Cond.instanceMethod ⟨"ClauseLedger", "stands", "(I)Z"⟩) ∈ gw := gt_2 (i := 165) rfl rfl
theorem m_406 : (Cond.code ⟨"ClauseLedger", "stands", "(I)Z"⟩ prog_1_method_26_code 2 (some .boolean)) ∈ gw := gt_2 (i := 166) rfl rfl
theorem m_407 : (Cond.methodLink "ClauseLedger" 271 ⟨"ClauseLedger$Scopes", "isClosed", "(I)Z"⟩) ∈ gw := gt_2 (i := 167) rfl rfl
theorem m_408 : (Cond.instanceMethod ⟨"ClauseLedger$Scopes", "isClosed", "(I)Z"⟩) ∈ gw := gt_2 (i := 168) rfl rfl
theorem m_409 : (Cond.selects "ClauseLedger$Scopes" ⟨"ClauseLedger$Scopes", "isClosed", "(I)Z"⟩ ⟨"ClauseLedger$Scopes", "isClosed", "(I)Z"⟩) ∈ gw := gt_2 (i := 169) rfl rfl
theorem m_410 : (Cond.code ⟨"ClauseLedger$Scopes", "isClosed", "(I)Z"⟩ prog_7_method_6_code 2 (some .boolean)) ∈ gw := gt_2 (i := 170) rfl rfl
theorem m_411 : (Cond.methodLink "ClauseLedgerLaw" 142 ⟨"ClauseLedger", "empty", "()I"⟩) ∈ gw := gt_2 (i := 171) rfl rfl
theorem m_412 : (Cond.instanceMethod ⟨"ClauseLedger", "empty", "()I"⟩) ∈ gw := gt_2 (i := 172) rfl rfl
theorem m_413 : (Cond.selects "ClauseLedger" ⟨"ClauseLedger", "empty", "()I"⟩ ⟨"ClauseLedger", "empty", "()I"⟩) ∈ gw := gt_2 (i := 173) rfl rfl
theorem m_414 : (Cond.code ⟨"ClauseLedger", "empty", "()I"⟩ prog_1_method_21_code 2 (some .int)) ∈ gw := gt_2 (i := 174) rfl rfl
theorem m_415 : (Cond.methodLink "ClauseLedger" 255 ⟨"ClauseLedger$Steps", "count", "()I"⟩) ∈ gw := gt_2 (i := 175) rfl rfl
theorem m_416 : (Cond.instanceMethod ⟨"ClauseLedger$Steps", "count", "()I"⟩) ∈ gw := gt_2 (i := 176) rfl rfl
theorem m_417 : (Cond.selects "ClauseLedger$Steps" ⟨"ClauseLedger$Steps", "count", "()I"⟩ ⟨"ClauseLedger$Steps", "count", "()I"⟩) ∈ gw := gt_2 (i := 177) rfl rfl
theorem m_418 : (Cond.code ⟨"ClauseLedger$Steps", "count", "()I"⟩ prog_9_method_2_code 1 (some .int)) ∈ gw := gt_2 (i := 178) rfl rfl
theorem m_419 : (Cond.methodLink "ClauseLedgerLaw" 146 ⟨"ClauseLedger", "look", "(II)I"⟩) ∈ gw := gt_2 (i := 179) rfl rfl
theorem m_420 : (Cond.instanceMethod ⟨"ClauseLedger", "look", "(II)I"⟩) ∈ gw := gt_2 (i := 180) rfl rfl
theorem m_421 : (Cond.selects "ClauseLedger" ⟨"ClauseLedger", "look", "(II)I"⟩ ⟨"ClauseLedger", "look", "(II)I"⟩) ∈ gw := gt_2 (i := 181) rfl rfl
theorem m_422 : (Cond.code ⟨"ClauseLedger", "look", "(II)I"⟩ prog_1_method_22_code 3 (some .int)) ∈ gw := gt_2 (i := 182) rfl rfl
theorem m_423 : (Cond.methodLink "ClauseLedger" 256 ⟨"ClauseLedger", "lookAtLedger", "(I)I"⟩) ∈ gw := gt_2 (i := 183) rfl rfl
theorem m_425 : (Cond.instanceMethod ⟨"ClauseLedger", "lookAtLedger", "(I)I"⟩) ∈ gw := gt_2 (i := 185) rfl rfl
theorem m_426 : (Cond.code ⟨"ClauseLedger", "lookAtLedger", "(I)I"⟩ prog_1_method_24_code 2 (some .int)) ∈ gw := gt_2 (i := 186) rfl rfl
theorem m_427 : (Cond.methodLink "ClauseLedger" 130 ⟨"ClauseLedger$Terms", "has", "(I)Z"⟩) ∈ gw := gt_2 (i := 187) rfl rfl
theorem m_428 : (Cond.instanceMethod ⟨"ClauseLedger$Terms", "has", "(I)Z"⟩) ∈ gw := gt_2 (i := 188) rfl rfl
theorem m_429 : (Cond.selects "ClauseLedger$Terms" ⟨"ClauseLedger$Terms", "has", "(I)Z"⟩ ⟨"ClauseLedger$Terms", "has", "(I)Z"⟩) ∈ gw := gt_2 (i := 189) rfl rfl
theorem m_430 : (Cond.code ⟨"ClauseLedger$Terms", "has", "(I)Z"⟩ prog_11_method_3_code 2 (some .boolean)) ∈ gw := gt_2 (i := 190) rfl rfl
theorem m_431 : (Cond.methodLink "ClauseLedger" 173 ⟨"ClauseLedger$Terms", "kindOf", "(I)I"⟩) ∈ gw := gt_2 (i := 191) rfl rfl
theorem m_432 : (Cond.instanceMethod ⟨"ClauseLedger$Terms", "kindOf", "(I)I"⟩) ∈ gw := gt_2 (i := 192) rfl rfl
theorem m_433 : (Cond.selects "ClauseLedger$Terms" ⟨"ClauseLedger$Terms", "kindOf", "(I)I"⟩ ⟨"ClauseLedger$Terms", "kindOf", "(I)I"⟩) ∈ gw := gt_2 (i := 193) rfl rfl
theorem m_434 : (Cond.code ⟨"ClauseLedger$Terms", "kindOf", "(I)I"⟩ prog_11_method_4_code 2 (some .int)) ∈ gw := gt_2 (i := 194) rfl rfl
theorem m_435 : (Cond.methodLink "ClauseLedger$Terms" 57 ⟨"ClauseLedger$Terms", "has", "(I)Z"⟩) ∈ gw := gt_2 (i := 195) rfl rfl
theorem m_436 : (Cond.methodLink "ClauseLedger" 212 ⟨"ClauseLedger$Terms", "sortOf", "(I)I"⟩) ∈ gw := gt_2 (i := 196) rfl rfl
theorem m_437 : (Cond.instanceMethod ⟨"ClauseLedger$Terms", "sortOf", "(I)I"⟩) ∈ gw := gt_2 (i := 197) rfl rfl
theorem m_438 : (Cond.selects "ClauseLedger$Terms" ⟨"ClauseLedger$Terms", "sortOf", "(I)I"⟩ ⟨"ClauseLedger$Terms", "sortOf", "(I)I"⟩) ∈ gw := gt_2 (i := 198) rfl rfl
theorem m_439 : (Cond.code ⟨"ClauseLedger$Terms", "sortOf", "(I)I"⟩ prog_11_method_5_code 2 (some .int)) ∈ gw := gt_2 (i := 199) rfl rfl
theorem m_440 : (Cond.methodLink "ClauseLedger" 259 ⟨"ClauseLedger$Terms", "depthOf", "(I)I"⟩) ∈ gw := gt_2 (i := 200) rfl rfl
theorem m_441 : (Cond.instanceMethod ⟨"ClauseLedger$Terms", "depthOf", "(I)I"⟩) ∈ gw := gt_2 (i := 201) rfl rfl
theorem m_442 : (Cond.selects "ClauseLedger$Terms" ⟨"ClauseLedger$Terms", "depthOf", "(I)I"⟩ ⟨"ClauseLedger$Terms", "depthOf", "(I)I"⟩) ∈ gw := gt_2 (i := 202) rfl rfl
theorem m_443 : (Cond.code ⟨"ClauseLedger$Terms", "depthOf", "(I)I"⟩ prog_11_method_12_code 2 (some .int)) ∈ gw := gt_2 (i := 203) rfl rfl
theorem m_444 : (Cond.methodLink "ClauseLedger" 179 ⟨"ClauseLedger$Terms", "firstOf", "(I)I"⟩) ∈ gw := gt_2 (i := 204) rfl rfl
theorem m_445 : (Cond.instanceMethod ⟨"ClauseLedger$Terms", "firstOf", "(I)I"⟩) ∈ gw := gt_2 (i := 205) rfl rfl
theorem m_446 : (Cond.selects "ClauseLedger$Terms" ⟨"ClauseLedger$Terms", "firstOf", "(I)I"⟩ ⟨"ClauseLedger$Terms", "firstOf", "(I)I"⟩) ∈ gw := gt_2 (i := 206) rfl rfl
theorem m_447 : (Cond.code ⟨"ClauseLedger$Terms", "firstOf", "(I)I"⟩ prog_11_method_8_code 2 (some .int)) ∈ gw := gt_2 (i := 207) rfl rfl
theorem m_448 : (Cond.methodLink "ClauseLedger" 176 ⟨"ClauseLedger$Terms", "secondOf", "(I)I"⟩) ∈ gw := gt_2 (i := 208) rfl rfl
theorem m_449 : (Cond.instanceMethod ⟨"ClauseLedger$Terms", "secondOf", "(I)I"⟩) ∈ gw := gt_2 (i := 209) rfl rfl
theorem m_450 : (Cond.selects "ClauseLedger$Terms" ⟨"ClauseLedger$Terms", "secondOf", "(I)I"⟩ ⟨"ClauseLedger$Terms", "secondOf", "(I)I"⟩) ∈ gw := gt_2 (i := 210) rfl rfl
theorem m_451 : (Cond.code ⟨"ClauseLedger$Terms", "secondOf", "(I)I"⟩ prog_11_method_9_code 2 (some .int)) ∈ gw := gt_2 (i := 211) rfl rfl
theorem m_452 : (Cond.methodLink "ClauseLedger" 209 ⟨"ClauseLedger$Terms", "nameOf", "(I)I"⟩) ∈ gw := gt_2 (i := 212) rfl rfl
theorem m_453 : (Cond.instanceMethod ⟨"ClauseLedger$Terms", "nameOf", "(I)I"⟩) ∈ gw := gt_2 (i := 213) rfl rfl
theorem m_454 : (Cond.selects "ClauseLedger$Terms" ⟨"ClauseLedger$Terms", "nameOf", "(I)I"⟩ ⟨"ClauseLedger$Terms", "nameOf", "(I)I"⟩) ∈ gw := gt_2 (i := 214) rfl rfl
theorem m_455 : (Cond.code ⟨"ClauseLedger$Terms", "nameOf", "(I)I"⟩ prog_11_method_7_code 2 (some .int)) ∈ gw := gt_2 (i := 215) rfl rfl
theorem m_456 : (Cond.methodLink "ClauseLedgerLaw" 150 ⟨"ClauseLedger", "text", "(II)I"⟩) ∈ gw := gt_2 (i := 216) rfl rfl
theorem m_457 : (Cond.instanceMethod ⟨"ClauseLedger", "text", "(II)I"⟩) ∈ gw := gt_2 (i := 217) rfl rfl
theorem m_458 : (Cond.selects "ClauseLedger" ⟨"ClauseLedger", "text", "(II)I"⟩ ⟨"ClauseLedger", "text", "(II)I"⟩) ∈ gw := gt_2 (i := 218) rfl rfl
theorem m_459 : (Cond.code ⟨"ClauseLedger", "text", "(II)I"⟩ prog_1_method_23_code 3 (some .int)) ∈ gw := gt_2 (i := 219) rfl rfl
theorem m_460 : (Cond.methodLink "ClauseLedger" 260 ⟨"ClauseLedger$Terms", "lengthOf", "(I)I"⟩) ∈ gw := gt_2 (i := 220) rfl rfl
theorem m_461 : (Cond.instanceMethod ⟨"ClauseLedger$Terms", "lengthOf", "(I)I"⟩) ∈ gw := gt_2 (i := 221) rfl rfl
theorem m_462 : (Cond.selects "ClauseLedger$Terms" ⟨"ClauseLedger$Terms", "lengthOf", "(I)I"⟩ ⟨"ClauseLedger$Terms", "lengthOf", "(I)I"⟩) ∈ gw := gt_2 (i := 222) rfl rfl
theorem m_463 : (Cond.code ⟨"ClauseLedger$Terms", "lengthOf", "(I)I"⟩ prog_11_method_13_code 2 (some .int)) ∈ gw := gt_2 (i := 223) rfl rfl
theorem m_464 : (Cond.methodLink "ClauseLedger" 263 ⟨"ClauseLedger$Writer", "letter", "(II)C"⟩) ∈ gw := gt_2 (i := 224) rfl rfl
theorem m_465 : (Cond.instanceMethod ⟨"ClauseLedger$Writer", "letter", "(II)C"⟩) ∈ gw := gt_2 (i := 225) rfl rfl
theorem m_466 : (Cond.selects "ClauseLedger$Writer" ⟨"ClauseLedger$Writer", "letter", "(II)C"⟩ ⟨"ClauseLedger$Writer", "letter", "(II)C"⟩) ∈ gw := gt_2 (i := 226) rfl rfl
theorem m_467 : (Cond.code ⟨"ClauseLedger$Writer", "letter", "(II)C"⟩ prog_12_method_4_code 9 (some .char)) ∈ gw := gt_2 (i := 227) rfl rfl
theorem m_468 : (Cond.methodLink "ClauseLedger$Writer" 27 ⟨"ClauseLedger$Terms", "firstOf", "(I)I"⟩) ∈ gw := gt_2 (i := 228) rfl rfl
theorem m_469 : (Cond.methodLink "ClauseLedger$Writer" 32 ⟨"ClauseLedger$Terms", "kindOf", "(I)I"⟩) ∈ gw := gt_2 (i := 229) rfl rfl
theorem m_470 : (Cond.methodLink "ClauseLedger$Writer" 15 ⟨"ClauseLedger$Writer", "headLength", "(I)I"⟩) ∈ gw := gt_2 (i := 230) rfl rfl
theorem m_471 : (Cond.static ⟨"ClauseLedger$Writer", "headLength", "(I)I"⟩) ∈ gw := gt_2 (i := 231) rfl rfl
theorem m_472 : (Cond.code ⟨"ClauseLedger$Writer", "headLength", "(I)I"⟩ prog_12_method_5_code 1 (some .int)) ∈ gw := gt_2 (i := 232) rfl rfl
theorem m_473 : (Cond.methodLink "ClauseLedger$Writer" 35 ⟨"ClauseLedger$Writer", "letterOfHead", "(II)C"⟩) ∈ gw := gt_2 (i := 233) rfl rfl
theorem m_475 : (Cond.instanceMethod ⟨"ClauseLedger$Writer", "letterOfHead", "(II)C"⟩) ∈ gw := gt_2 (i := 235) rfl rfl
theorem m_476 : (Cond.code ⟨"ClauseLedger$Writer", "letterOfHead", "(II)C"⟩ prog_12_method_6_code 3 (some .char)) ∈ gw := gt_2 (i := 236) rfl rfl
theorem m_477 : (Cond.methodLink "ClauseLedger$Writer" 48 ⟨"ClauseLedger$Writer", "letterOfMark", "(I)C"⟩) ∈ gw := gt_2 (i := 237) rfl rfl
theorem m_479 : (Cond.instanceMethod ⟨"ClauseLedger$Writer", "letterOfMark", "(I)C"⟩) ∈ gw := gt_2 (i := 239) rfl rfl
theorem m_480 : (Cond.code ⟨"ClauseLedger$Writer", "letterOfMark", "(I)C"⟩ prog_12_method_7_code 3 (some .char)) ∈ gw := gt_3 (i := 0) rfl rfl
theorem m_482 : (Cond.methodLink "ClauseLedger$Writer" 57 ⟨"java/lang/String", "length", "()I"⟩) ∈ gw := gt_3 (i := 2) rfl rfl
theorem m_483 : (Cond.instanceMethod ⟨"java/lang/String", "length", "()I"⟩) ∈ gw := gt_3 (i := 3) rfl rfl
theorem m_484 : (Cond.selects "java/lang/String" ⟨"java/lang/String", "length", "()I"⟩ ⟨"java/lang/String", "length", "()I"⟩) ∈ gw := gt_3 (i := 4) rfl rfl
theorem m_485 : (Cond.code ⟨"java/lang/String", "length", "()I"⟩ prog_24_method_54_code 1 (some .int)) ∈ gw := gt_3 (i := 5) rfl rfl
theorem m_486 : (Cond.methodLink "java/lang/String" 335 ⟨"java/lang/String", "coder", "()B"⟩) ∈ gw := gt_3 (i := 6) rfl rfl
theorem m_487 : (Cond.instanceMethod ⟨"java/lang/String", "coder", "()B"⟩) ∈ gw := gt_3 (i := 7) rfl rfl
theorem m_488 : (Cond.selects "java/lang/String" ⟨"java/lang/String", "coder", "()B"⟩ ⟨"java/lang/String", "coder", "()B"⟩) ∈ gw := gt_3 (i := 8) rfl rfl
theorem m_489 : (Cond.code ⟨"java/lang/String", "coder", "()B"⟩ prog_24_method_152_code 1 (some .byte)) ∈ gw := gt_3 (i := 9) rfl rfl
theorem m_490 : (Cond.fieldLink "java/lang/String" 38 "java/lang/String" "COMPACT_STRINGS" "Z") ∈ gw := gt_3 (i := 10) rfl rfl
theorem m_492 : (Cond.methodLink "ClauseLedger$Writer" 52 ⟨"ClauseLedger$Terms", "nameOf", "(I)I"⟩) ∈ gw := gt_3 (i := 12) rfl rfl
theorem m_493 : (Cond.methodLink "ClauseLedger$Writer" 63 ⟨"java/lang/String", "charAt", "(I)C"⟩) ∈ gw := gt_3 (i := 13) rfl rfl
theorem m_494 : (Cond.instanceMethod ⟨"java/lang/String", "charAt", "(I)C"⟩) ∈ gw := gt_3 (i := 14) rfl rfl
theorem m_495 : (Cond.selects "java/lang/String" ⟨"java/lang/String", "charAt", "(I)C"⟩ ⟨"java/lang/String", "charAt", "(I)C"⟩) ∈ gw := gt_3 (i := 15) rfl rfl
theorem m_496 : (Cond.code ⟨"java/lang/String", "charAt", "(I)C"⟩ prog_24_method_56_code 2 (some .char)) ∈ gw := gt_3 (i := 16) rfl rfl
theorem m_497 : (Cond.methodLink "java/lang/String" 492 ⟨"java/lang/String", "isLatin1", "()Z"⟩) ∈ gw := gt_3 (i := 17) rfl rfl
theorem m_498 : (Cond.instanceMethod ⟨"java/lang/String", "isLatin1", "()Z"⟩) ∈ gw := gt_3 (i := 18) rfl rfl
theorem m_499 : (Cond.selects "java/lang/String" ⟨"java/lang/String", "isLatin1", "()Z"⟩ ⟨"java/lang/String", "isLatin1", "()Z"⟩) ∈ gw := gt_3 (i := 19) rfl rfl
theorem m_500 : (Cond.code ⟨"java/lang/String", "isLatin1", "()Z"⟩ prog_24_method_154_code 1 (some .boolean)) ∈ gw := gt_3 (i := 20) rfl rfl
theorem m_501 : (Cond.methodLink "java/lang/String" 495 ⟨"java/lang/StringLatin1", "charAt", "([BI)C"⟩) ∈ gw := gt_3 (i := 21) rfl rfl
theorem m_502 : (Cond.static ⟨"java/lang/StringLatin1", "charAt", "([BI)C"⟩) ∈ gw := gt_3 (i := 22) rfl rfl
theorem m_503 : (Cond.code ⟨"java/lang/StringLatin1", "charAt", "([BI)C"⟩ prog_25_method_2_code 2 (some .char)) ∈ gw := gt_3 (i := 23) rfl rfl
theorem m_504 : (Cond.methodLink "java/lang/StringLatin1" 9 ⟨"java/lang/String", "checkIndex", "(II)V"⟩) ∈ gw := gt_3 (i := 24) rfl rfl
theorem m_505 : (Cond.static ⟨"java/lang/String", "checkIndex", "(II)V"⟩) ∈ gw := gt_3 (i := 25) rfl rfl
theorem m_506 : (Cond.code ⟨"java/lang/String", "checkIndex", "(II)V"⟩ prog_24_method_155_code 2 none) ∈ gw := gt_3 (i := 26) rfl rfl
theorem m_507 : (Cond.fieldLink "java/lang/String" 1053 "jdk/internal/util/Preconditions" "SIOOBE_FORMATTER" "Ljava/util/function/BiFunction;") ∈ gw := gt_3 (i := 27) rfl rfl
theorem m_509 : (Cond.methodLink "java/lang/String" 1059 ⟨"jdk/internal/util/Preconditions", "checkIndex", "(IILjava/util/function/BiFunction;)I"⟩) ∈ gw := gt_3 (i := 29) rfl rfl
theorem m_510 : (Cond.static ⟨"jdk/internal/util/Preconditions", "checkIndex", "(IILjava/util/function/BiFunction;)I"⟩) ∈ gw := gt_3 (i := 30) rfl rfl
theorem m_511 : (Cond.code ⟨"jdk/internal/util/Preconditions", "checkIndex", "(IILjava/util/function/BiFunction;)I"⟩ prog_29_method_11_code 3 (some .int)) ∈ gw := gt_3 (i := 31) rfl rfl
theorem m_531 : (Cond.methodLink "ClauseLedger$Writer" 39 ⟨"ClauseLedger$Terms", "lengthOf", "(I)I"⟩) ∈ gw := gt_3 (i := 51) rfl rfl
theorem m_532 : (Cond.methodLink "ClauseLedger$Writer" 42 ⟨"ClauseLedger$Terms", "secondOf", "(I)I"⟩) ∈ gw := gt_3 (i := 52) rfl rfl
theorem m_533 : (Cond.methodLink "ClauseLedger$Writer" 45 ⟨"ClauseLedger$Writer", "letterOfLeaf", "(II)C"⟩) ∈ gw := gt_3 (i := 53) rfl rfl
theorem m_535 : (Cond.instanceMethod ⟨"ClauseLedger$Writer", "letterOfLeaf", "(II)C"⟩) ∈ gw := gt_3 (i := 55) rfl rfl
theorem m_536 : (Cond.code ⟨"ClauseLedger$Writer", "letterOfLeaf", "(II)C"⟩ prog_12_method_8_code 3 (some .char)) ∈ gw := gt_3 (i := 56) rfl rfl
theorem m_537 : (Cond.methodLink "ClauseLedger$Writer" 66 ⟨"ClauseLedger$Terms", "topOf", "(I)I"⟩) ∈ gw := gt_3 (i := 57) rfl rfl
theorem m_538 : (Cond.instanceMethod ⟨"ClauseLedger$Terms", "topOf", "(I)I"⟩) ∈ gw := gt_3 (i := 58) rfl rfl
theorem m_539 : (Cond.selects "ClauseLedger$Terms" ⟨"ClauseLedger$Terms", "topOf", "(I)I"⟩ ⟨"ClauseLedger$Terms", "topOf", "(I)I"⟩) ∈ gw := gt_3 (i := 59) rfl rfl
theorem m_540 : (Cond.code ⟨"ClauseLedger$Terms", "topOf", "(I)I"⟩ prog_11_method_10_code 2 (some .int)) ∈ gw := gt_3 (i := 60) rfl rfl
theorem m_541 : (Cond.methodLink "ClauseLedger$Writer" 69 ⟨"ClauseLedger$Terms", "bottomOf", "(I)I"⟩) ∈ gw := gt_3 (i := 61) rfl rfl
theorem m_542 : (Cond.instanceMethod ⟨"ClauseLedger$Terms", "bottomOf", "(I)I"⟩) ∈ gw := gt_3 (i := 62) rfl rfl
theorem m_543 : (Cond.selects "ClauseLedger$Terms" ⟨"ClauseLedger$Terms", "bottomOf", "(I)I"⟩ ⟨"ClauseLedger$Terms", "bottomOf", "(I)I"⟩) ∈ gw := gt_3 (i := 63) rfl rfl
theorem m_544 : (Cond.code ⟨"ClauseLedger$Terms", "bottomOf", "(I)I"⟩ prog_11_method_11_code 2 (some .int)) ∈ gw := gt_3 (i := 64) rfl rfl
theorem m_545 : (Cond.methodLink "ClauseLedger$Writer" 72 ⟨"ClauseLedger$Writer", "letterOfConstant", "(III)C"⟩) ∈ gw := gt_3 (i := 65) rfl rfl
theorem m_546 : (Cond.static ⟨"ClauseLedger$Writer", "letterOfConstant", "(III)C"⟩) ∈ gw := gt_3 (i := 66) rfl rfl
theorem m_547 : (Cond.code ⟨"ClauseLedger$Writer", "letterOfConstant", "(III)C"⟩ prog_12_method_9_code 6 (some .char)) ∈ gw := gt_3 (i := 67) rfl rfl
theorem m_548 : (Cond.methodLink "ClauseLedger$Writer" 19 ⟨"java/lang/Math", "abs", "(I)I"⟩) ∈ gw := gt_3 (i := 68) rfl rfl
theorem m_549 : (Cond.static ⟨"java/lang/Math", "abs", "(I)I"⟩) ∈ gw := gt_3 (i := 69) rfl rfl
theorem m_550 : (Cond.code ⟨"java/lang/Math", "abs", "(I)I"⟩ prog_22_method_59_code 1 (some .int)) ∈ gw := gt_3 (i := 70) rfl rfl
theorem m_551 : (Cond.methodLink "ClauseLedger$Writer" 24 ⟨"ClauseLedger$Writer", "digitsOf", "(I)I"⟩) ∈ gw := gt_3 (i := 71) rfl rfl
theorem m_552 : (Cond.static ⟨"ClauseLedger$Writer", "digitsOf", "(I)I"⟩) ∈ gw := gt_3 (i := 72) rfl rfl
theorem m_553 : (Cond.code ⟨"ClauseLedger$Writer", "digitsOf", "(I)I"⟩ prog_12_method_10_code 3 (some .int)) ∈ gw := gt_3 (i := 73) rfl rfl
theorem m_554 : (Cond.methodLink "ClauseLedger$Writer" 76 ⟨"ClauseLedger$Writer", "digit", "(II)C"⟩) ∈ gw := gt_3 (i := 74) rfl rfl
theorem m_555 : (Cond.static ⟨"ClauseLedger$Writer", "digit", "(II)C"⟩) ∈ gw := gt_3 (i := 75) rfl rfl
theorem m_556 : (Cond.code ⟨"ClauseLedger$Writer", "digit", "(II)C"⟩ prog_12_method_11_code 4 (some .char)) ∈ gw := gt_3 (i := 76) rfl rfl
theorem m_558 : (Cond.methodLink "ClauseLedgerLaw" 85 ⟨"ClauseLedgerLaw", "term", "(LClauseLedger;[J)I"⟩) ∈ gw := gt_3 (i := 78) rfl rfl
theorem m_559 : (Cond.static ⟨"ClauseLedgerLaw", "term", "(LClauseLedger;[J)I"⟩) ∈ gw := gt_3 (i := 79) rfl rfl
theorem m_560 : (Cond.codeWith ⟨"ClauseLedgerLaw", "term", "(LClauseLedger;[J)I"⟩ method_3_code 3 (some .int) [(0, 8, 11, 13), (0, 8, 14, 15), (0, 8, 17, 17)]) ∈ gw := gt_3 (i := 80) rfl rfl
theorem m_561 : (Cond.classLink "ClauseLedgerLaw" 13 "java/lang/IllegalArgumentException") ∈ gw := gt_3 (i := 81) rfl rfl
theorem m_562 : (Cond.classLink "ClauseLedgerLaw" 15 "java/lang/ArithmeticException") ∈ gw := gt_3 (i := 82) rfl rfl
theorem m_563 : (Cond.classLink "ClauseLedgerLaw" 17 "java/lang/IllegalStateException") ∈ gw := gt_3 (i := 83) rfl rfl
theorem m_564 : (Cond.methodLink "ClauseLedgerLaw" 7 ⟨"ClauseLedger", "term", "()I"⟩) ∈ gw := gt_3 (i := 84) rfl rfl
theorem m_565 : (Cond.instanceMethod ⟨"ClauseLedger", "term", "()I"⟩) ∈ gw := gt_3 (i := 85) rfl rfl
theorem m_566 : (Cond.selects "ClauseLedger" ⟨"ClauseLedger", "term", "()I"⟩ ⟨"ClauseLedger", "term", "()I"⟩) ∈ gw := gt_3 (i := 86) rfl rfl
theorem m_567 : (Cond.code ⟨"ClauseLedger", "term", "()I"⟩ prog_1_method_6_code 2 (some .int)) ∈ gw := gt_3 (i := 87) rfl rfl
theorem m_568 : (Cond.methodLink "ClauseLedger" 102 ⟨"ClauseLedger", "isShut", "()Z"⟩) ∈ gw := gt_3 (i := 88) rfl rfl
theorem m_570 : (Cond.instanceMethod ⟨"ClauseLedger", "isShut", "()Z"⟩) ∈ gw := gt_3 (i := 90) rfl rfl
theorem m_571 : (Cond.code ⟨"ClauseLedger", "isShut", "()Z"⟩ prog_1_method_25_code 1 (some .boolean)) ∈ gw := gt_3 (i := 91) rfl rfl
theorem m_572 : (Cond.methodLink "ClauseLedger" 106 ⟨"ClauseLedger$Reader", "read", "()I"⟩) ∈ gw := gt_3 (i := 92) rfl rfl
theorem m_573 : (Cond.instanceMethod ⟨"ClauseLedger$Reader", "read", "()I"⟩) ∈ gw := gt_3 (i := 93) rfl rfl
theorem m_574 : (Cond.selects "ClauseLedger$Reader" ⟨"ClauseLedger$Reader", "read", "()I"⟩ ⟨"ClauseLedger$Reader", "read", "()I"⟩) ∈ gw := gt_3 (i := 94) rfl rfl
theorem m_575 : (Cond.code ⟨"ClauseLedger$Reader", "read", "()I"⟩ prog_5_method_2_code 2 (some .int)) ∈ gw := gt_3 (i := 95) rfl rfl
theorem m_576 : (Cond.methodLink "ClauseLedger$Reader" 27 ⟨"ClauseLedger$Reader", "readAny", "(I)I"⟩) ∈ gw := gt_3 (i := 96) rfl rfl
theorem m_578 : (Cond.instanceMethod ⟨"ClauseLedger$Reader", "readAny", "(I)I"⟩) ∈ gw := gt_3 (i := 98) rfl rfl
theorem m_579 : (Cond.code ⟨"ClauseLedger$Reader", "readAny", "(I)I"⟩ prog_5_method_3_code 4 (some .int)) ∈ gw := gt_3 (i := 99) rfl rfl
theorem m_580 : (Cond.methodLink "ClauseLedger$Reader" 37 ⟨"ClauseLedger$Draft", "letter", "(I)C"⟩) ∈ gw := gt_3 (i := 100) rfl rfl
theorem m_581 : (Cond.instanceMethod ⟨"ClauseLedger$Draft", "letter", "(I)C"⟩) ∈ gw := gt_3 (i := 101) rfl rfl
theorem m_582 : (Cond.selects "ClauseLedger$Draft" ⟨"ClauseLedger$Draft", "letter", "(I)C"⟩ ⟨"ClauseLedger$Draft", "letter", "(I)C"⟩) ∈ gw := gt_3 (i := 102) rfl rfl
theorem m_583 : (Cond.code ⟨"ClauseLedger$Draft", "letter", "(I)C"⟩ prog_3_method_4_code 2 (some .char)) ∈ gw := gt_3 (i := 103) rfl rfl
theorem m_584 : (Cond.methodLink "ClauseLedger$Reader" 41 ⟨"ClauseLedger$Reader", "readBracket", "(I)I"⟩) ∈ gw := gt_3 (i := 104) rfl rfl
theorem m_586 : (Cond.instanceMethod ⟨"ClauseLedger$Reader", "readBracket", "(I)I"⟩) ∈ gw := gt_3 (i := 106) rfl rfl
theorem m_587 : (Cond.code ⟨"ClauseLedger$Reader", "readBracket", "(I)I"⟩ prog_5_method_6_code 4 (some .int)) ∈ gw := gt_3 (i := 107) rfl rfl
theorem m_588 : (Cond.methodLink "ClauseLedger$Reader" 77 ⟨"ClauseLedger$Reader", "readApplied", "(II)I"⟩) ∈ gw := gt_3 (i := 108) rfl rfl
theorem m_590 : (Cond.instanceMethod ⟨"ClauseLedger$Reader", "readApplied", "(II)I"⟩) ∈ gw := gt_3 (i := 110) rfl rfl
theorem m_591 : (Cond.code ⟨"ClauseLedger$Reader", "readApplied", "(II)I"⟩ prog_5_method_7_code 7 (some .int)) ∈ gw := gt_3 (i := 111) rfl rfl
theorem m_592 : (Cond.methodLink "ClauseLedger$Reader" 68 ⟨"ClauseLedger$Signature", "firstOfSymbol", "(I)I"⟩) ∈ gw := gt_3 (i := 112) rfl rfl
theorem m_593 : (Cond.instanceMethod ⟨"ClauseLedger$Signature", "firstOfSymbol", "(I)I"⟩) ∈ gw := gt_3 (i := 113) rfl rfl
theorem m_594 : (Cond.selects "ClauseLedger$Signature" ⟨"ClauseLedger$Signature", "firstOfSymbol", "(I)I"⟩ ⟨"ClauseLedger$Signature", "firstOfSymbol", "(I)I"⟩) ∈ gw := gt_3 (i := 114) rfl rfl
theorem m_595 : (Cond.code ⟨"ClauseLedger$Signature", "firstOfSymbol", "(I)I"⟩ prog_8_method_8_code 2 (some .int)) ∈ gw := gt_3 (i := 115) rfl rfl
theorem m_596 : (Cond.methodLink "ClauseLedger$Signature" 41 ⟨"ClauseLedger$Signature", "isSymbol", "(I)Z"⟩) ∈ gw := gt_3 (i := 116) rfl rfl
theorem m_597 : (Cond.instanceMethod ⟨"ClauseLedger$Signature", "isSymbol", "(I)Z"⟩) ∈ gw := gt_3 (i := 117) rfl rfl
theorem m_598 : (Cond.selects "ClauseLedger$Signature" ⟨"ClauseLedger$Signature", "isSymbol", "(I)Z"⟩ ⟨"ClauseLedger$Signature", "isSymbol", "(I)Z"⟩) ∈ gw := gt_3 (i := 118) rfl rfl
theorem m_599 : (Cond.code ⟨"ClauseLedger$Signature", "isSymbol", "(I)Z"⟩ prog_8_method_5_code 2 (some .boolean)) ∈ gw := gt_3 (i := 119) rfl rfl
theorem m_600 : (Cond.methodLink "ClauseLedger$Reader" 99 ⟨"ClauseLedger$Signature", "secondOfSymbol", "(I)I"⟩) ∈ gw := gt_3 (i := 120) rfl rfl
theorem m_601 : (Cond.instanceMethod ⟨"ClauseLedger$Signature", "secondOfSymbol", "(I)I"⟩) ∈ gw := gt_3 (i := 121) rfl rfl
theorem m_602 : (Cond.selects "ClauseLedger$Signature" ⟨"ClauseLedger$Signature", "secondOfSymbol", "(I)I"⟩ ⟨"ClauseLedger$Signature", "secondOfSymbol", "(I)I"⟩) ∈ gw := gt_3 (i := 122) rfl rfl
theorem m_603 : (Cond.code ⟨"ClauseLedger$Signature", "secondOfSymbol", "(I)I"⟩ prog_8_method_9_code 2 (some .int)) ∈ gw := gt_3 (i := 123) rfl rfl
theorem m_604 : (Cond.methodLink "ClauseLedger$Reader" 102 ⟨"ClauseLedger$Reader", "readPart", "(I)I"⟩) ∈ gw := gt_3 (i := 124) rfl rfl
theorem m_606 : (Cond.instanceMethod ⟨"ClauseLedger$Reader", "readPart", "(I)I"⟩) ∈ gw := gt_3 (i := 126) rfl rfl
theorem m_607 : (Cond.code ⟨"ClauseLedger$Reader", "readPart", "(I)I"⟩ prog_5_method_11_code 2 (some .int)) ∈ gw := gt_3 (i := 127) rfl rfl
theorem m_608 : (Cond.methodLink "ClauseLedger$Reader" 85 ⟨"ClauseLedger$Reader", "take", "(C)Z"⟩) ∈ gw := gt_3 (i := 128) rfl rfl
theorem m_610 : (Cond.instanceMethod ⟨"ClauseLedger$Reader", "take", "(C)Z"⟩) ∈ gw := gt_3 (i := 130) rfl rfl
theorem m_611 : (Cond.code ⟨"ClauseLedger$Reader", "take", "(C)Z"⟩ prog_5_method_15_code 2 (some .boolean)) ∈ gw := gt_3 (i := 131) rfl rfl
theorem m_612 : (Cond.methodLink "ClauseLedger$Reader" 105 ⟨"ClauseLedger$Terms", "sortOf", "(I)I"⟩) ∈ gw := gt_3 (i := 132) rfl rfl
theorem m_613 : (Cond.methodLink "ClauseLedger$Reader" 71 ⟨"ClauseLedger$Signature", "sortOfSymbol", "(I)I"⟩) ∈ gw := gt_3 (i := 133) rfl rfl
theorem m_614 : (Cond.instanceMethod ⟨"ClauseLedger$Signature", "sortOfSymbol", "(I)I"⟩) ∈ gw := gt_3 (i := 134) rfl rfl
theorem m_615 : (Cond.selects "ClauseLedger$Signature" ⟨"ClauseLedger$Signature", "sortOfSymbol", "(I)I"⟩ ⟨"ClauseLedger$Signature", "sortOfSymbol", "(I)I"⟩) ∈ gw := gt_3 (i := 135) rfl rfl
theorem m_616 : (Cond.code ⟨"ClauseLedger$Signature", "sortOfSymbol", "(I)I"⟩ prog_8_method_7_code 2 (some .int)) ∈ gw := gt_3 (i := 136) rfl rfl
theorem m_617 : (Cond.methodLink "ClauseLedger$Reader" 55 ⟨"ClauseLedger$Terms", "make", "(IIIII)I"⟩) ∈ gw := gt_3 (i := 137) rfl rfl
theorem m_618 : (Cond.instanceMethod ⟨"ClauseLedger$Terms", "make", "(IIIII)I"⟩) ∈ gw := gt_3 (i := 138) rfl rfl
theorem m_619 : (Cond.selects "ClauseLedger$Terms" ⟨"ClauseLedger$Terms", "make", "(IIIII)I"⟩ ⟨"ClauseLedger$Terms", "make", "(IIIII)I"⟩) ∈ gw := gt_3 (i := 139) rfl rfl
theorem m_620 : (Cond.code ⟨"ClauseLedger$Terms", "make", "(IIIII)I"⟩ prog_11_method_19_code 10 (some .int)) ∈ gw := gt_3 (i := 140) rfl rfl
theorem m_621 : (Cond.methodLink "ClauseLedger$Terms" 68 ⟨"ClauseLedger$Terms", "keyOf", "(IIII)J"⟩) ∈ gw := gt_3 (i := 141) rfl rfl
theorem m_622 : (Cond.static ⟨"ClauseLedger$Terms", "keyOf", "(IIII)J"⟩) ∈ gw := gt_3 (i := 142) rfl rfl
theorem m_623 : (Cond.code ⟨"ClauseLedger$Terms", "keyOf", "(IIII)J"⟩ prog_11_method_26_code 6 (some .long)) ∈ gw := gt_3 (i := 143) rfl rfl
theorem m_624 : (Cond.constantLong "ClauseLedger$Terms" 115 100000) ∈ gw := gt_3 (i := 144) rfl rfl
theorem m_625 : (Cond.constantLong "ClauseLedger$Terms" 117 262144) ∈ gw := gt_3 (i := 145) rfl rfl
theorem m_626 : (Cond.constantLong "ClauseLedger$Terms" 119 256) ∈ gw := gt_3 (i := 146) rfl rfl
theorem m_627 : (Cond.constantLong "ClauseLedger$Terms" 121 16) ∈ gw := gt_3 (i := 147) rfl rfl
theorem m_628 : (Cond.methodLink "ClauseLedger$Terms" 72 ⟨"java/lang/Math", "max", "(II)I"⟩) ∈ gw := gt_3 (i := 148) rfl rfl
theorem m_629 : (Cond.static ⟨"java/lang/Math", "max", "(II)I"⟩) ∈ gw := gt_3 (i := 149) rfl rfl
theorem m_630 : (Cond.code ⟨"java/lang/Math", "max", "(II)I"⟩ prog_22_method_65_code 2 (some .int)) ∈ gw := gt_3 (i := 150) rfl rfl
theorem m_631 : (Cond.methodLink "ClauseLedger$Terms" 78 ⟨"ClauseLedger$Terms", "find", "(JI)I"⟩) ∈ gw := gt_3 (i := 151) rfl rfl
theorem m_633 : (Cond.instanceMethod ⟨"ClauseLedger$Terms", "find", "(JI)I"⟩) ∈ gw := gt_3 (i := 153) rfl rfl
theorem m_634 : (Cond.code ⟨"ClauseLedger$Terms", "find", "(JI)I"⟩ prog_11_method_27_code 5 (some .int)) ∈ gw := gt_3 (i := 154) rfl rfl
theorem m_635 : (Cond.methodLink "ClauseLedger$Terms" 82 ⟨"ClauseLedger$Terms", "append", "(JIII)I"⟩) ∈ gw := gt_3 (i := 155) rfl rfl
theorem m_637 : (Cond.instanceMethod ⟨"ClauseLedger$Terms", "append", "(JIII)I"⟩) ∈ gw := gt_3 (i := 157) rfl rfl
theorem m_638 : (Cond.code ⟨"ClauseLedger$Terms", "append", "(JIII)I"⟩ prog_11_method_28_code 7 (some .int)) ∈ gw := gt_3 (i := 158) rfl rfl
theorem m_639 : (Cond.methodLink "ClauseLedger$Terms" 123 ⟨"java/lang/Math", "min", "(II)I"⟩) ∈ gw := gt_3 (i := 159) rfl rfl
theorem m_640 : (Cond.static ⟨"java/lang/Math", "min", "(II)I"⟩) ∈ gw := gt_3 (i := 160) rfl rfl
theorem m_641 : (Cond.code ⟨"java/lang/Math", "min", "(II)I"⟩ prog_22_method_69_code 2 (some .int)) ∈ gw := gt_3 (i := 161) rfl rfl
theorem m_642 : (Cond.methodLink "ClauseLedger$Terms" 86 ⟨"ClauseLedger$Terms", "depthOf", "(I)I"⟩) ∈ gw := gt_3 (i := 162) rfl rfl
theorem m_643 : (Cond.methodLink "ClauseLedger$Terms" 89 ⟨"ClauseLedger$Terms", "lengthOf", "(I)I"⟩) ∈ gw := gt_3 (i := 163) rfl rfl
theorem m_644 : (Cond.methodLink "ClauseLedger$Terms" 92 ⟨"ClauseLedger$Writer", "length", "(IZI)I"⟩) ∈ gw := gt_3 (i := 164) rfl rfl
theorem m_645 : (Cond.static ⟨"ClauseLedger$Writer", "length", "(IZI)I"⟩) ∈ gw := gt_3 (i := 165) rfl rfl
theorem m_646 : (Cond.code ⟨"ClauseLedger$Writer", "length", "(IZI)I"⟩ prog_12_method_2_code 3 (some .int)) ∈ gw := gt_3 (i := 166) rfl rfl
theorem m_647 : (Cond.methodLink "ClauseLedger$Terms" 65 ⟨"ClauseLedger$Terms", "freeOf", "(I)I"⟩) ∈ gw := gt_3 (i := 167) rfl rfl
theorem m_649 : (Cond.instanceMethod ⟨"ClauseLedger$Terms", "freeOf", "(I)I"⟩) ∈ gw := gt_3 (i := 169) rfl rfl
theorem m_650 : (Cond.code ⟨"ClauseLedger$Terms", "freeOf", "(I)I"⟩ prog_11_method_24_code 2 (some .int)) ∈ gw := gt_3 (i := 170) rfl rfl
theorem m_651 : (Cond.methodLink "ClauseLedger$Terms" 98 ⟨"ClauseLedger$Terms", "freeBy", "(III)I"⟩) ∈ gw := gt_3 (i := 171) rfl rfl
theorem m_652 : (Cond.static ⟨"ClauseLedger$Terms", "freeBy", "(III)I"⟩) ∈ gw := gt_3 (i := 172) rfl rfl
theorem m_653 : (Cond.code ⟨"ClauseLedger$Terms", "freeBy", "(III)I"⟩ prog_11_method_25_code 3 (some .int)) ∈ gw := gt_3 (i := 173) rfl rfl
theorem m_654 : (Cond.methodLink "ClauseLedger$Reader" 81 ⟨"ClauseLedger$Reader", "readOverTruth", "(III)I"⟩) ∈ gw := gt_3 (i := 174) rfl rfl
theorem m_656 : (Cond.instanceMethod ⟨"ClauseLedger$Reader", "readOverTruth", "(III)I"⟩) ∈ gw := gt_3 (i := 176) rfl rfl
theorem m_657 : (Cond.code ⟨"ClauseLedger$Reader", "readOverTruth", "(III)I"⟩ prog_5_method_8_code 5 (some .int)) ∈ gw := gt_3 (i := 177) rfl rfl
theorem m_658 : (Cond.methodLink "ClauseLedger$Reader" 108 ⟨"ClauseLedger$Terms", "isTruth", "(I)Z"⟩) ∈ gw := gt_3 (i := 178) rfl rfl
theorem m_659 : (Cond.instanceMethod ⟨"ClauseLedger$Terms", "isTruth", "(I)Z"⟩) ∈ gw := gt_3 (i := 179) rfl rfl
theorem m_660 : (Cond.selects "ClauseLedger$Terms" ⟨"ClauseLedger$Terms", "isTruth", "(I)Z"⟩ ⟨"ClauseLedger$Terms", "isTruth", "(I)Z"⟩) ∈ gw := gt_3 (i := 180) rfl rfl
theorem m_661 : (Cond.code ⟨"ClauseLedger$Terms", "isTruth", "(I)Z"⟩ prog_11_method_6_code 2 (some .boolean)) ∈ gw := gt_3 (i := 181) rfl rfl
theorem m_662 : (Cond.methodLink "ClauseLedger$Terms" 61 ⟨"ClauseLedger$Terms", "sortOf", "(I)I"⟩) ∈ gw := gt_3 (i := 182) rfl rfl
theorem m_663 : (Cond.methodLink "ClauseLedger$Reader" 47 ⟨"ClauseLedger$Reader", "readVariable", "()I"⟩) ∈ gw := gt_3 (i := 183) rfl rfl
theorem m_665 : (Cond.instanceMethod ⟨"ClauseLedger$Reader", "readVariable", "()I"⟩) ∈ gw := gt_3 (i := 185) rfl rfl
theorem m_666 : (Cond.code ⟨"ClauseLedger$Reader", "readVariable", "()I"⟩ prog_5_method_5_code 2 (some .int)) ∈ gw := gt_3 (i := 186) rfl rfl
theorem m_667 : (Cond.methodLink "ClauseLedger$Reader" 74 ⟨"ClauseLedger$Signature", "isVariable", "(I)Z"⟩) ∈ gw := gt_3 (i := 187) rfl rfl
theorem m_669 : (Cond.methodLink "ClauseLedger$Reader" 91 ⟨"java/lang/String", "indexOf", "(I)I"⟩) ∈ gw := gt_3 (i := 189) rfl rfl
theorem m_670 : (Cond.instanceMethod ⟨"java/lang/String", "indexOf", "(I)I"⟩) ∈ gw := gt_3 (i := 190) rfl rfl
theorem m_671 : (Cond.selects "java/lang/String" ⟨"java/lang/String", "indexOf", "(I)I"⟩ ⟨"java/lang/String", "indexOf", "(I)I"⟩) ∈ gw := gt_3 (i := 191) rfl rfl
theorem m_672 : (Cond.code ⟨"java/lang/String", "indexOf", "(I)I"⟩ prog_24_method_79_code 2 (some .int)) ∈ gw := gt_3 (i := 192) rfl rfl
theorem m_673 : (Cond.methodLink "java/lang/String" 633 ⟨"java/lang/String", "indexOf", "(II)I"⟩) ∈ gw := gt_3 (i := 193) rfl rfl
theorem m_674 : (Cond.instanceMethod ⟨"java/lang/String", "indexOf", "(II)I"⟩) ∈ gw := gt_3 (i := 194) rfl rfl
theorem m_675 : (Cond.selects "java/lang/String" ⟨"java/lang/String", "indexOf", "(II)I"⟩ ⟨"java/lang/String", "indexOf", "(II)I"⟩) ∈ gw := gt_3 (i := 195) rfl rfl
theorem m_676 : (Cond.code ⟨"java/lang/String", "indexOf", "(II)I"⟩ prog_24_method_80_code 3 (some .int)) ∈ gw := gt_3 (i := 196) rfl rfl
theorem m_677 : (Cond.methodLink "java/lang/String" 505 ⟨"java/lang/String", "length", "()I"⟩) ∈ gw := gt_3 (i := 197) rfl rfl
theorem m_678 : (Cond.methodLink "java/lang/String" 637 ⟨"java/lang/StringLatin1", "indexOf", "([BIII)I"⟩) ∈ gw := gt_3 (i := 198) rfl rfl
theorem m_679 : (Cond.static ⟨"java/lang/StringLatin1", "indexOf", "([BIII)I"⟩) ∈ gw := gt_3 (i := 199) rfl rfl
theorem m_680 : (Cond.code ⟨"java/lang/StringLatin1", "indexOf", "([BIII)I"⟩ prog_25_method_22_code 4 (some .int)) ∈ gw := gt_3 (i := 200) rfl rfl
theorem m_681 : (Cond.methodLink "java/lang/StringLatin1" 88 ⟨"java/lang/StringLatin1", "canEncode", "(I)Z"⟩) ∈ gw := gt_3 (i := 201) rfl rfl
theorem m_682 : (Cond.static ⟨"java/lang/StringLatin1", "canEncode", "(I)Z"⟩) ∈ gw := gt_3 (i := 202) rfl rfl
theorem m_683 : (Cond.code ⟨"java/lang/StringLatin1", "canEncode", "(I)Z"⟩ prog_25_method_4_code 1 (some .boolean)) ∈ gw := gt_3 (i := 203) rfl rfl
theorem m_684 : (Cond.methodLink "java/lang/StringLatin1" 92 ⟨"java/lang/Math", "max", "(II)I"⟩) ∈ gw := gt_3 (i := 204) rfl rfl
theorem m_685 : (Cond.methodLink "java/lang/StringLatin1" 38 ⟨"java/lang/Math", "min", "(II)I"⟩) ∈ gw := gt_3 (i := 205) rfl rfl
theorem m_686 : (Cond.methodLink "java/lang/StringLatin1" 95 ⟨"java/lang/StringLatin1", "indexOfChar", "([BIII)I"⟩) ∈ gw := gt_3 (i := 206) rfl rfl
theorem m_687 : (Cond.static ⟨"java/lang/StringLatin1", "indexOfChar", "([BIII)I"⟩) ∈ gw := gt_3 (i := 207) rfl rfl
theorem m_688 : (Cond.code ⟨"java/lang/StringLatin1", "indexOfChar", "([BIII)I"⟩ prog_25_method_23_code 6 (some .int)) ∈ gw := gt_3 (i := 208) rfl rfl
theorem m_724 : (Cond.methodLink "ClauseLedger$Reader" 96 ⟨"ClauseLedger$Reader", "readOverTwo", "(II)I"⟩) ∈ gw := gt_4 (i := 4) rfl rfl
theorem m_726 : (Cond.instanceMethod ⟨"ClauseLedger$Reader", "readOverTwo", "(II)I"⟩) ∈ gw := gt_4 (i := 6) rfl rfl
theorem m_727 : (Cond.code ⟨"ClauseLedger$Reader", "readOverTwo", "(II)I"⟩ prog_5_method_9_code 5 (some .int)) ∈ gw := gt_4 (i := 7) rfl rfl
theorem m_728 : (Cond.methodLink "ClauseLedger$Reader" 111 ⟨"ClauseLedger$Reader", "canBePartsOf", "(III)Z"⟩) ∈ gw := gt_4 (i := 8) rfl rfl
theorem m_730 : (Cond.instanceMethod ⟨"ClauseLedger$Reader", "canBePartsOf", "(III)Z"⟩) ∈ gw := gt_4 (i := 10) rfl rfl
theorem m_731 : (Cond.code ⟨"ClauseLedger$Reader", "canBePartsOf", "(III)Z"⟩ prog_5_method_10_code 5 (some .boolean)) ∈ gw := gt_4 (i := 11) rfl rfl
theorem m_732 : (Cond.methodLink "ClauseLedger$Reader" 115 ⟨"ClauseLedger$Terms", "kindOf", "(I)I"⟩) ∈ gw := gt_4 (i := 12) rfl rfl
theorem m_733 : (Cond.methodLink "ClauseLedger$Reader" 44 ⟨"ClauseLedger$Reader", "readBareSymbol", "()I"⟩) ∈ gw := gt_4 (i := 13) rfl rfl
theorem m_735 : (Cond.instanceMethod ⟨"ClauseLedger$Reader", "readBareSymbol", "()I"⟩) ∈ gw := gt_4 (i := 15) rfl rfl
theorem m_736 : (Cond.code ⟨"ClauseLedger$Reader", "readBareSymbol", "()I"⟩ prog_5_method_4_code 2 (some .int)) ∈ gw := gt_4 (i := 16) rfl rfl
theorem m_737 : (Cond.methodLink "ClauseLedger$Reader" 64 ⟨"ClauseLedger$Signature", "isSymbol", "(I)Z"⟩) ∈ gw := gt_4 (i := 17) rfl rfl
theorem m_738 : (Cond.methodLink "ClauseLedger$Reader" 50 ⟨"ClauseLedger$Signature", "sortOfVariable", "(I)I"⟩) ∈ gw := gt_4 (i := 18) rfl rfl
theorem m_739 : (Cond.instanceMethod ⟨"ClauseLedger$Signature", "sortOfVariable", "(I)I"⟩) ∈ gw := gt_4 (i := 19) rfl rfl
theorem m_740 : (Cond.selects "ClauseLedger$Signature" ⟨"ClauseLedger$Signature", "sortOfVariable", "(I)I"⟩ ⟨"ClauseLedger$Signature", "sortOfVariable", "(I)I"⟩) ∈ gw := gt_4 (i := 20) rfl rfl
theorem m_741 : (Cond.code ⟨"ClauseLedger$Signature", "sortOfVariable", "(I)I"⟩ prog_8_method_10_code 2 (some .int)) ∈ gw := gt_4 (i := 21) rfl rfl
theorem m_742 : (Cond.methodLink "ClauseLedger$Reader" 61 ⟨"ClauseLedger$Reader", "readConstant", "()I"⟩) ∈ gw := gt_4 (i := 22) rfl rfl
theorem m_744 : (Cond.instanceMethod ⟨"ClauseLedger$Reader", "readConstant", "()I"⟩) ∈ gw := gt_4 (i := 24) rfl rfl
theorem m_745 : (Cond.code ⟨"ClauseLedger$Reader", "readConstant", "()I"⟩ prog_5_method_12_code 5 (some .int)) ∈ gw := gt_4 (i := 25) rfl rfl
theorem m_746 : (Cond.methodLink "ClauseLedger$Reader" 118 ⟨"ClauseLedger$Reader", "readDigits", "()I"⟩) ∈ gw := gt_4 (i := 26) rfl rfl
theorem m_748 : (Cond.instanceMethod ⟨"ClauseLedger$Reader", "readDigits", "()I"⟩) ∈ gw := gt_4 (i := 28) rfl rfl
theorem m_749 : (Cond.code ⟨"ClauseLedger$Reader", "readDigits", "()I"⟩ prog_5_method_13_code 3 (some .int)) ∈ gw := gt_4 (i := 29) rfl rfl
theorem m_750 : (Cond.methodLink "ClauseLedger$Reader" 128 ⟨"ClauseLedger$Reader", "isDigit", "(C)Z"⟩) ∈ gw := gt_4 (i := 30) rfl rfl
theorem m_751 : (Cond.static ⟨"ClauseLedger$Reader", "isDigit", "(C)Z"⟩) ∈ gw := gt_4 (i := 31) rfl rfl
theorem m_752 : (Cond.code ⟨"ClauseLedger$Reader", "isDigit", "(C)Z"⟩ prog_5_method_14_code 1 (some .boolean)) ∈ gw := gt_4 (i := 32) rfl rfl
theorem m_754 : (Cond.static ⟨"ClauseLedger", "gcd", "(JJ)J"⟩) ∈ gw := gt_4 (i := 34) rfl rfl
theorem m_755 : (Cond.code ⟨"ClauseLedger", "gcd", "(JJ)J"⟩ prog_1_method_43_code 11 (some .long)) ∈ gw := gt_4 (i := 35) rfl rfl
theorem m_756 : (Cond.methodLink "ClauseLedger$Reader" 125 ⟨"ClauseLedger$Terms", "makeConstant", "(II)I"⟩) ∈ gw := gt_4 (i := 36) rfl rfl
theorem m_757 : (Cond.instanceMethod ⟨"ClauseLedger$Terms", "makeConstant", "(II)I"⟩) ∈ gw := gt_4 (i := 37) rfl rfl
theorem m_758 : (Cond.selects "ClauseLedger$Terms" ⟨"ClauseLedger$Terms", "makeConstant", "(II)I"⟩ ⟨"ClauseLedger$Terms", "makeConstant", "(II)I"⟩) ∈ gw := gt_4 (i := 38) rfl rfl
theorem m_759 : (Cond.code ⟨"ClauseLedger$Terms", "makeConstant", "(II)I"⟩ prog_11_method_20_code 7 (some .int)) ∈ gw := gt_4 (i := 39) rfl rfl
theorem m_760 : (Cond.methodLink "ClauseLedger$Terms" 102 ⟨"ClauseLedger$Writer", "lengthOfConstant", "(II)I"⟩) ∈ gw := gt_4 (i := 40) rfl rfl
theorem m_761 : (Cond.static ⟨"ClauseLedger$Writer", "lengthOfConstant", "(II)I"⟩) ∈ gw := gt_4 (i := 41) rfl rfl
theorem m_762 : (Cond.code ⟨"ClauseLedger$Writer", "lengthOfConstant", "(II)I"⟩ prog_12_method_3_code 3 (some .int)) ∈ gw := gt_4 (i := 42) rfl rfl
theorem m_763 : (Cond.methodLink "ClauseLedger$Reader" 31 ⟨"ClauseLedger$Draft", "size", "()I"⟩) ∈ gw := gt_4 (i := 43) rfl rfl
theorem m_764 : (Cond.instanceMethod ⟨"ClauseLedger$Draft", "size", "()I"⟩) ∈ gw := gt_4 (i := 44) rfl rfl
theorem m_765 : (Cond.selects "ClauseLedger$Draft" ⟨"ClauseLedger$Draft", "size", "()I"⟩ ⟨"ClauseLedger$Draft", "size", "()I"⟩) ∈ gw := gt_4 (i := 45) rfl rfl
theorem m_766 : (Cond.code ⟨"ClauseLedger$Draft", "size", "()I"⟩ prog_3_method_2_code 1 (some .int)) ∈ gw := gt_4 (i := 46) rfl rfl
theorem m_767 : (Cond.methodLink "ClauseLedger" 109 ⟨"ClauseLedger$Draft", "wipe", "()V"⟩) ∈ gw := gt_4 (i := 47) rfl rfl
theorem m_768 : (Cond.instanceMethod ⟨"ClauseLedger$Draft", "wipe", "()V"⟩) ∈ gw := gt_4 (i := 48) rfl rfl
theorem m_769 : (Cond.selects "ClauseLedger$Draft" ⟨"ClauseLedger$Draft", "wipe", "()V"⟩ ⟨"ClauseLedger$Draft", "wipe", "()V"⟩) ∈ gw := gt_4 (i := 49) rfl rfl
theorem m_770 : (Cond.code ⟨"ClauseLedger$Draft", "wipe", "()V"⟩ prog_3_method_3_code 1 none) ∈ gw := gt_4 (i := 50) rfl rfl
theorem m_771 : (Cond.methodLink "ClauseLedger" 112 ⟨"ClauseLedger", "throwWrong", "()I"⟩) ∈ gw := gt_4 (i := 51) rfl rfl
theorem m_773 : (Cond.instanceMethod ⟨"ClauseLedger", "throwWrong", "()I"⟩) ∈ gw := gt_4 (i := 53) rfl rfl
theorem m_774 : (Cond.code ⟨"ClauseLedger", "throwWrong", "()I"⟩ prog_1_method_40_code 1 (some .int)) ∈ gw := gt_4 (i := 54) rfl rfl
theorem m_775 : (Cond.methodLink "ClauseLedger" 302 ⟨"ClauseLedger", "undo", "()V"⟩) ∈ gw := gt_4 (i := 55) rfl rfl
theorem m_777 : (Cond.instanceMethod ⟨"ClauseLedger", "undo", "()V"⟩) ∈ gw := gt_4 (i := 57) rfl rfl
theorem m_778 : (Cond.code ⟨"ClauseLedger", "undo", "()V"⟩ prog_1_method_38_code 1 none) ∈ gw := gt_4 (i := 58) rfl rfl
theorem m_779 : (Cond.methodLink "ClauseLedger" 299 ⟨"ClauseLedger$Terms", "takeBack", "()V"⟩) ∈ gw := gt_4 (i := 59) rfl rfl
theorem m_780 : (Cond.instanceMethod ⟨"ClauseLedger$Terms", "takeBack", "()V"⟩) ∈ gw := gt_4 (i := 60) rfl rfl
theorem m_781 : (Cond.selects "ClauseLedger$Terms" ⟨"ClauseLedger$Terms", "takeBack", "()V"⟩ ⟨"ClauseLedger$Terms", "takeBack", "()V"⟩) ∈ gw := gt_4 (i := 61) rfl rfl
theorem m_782 : (Cond.code ⟨"ClauseLedger$Terms", "takeBack", "()V"⟩ prog_11_method_18_code 1 none) ∈ gw := gt_4 (i := 62) rfl rfl
theorem m_783 : (Cond.classLink "ClauseLedger" 312 "java/lang/IllegalArgumentException") ∈ gw := gt_4 (i := 63) rfl rfl
theorem m_784 : (Cond.instantiable "java/lang/IllegalArgumentException" 6) ∈ gw := gt_4 (i := 64) rfl rfl
theorem m_792 : (Cond.selects "java/lang/IllegalArgumentException" ⟨"java/lang/Throwable", "fillInStackTrace", "(I)Ljava/lang/Throwable;"⟩ ⟨"java/lang/Throwable", "fillInStackTrace", "(I)Ljava/lang/Throwable;"⟩) ∈ gw := gt_4 (i := 72) rfl rfl
theorem m_793 : (Cond.selects "java/lang/IllegalArgumentException" ⟨"java/lang/Throwable", "fillInStackTrace", "()Ljava/lang/Throwable;"⟩ ⟨"java/lang/Throwable", "fillInStackTrace", "()Ljava/lang/Throwable;"⟩) ∈ gw := gt_4 (i := 73) rfl rfl
theorem m_794 : (Cond.lays "java/lang/IllegalArgumentException" "java/lang/Throwable" "cause" "Ljava/lang/Throwable;") ∈ gw := gt_4 (i := 74) rfl rfl
theorem m_795 : (Cond.lays "java/lang/Throwable" "java/lang/Throwable" "cause" "Ljava/lang/Throwable;") ∈ gw := gt_4 (i := 75) rfl rfl
theorem m_796 : (Cond.lays "java/lang/IllegalArgumentException" "java/lang/Throwable" "stackTrace" "[Ljava/lang/StackTraceElement;") ∈ gw := gt_4 (i := 76) rfl rfl
theorem m_797 : (Cond.lays "java/lang/Throwable" "java/lang/Throwable" "stackTrace" "[Ljava/lang/StackTraceElement;") ∈ gw := gt_4 (i := 77) rfl rfl
theorem m_798 : (Cond.lays "java/lang/IllegalArgumentException" "java/lang/Throwable" "suppressedExceptions" "Ljava/util/List;") ∈ gw := gt_4 (i := 78) rfl rfl
theorem m_799 : (Cond.lays "java/lang/Throwable" "java/lang/Throwable" "suppressedExceptions" "Ljava/util/List;") ∈ gw := gt_4 (i := 79) rfl rfl
theorem m_800 : (Cond.lays "java/lang/IllegalArgumentException" "java/lang/Throwable" "detailMessage" "Ljava/lang/String;") ∈ gw := gt_4 (i := 80) rfl rfl
theorem m_801 : (Cond.lays "java/lang/Throwable" "java/lang/Throwable" "detailMessage" "Ljava/lang/String;") ∈ gw := gt_4 (i := 81) rfl rfl
theorem m_802 : (Cond.lays "java/lang/IllegalArgumentException" "java/lang/Throwable" "backtrace" "Ljava/lang/Object;") ∈ gw := gt_4 (i := 82) rfl rfl
theorem m_803 : (Cond.lays "java/lang/Throwable" "java/lang/Throwable" "backtrace" "Ljava/lang/Object;") ∈ gw := gt_4 (i := 83) rfl rfl
theorem m_804 : (Cond.fieldLink "java/lang/Throwable" 198 "java/lang/Throwable" "backtrace" "Ljava/lang/Object;") ∈ gw := gt_4 (i := 84) rfl rfl
theorem m_805 : (Cond.superclass "java/lang/Throwable" "java/lang/Object") ∈ gw := gt_4 (i := 85) rfl rfl
theorem m_806 : (Cond.instanceMethod ⟨"java/lang/Throwable", "<init>", "()V"⟩) ∈ gw := gt_4 (i := 86) rfl rfl
theorem m_807 : (Cond.code ⟨"java/lang/Throwable", "<init>", "()V"⟩ prog_27_method_1_code 1 none) ∈ gw := gt_4 (i := 87) rfl rfl
theorem m_808 : (Cond.methodLink "java/lang/Throwable" 1 ⟨"java/lang/Object", "<init>", "()V"⟩) ∈ gw := gt_4 (i := 88) rfl rfl
theorem m_809 : (Cond.fieldLink "java/lang/Throwable" 13 "java/lang/Throwable" "UNASSIGNED_STACK" "[Ljava/lang/StackTraceElement;") ∈ gw := gt_4 (i := 89) rfl rfl
theorem m_811 : (Cond.fieldLink "java/lang/Throwable" 20 "java/lang/Throwable" "SUPPRESSED_SENTINEL" "Ljava/util/List;") ∈ gw := gt_4 (i := 91) rfl rfl
theorem m_813 : (Cond.methodLink "java/lang/Throwable" 27 ⟨"java/lang/Throwable", "fillInStackTrace", "()Ljava/lang/Throwable;"⟩) ∈ gw := gt_4 (i := 93) rfl rfl
theorem m_814 : (Cond.instanceMethod ⟨"java/lang/Throwable", "fillInStackTrace", "()Ljava/lang/Throwable;"⟩) ∈ gw := gt_4 (i := 94) rfl rfl
theorem m_816 : (Cond.selects "java/lang/ArithmeticException" ⟨"java/lang/Throwable", "fillInStackTrace", "()Ljava/lang/Throwable;"⟩ ⟨"java/lang/Throwable", "fillInStackTrace", "()Ljava/lang/Throwable;"⟩) ∈ gw := gt_4 (i := 96) rfl rfl
theorem m_817 : (Cond.selects "java/lang/IllegalStateException" ⟨"java/lang/Throwable", "fillInStackTrace", "()Ljava/lang/Throwable;"⟩ ⟨"java/lang/Throwable", "fillInStackTrace", "()Ljava/lang/Throwable;"⟩) ∈ gw := gt_4 (i := 97) rfl rfl
theorem m_818 : (Cond.selects "java/lang/IndexOutOfBoundsException" ⟨"java/lang/Throwable", "fillInStackTrace", "()Ljava/lang/Throwable;"⟩ ⟨"java/lang/Throwable", "fillInStackTrace", "()Ljava/lang/Throwable;"⟩) ∈ gw := gt_4 (i := 98) rfl rfl
theorem m_819 : (Cond.codeSync ⟨"java/lang/Throwable", "fillInStackTrace", "()Ljava/lang/Throwable;"⟩ prog_27_method_18_code 1 (some (.object "java/lang/Throwable"))) ∈ gw := gt_4 (i := 99) rfl rfl
theorem m_820 : (Cond.methodLink "java/lang/Throwable" 202 ⟨"java/lang/Throwable", "fillInStackTrace", "(I)Ljava/lang/Throwable;"⟩) ∈ gw := gt_4 (i := 100) rfl rfl
theorem m_822 : (Cond.instanceMethod ⟨"java/lang/Throwable", "fillInStackTrace", "(I)Ljava/lang/Throwable;"⟩) ∈ gw := gt_4 (i := 102) rfl rfl
theorem m_824 : (Cond.native ⟨"java/lang/Throwable", "fillInStackTrace", "(I)Ljava/lang/Throwable;"⟩) ∈ gw := gt_4 (i := 104) rfl rfl
theorem m_826 : (Cond.methodLink "ClauseLedger" 316 ⟨"java/lang/IllegalArgumentException", "<init>", "(Ljava/lang/String;)V"⟩) ∈ gw := gt_4 (i := 106) rfl rfl
theorem m_827 : (Cond.instanceMethod ⟨"java/lang/IllegalArgumentException", "<init>", "(Ljava/lang/String;)V"⟩) ∈ gw := gt_4 (i := 107) rfl rfl
theorem m_828 : (Cond.code ⟨"java/lang/IllegalArgumentException", "<init>", "(Ljava/lang/String;)V"⟩ prog_18_method_2_code 2 none) ∈ gw := gt_4 (i := 108) rfl rfl
theorem m_829 : (Cond.methodLink "java/lang/IllegalArgumentException" 7 ⟨"java/lang/RuntimeException", "<init>", "(Ljava/lang/String;)V"⟩) ∈ gw := gt_4 (i := 109) rfl rfl
theorem m_830 : (Cond.instanceMethod ⟨"java/lang/RuntimeException", "<init>", "(Ljava/lang/String;)V"⟩) ∈ gw := gt_4 (i := 110) rfl rfl
theorem m_831 : (Cond.code ⟨"java/lang/RuntimeException", "<init>", "(Ljava/lang/String;)V"⟩ prog_23_method_2_code 2 none) ∈ gw := gt_4 (i := 111) rfl rfl
theorem m_832 : (Cond.methodLink "java/lang/RuntimeException" 7 ⟨"java/lang/Exception", "<init>", "(Ljava/lang/String;)V"⟩) ∈ gw := gt_4 (i := 112) rfl rfl
theorem m_833 : (Cond.instanceMethod ⟨"java/lang/Exception", "<init>", "(Ljava/lang/String;)V"⟩) ∈ gw := gt_4 (i := 113) rfl rfl
theorem m_834 : (Cond.code ⟨"java/lang/Exception", "<init>", "(Ljava/lang/String;)V"⟩ prog_17_method_2_code 2 none) ∈ gw := gt_4 (i := 114) rfl rfl
theorem m_835 : (Cond.methodLink "java/lang/Exception" 7 ⟨"java/lang/Throwable", "<init>", "(Ljava/lang/String;)V"⟩) ∈ gw := gt_4 (i := 115) rfl rfl
theorem m_836 : (Cond.instanceMethod ⟨"java/lang/Throwable", "<init>", "(Ljava/lang/String;)V"⟩) ∈ gw := gt_4 (i := 116) rfl rfl
theorem m_837 : (Cond.code ⟨"java/lang/Throwable", "<init>", "(Ljava/lang/String;)V"⟩ prog_27_method_2_code 2 none) ∈ gw := gt_4 (i := 117) rfl rfl
theorem m_839 : (Cond.fieldLink "java/lang/Throwable" 31 "java/lang/Throwable" "detailMessage" "Ljava/lang/String;") ∈ gw := gt_4 (i := 119) rfl rfl
theorem m_840 : (Cond.fieldLink "java/lang/Throwable" 7 "java/lang/Throwable" "cause" "Ljava/lang/Throwable;") ∈ gw := gt_4 (i := 120) rfl rfl
theorem m_841 : (Cond.fieldLink "java/lang/Throwable" 17 "java/lang/Throwable" "stackTrace" "[Ljava/lang/StackTraceElement;") ∈ gw := gt_4 (i := 121) rfl rfl
theorem m_842 : (Cond.fieldLink "java/lang/Throwable" 24 "java/lang/Throwable" "suppressedExceptions" "Ljava/util/List;") ∈ gw := gt_4 (i := 122) rfl rfl
theorem m_851 : (Cond.methodLink "ClauseLedger" 115 ⟨"ClauseLedger$Terms", "tooDeep", "()Z"⟩) ∈ gw := gt_4 (i := 131) rfl rfl
theorem m_852 : (Cond.instanceMethod ⟨"ClauseLedger$Terms", "tooDeep", "()Z"⟩) ∈ gw := gt_4 (i := 132) rfl rfl
theorem m_853 : (Cond.selects "ClauseLedger$Terms" ⟨"ClauseLedger$Terms", "tooDeep", "()Z"⟩ ⟨"ClauseLedger$Terms", "tooDeep", "()Z"⟩) ∈ gw := gt_4 (i := 133) rfl rfl
theorem m_854 : (Cond.code ⟨"ClauseLedger$Terms", "tooDeep", "()Z"⟩ prog_11_method_15_code 1 (some .boolean)) ∈ gw := gt_4 (i := 134) rfl rfl
theorem m_855 : (Cond.methodLink "ClauseLedger" 118 ⟨"ClauseLedger", "throwTooGreat", "()I"⟩) ∈ gw := gt_4 (i := 135) rfl rfl
theorem m_857 : (Cond.instanceMethod ⟨"ClauseLedger", "throwTooGreat", "()I"⟩) ∈ gw := gt_4 (i := 137) rfl rfl
theorem m_858 : (Cond.code ⟨"ClauseLedger", "throwTooGreat", "()I"⟩ prog_1_method_41_code 1 (some .int)) ∈ gw := gt_4 (i := 138) rfl rfl
theorem m_859 : (Cond.classLink "ClauseLedger" 317 "java/lang/ArithmeticException") ∈ gw := gt_4 (i := 139) rfl rfl
theorem m_860 : (Cond.instantiable "java/lang/ArithmeticException" 6) ∈ gw := gt_4 (i := 140) rfl rfl
theorem m_862 : (Cond.selects "java/lang/ArithmeticException" ⟨"java/lang/Throwable", "fillInStackTrace", "(I)Ljava/lang/Throwable;"⟩ ⟨"java/lang/Throwable", "fillInStackTrace", "(I)Ljava/lang/Throwable;"⟩) ∈ gw := gt_4 (i := 142) rfl rfl
theorem m_863 : (Cond.lays "java/lang/ArithmeticException" "java/lang/Throwable" "cause" "Ljava/lang/Throwable;") ∈ gw := gt_4 (i := 143) rfl rfl
theorem m_864 : (Cond.lays "java/lang/ArithmeticException" "java/lang/Throwable" "stackTrace" "[Ljava/lang/StackTraceElement;") ∈ gw := gt_4 (i := 144) rfl rfl
theorem m_865 : (Cond.lays "java/lang/ArithmeticException" "java/lang/Throwable" "suppressedExceptions" "Ljava/util/List;") ∈ gw := gt_4 (i := 145) rfl rfl
theorem m_866 : (Cond.lays "java/lang/ArithmeticException" "java/lang/Throwable" "detailMessage" "Ljava/lang/String;") ∈ gw := gt_4 (i := 146) rfl rfl
theorem m_867 : (Cond.lays "java/lang/ArithmeticException" "java/lang/Throwable" "backtrace" "Ljava/lang/Object;") ∈ gw := gt_4 (i := 147) rfl rfl
theorem m_869 : (Cond.methodLink "ClauseLedger" 321 ⟨"java/lang/ArithmeticException", "<init>", "(Ljava/lang/String;)V"⟩) ∈ gw := gt_4 (i := 149) rfl rfl
theorem m_870 : (Cond.instanceMethod ⟨"java/lang/ArithmeticException", "<init>", "(Ljava/lang/String;)V"⟩) ∈ gw := gt_4 (i := 150) rfl rfl
theorem m_871 : (Cond.code ⟨"java/lang/ArithmeticException", "<init>", "(Ljava/lang/String;)V"⟩ prog_15_method_2_code 2 none) ∈ gw := gt_4 (i := 151) rfl rfl
theorem m_872 : (Cond.methodLink "java/lang/ArithmeticException" 7 ⟨"java/lang/RuntimeException", "<init>", "(Ljava/lang/String;)V"⟩) ∈ gw := gt_4 (i := 152) rfl rfl
theorem m_875 : (Cond.methodLink "ClauseLedger" 121 ⟨"ClauseLedger$Terms", "tooMany", "()Z"⟩) ∈ gw := gt_4 (i := 155) rfl rfl
theorem m_876 : (Cond.instanceMethod ⟨"ClauseLedger$Terms", "tooMany", "()Z"⟩) ∈ gw := gt_4 (i := 156) rfl rfl
theorem m_877 : (Cond.selects "ClauseLedger$Terms" ⟨"ClauseLedger$Terms", "tooMany", "()Z"⟩ ⟨"ClauseLedger$Terms", "tooMany", "()Z"⟩) ∈ gw := gt_4 (i := 157) rfl rfl
theorem m_878 : (Cond.code ⟨"ClauseLedger$Terms", "tooMany", "()Z"⟩ prog_11_method_16_code 1 (some .boolean)) ∈ gw := gt_4 (i := 158) rfl rfl
theorem m_879 : (Cond.methodLink "ClauseLedger" 124 ⟨"ClauseLedger", "throwNoRoom", "()I"⟩) ∈ gw := gt_4 (i := 159) rfl rfl
theorem m_881 : (Cond.instanceMethod ⟨"ClauseLedger", "throwNoRoom", "()I"⟩) ∈ gw := gt_4 (i := 161) rfl rfl
theorem m_882 : (Cond.code ⟨"ClauseLedger", "throwNoRoom", "()I"⟩ prog_1_method_42_code 1 (some .int)) ∈ gw := gt_4 (i := 162) rfl rfl
theorem m_883 : (Cond.classLink "ClauseLedger" 322 "java/lang/IllegalStateException") ∈ gw := gt_4 (i := 163) rfl rfl
theorem m_884 : (Cond.instantiable "java/lang/IllegalStateException" 6) ∈ gw := gt_4 (i := 164) rfl rfl
theorem m_886 : (Cond.selects "java/lang/IllegalStateException" ⟨"java/lang/Throwable", "fillInStackTrace", "(I)Ljava/lang/Throwable;"⟩ ⟨"java/lang/Throwable", "fillInStackTrace", "(I)Ljava/lang/Throwable;"⟩) ∈ gw := gt_4 (i := 166) rfl rfl
theorem m_887 : (Cond.lays "java/lang/IllegalStateException" "java/lang/Throwable" "cause" "Ljava/lang/Throwable;") ∈ gw := gt_4 (i := 167) rfl rfl
theorem m_888 : (Cond.lays "java/lang/IllegalStateException" "java/lang/Throwable" "stackTrace" "[Ljava/lang/StackTraceElement;") ∈ gw := gt_4 (i := 168) rfl rfl
theorem m_889 : (Cond.lays "java/lang/IllegalStateException" "java/lang/Throwable" "suppressedExceptions" "Ljava/util/List;") ∈ gw := gt_4 (i := 169) rfl rfl
theorem m_890 : (Cond.lays "java/lang/IllegalStateException" "java/lang/Throwable" "detailMessage" "Ljava/lang/String;") ∈ gw := gt_4 (i := 170) rfl rfl
theorem m_891 : (Cond.lays "java/lang/IllegalStateException" "java/lang/Throwable" "backtrace" "Ljava/lang/Object;") ∈ gw := gt_4 (i := 171) rfl rfl
theorem m_893 : (Cond.methodLink "ClauseLedger" 326 ⟨"java/lang/IllegalStateException", "<init>", "(Ljava/lang/String;)V"⟩) ∈ gw := gt_4 (i := 173) rfl rfl
theorem m_894 : (Cond.instanceMethod ⟨"java/lang/IllegalStateException", "<init>", "(Ljava/lang/String;)V"⟩) ∈ gw := gt_4 (i := 174) rfl rfl
theorem m_895 : (Cond.code ⟨"java/lang/IllegalStateException", "<init>", "(Ljava/lang/String;)V"⟩ prog_19_method_2_code 2 none) ∈ gw := gt_4 (i := 175) rfl rfl
theorem m_896 : (Cond.methodLink "java/lang/IllegalStateException" 7 ⟨"java/lang/RuntimeException", "<init>", "(Ljava/lang/String;)V"⟩) ∈ gw := gt_4 (i := 176) rfl rfl
theorem m_899 : (Cond.methodLink "ClauseLedger" 127 ⟨"ClauseLedger$Terms", "keep", "()V"⟩) ∈ gw := gt_4 (i := 179) rfl rfl
theorem m_900 : (Cond.instanceMethod ⟨"ClauseLedger$Terms", "keep", "()V"⟩) ∈ gw := gt_4 (i := 180) rfl rfl
theorem m_901 : (Cond.selects "ClauseLedger$Terms" ⟨"ClauseLedger$Terms", "keep", "()V"⟩ ⟨"ClauseLedger$Terms", "keep", "()V"⟩) ∈ gw := gt_4 (i := 181) rfl rfl
theorem m_902 : (Cond.code ⟨"ClauseLedger$Terms", "keep", "()V"⟩ prog_11_method_17_code 1 none) ∈ gw := gt_4 (i := 182) rfl rfl
theorem m_903 : (Cond.methodLink "ClauseLedgerLaw" 94 ⟨"ClauseLedgerLaw", "assume", "(LClauseLedger;I[J)I"⟩) ∈ gw := gt_4 (i := 183) rfl rfl
theorem m_904 : (Cond.static ⟨"ClauseLedgerLaw", "assume", "(LClauseLedger;I[J)I"⟩) ∈ gw := gt_4 (i := 184) rfl rfl
theorem m_905 : (Cond.codeWith ⟨"ClauseLedgerLaw", "assume", "(LClauseLedger;I[J)I"⟩ method_4_code 4 (some .int) [(0, 9, 12, 23), (0, 9, 15, 13), (0, 9, 18, 17)]) ∈ gw := gt_4 (i := 185) rfl rfl
theorem m_906 : (Cond.classLink "ClauseLedgerLaw" 23 "java/lang/IndexOutOfBoundsException") ∈ gw := gt_4 (i := 186) rfl rfl
theorem m_907 : (Cond.methodLink "ClauseLedgerLaw" 19 ⟨"ClauseLedger", "assume", "(I)I"⟩) ∈ gw := gt_4 (i := 187) rfl rfl
theorem m_908 : (Cond.instanceMethod ⟨"ClauseLedger", "assume", "(I)I"⟩) ∈ gw := gt_4 (i := 188) rfl rfl
theorem m_909 : (Cond.selects "ClauseLedger" ⟨"ClauseLedger", "assume", "(I)I"⟩ ⟨"ClauseLedger", "assume", "(I)I"⟩) ∈ gw := gt_4 (i := 189) rfl rfl
theorem m_910 : (Cond.code ⟨"ClauseLedger", "assume", "(I)I"⟩ prog_1_method_7_code 2 (some .int)) ∈ gw := gt_4 (i := 190) rfl rfl
theorem m_911 : (Cond.methodLink "ClauseLedger" 134 ⟨"ClauseLedger", "throwMissing", "()I"⟩) ∈ gw := gt_4 (i := 191) rfl rfl
theorem m_913 : (Cond.instanceMethod ⟨"ClauseLedger", "throwMissing", "()I"⟩) ∈ gw := gt_4 (i := 193) rfl rfl
theorem m_914 : (Cond.code ⟨"ClauseLedger", "throwMissing", "()I"⟩ prog_1_method_39_code 1 (some .int)) ∈ gw := gt_4 (i := 194) rfl rfl
theorem m_915 : (Cond.classLink "ClauseLedger" 305 "java/lang/IndexOutOfBoundsException") ∈ gw := gt_4 (i := 195) rfl rfl
theorem m_916 : (Cond.instantiable "java/lang/IndexOutOfBoundsException" 6) ∈ gw := gt_4 (i := 196) rfl rfl
theorem m_918 : (Cond.selects "java/lang/IndexOutOfBoundsException" ⟨"java/lang/Throwable", "fillInStackTrace", "(I)Ljava/lang/Throwable;"⟩ ⟨"java/lang/Throwable", "fillInStackTrace", "(I)Ljava/lang/Throwable;"⟩) ∈ gw := gt_4 (i := 198) rfl rfl
theorem m_919 : (Cond.lays "java/lang/IndexOutOfBoundsException" "java/lang/Throwable" "cause" "Ljava/lang/Throwable;") ∈ gw := gt_4 (i := 199) rfl rfl
theorem m_920 : (Cond.lays "java/lang/IndexOutOfBoundsException" "java/lang/Throwable" "stackTrace" "[Ljava/lang/StackTraceElement;") ∈ gw := gt_4 (i := 200) rfl rfl
theorem m_921 : (Cond.lays "java/lang/IndexOutOfBoundsException" "java/lang/Throwable" "suppressedExceptions" "Ljava/util/List;") ∈ gw := gt_4 (i := 201) rfl rfl
theorem m_922 : (Cond.lays "java/lang/IndexOutOfBoundsException" "java/lang/Throwable" "detailMessage" "Ljava/lang/String;") ∈ gw := gt_4 (i := 202) rfl rfl
theorem m_923 : (Cond.lays "java/lang/IndexOutOfBoundsException" "java/lang/Throwable" "backtrace" "Ljava/lang/Object;") ∈ gw := gt_4 (i := 203) rfl rfl
theorem m_925 : (Cond.methodLink "ClauseLedger" 309 ⟨"java/lang/IndexOutOfBoundsException", "<init>", "(Ljava/lang/String;)V"⟩) ∈ gw := gt_4 (i := 205) rfl rfl
theorem m_926 : (Cond.instanceMethod ⟨"java/lang/IndexOutOfBoundsException", "<init>", "(Ljava/lang/String;)V"⟩) ∈ gw := gt_4 (i := 206) rfl rfl
theorem m_927 : (Cond.code ⟨"java/lang/IndexOutOfBoundsException", "<init>", "(Ljava/lang/String;)V"⟩ prog_20_method_2_code 2 none) ∈ gw := gt_4 (i := 207) rfl rfl
theorem m_928 : (Cond.methodLink "java/lang/IndexOutOfBoundsException" 7 ⟨"java/lang/RuntimeException", "<init>", "(Ljava/lang/String;)V"⟩) ∈ gw := gt_4 (i := 208) rfl rfl
theorem m_931 : (Cond.methodLink "ClauseLedger" 137 ⟨"ClauseLedger$Terms", "isTruth", "(I)Z"⟩) ∈ gw := gt_4 (i := 211) rfl rfl
theorem m_932 : (Cond.methodLink "ClauseLedger" 140 ⟨"ClauseLedger$Row", "wipe", "()V"⟩) ∈ gw := gt_4 (i := 212) rfl rfl
theorem m_933 : (Cond.instanceMethod ⟨"ClauseLedger$Row", "wipe", "()V"⟩) ∈ gw := gt_4 (i := 213) rfl rfl
theorem m_934 : (Cond.selects "ClauseLedger$Row" ⟨"ClauseLedger$Row", "wipe", "()V"⟩ ⟨"ClauseLedger$Row", "wipe", "()V"⟩) ∈ gw := gt_4 (i := 214) rfl rfl
theorem m_935 : (Cond.code ⟨"ClauseLedger$Row", "wipe", "()V"⟩ prog_6_method_4_code 1 none) ∈ gw := gt_4 (i := 215) rfl rfl
theorem m_936 : (Cond.methodLink "ClauseLedger" 141 ⟨"ClauseLedger$Row", "join", "(I)V"⟩) ∈ gw := gt_4 (i := 216) rfl rfl
theorem m_937 : (Cond.instanceMethod ⟨"ClauseLedger$Row", "join", "(I)V"⟩) ∈ gw := gt_4 (i := 217) rfl rfl
theorem m_938 : (Cond.selects "ClauseLedger$Row" ⟨"ClauseLedger$Row", "join", "(I)V"⟩ ⟨"ClauseLedger$Row", "join", "(I)V"⟩) ∈ gw := gt_4 (i := 218) rfl rfl
theorem m_939 : (Cond.code ⟨"ClauseLedger$Row", "join", "(I)V"⟩ prog_6_method_5_code 3 none) ∈ gw := gt_4 (i := 219) rfl rfl
theorem m_940 : (Cond.methodLink "ClauseLedger" 145 ⟨"ClauseLedger$Scopes", "innermost", "()I"⟩) ∈ gw := gt_4 (i := 220) rfl rfl
theorem m_941 : (Cond.instanceMethod ⟨"ClauseLedger$Scopes", "innermost", "()I"⟩) ∈ gw := gt_4 (i := 221) rfl rfl
theorem m_942 : (Cond.selects "ClauseLedger$Scopes" ⟨"ClauseLedger$Scopes", "innermost", "()I"⟩ ⟨"ClauseLedger$Scopes", "innermost", "()I"⟩) ∈ gw := gt_4 (i := 222) rfl rfl
theorem m_943 : (Cond.code ⟨"ClauseLedger$Scopes", "innermost", "()I"⟩ prog_7_method_2_code 1 (some .int)) ∈ gw := gt_4 (i := 223) rfl rfl
theorem m_944 : (Cond.methodLink "ClauseLedger" 148 ⟨"ClauseLedger", "enterRow", "(IZ)I"⟩) ∈ gw := gt_4 (i := 224) rfl rfl
theorem m_946 : (Cond.instanceMethod ⟨"ClauseLedger", "enterRow", "(IZ)I"⟩) ∈ gw := gt_4 (i := 226) rfl rfl
theorem m_947 : (Cond.code ⟨"ClauseLedger", "enterRow", "(IZ)I"⟩ prog_1_method_37_code 3 (some .int)) ∈ gw := gt_4 (i := 227) rfl rfl
theorem m_948 : (Cond.methodLink "ClauseLedger" 291 ⟨"ClauseLedger$Row", "size", "()I"⟩) ∈ gw := gt_4 (i := 228) rfl rfl
theorem m_949 : (Cond.instanceMethod ⟨"ClauseLedger$Row", "size", "()I"⟩) ∈ gw := gt_4 (i := 229) rfl rfl
theorem m_950 : (Cond.selects "ClauseLedger$Row" ⟨"ClauseLedger$Row", "size", "()I"⟩ ⟨"ClauseLedger$Row", "size", "()I"⟩) ∈ gw := gt_4 (i := 230) rfl rfl
theorem m_951 : (Cond.code ⟨"ClauseLedger$Row", "size", "()I"⟩ prog_6_method_2_code 1 (some .int)) ∈ gw := gt_4 (i := 231) rfl rfl
theorem m_952 : (Cond.methodLink "ClauseLedger" 294 ⟨"ClauseLedger$Steps", "isFull", "()Z"⟩) ∈ gw := gt_4 (i := 232) rfl rfl
theorem m_953 : (Cond.instanceMethod ⟨"ClauseLedger$Steps", "isFull", "()Z"⟩) ∈ gw := gt_4 (i := 233) rfl rfl
theorem m_954 : (Cond.selects "ClauseLedger$Steps" ⟨"ClauseLedger$Steps", "isFull", "()Z"⟩ ⟨"ClauseLedger$Steps", "isFull", "()Z"⟩) ∈ gw := gt_4 (i := 234) rfl rfl
theorem m_955 : (Cond.code ⟨"ClauseLedger$Steps", "isFull", "()Z"⟩ prog_9_method_3_code 1 (some .boolean)) ∈ gw := gt_4 (i := 235) rfl rfl
theorem m_956 : (Cond.methodLink "ClauseLedger" 295 ⟨"ClauseLedger$Steps", "add", "(LClauseLedger$Row;IZ)I"⟩) ∈ gw := gt_4 (i := 236) rfl rfl
theorem m_957 : (Cond.instanceMethod ⟨"ClauseLedger$Steps", "add", "(LClauseLedger$Row;IZ)I"⟩) ∈ gw := gt_4 (i := 237) rfl rfl
theorem m_958 : (Cond.selects "ClauseLedger$Steps" ⟨"ClauseLedger$Steps", "add", "(LClauseLedger$Row;IZ)I"⟩ ⟨"ClauseLedger$Steps", "add", "(LClauseLedger$Row;IZ)I"⟩) ∈ gw := gt_4 (i := 238) rfl rfl
theorem m_959 : (Cond.code ⟨"ClauseLedger$Steps", "add", "(LClauseLedger$Row;IZ)I"⟩ prog_9_method_11_code 7 (some .int)) ∈ gw := gt_4 (i := 239) rfl rfl
theorem m_960 : (Cond.methodLink "ClauseLedger$Steps" 41 ⟨"ClauseLedger$Steps", "isFull", "()Z"⟩) ∈ gw := gt_5 (i := 0) rfl rfl
theorem m_961 : (Cond.methodLink "ClauseLedger$Steps" 45 ⟨"ClauseLedger$Row", "size", "()I"⟩) ∈ gw := gt_5 (i := 1) rfl rfl
theorem m_962 : (Cond.methodLink "ClauseLedger$Steps" 51 ⟨"java/lang/Math", "min", "(II)I"⟩) ∈ gw := gt_5 (i := 2) rfl rfl
theorem m_963 : (Cond.methodLink "ClauseLedger$Steps" 56 ⟨"ClauseLedger$Row", "truth", "(I)I"⟩) ∈ gw := gt_5 (i := 3) rfl rfl
theorem m_964 : (Cond.instanceMethod ⟨"ClauseLedger$Row", "truth", "(I)I"⟩) ∈ gw := gt_5 (i := 4) rfl rfl
theorem m_965 : (Cond.selects "ClauseLedger$Row" ⟨"ClauseLedger$Row", "truth", "(I)I"⟩ ⟨"ClauseLedger$Row", "truth", "(I)I"⟩) ∈ gw := gt_5 (i := 5) rfl rfl
theorem m_966 : (Cond.code ⟨"ClauseLedger$Row", "truth", "(I)I"⟩ prog_6_method_3_code 2 (some .int)) ∈ gw := gt_5 (i := 6) rfl rfl
theorem m_967 : (Cond.methodLink "ClauseLedgerLaw" 98 ⟨"ClauseLedgerLaw", "cut", "(LClauseLedger;III[J)I"⟩) ∈ gw := gt_5 (i := 7) rfl rfl
theorem m_968 : (Cond.static ⟨"ClauseLedgerLaw", "cut", "(LClauseLedger;III[J)I"⟩) ∈ gw := gt_5 (i := 8) rfl rfl
theorem m_969 : (Cond.codeWith ⟨"ClauseLedgerLaw", "cut", "(LClauseLedger;III[J)I"⟩ method_5_code 6 (some .int) [(0, 12, 15, 23), (0, 12, 19, 13), (0, 12, 23, 15), (0, 12, 27, 17)]) ∈ gw := gt_5 (i := 9) rfl rfl
theorem m_970 : (Cond.methodLink "ClauseLedgerLaw" 25 ⟨"ClauseLedger", "cut", "(III)I"⟩) ∈ gw := gt_5 (i := 10) rfl rfl
theorem m_971 : (Cond.instanceMethod ⟨"ClauseLedger", "cut", "(III)I"⟩) ∈ gw := gt_5 (i := 11) rfl rfl
theorem m_972 : (Cond.selects "ClauseLedger" ⟨"ClauseLedger", "cut", "(III)I"⟩ ⟨"ClauseLedger", "cut", "(III)I"⟩) ∈ gw := gt_5 (i := 12) rfl rfl
theorem m_973 : (Cond.code ⟨"ClauseLedger", "cut", "(III)I"⟩ prog_1_method_8_code 5 (some .int)) ∈ gw := gt_5 (i := 13) rfl rfl
theorem m_974 : (Cond.methodLink "ClauseLedger" 155 ⟨"ClauseLedger$Terms", "findOpposite", "(I)I"⟩) ∈ gw := gt_5 (i := 14) rfl rfl
theorem m_975 : (Cond.instanceMethod ⟨"ClauseLedger$Terms", "findOpposite", "(I)I"⟩) ∈ gw := gt_5 (i := 15) rfl rfl
theorem m_976 : (Cond.selects "ClauseLedger$Terms" ⟨"ClauseLedger$Terms", "findOpposite", "(I)I"⟩ ⟨"ClauseLedger$Terms", "findOpposite", "(I)I"⟩) ∈ gw := gt_5 (i := 16) rfl rfl
theorem m_977 : (Cond.code ⟨"ClauseLedger$Terms", "findOpposite", "(I)I"⟩ prog_11_method_23_code 2 (some .int)) ∈ gw := gt_5 (i := 17) rfl rfl
theorem m_978 : (Cond.methodLink "ClauseLedger$Terms" 109 ⟨"ClauseLedger$Terms", "kindOf", "(I)I"⟩) ∈ gw := gt_5 (i := 18) rfl rfl
theorem m_979 : (Cond.methodLink "ClauseLedger$Terms" 112 ⟨"ClauseLedger$Terms", "firstOf", "(I)I"⟩) ∈ gw := gt_5 (i := 19) rfl rfl
theorem m_980 : (Cond.methodLink "ClauseLedger" 159 ⟨"ClauseLedger$Steps", "holds", "(II)Z"⟩) ∈ gw := gt_5 (i := 20) rfl rfl
theorem m_981 : (Cond.instanceMethod ⟨"ClauseLedger$Steps", "holds", "(II)Z"⟩) ∈ gw := gt_5 (i := 21) rfl rfl
theorem m_982 : (Cond.selects "ClauseLedger$Steps" ⟨"ClauseLedger$Steps", "holds", "(II)Z"⟩ ⟨"ClauseLedger$Steps", "holds", "(II)Z"⟩) ∈ gw := gt_5 (i := 22) rfl rfl
theorem m_983 : (Cond.code ⟨"ClauseLedger$Steps", "holds", "(II)Z"⟩ prog_9_method_9_code 4 (some .boolean)) ∈ gw := gt_5 (i := 23) rfl rfl
theorem m_984 : (Cond.methodLink "ClauseLedger$Steps" 37 ⟨"ClauseLedger$Steps", "truthOf", "(II)I"⟩) ∈ gw := gt_5 (i := 24) rfl rfl
theorem m_985 : (Cond.methodLink "ClauseLedger" 162 ⟨"ClauseLedger", "joinAllBut", "(II)V"⟩) ∈ gw := gt_5 (i := 25) rfl rfl
theorem m_987 : (Cond.instanceMethod ⟨"ClauseLedger", "joinAllBut", "(II)V"⟩) ∈ gw := gt_5 (i := 27) rfl rfl
theorem m_988 : (Cond.code ⟨"ClauseLedger", "joinAllBut", "(II)V"⟩ prog_1_method_35_code 4 none) ∈ gw := gt_5 (i := 28) rfl rfl
theorem m_989 : (Cond.methodLink "ClauseLedgerLaw" 102 ⟨"ClauseLedgerLaw", "widen", "(LClauseLedger;II[J)I"⟩) ∈ gw := gt_5 (i := 29) rfl rfl
theorem m_990 : (Cond.static ⟨"ClauseLedgerLaw", "widen", "(LClauseLedger;II[J)I"⟩) ∈ gw := gt_5 (i := 30) rfl rfl
theorem m_991 : (Cond.codeWith ⟨"ClauseLedgerLaw", "widen", "(LClauseLedger;II[J)I"⟩ method_6_code 5 (some .int) [(0, 10, 13, 23), (0, 10, 17, 13), (0, 10, 21, 17)]) ∈ gw := gt_5 (i := 31) rfl rfl
theorem m_992 : (Cond.methodLink "ClauseLedgerLaw" 29 ⟨"ClauseLedger", "widen", "(II)I"⟩) ∈ gw := gt_5 (i := 32) rfl rfl
theorem m_993 : (Cond.instanceMethod ⟨"ClauseLedger", "widen", "(II)I"⟩) ∈ gw := gt_5 (i := 33) rfl rfl
theorem m_994 : (Cond.selects "ClauseLedger" ⟨"ClauseLedger", "widen", "(II)I"⟩ ⟨"ClauseLedger", "widen", "(II)I"⟩) ∈ gw := gt_5 (i := 34) rfl rfl
theorem m_995 : (Cond.code ⟨"ClauseLedger", "widen", "(II)I"⟩ prog_1_method_9_code 3 (some .int)) ∈ gw := gt_5 (i := 35) rfl rfl
theorem m_996 : (Cond.methodLink "ClauseLedgerLaw" 106 ⟨"ClauseLedgerLaw", "meaning", "(LClauseLedger;II[J)I"⟩) ∈ gw := gt_5 (i := 36) rfl rfl
theorem m_997 : (Cond.static ⟨"ClauseLedgerLaw", "meaning", "(LClauseLedger;II[J)I"⟩) ∈ gw := gt_5 (i := 37) rfl rfl
theorem m_998 : (Cond.codeWith ⟨"ClauseLedgerLaw", "meaning", "(LClauseLedger;II[J)I"⟩ method_7_code 5 (some .int) [(0, 10, 13, 23), (0, 10, 17, 13), (0, 10, 21, 15), (0, 10, 25, 17)]) ∈ gw := gt_5 (i := 38) rfl rfl
theorem m_999 : (Cond.methodLink "ClauseLedgerLaw" 33 ⟨"ClauseLedger", "meaning", "(II)I"⟩) ∈ gw := gt_5 (i := 39) rfl rfl
theorem m_1000 : (Cond.instanceMethod ⟨"ClauseLedger", "meaning", "(II)I"⟩) ∈ gw := gt_5 (i := 40) rfl rfl
theorem m_1001 : (Cond.selects "ClauseLedger" ⟨"ClauseLedger", "meaning", "(II)I"⟩ ⟨"ClauseLedger", "meaning", "(II)I"⟩) ∈ gw := gt_5 (i := 41) rfl rfl
theorem m_1002 : (Cond.code ⟨"ClauseLedger", "meaning", "(II)I"⟩ prog_1_method_10_code 3 (some .int)) ∈ gw := gt_5 (i := 42) rfl rfl
theorem m_1003 : (Cond.methodLink "ClauseLedger" 166 ⟨"ClauseLedger", "joinMeaning", "(II)Z"⟩) ∈ gw := gt_5 (i := 43) rfl rfl
theorem m_1005 : (Cond.instanceMethod ⟨"ClauseLedger", "joinMeaning", "(II)Z"⟩) ∈ gw := gt_5 (i := 45) rfl rfl
theorem m_1006 : (Cond.code ⟨"ClauseLedger", "joinMeaning", "(II)Z"⟩ prog_1_method_28_code 5 (some .boolean)) ∈ gw := gt_5 (i := 46) rfl rfl
theorem m_1007 : (Cond.methodLink "ClauseLedger" 274 ⟨"ClauseLedger", "joinMeaningOfAnd", "(IIII)Z"⟩) ∈ gw := gt_5 (i := 47) rfl rfl
theorem m_1009 : (Cond.instanceMethod ⟨"ClauseLedger", "joinMeaningOfAnd", "(IIII)Z"⟩) ∈ gw := gt_5 (i := 49) rfl rfl
theorem m_1010 : (Cond.code ⟨"ClauseLedger", "joinMeaningOfAnd", "(IIII)Z"⟩ prog_1_method_29_code 5 (some .boolean)) ∈ gw := gt_5 (i := 50) rfl rfl
theorem m_1011 : (Cond.methodLink "ClauseLedger" 182 ⟨"ClauseLedger$Terms", "opposite", "(I)I"⟩) ∈ gw := gt_5 (i := 51) rfl rfl
theorem m_1012 : (Cond.instanceMethod ⟨"ClauseLedger$Terms", "opposite", "(I)I"⟩) ∈ gw := gt_5 (i := 52) rfl rfl
theorem m_1013 : (Cond.selects "ClauseLedger$Terms" ⟨"ClauseLedger$Terms", "opposite", "(I)I"⟩ ⟨"ClauseLedger$Terms", "opposite", "(I)I"⟩) ∈ gw := gt_5 (i := 53) rfl rfl
theorem m_1014 : (Cond.code ⟨"ClauseLedger$Terms", "opposite", "(I)I"⟩ prog_11_method_22_code 2 (some .int)) ∈ gw := gt_5 (i := 54) rfl rfl
theorem m_1015 : (Cond.methodLink "ClauseLedger$Terms" 105 ⟨"ClauseLedger$Terms", "make", "(IIIII)I"⟩) ∈ gw := gt_5 (i := 55) rfl rfl
theorem m_1016 : (Cond.methodLink "ClauseLedger" 284 ⟨"ClauseLedger", "joinThree", "(III)Z"⟩) ∈ gw := gt_5 (i := 56) rfl rfl
theorem m_1018 : (Cond.instanceMethod ⟨"ClauseLedger", "joinThree", "(III)Z"⟩) ∈ gw := gt_5 (i := 58) rfl rfl
theorem m_1019 : (Cond.code ⟨"ClauseLedger", "joinThree", "(III)Z"⟩ prog_1_method_32_code 4 (some .boolean)) ∈ gw := gt_5 (i := 59) rfl rfl
theorem m_1020 : (Cond.methodLink "ClauseLedger" 278 ⟨"ClauseLedger", "joinMeaningOfOr", "(IIII)Z"⟩) ∈ gw := gt_5 (i := 60) rfl rfl
theorem m_1022 : (Cond.instanceMethod ⟨"ClauseLedger", "joinMeaningOfOr", "(IIII)Z"⟩) ∈ gw := gt_5 (i := 62) rfl rfl
theorem m_1023 : (Cond.code ⟨"ClauseLedger", "joinMeaningOfOr", "(IIII)Z"⟩ prog_1_method_30_code 5 (some .boolean)) ∈ gw := gt_5 (i := 63) rfl rfl
theorem m_1024 : (Cond.methodLink "ClauseLedger" 281 ⟨"ClauseLedger", "joinMeaningOfEqual", "(IIII)Z"⟩) ∈ gw := gt_5 (i := 64) rfl rfl
theorem m_1026 : (Cond.instanceMethod ⟨"ClauseLedger", "joinMeaningOfEqual", "(IIII)Z"⟩) ∈ gw := gt_5 (i := 66) rfl rfl
theorem m_1027 : (Cond.code ⟨"ClauseLedger", "joinMeaningOfEqual", "(IIII)Z"⟩ prog_1_method_31_code 5 (some .boolean)) ∈ gw := gt_5 (i := 67) rfl rfl
theorem m_1028 : (Cond.methodLink "ClauseLedgerLaw" 109 ⟨"ClauseLedgerLaw", "same", "(LClauseLedger;I[J)I"⟩) ∈ gw := gt_5 (i := 68) rfl rfl
theorem m_1029 : (Cond.static ⟨"ClauseLedgerLaw", "same", "(LClauseLedger;I[J)I"⟩) ∈ gw := gt_5 (i := 69) rfl rfl
theorem m_1030 : (Cond.codeWith ⟨"ClauseLedgerLaw", "same", "(LClauseLedger;I[J)I"⟩ method_8_code 4 (some .int) [(0, 9, 12, 23), (0, 9, 15, 15), (0, 9, 18, 17)]) ∈ gw := gt_5 (i := 70) rfl rfl
theorem m_1031 : (Cond.methodLink "ClauseLedgerLaw" 36 ⟨"ClauseLedger", "same", "(I)I"⟩) ∈ gw := gt_5 (i := 71) rfl rfl
theorem m_1032 : (Cond.instanceMethod ⟨"ClauseLedger", "same", "(I)I"⟩) ∈ gw := gt_5 (i := 72) rfl rfl
theorem m_1033 : (Cond.selects "ClauseLedger" ⟨"ClauseLedger", "same", "(I)I"⟩ ⟨"ClauseLedger", "same", "(I)I"⟩) ∈ gw := gt_5 (i := 73) rfl rfl
theorem m_1034 : (Cond.code ⟨"ClauseLedger", "same", "(I)I"⟩ prog_1_method_11_code 2 (some .int)) ∈ gw := gt_5 (i := 74) rfl rfl
theorem m_1035 : (Cond.methodLink "ClauseLedger" 169 ⟨"ClauseLedger$Terms", "equation", "(II)I"⟩) ∈ gw := gt_5 (i := 75) rfl rfl
theorem m_1036 : (Cond.instanceMethod ⟨"ClauseLedger$Terms", "equation", "(II)I"⟩) ∈ gw := gt_5 (i := 76) rfl rfl
theorem m_1037 : (Cond.selects "ClauseLedger$Terms" ⟨"ClauseLedger$Terms", "equation", "(II)I"⟩ ⟨"ClauseLedger$Terms", "equation", "(II)I"⟩) ∈ gw := gt_5 (i := 77) rfl rfl
theorem m_1038 : (Cond.code ⟨"ClauseLedger$Terms", "equation", "(II)I"⟩ prog_11_method_21_code 3 (some .int)) ∈ gw := gt_5 (i := 78) rfl rfl
theorem m_1039 : (Cond.methodLink "ClauseLedgerLaw" 112 ⟨"ClauseLedgerLaw", "chain", "(LClauseLedger;II[J)I"⟩) ∈ gw := gt_5 (i := 79) rfl rfl
theorem m_1040 : (Cond.static ⟨"ClauseLedgerLaw", "chain", "(LClauseLedger;II[J)I"⟩) ∈ gw := gt_5 (i := 80) rfl rfl
theorem m_1041 : (Cond.codeWith ⟨"ClauseLedgerLaw", "chain", "(LClauseLedger;II[J)I"⟩ method_9_code 5 (some .int) [(0, 10, 13, 23), (0, 10, 17, 13), (0, 10, 21, 15), (0, 10, 25, 17)]) ∈ gw := gt_5 (i := 81) rfl rfl
theorem m_1042 : (Cond.methodLink "ClauseLedgerLaw" 39 ⟨"ClauseLedger", "chain", "(II)I"⟩) ∈ gw := gt_5 (i := 82) rfl rfl
theorem m_1043 : (Cond.instanceMethod ⟨"ClauseLedger", "chain", "(II)I"⟩) ∈ gw := gt_5 (i := 83) rfl rfl
theorem m_1044 : (Cond.selects "ClauseLedger" ⟨"ClauseLedger", "chain", "(II)I"⟩ ⟨"ClauseLedger", "chain", "(II)I"⟩) ∈ gw := gt_5 (i := 84) rfl rfl
theorem m_1045 : (Cond.code ⟨"ClauseLedger", "chain", "(II)I"⟩ prog_1_method_12_code 3 (some .int)) ∈ gw := gt_5 (i := 85) rfl rfl
theorem m_1046 : (Cond.methodLink "ClauseLedgerLaw" 115 ⟨"ClauseLedgerLaw", "turn", "(LClauseLedger;I[J)I"⟩) ∈ gw := gt_5 (i := 86) rfl rfl
theorem m_1047 : (Cond.static ⟨"ClauseLedgerLaw", "turn", "(LClauseLedger;I[J)I"⟩) ∈ gw := gt_5 (i := 87) rfl rfl
theorem m_1048 : (Cond.codeWith ⟨"ClauseLedgerLaw", "turn", "(LClauseLedger;I[J)I"⟩ method_10_code 4 (some .int) [(0, 9, 12, 23), (0, 9, 15, 13), (0, 9, 18, 15), (0, 9, 21, 17)]) ∈ gw := gt_5 (i := 88) rfl rfl
theorem m_1049 : (Cond.methodLink "ClauseLedgerLaw" 42 ⟨"ClauseLedger", "turn", "(I)I"⟩) ∈ gw := gt_5 (i := 89) rfl rfl
theorem m_1050 : (Cond.instanceMethod ⟨"ClauseLedger", "turn", "(I)I"⟩) ∈ gw := gt_5 (i := 90) rfl rfl
theorem m_1051 : (Cond.selects "ClauseLedger" ⟨"ClauseLedger", "turn", "(I)I"⟩ ⟨"ClauseLedger", "turn", "(I)I"⟩) ∈ gw := gt_5 (i := 91) rfl rfl
theorem m_1052 : (Cond.code ⟨"ClauseLedger", "turn", "(I)I"⟩ prog_1_method_13_code 2 (some .int)) ∈ gw := gt_5 (i := 92) rfl rfl
theorem m_1053 : (Cond.methodLink "ClauseLedgerLaw" 118 ⟨"ClauseLedgerLaw", "replace", "(LClauseLedger;II[J)I"⟩) ∈ gw := gt_5 (i := 93) rfl rfl
theorem m_1054 : (Cond.static ⟨"ClauseLedgerLaw", "replace", "(LClauseLedger;II[J)I"⟩) ∈ gw := gt_5 (i := 94) rfl rfl
theorem m_1055 : (Cond.codeWith ⟨"ClauseLedgerLaw", "replace", "(LClauseLedger;II[J)I"⟩ method_11_code 5 (some .int) [(0, 10, 13, 23), (0, 10, 17, 13), (0, 10, 21, 15), (0, 10, 25, 17)]) ∈ gw := gt_5 (i := 95) rfl rfl
theorem m_1056 : (Cond.methodLink "ClauseLedgerLaw" 45 ⟨"ClauseLedger", "replace", "(II)I"⟩) ∈ gw := gt_5 (i := 96) rfl rfl
theorem m_1057 : (Cond.instanceMethod ⟨"ClauseLedger", "replace", "(II)I"⟩) ∈ gw := gt_5 (i := 97) rfl rfl
theorem m_1058 : (Cond.selects "ClauseLedger" ⟨"ClauseLedger", "replace", "(II)I"⟩ ⟨"ClauseLedger", "replace", "(II)I"⟩) ∈ gw := gt_5 (i := 98) rfl rfl
theorem m_1059 : (Cond.code ⟨"ClauseLedger", "replace", "(II)I"⟩ prog_1_method_14_code 3 (some .int)) ∈ gw := gt_5 (i := 99) rfl rfl
theorem m_1060 : (Cond.methodLink "ClauseLedger" 185 ⟨"ClauseLedger", "isReplaceable", "(II)Z"⟩) ∈ gw := gt_5 (i := 100) rfl rfl
theorem m_1062 : (Cond.instanceMethod ⟨"ClauseLedger", "isReplaceable", "(II)Z"⟩) ∈ gw := gt_5 (i := 102) rfl rfl
theorem m_1063 : (Cond.code ⟨"ClauseLedger", "isReplaceable", "(II)Z"⟩ prog_1_method_33_code 4 (some .boolean)) ∈ gw := gt_5 (i := 103) rfl rfl
theorem m_1064 : (Cond.methodLink "ClauseLedger" 188 ⟨"ClauseLedger", "joinDifference", "(II)Z"⟩) ∈ gw := gt_5 (i := 104) rfl rfl
theorem m_1066 : (Cond.instanceMethod ⟨"ClauseLedger", "joinDifference", "(II)Z"⟩) ∈ gw := gt_5 (i := 106) rfl rfl
theorem m_1067 : (Cond.code ⟨"ClauseLedger", "joinDifference", "(II)Z"⟩ prog_1_method_34_code 3 (some .boolean)) ∈ gw := gt_5 (i := 107) rfl rfl
theorem m_1068 : (Cond.methodLink "ClauseLedgerLaw" 121 ⟨"ClauseLedgerLaw", "linear", "(LClauseLedger;IIIIII[J)I"⟩) ∈ gw := gt_5 (i := 108) rfl rfl
theorem m_1069 : (Cond.static ⟨"ClauseLedgerLaw", "linear", "(LClauseLedger;IIIIII[J)I"⟩) ∈ gw := gt_5 (i := 109) rfl rfl
theorem m_1070 : (Cond.codeWith ⟨"ClauseLedgerLaw", "linear", "(LClauseLedger;IIIIII[J)I"⟩ method_12_code 9 (some .int) [(0, 18, 21, 23), (0, 18, 25, 13), (0, 18, 29, 15), (0, 18, 33, 17)]) ∈ gw := gt_5 (i := 110) rfl rfl
theorem m_1071 : (Cond.methodLink "ClauseLedgerLaw" 48 ⟨"ClauseLedger", "linear", "(IIIIII)I"⟩) ∈ gw := gt_5 (i := 111) rfl rfl
theorem m_1072 : (Cond.instanceMethod ⟨"ClauseLedger", "linear", "(IIIIII)I"⟩) ∈ gw := gt_5 (i := 112) rfl rfl
theorem m_1073 : (Cond.selects "ClauseLedger" ⟨"ClauseLedger", "linear", "(IIIIII)I"⟩ ⟨"ClauseLedger", "linear", "(IIIIII)I"⟩) ∈ gw := gt_5 (i := 113) rfl rfl
theorem m_1074 : (Cond.code ⟨"ClauseLedger", "linear", "(IIIIII)I"⟩ prog_1_method_15_code 7 (some .int)) ∈ gw := gt_5 (i := 114) rfl rfl
theorem m_1075 : (Cond.methodLink "ClauseLedger" 191 ⟨"ClauseLedger", "isTermOrNone", "(I)Z"⟩) ∈ gw := gt_5 (i := 115) rfl rfl
theorem m_1077 : (Cond.instanceMethod ⟨"ClauseLedger", "isTermOrNone", "(I)Z"⟩) ∈ gw := gt_5 (i := 117) rfl rfl
theorem m_1078 : (Cond.code ⟨"ClauseLedger", "isTermOrNone", "(I)Z"⟩ prog_1_method_27_code 2 (some .boolean)) ∈ gw := gt_5 (i := 118) rfl rfl
theorem m_1079 : (Cond.methodLink "ClauseLedger" 194 ⟨"ClauseLedger$Balance", "takes", "(II)Z"⟩) ∈ gw := gt_5 (i := 119) rfl rfl
theorem m_1080 : (Cond.instanceMethod ⟨"ClauseLedger$Balance", "takes", "(II)Z"⟩) ∈ gw := gt_5 (i := 120) rfl rfl
theorem m_1081 : (Cond.selects "ClauseLedger$Balance" ⟨"ClauseLedger$Balance", "takes", "(II)Z"⟩ ⟨"ClauseLedger$Balance", "takes", "(II)Z"⟩) ∈ gw := gt_5 (i := 121) rfl rfl
theorem m_1082 : (Cond.code ⟨"ClauseLedger$Balance", "takes", "(II)Z"⟩ prog_2_method_2_code 3 (some .boolean)) ∈ gw := gt_5 (i := 122) rfl rfl
theorem m_1083 : (Cond.methodLink "ClauseLedger$Balance" 38 ⟨"ClauseLedger$Balance", "isOpposedEquation", "(I)Z"⟩) ∈ gw := gt_5 (i := 123) rfl rfl
theorem m_1085 : (Cond.instanceMethod ⟨"ClauseLedger$Balance", "isOpposedEquation", "(I)Z"⟩) ∈ gw := gt_5 (i := 125) rfl rfl
theorem m_1086 : (Cond.code ⟨"ClauseLedger$Balance", "isOpposedEquation", "(I)Z"⟩ prog_2_method_8_code 3 (some .boolean)) ∈ gw := gt_5 (i := 126) rfl rfl
theorem m_1087 : (Cond.methodLink "ClauseLedger$Balance" 42 ⟨"ClauseLedger$Balance", "inside", "(I)I"⟩) ∈ gw := gt_5 (i := 127) rfl rfl
theorem m_1089 : (Cond.instanceMethod ⟨"ClauseLedger$Balance", "inside", "(I)I"⟩) ∈ gw := gt_5 (i := 129) rfl rfl
theorem m_1090 : (Cond.code ⟨"ClauseLedger$Balance", "inside", "(I)I"⟩ prog_2_method_7_code 2 (some .int)) ∈ gw := gt_5 (i := 130) rfl rfl
theorem m_1091 : (Cond.methodLink "ClauseLedger$Balance" 46 ⟨"ClauseLedger$Terms", "kindOf", "(I)I"⟩) ∈ gw := gt_5 (i := 131) rfl rfl
theorem m_1092 : (Cond.methodLink "ClauseLedger$Balance" 54 ⟨"ClauseLedger$Terms", "firstOf", "(I)I"⟩) ∈ gw := gt_5 (i := 132) rfl rfl
theorem m_1093 : (Cond.methodLink "ClauseLedger$Balance" 81 ⟨"ClauseLedger$Terms", "sortOf", "(I)I"⟩) ∈ gw := gt_5 (i := 133) rfl rfl
theorem m_1125 : (Cond.methodLink "ClauseLedger$Sum" 38 ⟨"ClauseLedger$Sum", "isBeyond", "(JJ)Z"⟩) ∈ gw := gt_5 (i := 165) rfl rfl
theorem m_1126 : (Cond.static ⟨"ClauseLedger$Sum", "isBeyond", "(JJ)Z"⟩) ∈ gw := gt_5 (i := 166) rfl rfl
theorem m_1127 : (Cond.code ⟨"ClauseLedger$Sum", "isBeyond", "(JJ)Z"⟩ prog_10_method_10_code 4 (some .boolean)) ∈ gw := gt_5 (i := 167) rfl rfl
theorem m_1128 : (Cond.constantLong "ClauseLedger$Sum" 52 (-1000000000)) ∈ gw := gt_5 (i := 168) rfl rfl
theorem m_1129 : (Cond.constantLong "ClauseLedger$Sum" 54 1000000000) ∈ gw := gt_5 (i := 169) rfl rfl
theorem m_1130 : (Cond.methodLink "ClauseLedger$Sum" 42 ⟨"ClauseLedger$Sum", "placeOf", "(I)I"⟩) ∈ gw := gt_5 (i := 170) rfl rfl
theorem m_1132 : (Cond.instanceMethod ⟨"ClauseLedger$Sum", "placeOf", "(I)I"⟩) ∈ gw := gt_5 (i := 172) rfl rfl
theorem m_1133 : (Cond.code ⟨"ClauseLedger$Sum", "placeOf", "(I)I"⟩ prog_10_method_9_code 3 (some .int)) ∈ gw := gt_5 (i := 173) rfl rfl
theorem m_1165 : (Cond.methodLink "ClauseLedger$Sum" 46 ⟨"java/lang/Long", "compare", "(JJ)I"⟩) ∈ gw := gt_5 (i := 205) rfl rfl
theorem m_1166 : (Cond.static ⟨"java/lang/Long", "compare", "(JJ)I"⟩) ∈ gw := gt_5 (i := 206) rfl rfl
theorem m_1167 : (Cond.code ⟨"java/lang/Long", "compare", "(JJ)I"⟩ prog_21_method_42_code 4 (some .int)) ∈ gw := gt_5 (i := 207) rfl rfl
theorem m_1172 : (Cond.methodLink "ClauseLedgerLaw" 125 ⟨"ClauseLedgerLaw", "instance", "(LClauseLedger;II[J)I"⟩) ∈ gw := gt_5 (i := 212) rfl rfl
theorem m_1173 : (Cond.static ⟨"ClauseLedgerLaw", "instance", "(LClauseLedger;II[J)I"⟩) ∈ gw := gt_5 (i := 213) rfl rfl
theorem m_1174 : (Cond.codeWith ⟨"ClauseLedgerLaw", "instance", "(LClauseLedger;II[J)I"⟩ method_13_code 5 (some .int) [(0, 10, 13, 23), (0, 10, 17, 13), (0, 10, 21, 15), (0, 10, 25, 17)]) ∈ gw := gt_5 (i := 214) rfl rfl
theorem m_1175 : (Cond.methodLink "ClauseLedgerLaw" 52 ⟨"ClauseLedger", "instance", "(II)I"⟩) ∈ gw := gt_5 (i := 215) rfl rfl
theorem m_1176 : (Cond.instanceMethod ⟨"ClauseLedger", "instance", "(II)I"⟩) ∈ gw := gt_5 (i := 216) rfl rfl
theorem m_1177 : (Cond.selects "ClauseLedger" ⟨"ClauseLedger", "instance", "(II)I"⟩ ⟨"ClauseLedger", "instance", "(II)I"⟩) ∈ gw := gt_5 (i := 217) rfl rfl
theorem m_1178 : (Cond.code ⟨"ClauseLedger", "instance", "(II)I"⟩ prog_1_method_16_code 4 (some .int)) ∈ gw := gt_5 (i := 218) rfl rfl
theorem m_1179 : (Cond.methodLink "ClauseLedger" 215 ⟨"ClauseLedger$Signature", "sortOfVariable", "(I)I"⟩) ∈ gw := gt_5 (i := 219) rfl rfl
theorem m_1180 : (Cond.methodLink "ClauseLedger" 218 ⟨"ClauseLedger$Putting", "put", "(III)I"⟩) ∈ gw := gt_5 (i := 220) rfl rfl
theorem m_1181 : (Cond.instanceMethod ⟨"ClauseLedger$Putting", "put", "(III)I"⟩) ∈ gw := gt_5 (i := 221) rfl rfl
theorem m_1182 : (Cond.selects "ClauseLedger$Putting" ⟨"ClauseLedger$Putting", "put", "(III)I"⟩ ⟨"ClauseLedger$Putting", "put", "(III)I"⟩) ∈ gw := gt_5 (i := 222) rfl rfl
theorem m_1183 : (Cond.code ⟨"ClauseLedger$Putting", "put", "(III)I"⟩ prog_4_method_3_code 4 (some .int)) ∈ gw := gt_5 (i := 223) rfl rfl
theorem m_1184 : (Cond.methodLink "ClauseLedger$Putting" 30 ⟨"java/util/Arrays", "fill", "([II)V"⟩) ∈ gw := gt_5 (i := 224) rfl rfl
theorem m_1185 : (Cond.static ⟨"java/util/Arrays", "fill", "([II)V"⟩) ∈ gw := gt_5 (i := 225) rfl rfl
theorem m_1186 : (Cond.code ⟨"java/util/Arrays", "fill", "([II)V"⟩ prog_28_method_103_code 4 none) ∈ gw := gt_5 (i := 226) rfl rfl
theorem m_1187 : (Cond.methodLink "ClauseLedger$Putting" 36 ⟨"ClauseLedger$Putting", "putIn", "(II)I"⟩) ∈ gw := gt_5 (i := 227) rfl rfl
theorem m_1189 : (Cond.instanceMethod ⟨"ClauseLedger$Putting", "putIn", "(II)I"⟩) ∈ gw := gt_5 (i := 229) rfl rfl
theorem m_1190 : (Cond.code ⟨"ClauseLedger$Putting", "putIn", "(II)I"⟩ prog_4_method_4_code 5 (some .int)) ∈ gw := gt_5 (i := 230) rfl rfl
theorem m_1191 : (Cond.methodLink "ClauseLedger$Putting" 40 ⟨"ClauseLedger$Terms", "isFree", "(II)Z"⟩) ∈ gw := gt_5 (i := 231) rfl rfl
theorem m_1192 : (Cond.instanceMethod ⟨"ClauseLedger$Terms", "isFree", "(II)Z"⟩) ∈ gw := gt_5 (i := 232) rfl rfl
theorem m_1193 : (Cond.selects "ClauseLedger$Terms" ⟨"ClauseLedger$Terms", "isFree", "(II)Z"⟩ ⟨"ClauseLedger$Terms", "isFree", "(II)Z"⟩) ∈ gw := gt_5 (i := 233) rfl rfl
theorem m_1194 : (Cond.code ⟨"ClauseLedger$Terms", "isFree", "(II)Z"⟩ prog_11_method_14_code 3 (some .boolean)) ∈ gw := gt_5 (i := 234) rfl rfl
theorem m_1195 : (Cond.methodLink "ClauseLedger$Putting" 46 ⟨"ClauseLedger$Terms", "kindOf", "(I)I"⟩) ∈ gw := gt_5 (i := 235) rfl rfl
theorem m_1196 : (Cond.methodLink "ClauseLedger$Putting" 50 ⟨"ClauseLedger$Putting", "isCaught", "(I)Z"⟩) ∈ gw := gt_5 (i := 236) rfl rfl
theorem m_1198 : (Cond.instanceMethod ⟨"ClauseLedger$Putting", "isCaught", "(I)Z"⟩) ∈ gw := gt_5 (i := 238) rfl rfl
theorem m_1199 : (Cond.code ⟨"ClauseLedger$Putting", "isCaught", "(I)Z"⟩ prog_4_method_5_code 2 (some .boolean)) ∈ gw := gt_5 (i := 239) rfl rfl
theorem m_1200 : (Cond.methodLink "ClauseLedger$Putting" 63 ⟨"ClauseLedger$Terms", "nameOf", "(I)I"⟩) ∈ gw := gt_6 (i := 0) rfl rfl
theorem m_1201 : (Cond.methodLink "ClauseLedger$Putting" 54 ⟨"ClauseLedger$Terms", "firstOf", "(I)I"⟩) ∈ gw := gt_6 (i := 1) rfl rfl
theorem m_1202 : (Cond.methodLink "ClauseLedger$Putting" 57 ⟨"ClauseLedger$Terms", "secondOf", "(I)I"⟩) ∈ gw := gt_6 (i := 2) rfl rfl
theorem m_1203 : (Cond.methodLink "ClauseLedger$Putting" 60 ⟨"ClauseLedger$Terms", "sortOf", "(I)I"⟩) ∈ gw := gt_6 (i := 3) rfl rfl
theorem m_1204 : (Cond.methodLink "ClauseLedger$Putting" 66 ⟨"ClauseLedger$Terms", "make", "(IIIII)I"⟩) ∈ gw := gt_6 (i := 4) rfl rfl
theorem m_1205 : (Cond.methodLink "ClauseLedger" 221 ⟨"ClauseLedger$Putting", "failed", "()Z"⟩) ∈ gw := gt_6 (i := 5) rfl rfl
theorem m_1206 : (Cond.instanceMethod ⟨"ClauseLedger$Putting", "failed", "()Z"⟩) ∈ gw := gt_6 (i := 6) rfl rfl
theorem m_1207 : (Cond.selects "ClauseLedger$Putting" ⟨"ClauseLedger$Putting", "failed", "()Z"⟩ ⟨"ClauseLedger$Putting", "failed", "()Z"⟩) ∈ gw := gt_6 (i := 7) rfl rfl
theorem m_1208 : (Cond.code ⟨"ClauseLedger$Putting", "failed", "()Z"⟩ prog_4_method_2_code 1 (some .boolean)) ∈ gw := gt_6 (i := 8) rfl rfl
theorem m_1209 : (Cond.methodLink "ClauseLedgerLaw" 128 ⟨"ClauseLedgerLaw", "open", "(LClauseLedger;[J)I"⟩) ∈ gw := gt_6 (i := 9) rfl rfl
theorem m_1210 : (Cond.static ⟨"ClauseLedgerLaw", "open", "(LClauseLedger;[J)I"⟩) ∈ gw := gt_6 (i := 10) rfl rfl
theorem m_1211 : (Cond.codeWith ⟨"ClauseLedgerLaw", "open", "(LClauseLedger;[J)I"⟩ method_14_code 3 (some .int) [(0, 8, 11, 17)]) ∈ gw := gt_6 (i := 11) rfl rfl
theorem m_1212 : (Cond.methodLink "ClauseLedgerLaw" 55 ⟨"ClauseLedger", "open", "()I"⟩) ∈ gw := gt_6 (i := 12) rfl rfl
theorem m_1213 : (Cond.instanceMethod ⟨"ClauseLedger", "open", "()I"⟩) ∈ gw := gt_6 (i := 13) rfl rfl
theorem m_1214 : (Cond.selects "ClauseLedger" ⟨"ClauseLedger", "open", "()I"⟩ ⟨"ClauseLedger", "open", "()I"⟩) ∈ gw := gt_6 (i := 14) rfl rfl
theorem m_1215 : (Cond.code ⟨"ClauseLedger", "open", "()I"⟩ prog_1_method_17_code 1 (some .int)) ∈ gw := gt_6 (i := 15) rfl rfl
theorem m_1216 : (Cond.methodLink "ClauseLedger" 224 ⟨"ClauseLedger$Scopes", "isFull", "()Z"⟩) ∈ gw := gt_6 (i := 16) rfl rfl
theorem m_1217 : (Cond.instanceMethod ⟨"ClauseLedger$Scopes", "isFull", "()Z"⟩) ∈ gw := gt_6 (i := 17) rfl rfl
theorem m_1218 : (Cond.selects "ClauseLedger$Scopes" ⟨"ClauseLedger$Scopes", "isFull", "()Z"⟩ ⟨"ClauseLedger$Scopes", "isFull", "()Z"⟩) ∈ gw := gt_6 (i := 18) rfl rfl
theorem m_1219 : (Cond.code ⟨"ClauseLedger$Scopes", "isFull", "()Z"⟩ prog_7_method_3_code 1 (some .boolean)) ∈ gw := gt_6 (i := 19) rfl rfl
theorem m_1220 : (Cond.methodLink "ClauseLedger" 227 ⟨"ClauseLedger$Scopes", "openInner", "()I"⟩) ∈ gw := gt_6 (i := 20) rfl rfl
theorem m_1221 : (Cond.instanceMethod ⟨"ClauseLedger$Scopes", "openInner", "()I"⟩) ∈ gw := gt_6 (i := 21) rfl rfl
theorem m_1222 : (Cond.selects "ClauseLedger$Scopes" ⟨"ClauseLedger$Scopes", "openInner", "()I"⟩ ⟨"ClauseLedger$Scopes", "openInner", "()I"⟩) ∈ gw := gt_6 (i := 22) rfl rfl
theorem m_1223 : (Cond.code ⟨"ClauseLedger$Scopes", "openInner", "()I"⟩ prog_7_method_7_code 1 (some .int)) ∈ gw := gt_6 (i := 23) rfl rfl
theorem m_1224 : (Cond.methodLink "ClauseLedger$Scopes" 33 ⟨"ClauseLedger$Scopes", "isFull", "()Z"⟩) ∈ gw := gt_6 (i := 24) rfl rfl
theorem m_1225 : (Cond.methodLink "ClauseLedger$Scopes" 37 ⟨"ClauseLedger$Scopes", "depthOf", "(I)I"⟩) ∈ gw := gt_6 (i := 25) rfl rfl
theorem m_1226 : (Cond.methodLink "ClauseLedgerLaw" 131 ⟨"ClauseLedgerLaw", "close", "(LClauseLedger;[J)I"⟩) ∈ gw := gt_6 (i := 26) rfl rfl
theorem m_1227 : (Cond.static ⟨"ClauseLedgerLaw", "close", "(LClauseLedger;[J)I"⟩) ∈ gw := gt_6 (i := 27) rfl rfl
theorem m_1228 : (Cond.codeWith ⟨"ClauseLedgerLaw", "close", "(LClauseLedger;[J)I"⟩ method_15_code 3 (some .int) [(0, 8, 11, 13), (0, 8, 14, 15), (0, 8, 17, 17)]) ∈ gw := gt_6 (i := 28) rfl rfl
theorem m_1229 : (Cond.methodLink "ClauseLedgerLaw" 58 ⟨"ClauseLedger", "close", "()I"⟩) ∈ gw := gt_6 (i := 29) rfl rfl
theorem m_1230 : (Cond.instanceMethod ⟨"ClauseLedger", "close", "()I"⟩) ∈ gw := gt_6 (i := 30) rfl rfl
theorem m_1231 : (Cond.selects "ClauseLedger" ⟨"ClauseLedger", "close", "()I"⟩ ⟨"ClauseLedger", "close", "()I"⟩) ∈ gw := gt_6 (i := 31) rfl rfl
theorem m_1232 : (Cond.code ⟨"ClauseLedger", "close", "()I"⟩ prog_1_method_18_code 4 (some .int)) ∈ gw := gt_6 (i := 32) rfl rfl
theorem m_1233 : (Cond.methodLink "ClauseLedger" 230 ⟨"ClauseLedger$Steps", "latestIn", "(I)I"⟩) ∈ gw := gt_6 (i := 33) rfl rfl
theorem m_1234 : (Cond.instanceMethod ⟨"ClauseLedger$Steps", "latestIn", "(I)I"⟩) ∈ gw := gt_6 (i := 34) rfl rfl
theorem m_1235 : (Cond.selects "ClauseLedger$Steps" ⟨"ClauseLedger$Steps", "latestIn", "(I)I"⟩ ⟨"ClauseLedger$Steps", "latestIn", "(I)I"⟩) ∈ gw := gt_6 (i := 35) rfl rfl
theorem m_1236 : (Cond.code ⟨"ClauseLedger$Steps", "latestIn", "(I)I"⟩ prog_9_method_10_code 3 (some .int)) ∈ gw := gt_6 (i := 36) rfl rfl
theorem m_1237 : (Cond.methodLink "ClauseLedger" 233 ⟨"ClauseLedger", "joinOppositesAssumedIn", "(I)V"⟩) ∈ gw := gt_6 (i := 37) rfl rfl
theorem m_1239 : (Cond.instanceMethod ⟨"ClauseLedger", "joinOppositesAssumedIn", "(I)V"⟩) ∈ gw := gt_6 (i := 39) rfl rfl
theorem m_1240 : (Cond.code ⟨"ClauseLedger", "joinOppositesAssumedIn", "(I)V"⟩ prog_1_method_36_code 3 none) ∈ gw := gt_6 (i := 40) rfl rfl
theorem m_1241 : (Cond.methodLink "ClauseLedger" 288 ⟨"ClauseLedger$Steps", "isAssumed", "(I)Z"⟩) ∈ gw := gt_6 (i := 41) rfl rfl
theorem m_1242 : (Cond.instanceMethod ⟨"ClauseLedger$Steps", "isAssumed", "(I)Z"⟩) ∈ gw := gt_6 (i := 42) rfl rfl
theorem m_1243 : (Cond.selects "ClauseLedger$Steps" ⟨"ClauseLedger$Steps", "isAssumed", "(I)Z"⟩ ⟨"ClauseLedger$Steps", "isAssumed", "(I)Z"⟩) ∈ gw := gt_6 (i := 43) rfl rfl
theorem m_1244 : (Cond.code ⟨"ClauseLedger$Steps", "isAssumed", "(I)Z"⟩ prog_9_method_8_code 2 (some .boolean)) ∈ gw := gt_6 (i := 44) rfl rfl
theorem m_1245 : (Cond.methodLink "ClauseLedger" 236 ⟨"ClauseLedger$Scopes", "around", "(I)I"⟩) ∈ gw := gt_6 (i := 45) rfl rfl
theorem m_1246 : (Cond.instanceMethod ⟨"ClauseLedger$Scopes", "around", "(I)I"⟩) ∈ gw := gt_6 (i := 46) rfl rfl
theorem m_1247 : (Cond.selects "ClauseLedger$Scopes" ⟨"ClauseLedger$Scopes", "around", "(I)I"⟩ ⟨"ClauseLedger$Scopes", "around", "(I)I"⟩) ∈ gw := gt_6 (i := 47) rfl rfl
theorem m_1248 : (Cond.code ⟨"ClauseLedger$Scopes", "around", "(I)I"⟩ prog_7_method_4_code 2 (some .int)) ∈ gw := gt_6 (i := 48) rfl rfl
theorem m_1249 : (Cond.methodLink "ClauseLedger" 239 ⟨"ClauseLedger$Scopes", "closeInner", "()V"⟩) ∈ gw := gt_6 (i := 49) rfl rfl
theorem m_1250 : (Cond.instanceMethod ⟨"ClauseLedger$Scopes", "closeInner", "()V"⟩) ∈ gw := gt_6 (i := 50) rfl rfl
theorem m_1251 : (Cond.selects "ClauseLedger$Scopes" ⟨"ClauseLedger$Scopes", "closeInner", "()V"⟩ ⟨"ClauseLedger$Scopes", "closeInner", "()V"⟩) ∈ gw := gt_6 (i := 51) rfl rfl
theorem m_1252 : (Cond.code ⟨"ClauseLedger$Scopes", "closeInner", "()V"⟩ prog_7_method_8_code 1 none) ∈ gw := gt_6 (i := 52) rfl rfl
theorem m_1253 : (Cond.classLink "ClauseLedgerLaw" 62 "ClauseLedgerModel") ∈ gw := gt_6 (i := 53) rfl rfl
theorem m_1254 : (Cond.instantiable "ClauseLedgerModel" 51) ∈ gw := gt_6 (i := 54) rfl rfl
theorem m_1255 : (Cond.methodLink "ClauseLedgerLaw" 64 ⟨"ClauseLedgerModel", "<init>", "()V"⟩) ∈ gw := gt_6 (i := 55) rfl rfl
theorem m_1256 : (Cond.instanceMethod ⟨"ClauseLedgerModel", "<init>", "()V"⟩) ∈ gw := gt_6 (i := 56) rfl rfl
theorem m_1257 : (Cond.code ⟨"ClauseLedgerModel", "<init>", "()V"⟩ prog_14_method_1_code 1 none) ∈ gw := gt_6 (i := 57) rfl rfl
theorem m_1258 : (Cond.methodLink "ClauseLedgerModel" 1 ⟨"java/lang/Object", "<init>", "()V"⟩) ∈ gw := gt_6 (i := 58) rfl rfl
theorem m_1259 : (Cond.fieldLink "ClauseLedgerModel" 103 "ClauseLedgerModel" "code" "I") ∈ gw := gt_6 (i := 59) rfl rfl
theorem m_1260 : (Cond.fieldLink "ClauseLedgerModel" 126 "ClauseLedgerModel" "failures" "I") ∈ gw := gt_6 (i := 60) rfl rfl
theorem m_1261 : (Cond.fieldLink "ClauseLedgerModel" 7 "ClauseLedgerModel" "sorts" "I") ∈ gw := gt_6 (i := 61) rfl rfl
theorem m_1262 : (Cond.fieldLink "ClauseLedgerModel" 106 "ClauseLedgerModel" "symbols" "I") ∈ gw := gt_6 (i := 62) rfl rfl
theorem m_1263 : (Cond.fieldLink "ClauseLedgerModel" 13 "ClauseLedgerModel" "symbolSort" "[I") ∈ gw := gt_6 (i := 63) rfl rfl
theorem m_1264 : (Cond.fieldLink "ClauseLedgerModel" 17 "ClauseLedgerModel" "first" "[I") ∈ gw := gt_6 (i := 64) rfl rfl
theorem m_1265 : (Cond.fieldLink "ClauseLedgerModel" 20 "ClauseLedgerModel" "second" "[I") ∈ gw := gt_6 (i := 65) rfl rfl
theorem m_1266 : (Cond.fieldLink "ClauseLedgerModel" 23 "ClauseLedgerModel" "variableSort" "[I") ∈ gw := gt_6 (i := 66) rfl rfl
theorem m_1267 : (Cond.fieldLink "ClauseLedgerModel" 109 "ClauseLedgerModel" "terms" "I") ∈ gw := gt_6 (i := 67) rfl rfl
theorem m_1268 : (Cond.fieldLink "ClauseLedgerModel" 120 "ClauseLedgerModel" "kept" "I") ∈ gw := gt_6 (i := 68) rfl rfl
theorem m_1269 : (Cond.fieldLink "ClauseLedgerModel" 26 "ClauseLedgerModel" "kind" "[I") ∈ gw := gt_6 (i := 69) rfl rfl
theorem m_1270 : (Cond.fieldLink "ClauseLedgerModel" 29 "ClauseLedgerModel" "sort" "[I") ∈ gw := gt_6 (i := 70) rfl rfl
theorem m_1271 : (Cond.fieldLink "ClauseLedgerModel" 32 "ClauseLedgerModel" "depth" "[I") ∈ gw := gt_6 (i := 71) rfl rfl
theorem m_1272 : (Cond.fieldLink "ClauseLedgerModel" 35 "ClauseLedgerModel" "one" "[I") ∈ gw := gt_6 (i := 72) rfl rfl
theorem m_1273 : (Cond.fieldLink "ClauseLedgerModel" 38 "ClauseLedgerModel" "two" "[I") ∈ gw := gt_6 (i := 73) rfl rfl
theorem m_1274 : (Cond.fieldLink "ClauseLedgerModel" 41 "ClauseLedgerModel" "letter" "[I") ∈ gw := gt_6 (i := 74) rfl rfl
theorem m_1275 : (Cond.fieldLink "ClauseLedgerModel" 44 "ClauseLedgerModel" "top" "[I") ∈ gw := gt_6 (i := 75) rfl rfl
theorem m_1276 : (Cond.fieldLink "ClauseLedgerModel" 47 "ClauseLedgerModel" "below" "[I") ∈ gw := gt_6 (i := 76) rfl rfl
theorem m_1277 : (Cond.fieldLink "ClauseLedgerModel" 50 "ClauseLedgerModel" "free" "[I") ∈ gw := gt_6 (i := 77) rfl rfl
theorem m_1278 : (Cond.fieldLink "ClauseLedgerModel" 137 "ClauseLedgerModel" "steps" "I") ∈ gw := gt_6 (i := 78) rfl rfl
theorem m_1279 : (Cond.fieldLink "ClauseLedgerModel" 53 "ClauseLedgerModel" "many" "[I") ∈ gw := gt_6 (i := 79) rfl rfl
theorem m_1280 : (Cond.fieldLink "ClauseLedgerModel" 56 "ClauseLedgerModel" "truths" "[I") ∈ gw := gt_6 (i := 80) rfl rfl
theorem m_1281 : (Cond.fieldLink "ClauseLedgerModel" 59 "ClauseLedgerModel" "scopeOf" "[I") ∈ gw := gt_6 (i := 81) rfl rfl
theorem m_1282 : (Cond.fieldLink "ClauseLedgerModel" 62 "ClauseLedgerModel" "assumed" "[Z") ∈ gw := gt_6 (i := 82) rfl rfl
theorem m_1283 : (Cond.fieldLink "ClauseLedgerModel" 291 "ClauseLedgerModel" "scopes" "I") ∈ gw := gt_6 (i := 83) rfl rfl
theorem m_1284 : (Cond.fieldLink "ClauseLedgerModel" 214 "ClauseLedgerModel" "inner" "I") ∈ gw := gt_6 (i := 84) rfl rfl
theorem m_1285 : (Cond.fieldLink "ClauseLedgerModel" 66 "ClauseLedgerModel" "around" "[I") ∈ gw := gt_6 (i := 85) rfl rfl
theorem m_1286 : (Cond.fieldLink "ClauseLedgerModel" 69 "ClauseLedgerModel" "closed" "[Z") ∈ gw := gt_6 (i := 86) rfl rfl
theorem m_1287 : (Cond.fieldLink "ClauseLedgerModel" 123 "ClauseLedgerModel" "rowSize" "I") ∈ gw := gt_6 (i := 87) rfl rfl
theorem m_1288 : (Cond.fieldLink "ClauseLedgerModel" 72 "ClauseLedgerModel" "row" "[I") ∈ gw := gt_6 (i := 88) rfl rfl
theorem m_1289 : (Cond.fieldLink "ClauseLedgerModel" 146 "ClauseLedgerModel" "drafted" "I") ∈ gw := gt_6 (i := 89) rfl rfl
theorem m_1290 : (Cond.fieldLink "ClauseLedgerModel" 75 "ClauseLedgerModel" "draft" "[I") ∈ gw := gt_6 (i := 90) rfl rfl
theorem m_1291 : (Cond.fieldLink "ClauseLedgerModel" 149 "ClauseLedgerModel" "at" "I") ∈ gw := gt_6 (i := 91) rfl rfl
theorem m_1292 : (Cond.fieldLink "ClauseLedgerModel" 163 "ClauseLedgerModel" "bad" "Z") ∈ gw := gt_6 (i := 92) rfl rfl
theorem m_1293 : (Cond.fieldLink "ClauseLedgerModel" 173 "ClauseLedgerModel" "opens" "I") ∈ gw := gt_6 (i := 93) rfl rfl
theorem m_1294 : (Cond.fieldLink "ClauseLedgerModel" 78 "ClauseLedgerModel" "sign" "[I") ∈ gw := gt_6 (i := 94) rfl rfl
theorem m_1295 : (Cond.fieldLink "ClauseLedgerModel" 81 "ClauseLedgerModel" "got" "[I") ∈ gw := gt_6 (i := 95) rfl rfl
theorem m_1296 : (Cond.fieldLink "ClauseLedgerModel" 84 "ClauseLedgerModel" "left" "[I") ∈ gw := gt_6 (i := 96) rfl rfl
theorem m_1297 : (Cond.fieldLink "ClauseLedgerModel" 87 "ClauseLedgerModel" "right" "[I") ∈ gw := gt_6 (i := 97) rfl rfl
theorem m_1298 : (Cond.fieldLink "ClauseLedgerModel" 90 "ClauseLedgerModel" "became" "[I") ∈ gw := gt_6 (i := 98) rfl rfl
theorem m_1299 : (Cond.fieldLink "ClauseLedgerModel" 93 "ClauseLedgerModel" "num" "[J") ∈ gw := gt_6 (i := 99) rfl rfl
theorem m_1300 : (Cond.fieldLink "ClauseLedgerModel" 97 "ClauseLedgerModel" "den" "[J") ∈ gw := gt_6 (i := 100) rfl rfl
theorem m_1301 : (Cond.fieldLink "ClauseLedgerModel" 100 "ClauseLedgerModel" "needed" "[Z") ∈ gw := gt_6 (i := 101) rfl rfl
theorem m_1302 : (Cond.fieldLink "ClauseLedgerModel" 251 "ClauseLedgerModel" "sumNum" "J") ∈ gw := gt_6 (i := 102) rfl rfl
theorem m_1303 : (Cond.fieldLink "ClauseLedgerModel" 255 "ClauseLedgerModel" "sumDen" "J") ∈ gw := gt_6 (i := 103) rfl rfl
theorem m_1304 : (Cond.fieldLink "ClauseLedgerModel" 258 "ClauseLedgerModel" "great" "Z") ∈ gw := gt_6 (i := 104) rfl rfl
theorem m_1305 : (Cond.fieldLink "ClauseLedgerModel" 297 "ClauseLedgerModel" "written" "I") ∈ gw := gt_6 (i := 105) rfl rfl
theorem m_1306 : (Cond.fieldLink "ClauseLedgerModel" 300 "ClauseLedgerModel" "wanted" "I") ∈ gw := gt_6 (i := 106) rfl rfl
theorem m_1307 : (Cond.fieldLink "ClauseLedgerModel" 303 "ClauseLedgerModel" "caught" "I") ∈ gw := gt_6 (i := 107) rfl rfl
theorem m_1308 : (Cond.fieldLink "ClauseLedgerModel" 278 "ClauseLedgerModel" "allNum" "J") ∈ gw := gt_6 (i := 108) rfl rfl
theorem m_1309 : (Cond.fieldLink "ClauseLedgerModel" 281 "ClauseLedgerModel" "allDen" "J") ∈ gw := gt_6 (i := 109) rfl rfl
theorem m_1310 : (Cond.lays "ClauseLedgerModel" "ClauseLedgerModel" "code" "I") ∈ gw := gt_6 (i := 110) rfl rfl
theorem m_1312 : (Cond.lays "ClauseLedgerModel" "ClauseLedgerModel" "failures" "I") ∈ gw := gt_6 (i := 112) rfl rfl
theorem m_1314 : (Cond.lays "ClauseLedgerModel" "ClauseLedgerModel" "sorts" "I") ∈ gw := gt_6 (i := 114) rfl rfl
theorem m_1316 : (Cond.lays "ClauseLedgerModel" "ClauseLedgerModel" "symbols" "I") ∈ gw := gt_6 (i := 116) rfl rfl
theorem m_1318 : (Cond.laysFinal "ClauseLedgerModel" "ClauseLedgerModel" "symbolSort" "[I") ∈ gw := gt_6 (i := 118) rfl rfl
theorem m_1320 : (Cond.laysFinal "ClauseLedgerModel" "ClauseLedgerModel" "first" "[I") ∈ gw := gt_6 (i := 120) rfl rfl
theorem m_1322 : (Cond.laysFinal "ClauseLedgerModel" "ClauseLedgerModel" "second" "[I") ∈ gw := gt_6 (i := 122) rfl rfl
theorem m_1324 : (Cond.laysFinal "ClauseLedgerModel" "ClauseLedgerModel" "variableSort" "[I") ∈ gw := gt_6 (i := 124) rfl rfl
theorem m_1326 : (Cond.lays "ClauseLedgerModel" "ClauseLedgerModel" "terms" "I") ∈ gw := gt_6 (i := 126) rfl rfl
theorem m_1328 : (Cond.lays "ClauseLedgerModel" "ClauseLedgerModel" "kept" "I") ∈ gw := gt_6 (i := 128) rfl rfl
theorem m_1330 : (Cond.laysFinal "ClauseLedgerModel" "ClauseLedgerModel" "kind" "[I") ∈ gw := gt_6 (i := 130) rfl rfl
theorem m_1332 : (Cond.laysFinal "ClauseLedgerModel" "ClauseLedgerModel" "sort" "[I") ∈ gw := gt_6 (i := 132) rfl rfl
theorem m_1334 : (Cond.laysFinal "ClauseLedgerModel" "ClauseLedgerModel" "depth" "[I") ∈ gw := gt_6 (i := 134) rfl rfl
theorem m_1336 : (Cond.laysFinal "ClauseLedgerModel" "ClauseLedgerModel" "one" "[I") ∈ gw := gt_6 (i := 136) rfl rfl
theorem m_1338 : (Cond.laysFinal "ClauseLedgerModel" "ClauseLedgerModel" "two" "[I") ∈ gw := gt_6 (i := 138) rfl rfl
theorem m_1340 : (Cond.laysFinal "ClauseLedgerModel" "ClauseLedgerModel" "letter" "[I") ∈ gw := gt_6 (i := 140) rfl rfl
theorem m_1342 : (Cond.laysFinal "ClauseLedgerModel" "ClauseLedgerModel" "top" "[I") ∈ gw := gt_6 (i := 142) rfl rfl
theorem m_1344 : (Cond.laysFinal "ClauseLedgerModel" "ClauseLedgerModel" "below" "[I") ∈ gw := gt_6 (i := 144) rfl rfl
theorem m_1346 : (Cond.laysFinal "ClauseLedgerModel" "ClauseLedgerModel" "free" "[I") ∈ gw := gt_6 (i := 146) rfl rfl
theorem m_1348 : (Cond.lays "ClauseLedgerModel" "ClauseLedgerModel" "steps" "I") ∈ gw := gt_6 (i := 148) rfl rfl
theorem m_1350 : (Cond.laysFinal "ClauseLedgerModel" "ClauseLedgerModel" "many" "[I") ∈ gw := gt_6 (i := 150) rfl rfl
theorem m_1352 : (Cond.laysFinal "ClauseLedgerModel" "ClauseLedgerModel" "truths" "[I") ∈ gw := gt_6 (i := 152) rfl rfl
theorem m_1354 : (Cond.laysFinal "ClauseLedgerModel" "ClauseLedgerModel" "scopeOf" "[I") ∈ gw := gt_6 (i := 154) rfl rfl
theorem m_1356 : (Cond.laysFinal "ClauseLedgerModel" "ClauseLedgerModel" "assumed" "[Z") ∈ gw := gt_6 (i := 156) rfl rfl
theorem m_1358 : (Cond.lays "ClauseLedgerModel" "ClauseLedgerModel" "scopes" "I") ∈ gw := gt_6 (i := 158) rfl rfl
theorem m_1360 : (Cond.lays "ClauseLedgerModel" "ClauseLedgerModel" "inner" "I") ∈ gw := gt_6 (i := 160) rfl rfl
theorem m_1362 : (Cond.laysFinal "ClauseLedgerModel" "ClauseLedgerModel" "around" "[I") ∈ gw := gt_6 (i := 162) rfl rfl
theorem m_1364 : (Cond.laysFinal "ClauseLedgerModel" "ClauseLedgerModel" "closed" "[Z") ∈ gw := gt_6 (i := 164) rfl rfl
theorem m_1366 : (Cond.lays "ClauseLedgerModel" "ClauseLedgerModel" "rowSize" "I") ∈ gw := gt_6 (i := 166) rfl rfl
theorem m_1368 : (Cond.laysFinal "ClauseLedgerModel" "ClauseLedgerModel" "row" "[I") ∈ gw := gt_6 (i := 168) rfl rfl
theorem m_1370 : (Cond.lays "ClauseLedgerModel" "ClauseLedgerModel" "drafted" "I") ∈ gw := gt_6 (i := 170) rfl rfl
theorem m_1372 : (Cond.laysFinal "ClauseLedgerModel" "ClauseLedgerModel" "draft" "[I") ∈ gw := gt_6 (i := 172) rfl rfl
theorem m_1374 : (Cond.lays "ClauseLedgerModel" "ClauseLedgerModel" "at" "I") ∈ gw := gt_6 (i := 174) rfl rfl
theorem m_1376 : (Cond.lays "ClauseLedgerModel" "ClauseLedgerModel" "bad" "Z") ∈ gw := gt_6 (i := 176) rfl rfl
theorem m_1378 : (Cond.lays "ClauseLedgerModel" "ClauseLedgerModel" "opens" "I") ∈ gw := gt_6 (i := 178) rfl rfl
theorem m_1380 : (Cond.laysFinal "ClauseLedgerModel" "ClauseLedgerModel" "sign" "[I") ∈ gw := gt_6 (i := 180) rfl rfl
theorem m_1382 : (Cond.laysFinal "ClauseLedgerModel" "ClauseLedgerModel" "got" "[I") ∈ gw := gt_6 (i := 182) rfl rfl
theorem m_1384 : (Cond.laysFinal "ClauseLedgerModel" "ClauseLedgerModel" "left" "[I") ∈ gw := gt_6 (i := 184) rfl rfl
theorem m_1386 : (Cond.laysFinal "ClauseLedgerModel" "ClauseLedgerModel" "right" "[I") ∈ gw := gt_6 (i := 186) rfl rfl
theorem m_1388 : (Cond.laysFinal "ClauseLedgerModel" "ClauseLedgerModel" "became" "[I") ∈ gw := gt_6 (i := 188) rfl rfl
theorem m_1390 : (Cond.laysFinal "ClauseLedgerModel" "ClauseLedgerModel" "num" "[J") ∈ gw := gt_6 (i := 190) rfl rfl
theorem m_1392 : (Cond.laysFinal "ClauseLedgerModel" "ClauseLedgerModel" "den" "[J") ∈ gw := gt_6 (i := 192) rfl rfl
theorem m_1394 : (Cond.laysFinal "ClauseLedgerModel" "ClauseLedgerModel" "needed" "[Z") ∈ gw := gt_6 (i := 194) rfl rfl
theorem m_1396 : (Cond.lays "ClauseLedgerModel" "ClauseLedgerModel" "sumNum" "J") ∈ gw := gt_6 (i := 196) rfl rfl
theorem m_1398 : (Cond.lays "ClauseLedgerModel" "ClauseLedgerModel" "sumDen" "J") ∈ gw := gt_6 (i := 198) rfl rfl
theorem m_1400 : (Cond.lays "ClauseLedgerModel" "ClauseLedgerModel" "great" "Z") ∈ gw := gt_6 (i := 200) rfl rfl
theorem m_1402 : (Cond.lays "ClauseLedgerModel" "ClauseLedgerModel" "written" "I") ∈ gw := gt_6 (i := 202) rfl rfl
theorem m_1404 : (Cond.lays "ClauseLedgerModel" "ClauseLedgerModel" "wanted" "I") ∈ gw := gt_6 (i := 204) rfl rfl
theorem m_1406 : (Cond.lays "ClauseLedgerModel" "ClauseLedgerModel" "caught" "I") ∈ gw := gt_6 (i := 206) rfl rfl
theorem m_1408 : (Cond.lays "ClauseLedgerModel" "ClauseLedgerModel" "allNum" "J") ∈ gw := gt_6 (i := 208) rfl rfl
theorem m_1410 : (Cond.lays "ClauseLedgerModel" "ClauseLedgerModel" "allDen" "J") ∈ gw := gt_6 (i := 210) rfl rfl
theorem m_1413 : (Cond.methodLink "ClauseLedgerLaw" 91 ⟨"ClauseLedgerModel", "thrown", "()I"⟩) ∈ gw := gt_6 (i := 213) rfl rfl
theorem m_1414 : (Cond.instanceMethod ⟨"ClauseLedgerModel", "thrown", "()I"⟩) ∈ gw := gt_6 (i := 214) rfl rfl
theorem m_1415 : (Cond.selects "ClauseLedgerModel" ⟨"ClauseLedgerModel", "thrown", "()I"⟩ ⟨"ClauseLedgerModel", "thrown", "()I"⟩) ∈ gw := gt_6 (i := 215) rfl rfl
theorem m_1416 : (Cond.code ⟨"ClauseLedgerModel", "thrown", "()I"⟩ prog_14_method_2_code 1 (some .int)) ∈ gw := gt_6 (i := 216) rfl rfl
theorem m_1417 : (Cond.methodLink "ClauseLedgerLaw" 68 ⟨"ClauseLedgerModel", "sort", "()I"⟩) ∈ gw := gt_6 (i := 217) rfl rfl
theorem m_1418 : (Cond.instanceMethod ⟨"ClauseLedgerModel", "sort", "()I"⟩) ∈ gw := gt_6 (i := 218) rfl rfl
theorem m_1419 : (Cond.selects "ClauseLedgerModel" ⟨"ClauseLedgerModel", "sort", "()I"⟩ ⟨"ClauseLedgerModel", "sort", "()I"⟩) ∈ gw := gt_6 (i := 219) rfl rfl
theorem m_1420 : (Cond.code ⟨"ClauseLedgerModel", "sort", "()I"⟩ prog_14_method_3_code 1 (some .int)) ∈ gw := gt_6 (i := 220) rfl rfl
theorem m_1421 : (Cond.methodLink "ClauseLedgerLaw" 72 ⟨"ClauseLedgerModel", "symbol", "(III)I"⟩) ∈ gw := gt_6 (i := 221) rfl rfl
theorem m_1422 : (Cond.instanceMethod ⟨"ClauseLedgerModel", "symbol", "(III)I"⟩) ∈ gw := gt_6 (i := 222) rfl rfl
theorem m_1423 : (Cond.selects "ClauseLedgerModel" ⟨"ClauseLedgerModel", "symbol", "(III)I"⟩ ⟨"ClauseLedgerModel", "symbol", "(III)I"⟩) ∈ gw := gt_6 (i := 223) rfl rfl
theorem m_1424 : (Cond.code ⟨"ClauseLedgerModel", "symbol", "(III)I"⟩ prog_14_method_4_code 4 (some .int)) ∈ gw := gt_6 (i := 224) rfl rfl
theorem m_1425 : (Cond.methodLink "ClauseLedgerLaw" 77 ⟨"ClauseLedgerModel", "variable", "(II)Z"⟩) ∈ gw := gt_6 (i := 225) rfl rfl
theorem m_1426 : (Cond.instanceMethod ⟨"ClauseLedgerModel", "variable", "(II)Z"⟩) ∈ gw := gt_6 (i := 226) rfl rfl
theorem m_1427 : (Cond.selects "ClauseLedgerModel" ⟨"ClauseLedgerModel", "variable", "(II)Z"⟩ ⟨"ClauseLedgerModel", "variable", "(II)Z"⟩) ∈ gw := gt_6 (i := 227) rfl rfl
theorem m_1428 : (Cond.code ⟨"ClauseLedgerModel", "variable", "(II)Z"⟩ prog_14_method_5_code 3 (some .boolean)) ∈ gw := gt_6 (i := 228) rfl rfl
theorem m_1429 : (Cond.methodLink "ClauseLedgerLaw" 84 ⟨"ClauseLedgerModel", "draft", "(J)Z"⟩) ∈ gw := gt_6 (i := 229) rfl rfl
theorem m_1430 : (Cond.instanceMethod ⟨"ClauseLedgerModel", "draft", "(J)Z"⟩) ∈ gw := gt_6 (i := 230) rfl rfl
theorem m_1431 : (Cond.selects "ClauseLedgerModel" ⟨"ClauseLedgerModel", "draft", "(J)Z"⟩ ⟨"ClauseLedgerModel", "draft", "(J)Z"⟩) ∈ gw := gt_6 (i := 231) rfl rfl
theorem m_1432 : (Cond.code ⟨"ClauseLedgerModel", "draft", "(J)Z"⟩ prog_14_method_16_code 7 (some .boolean)) ∈ gw := gt_6 (i := 232) rfl rfl
theorem m_1433 : (Cond.constantLong "ClauseLedgerModel" 140 255) ∈ gw := gt_6 (i := 233) rfl rfl
theorem m_1434 : (Cond.constantLong "ClauseLedgerModel" 142 32) ∈ gw := gt_6 (i := 234) rfl rfl
theorem m_1435 : (Cond.constantLong "ClauseLedgerModel" 144 126) ∈ gw := gt_6 (i := 235) rfl rfl
theorem m_1436 : (Cond.methodLink "ClauseLedgerLaw" 90 ⟨"ClauseLedgerModel", "term", "()I"⟩) ∈ gw := gt_6 (i := 236) rfl rfl
theorem m_1437 : (Cond.instanceMethod ⟨"ClauseLedgerModel", "term", "()I"⟩) ∈ gw := gt_6 (i := 237) rfl rfl
theorem m_1438 : (Cond.selects "ClauseLedgerModel" ⟨"ClauseLedgerModel", "term", "()I"⟩ ⟨"ClauseLedgerModel", "term", "()I"⟩) ∈ gw := gt_6 (i := 238) rfl rfl
theorem m_1439 : (Cond.code ⟨"ClauseLedgerModel", "term", "()I"⟩ prog_14_method_30_code 3 (some .int)) ∈ gw := gt_6 (i := 239) rfl rfl
theorem m_1440 : (Cond.methodLink "ClauseLedgerModel" 201 ⟨"ClauseLedgerModel", "begin", "()Z"⟩) ∈ gw := gt_7 (i := 0) rfl rfl
theorem m_1442 : (Cond.instanceMethod ⟨"ClauseLedgerModel", "begin", "()Z"⟩) ∈ gw := gt_7 (i := 2) rfl rfl
theorem m_1443 : (Cond.code ⟨"ClauseLedgerModel", "begin", "()Z"⟩ prog_14_method_11_code 1 (some .boolean)) ∈ gw := gt_7 (i := 3) rfl rfl
theorem m_1444 : (Cond.methodLink "ClauseLedgerModel" 204 ⟨"ClauseLedgerModel", "readAll", "()I"⟩) ∈ gw := gt_7 (i := 4) rfl rfl
theorem m_1446 : (Cond.instanceMethod ⟨"ClauseLedgerModel", "readAll", "()I"⟩) ∈ gw := gt_7 (i := 6) rfl rfl
theorem m_1447 : (Cond.code ⟨"ClauseLedgerModel", "readAll", "()I"⟩ prog_14_method_29_code 4 (some .int)) ∈ gw := gt_7 (i := 7) rfl rfl
theorem m_1448 : (Cond.methodLink "ClauseLedgerModel" 152 ⟨"ClauseLedgerModel", "peek", "()I"⟩) ∈ gw := gt_7 (i := 8) rfl rfl
theorem m_1450 : (Cond.instanceMethod ⟨"ClauseLedgerModel", "peek", "()I"⟩) ∈ gw := gt_7 (i := 10) rfl rfl
theorem m_1451 : (Cond.code ⟨"ClauseLedgerModel", "peek", "()I"⟩ prog_14_method_17_code 1 (some .int)) ∈ gw := gt_7 (i := 11) rfl rfl
theorem m_1452 : (Cond.methodLink "ClauseLedgerModel" 189 ⟨"ClauseLedgerModel", "openBracket", "()V"⟩) ∈ gw := gt_7 (i := 12) rfl rfl
theorem m_1454 : (Cond.instanceMethod ⟨"ClauseLedgerModel", "openBracket", "()V"⟩) ∈ gw := gt_7 (i := 14) rfl rfl
theorem m_1455 : (Cond.code ⟨"ClauseLedgerModel", "openBracket", "()V"⟩ prog_14_method_25_code 4 none) ∈ gw := gt_7 (i := 15) rfl rfl
theorem m_1456 : (Cond.methodLink "ClauseLedgerModel" 176 ⟨"ClauseLedgerModel", "isSign", "(I)Z"⟩) ∈ gw := gt_7 (i := 16) rfl rfl
theorem m_1457 : (Cond.static ⟨"ClauseLedgerModel", "isSign", "(I)Z"⟩) ∈ gw := gt_7 (i := 17) rfl rfl
theorem m_1458 : (Cond.code ⟨"ClauseLedgerModel", "isSign", "(I)Z"⟩ prog_14_method_24_code 1 (some .boolean)) ∈ gw := gt_7 (i := 18) rfl rfl
theorem m_1459 : (Cond.methodLink "ClauseLedgerModel" 179 ⟨"ClauseLedgerModel", "blank", "()V"⟩) ∈ gw := gt_7 (i := 19) rfl rfl
theorem m_1461 : (Cond.instanceMethod ⟨"ClauseLedgerModel", "blank", "()V"⟩) ∈ gw := gt_7 (i := 21) rfl rfl
theorem m_1462 : (Cond.code ⟨"ClauseLedgerModel", "blank", "()V"⟩ prog_14_method_26_code 1 none) ∈ gw := gt_7 (i := 22) rfl rfl
theorem m_1463 : (Cond.methodLink "ClauseLedgerModel" 192 ⟨"ClauseLedgerModel", "readSimple", "()I"⟩) ∈ gw := gt_7 (i := 23) rfl rfl
theorem m_1465 : (Cond.instanceMethod ⟨"ClauseLedgerModel", "readSimple", "()I"⟩) ∈ gw := gt_7 (i := 25) rfl rfl
theorem m_1466 : (Cond.code ⟨"ClauseLedgerModel", "readSimple", "()I"⟩ prog_14_method_22_code 2 (some .int)) ∈ gw := gt_7 (i := 26) rfl rfl
theorem m_1467 : (Cond.methodLink "ClauseLedgerModel" 156 ⟨"ClauseLedgerModel", "digit", "(I)Z"⟩) ∈ gw := gt_7 (i := 27) rfl rfl
theorem m_1468 : (Cond.static ⟨"ClauseLedgerModel", "digit", "(I)Z"⟩) ∈ gw := gt_7 (i := 28) rfl rfl
theorem m_1469 : (Cond.code ⟨"ClauseLedgerModel", "digit", "(I)Z"⟩ prog_14_method_18_code 1 (some .boolean)) ∈ gw := gt_7 (i := 29) rfl rfl
theorem m_1470 : (Cond.methodLink "ClauseLedgerModel" 170 ⟨"ClauseLedgerModel", "readConstant", "()I"⟩) ∈ gw := gt_7 (i := 30) rfl rfl
theorem m_1472 : (Cond.instanceMethod ⟨"ClauseLedgerModel", "readConstant", "()I"⟩) ∈ gw := gt_7 (i := 32) rfl rfl
theorem m_1473 : (Cond.code ⟨"ClauseLedgerModel", "readConstant", "()I"⟩ prog_14_method_21_code 5 (some .int)) ∈ gw := gt_7 (i := 33) rfl rfl
theorem m_1474 : (Cond.methodLink "ClauseLedgerModel" 160 ⟨"ClauseLedgerModel", "digits", "()I"⟩) ∈ gw := gt_7 (i := 34) rfl rfl
theorem m_1476 : (Cond.instanceMethod ⟨"ClauseLedgerModel", "digits", "()I"⟩) ∈ gw := gt_7 (i := 36) rfl rfl
theorem m_1477 : (Cond.code ⟨"ClauseLedgerModel", "digits", "()I"⟩ prog_14_method_19_code 3 (some .int)) ∈ gw := gt_7 (i := 37) rfl rfl
theorem m_1478 : (Cond.methodLink "ClauseLedgerModel" 167 ⟨"ClauseLedgerModel", "common", "(II)I"⟩) ∈ gw := gt_7 (i := 38) rfl rfl
theorem m_1479 : (Cond.static ⟨"ClauseLedgerModel", "common", "(II)I"⟩) ∈ gw := gt_7 (i := 39) rfl rfl
theorem m_1480 : (Cond.code ⟨"ClauseLedgerModel", "common", "(II)I"⟩ prog_14_method_20_code 5 (some .int)) ∈ gw := gt_7 (i := 40) rfl rfl
theorem m_1481 : (Cond.methodLink "ClauseLedgerModel" 112 ⟨"ClauseLedgerModel", "found", "(IIIIIII)I"⟩) ∈ gw := gt_7 (i := 41) rfl rfl
theorem m_1483 : (Cond.instanceMethod ⟨"ClauseLedgerModel", "found", "(IIIIIII)I"⟩) ∈ gw := gt_7 (i := 43) rfl rfl
theorem m_1484 : (Cond.code ⟨"ClauseLedgerModel", "found", "(IIIIIII)I"⟩ prog_14_method_6_code 10 (some .int)) ∈ gw := gt_7 (i := 44) rfl rfl
theorem m_1485 : (Cond.methodLink "ClauseLedgerModel" 195 ⟨"ClauseLedgerModel", "takesOne", "(I)Z"⟩) ∈ gw := gt_7 (i := 45) rfl rfl
theorem m_1487 : (Cond.instanceMethod ⟨"ClauseLedgerModel", "takesOne", "(I)Z"⟩) ∈ gw := gt_7 (i := 47) rfl rfl
theorem m_1488 : (Cond.code ⟨"ClauseLedgerModel", "takesOne", "(I)Z"⟩ prog_14_method_27_code 2 (some .boolean)) ∈ gw := gt_7 (i := 48) rfl rfl
theorem m_1489 : (Cond.methodLink "ClauseLedgerModel" 198 ⟨"ClauseLedgerModel", "closeBracket", "()I"⟩) ∈ gw := gt_7 (i := 49) rfl rfl
theorem m_1491 : (Cond.instanceMethod ⟨"ClauseLedgerModel", "closeBracket", "()I"⟩) ∈ gw := gt_7 (i := 51) rfl rfl
theorem m_1492 : (Cond.code ⟨"ClauseLedgerModel", "closeBracket", "()I"⟩ prog_14_method_28_code 7 (some .int)) ∈ gw := gt_7 (i := 52) rfl rfl
theorem m_1493 : (Cond.methodLink "ClauseLedgerModel" 182 ⟨"ClauseLedgerModel", "signOf", "(I)I"⟩) ∈ gw := gt_7 (i := 53) rfl rfl
theorem m_1494 : (Cond.static ⟨"ClauseLedgerModel", "signOf", "(I)I"⟩) ∈ gw := gt_7 (i := 54) rfl rfl
theorem m_1495 : (Cond.code ⟨"ClauseLedgerModel", "signOf", "(I)I"⟩ prog_14_method_23_code 1 (some .int)) ∈ gw := gt_7 (i := 55) rfl rfl
theorem m_1496 : (Cond.methodLink "ClauseLedgerModel" 186 ⟨"ClauseLedgerModel", "isTruth", "(I)Z"⟩) ∈ gw := gt_7 (i := 56) rfl rfl
theorem m_1498 : (Cond.instanceMethod ⟨"ClauseLedgerModel", "isTruth", "(I)Z"⟩) ∈ gw := gt_7 (i := 58) rfl rfl
theorem m_1499 : (Cond.code ⟨"ClauseLedgerModel", "isTruth", "(I)Z"⟩ prog_14_method_10_code 2 (some .boolean)) ∈ gw := gt_7 (i := 59) rfl rfl
theorem m_1500 : (Cond.methodLink "ClauseLedgerModel" 116 ⟨"ClauseLedgerModel", "made", "(III)I"⟩) ∈ gw := gt_7 (i := 60) rfl rfl
theorem m_1502 : (Cond.instanceMethod ⟨"ClauseLedgerModel", "made", "(III)I"⟩) ∈ gw := gt_7 (i := 62) rfl rfl
theorem m_1503 : (Cond.code ⟨"ClauseLedgerModel", "made", "(III)I"⟩ prog_14_method_7_code 4 (some .int)) ∈ gw := gt_7 (i := 63) rfl rfl
theorem m_1504 : (Cond.methodLink "ClauseLedgerModel" 133 ⟨"ClauseLedgerModel", "fails", "(II)I"⟩) ∈ gw := gt_7 (i := 64) rfl rfl
theorem m_1506 : (Cond.instanceMethod ⟨"ClauseLedgerModel", "fails", "(II)I"⟩) ∈ gw := gt_7 (i := 66) rfl rfl
theorem m_1507 : (Cond.code ⟨"ClauseLedgerModel", "fails", "(II)I"⟩ prog_14_method_12_code 3 (some .int)) ∈ gw := gt_7 (i := 67) rfl rfl
theorem m_1508 : (Cond.methodLink "ClauseLedgerModel" 129 ⟨"ClauseLedgerModel", "tooDeep", "()Z"⟩) ∈ gw := gt_7 (i := 68) rfl rfl
theorem m_1510 : (Cond.instanceMethod ⟨"ClauseLedgerModel", "tooDeep", "()Z"⟩) ∈ gw := gt_7 (i := 70) rfl rfl
theorem m_1511 : (Cond.code ⟨"ClauseLedgerModel", "tooDeep", "()Z"⟩ prog_14_method_13_code 3 (some .boolean)) ∈ gw := gt_7 (i := 71) rfl rfl
theorem m_1512 : (Cond.methodLink "ClauseLedgerLaw" 97 ⟨"ClauseLedgerModel", "assume", "(I)I"⟩) ∈ gw := gt_7 (i := 72) rfl rfl
theorem m_1513 : (Cond.instanceMethod ⟨"ClauseLedgerModel", "assume", "(I)I"⟩) ∈ gw := gt_7 (i := 73) rfl rfl
theorem m_1514 : (Cond.selects "ClauseLedgerModel" ⟨"ClauseLedgerModel", "assume", "(I)I"⟩ ⟨"ClauseLedgerModel", "assume", "(I)I"⟩) ∈ gw := gt_7 (i := 74) rfl rfl
theorem m_1515 : (Cond.code ⟨"ClauseLedgerModel", "assume", "(I)I"⟩ prog_14_method_33_code 4 (some .int)) ∈ gw := gt_7 (i := 75) rfl rfl
theorem m_1516 : (Cond.methodLink "ClauseLedgerModel" 207 ⟨"ClauseLedgerModel", "isTerm", "(I)Z"⟩) ∈ gw := gt_7 (i := 76) rfl rfl
theorem m_1518 : (Cond.instanceMethod ⟨"ClauseLedgerModel", "isTerm", "(I)Z"⟩) ∈ gw := gt_7 (i := 78) rfl rfl
theorem m_1519 : (Cond.code ⟨"ClauseLedgerModel", "isTerm", "(I)Z"⟩ prog_14_method_9_code 2 (some .boolean)) ∈ gw := gt_7 (i := 79) rfl rfl
theorem m_1520 : (Cond.methodLink "ClauseLedgerModel" 210 ⟨"ClauseLedgerModel", "join", "(I)V"⟩) ∈ gw := gt_7 (i := 80) rfl rfl
theorem m_1522 : (Cond.instanceMethod ⟨"ClauseLedgerModel", "join", "(I)V"⟩) ∈ gw := gt_7 (i := 82) rfl rfl
theorem m_1523 : (Cond.code ⟨"ClauseLedgerModel", "join", "(I)V"⟩ prog_14_method_14_code 4 none) ∈ gw := gt_7 (i := 83) rfl rfl
theorem m_1524 : (Cond.methodLink "ClauseLedgerModel" 217 ⟨"ClauseLedgerModel", "enter", "(II)I"⟩) ∈ gw := gt_7 (i := 84) rfl rfl
theorem m_1526 : (Cond.instanceMethod ⟨"ClauseLedgerModel", "enter", "(II)I"⟩) ∈ gw := gt_7 (i := 86) rfl rfl
theorem m_1527 : (Cond.code ⟨"ClauseLedgerModel", "enter", "(II)I"⟩ prog_14_method_15_code 4 (some .int)) ∈ gw := gt_7 (i := 87) rfl rfl
theorem m_1528 : (Cond.methodLink "ClauseLedgerLaw" 101 ⟨"ClauseLedgerModel", "cut", "(III)I"⟩) ∈ gw := gt_7 (i := 88) rfl rfl
theorem m_1529 : (Cond.instanceMethod ⟨"ClauseLedgerModel", "cut", "(III)I"⟩) ∈ gw := gt_7 (i := 89) rfl rfl
theorem m_1530 : (Cond.selects "ClauseLedgerModel" ⟨"ClauseLedgerModel", "cut", "(III)I"⟩ ⟨"ClauseLedgerModel", "cut", "(III)I"⟩) ∈ gw := gt_7 (i := 90) rfl rfl
theorem m_1531 : (Cond.code ⟨"ClauseLedgerModel", "cut", "(III)I"⟩ prog_14_method_34_code 7 (some .int)) ∈ gw := gt_7 (i := 91) rfl rfl
theorem m_1532 : (Cond.methodLink "ClauseLedgerModel" 220 ⟨"ClauseLedgerModel", "stands", "(I)Z"⟩) ∈ gw := gt_7 (i := 92) rfl rfl
theorem m_1534 : (Cond.instanceMethod ⟨"ClauseLedgerModel", "stands", "(I)Z"⟩) ∈ gw := gt_7 (i := 94) rfl rfl
theorem m_1535 : (Cond.code ⟨"ClauseLedgerModel", "stands", "(I)Z"⟩ prog_14_method_31_code 5 (some .boolean)) ∈ gw := gt_7 (i := 95) rfl rfl
theorem m_1536 : (Cond.methodLink "ClauseLedgerModel" 223 ⟨"ClauseLedgerModel", "opposite", "(I)I"⟩) ∈ gw := gt_7 (i := 96) rfl rfl
theorem m_1538 : (Cond.instanceMethod ⟨"ClauseLedgerModel", "opposite", "(I)I"⟩) ∈ gw := gt_7 (i := 98) rfl rfl
theorem m_1539 : (Cond.code ⟨"ClauseLedgerModel", "opposite", "(I)I"⟩ prog_14_method_8_code 2 (some .int)) ∈ gw := gt_7 (i := 99) rfl rfl
theorem m_1540 : (Cond.methodLink "ClauseLedgerModel" 226 ⟨"ClauseLedgerModel", "has", "(II)Z"⟩) ∈ gw := gt_7 (i := 100) rfl rfl
theorem m_1542 : (Cond.instanceMethod ⟨"ClauseLedgerModel", "has", "(II)Z"⟩) ∈ gw := gt_7 (i := 102) rfl rfl
theorem m_1543 : (Cond.code ⟨"ClauseLedgerModel", "has", "(II)Z"⟩ prog_14_method_32_code 5 (some .boolean)) ∈ gw := gt_7 (i := 103) rfl rfl
theorem m_1544 : (Cond.methodLink "ClauseLedgerLaw" 105 ⟨"ClauseLedgerModel", "widen", "(II)I"⟩) ∈ gw := gt_7 (i := 104) rfl rfl
theorem m_1545 : (Cond.instanceMethod ⟨"ClauseLedgerModel", "widen", "(II)I"⟩) ∈ gw := gt_7 (i := 105) rfl rfl
theorem m_1546 : (Cond.selects "ClauseLedgerModel" ⟨"ClauseLedgerModel", "widen", "(II)I"⟩ ⟨"ClauseLedgerModel", "widen", "(II)I"⟩) ∈ gw := gt_7 (i := 106) rfl rfl
theorem m_1547 : (Cond.code ⟨"ClauseLedgerModel", "widen", "(II)I"⟩ prog_14_method_36_code 4 (some .int)) ∈ gw := gt_7 (i := 107) rfl rfl
theorem m_1548 : (Cond.methodLink "ClauseLedgerModel" 230 ⟨"ClauseLedgerModel", "joinAll", "(I)V"⟩) ∈ gw := gt_7 (i := 108) rfl rfl
theorem m_1550 : (Cond.instanceMethod ⟨"ClauseLedgerModel", "joinAll", "(I)V"⟩) ∈ gw := gt_7 (i := 110) rfl rfl
theorem m_1551 : (Cond.code ⟨"ClauseLedgerModel", "joinAll", "(I)V"⟩ prog_14_method_35_code 3 none) ∈ gw := gt_7 (i := 111) rfl rfl
theorem m_1552 : (Cond.methodLink "ClauseLedgerLaw" 108 ⟨"ClauseLedgerModel", "meaning", "(II)I"⟩) ∈ gw := gt_7 (i := 112) rfl rfl
theorem m_1553 : (Cond.instanceMethod ⟨"ClauseLedgerModel", "meaning", "(II)I"⟩) ∈ gw := gt_7 (i := 113) rfl rfl
theorem m_1554 : (Cond.selects "ClauseLedgerModel" ⟨"ClauseLedgerModel", "meaning", "(II)I"⟩ ⟨"ClauseLedgerModel", "meaning", "(II)I"⟩) ∈ gw := gt_7 (i := 114) rfl rfl
theorem m_1555 : (Cond.code ⟨"ClauseLedgerModel", "meaning", "(II)I"⟩ prog_14_method_38_code 8 (some .int)) ∈ gw := gt_7 (i := 115) rfl rfl
theorem m_1556 : (Cond.methodLink "ClauseLedgerModel" 233 ⟨"ClauseLedgerModel", "joinAs", "(IZ)V"⟩) ∈ gw := gt_7 (i := 116) rfl rfl
theorem m_1558 : (Cond.instanceMethod ⟨"ClauseLedgerModel", "joinAs", "(IZ)V"⟩) ∈ gw := gt_7 (i := 118) rfl rfl
theorem m_1559 : (Cond.code ⟨"ClauseLedgerModel", "joinAs", "(IZ)V"⟩ prog_14_method_37_code 4 none) ∈ gw := gt_7 (i := 119) rfl rfl
theorem m_1560 : (Cond.methodLink "ClauseLedgerLaw" 111 ⟨"ClauseLedgerModel", "same", "(I)I"⟩) ∈ gw := gt_7 (i := 120) rfl rfl
theorem m_1561 : (Cond.instanceMethod ⟨"ClauseLedgerModel", "same", "(I)I"⟩) ∈ gw := gt_7 (i := 121) rfl rfl
theorem m_1562 : (Cond.selects "ClauseLedgerModel" ⟨"ClauseLedgerModel", "same", "(I)I"⟩ ⟨"ClauseLedgerModel", "same", "(I)I"⟩) ∈ gw := gt_7 (i := 122) rfl rfl
theorem m_1563 : (Cond.code ⟨"ClauseLedgerModel", "same", "(I)I"⟩ prog_14_method_39_code 3 (some .int)) ∈ gw := gt_7 (i := 123) rfl rfl
theorem m_1564 : (Cond.methodLink "ClauseLedgerLaw" 114 ⟨"ClauseLedgerModel", "chain", "(II)I"⟩) ∈ gw := gt_7 (i := 124) rfl rfl
theorem m_1565 : (Cond.instanceMethod ⟨"ClauseLedgerModel", "chain", "(II)I"⟩) ∈ gw := gt_7 (i := 125) rfl rfl
theorem m_1566 : (Cond.selects "ClauseLedgerModel" ⟨"ClauseLedgerModel", "chain", "(II)I"⟩ ⟨"ClauseLedgerModel", "chain", "(II)I"⟩) ∈ gw := gt_7 (i := 126) rfl rfl
theorem m_1567 : (Cond.code ⟨"ClauseLedgerModel", "chain", "(II)I"⟩ prog_14_method_40_code 4 (some .int)) ∈ gw := gt_7 (i := 127) rfl rfl
theorem m_1568 : (Cond.methodLink "ClauseLedgerLaw" 117 ⟨"ClauseLedgerModel", "turn", "(I)I"⟩) ∈ gw := gt_7 (i := 128) rfl rfl
theorem m_1569 : (Cond.instanceMethod ⟨"ClauseLedgerModel", "turn", "(I)I"⟩) ∈ gw := gt_7 (i := 129) rfl rfl
theorem m_1570 : (Cond.selects "ClauseLedgerModel" ⟨"ClauseLedgerModel", "turn", "(I)I"⟩ ⟨"ClauseLedgerModel", "turn", "(I)I"⟩) ∈ gw := gt_7 (i := 130) rfl rfl
theorem m_1571 : (Cond.code ⟨"ClauseLedgerModel", "turn", "(I)I"⟩ prog_14_method_41_code 3 (some .int)) ∈ gw := gt_7 (i := 131) rfl rfl
theorem m_1572 : (Cond.methodLink "ClauseLedgerLaw" 120 ⟨"ClauseLedgerModel", "replace", "(II)I"⟩) ∈ gw := gt_7 (i := 132) rfl rfl
theorem m_1573 : (Cond.instanceMethod ⟨"ClauseLedgerModel", "replace", "(II)I"⟩) ∈ gw := gt_7 (i := 133) rfl rfl
theorem m_1574 : (Cond.selects "ClauseLedgerModel" ⟨"ClauseLedgerModel", "replace", "(II)I"⟩ ⟨"ClauseLedgerModel", "replace", "(II)I"⟩) ∈ gw := gt_7 (i := 134) rfl rfl
theorem m_1575 : (Cond.code ⟨"ClauseLedgerModel", "replace", "(II)I"⟩ prog_14_method_43_code 6 (some .int)) ∈ gw := gt_7 (i := 135) rfl rfl
theorem m_1576 : (Cond.methodLink "ClauseLedgerModel" 237 ⟨"ClauseLedgerModel", "joinUnequal", "(II)V"⟩) ∈ gw := gt_7 (i := 136) rfl rfl
theorem m_1578 : (Cond.instanceMethod ⟨"ClauseLedgerModel", "joinUnequal", "(II)V"⟩) ∈ gw := gt_7 (i := 138) rfl rfl
theorem m_1579 : (Cond.code ⟨"ClauseLedgerModel", "joinUnequal", "(II)V"⟩ prog_14_method_42_code 4 none) ∈ gw := gt_7 (i := 139) rfl rfl
theorem m_1580 : (Cond.methodLink "ClauseLedgerLaw" 127 ⟨"ClauseLedgerModel", "instance", "(II)I"⟩) ∈ gw := gt_7 (i := 140) rfl rfl
theorem m_1581 : (Cond.instanceMethod ⟨"ClauseLedgerModel", "instance", "(II)I"⟩) ∈ gw := gt_7 (i := 141) rfl rfl
theorem m_1582 : (Cond.selects "ClauseLedgerModel" ⟨"ClauseLedgerModel", "instance", "(II)I"⟩ ⟨"ClauseLedgerModel", "instance", "(II)I"⟩) ∈ gw := gt_7 (i := 142) rfl rfl
theorem m_1583 : (Cond.code ⟨"ClauseLedgerModel", "instance", "(II)I"⟩ prog_14_method_46_code 8 (some .int)) ∈ gw := gt_7 (i := 143) rfl rfl
theorem m_1584 : (Cond.methodLink "ClauseLedgerModel" 241 ⟨"ClauseLedgerModel", "needFor", "(II)V"⟩) ∈ gw := gt_7 (i := 144) rfl rfl
theorem m_1586 : (Cond.instanceMethod ⟨"ClauseLedgerModel", "needFor", "(II)V"⟩) ∈ gw := gt_7 (i := 146) rfl rfl
theorem m_1587 : (Cond.code ⟨"ClauseLedgerModel", "needFor", "(II)V"⟩ prog_14_method_45_code 5 none) ∈ gw := gt_7 (i := 147) rfl rfl
theorem m_1588 : (Cond.methodLink "ClauseLedgerModel" 244 ⟨"ClauseLedgerModel", "put", "(III)I"⟩) ∈ gw := gt_7 (i := 148) rfl rfl
theorem m_1590 : (Cond.instanceMethod ⟨"ClauseLedgerModel", "put", "(III)I"⟩) ∈ gw := gt_7 (i := 150) rfl rfl
theorem m_1591 : (Cond.code ⟨"ClauseLedgerModel", "put", "(III)I"⟩ prog_14_method_47_code 10 (some .int)) ∈ gw := gt_7 (i := 151) rfl rfl
theorem m_1592 : (Cond.methodLink "ClauseLedgerLaw" 124 ⟨"ClauseLedgerModel", "linear", "(IIIIII)I"⟩) ∈ gw := gt_7 (i := 152) rfl rfl
theorem m_1593 : (Cond.instanceMethod ⟨"ClauseLedgerModel", "linear", "(IIIIII)I"⟩) ∈ gw := gt_7 (i := 153) rfl rfl
theorem m_1594 : (Cond.selects "ClauseLedgerModel" ⟨"ClauseLedgerModel", "linear", "(IIIIII)I"⟩ ⟨"ClauseLedgerModel", "linear", "(IIIIII)I"⟩) ∈ gw := gt_7 (i := 154) rfl rfl
theorem m_1595 : (Cond.code ⟨"ClauseLedgerModel", "linear", "(IIIIII)I"⟩ prog_14_method_54_code 11 (some .int)) ∈ gw := gt_7 (i := 155) rfl rfl
theorem m_1596 : (Cond.methodLink "ClauseLedgerModel" 284 ⟨"ClauseLedgerModel", "formed", "(II)Z"⟩) ∈ gw := gt_7 (i := 156) rfl rfl
theorem m_1598 : (Cond.instanceMethod ⟨"ClauseLedgerModel", "formed", "(II)Z"⟩) ∈ gw := gt_7 (i := 158) rfl rfl
theorem m_1599 : (Cond.code ⟨"ClauseLedgerModel", "formed", "(II)Z"⟩ prog_14_method_53_code 5 (some .boolean)) ∈ gw := gt_7 (i := 159) rfl rfl
theorem m_1600 : (Cond.methodLink "ClauseLedgerModel" 287 ⟨"ClauseLedgerModel", "addExcess", "(III)V"⟩) ∈ gw := gt_7 (i := 160) rfl rfl
theorem m_1602 : (Cond.instanceMethod ⟨"ClauseLedgerModel", "addExcess", "(III)V"⟩) ∈ gw := gt_7 (i := 162) rfl rfl
theorem m_1603 : (Cond.code ⟨"ClauseLedgerModel", "addExcess", "(III)V"⟩ prog_14_method_52_code 4 none) ∈ gw := gt_7 (i := 163) rfl rfl
theorem m_1604 : (Cond.methodLink "ClauseLedgerModel" 275 ⟨"ClauseLedgerModel", "excess", "(II)V"⟩) ∈ gw := gt_7 (i := 164) rfl rfl
theorem m_1606 : (Cond.instanceMethod ⟨"ClauseLedgerModel", "excess", "(II)V"⟩) ∈ gw := gt_7 (i := 166) rfl rfl
theorem m_1607 : (Cond.code ⟨"ClauseLedgerModel", "excess", "(II)V"⟩ prog_14_method_51_code 9 none) ∈ gw := gt_7 (i := 167) rfl rfl
theorem m_1608 : (Cond.methodLink "ClauseLedgerModel" 272 ⟨"ClauseLedgerModel", "coefficient", "(II)V"⟩) ∈ gw := gt_7 (i := 168) rfl rfl
theorem m_1610 : (Cond.instanceMethod ⟨"ClauseLedgerModel", "coefficient", "(II)V"⟩) ∈ gw := gt_7 (i := 170) rfl rfl
theorem m_1611 : (Cond.code ⟨"ClauseLedgerModel", "coefficient", "(II)V"⟩ prog_14_method_50_code 6 none) ∈ gw := gt_7 (i := 171) rfl rfl
theorem m_1612 : (Cond.methodLink "ClauseLedgerModel" 265 ⟨"ClauseLedgerModel", "need", "(I)V"⟩) ∈ gw := gt_7 (i := 172) rfl rfl
theorem m_1614 : (Cond.instanceMethod ⟨"ClauseLedgerModel", "need", "(I)V"⟩) ∈ gw := gt_7 (i := 174) rfl rfl
theorem m_1615 : (Cond.code ⟨"ClauseLedgerModel", "need", "(I)V"⟩ prog_14_method_44_code 3 none) ∈ gw := gt_7 (i := 175) rfl rfl
theorem m_1616 : (Cond.methodLink "ClauseLedgerModel" 268 ⟨"ClauseLedgerModel", "become", "(JJ)V"⟩) ∈ gw := gt_7 (i := 176) rfl rfl
theorem m_1618 : (Cond.instanceMethod ⟨"ClauseLedgerModel", "become", "(JJ)V"⟩) ∈ gw := gt_7 (i := 178) rfl rfl
theorem m_1619 : (Cond.code ⟨"ClauseLedgerModel", "become", "(JJ)V"⟩ prog_14_method_49_code 7 none) ∈ gw := gt_7 (i := 179) rfl rfl
theorem m_1620 : (Cond.methodLink "ClauseLedgerModel" 247 ⟨"ClauseLedgerModel", "commonOf", "(JJ)J"⟩) ∈ gw := gt_7 (i := 180) rfl rfl
theorem m_1621 : (Cond.static ⟨"ClauseLedgerModel", "commonOf", "(JJ)J"⟩) ∈ gw := gt_7 (i := 181) rfl rfl
theorem m_1622 : (Cond.code ⟨"ClauseLedgerModel", "commonOf", "(JJ)J"⟩ prog_14_method_48_code 10 (some .long)) ∈ gw := gt_7 (i := 182) rfl rfl
theorem m_1623 : (Cond.constantLong "ClauseLedgerModel" 261 (-1000000000)) ∈ gw := gt_7 (i := 183) rfl rfl
theorem m_1624 : (Cond.constantLong "ClauseLedgerModel" 263 1000000000) ∈ gw := gt_7 (i := 184) rfl rfl
theorem m_1625 : (Cond.methodLink "ClauseLedgerLaw" 130 ⟨"ClauseLedgerModel", "open", "()I"⟩) ∈ gw := gt_7 (i := 185) rfl rfl
theorem m_1626 : (Cond.instanceMethod ⟨"ClauseLedgerModel", "open", "()I"⟩) ∈ gw := gt_7 (i := 186) rfl rfl
theorem m_1627 : (Cond.selects "ClauseLedgerModel" ⟨"ClauseLedgerModel", "open", "()I"⟩ ⟨"ClauseLedgerModel", "open", "()I"⟩) ∈ gw := gt_7 (i := 187) rfl rfl
theorem m_1628 : (Cond.code ⟨"ClauseLedgerModel", "open", "()I"⟩ prog_14_method_56_code 1 (some .int)) ∈ gw := gt_7 (i := 188) rfl rfl
theorem m_1629 : (Cond.methodLink "ClauseLedgerModel" 294 ⟨"ClauseLedgerModel", "deepOf", "(I)I"⟩) ∈ gw := gt_7 (i := 189) rfl rfl
theorem m_1631 : (Cond.instanceMethod ⟨"ClauseLedgerModel", "deepOf", "(I)I"⟩) ∈ gw := gt_7 (i := 191) rfl rfl
theorem m_1632 : (Cond.code ⟨"ClauseLedgerModel", "deepOf", "(I)I"⟩ prog_14_method_55_code 4 (some .int)) ∈ gw := gt_7 (i := 192) rfl rfl
theorem m_1633 : (Cond.methodLink "ClauseLedgerLaw" 133 ⟨"ClauseLedgerModel", "close", "()I"⟩) ∈ gw := gt_7 (i := 193) rfl rfl
theorem m_1634 : (Cond.instanceMethod ⟨"ClauseLedgerModel", "close", "()I"⟩) ∈ gw := gt_7 (i := 194) rfl rfl
theorem m_1635 : (Cond.selects "ClauseLedgerModel" ⟨"ClauseLedgerModel", "close", "()I"⟩ ⟨"ClauseLedgerModel", "close", "()I"⟩) ∈ gw := gt_7 (i := 195) rfl rfl
theorem m_1636 : (Cond.code ⟨"ClauseLedgerModel", "close", "()I"⟩ prog_14_method_57_code 4 (some .int)) ∈ gw := gt_7 (i := 196) rfl rfl
theorem m_1637 : (Cond.methodLink "ClauseLedgerLaw" 137 ⟨"ClauseLedgerModel", "clause", "(II)I"⟩) ∈ gw := gt_7 (i := 197) rfl rfl
theorem m_1638 : (Cond.instanceMethod ⟨"ClauseLedgerModel", "clause", "(II)I"⟩) ∈ gw := gt_7 (i := 198) rfl rfl
theorem m_1639 : (Cond.selects "ClauseLedgerModel" ⟨"ClauseLedgerModel", "clause", "(II)I"⟩ ⟨"ClauseLedgerModel", "clause", "(II)I"⟩) ∈ gw := gt_7 (i := 199) rfl rfl
theorem m_1640 : (Cond.code ⟨"ClauseLedgerModel", "clause", "(II)I"⟩ prog_14_method_58_code 3 (some .int)) ∈ gw := gt_7 (i := 200) rfl rfl
theorem m_1641 : (Cond.methodLink "ClauseLedgerLaw" 141 ⟨"ClauseLedgerModel", "scope", "(I)I"⟩) ∈ gw := gt_7 (i := 201) rfl rfl
theorem m_1642 : (Cond.instanceMethod ⟨"ClauseLedgerModel", "scope", "(I)I"⟩) ∈ gw := gt_7 (i := 202) rfl rfl
theorem m_1643 : (Cond.selects "ClauseLedgerModel" ⟨"ClauseLedgerModel", "scope", "(I)I"⟩ ⟨"ClauseLedgerModel", "scope", "(I)I"⟩) ∈ gw := gt_7 (i := 203) rfl rfl
theorem m_1644 : (Cond.code ⟨"ClauseLedgerModel", "scope", "(I)I"⟩ prog_14_method_59_code 2 (some .int)) ∈ gw := gt_7 (i := 204) rfl rfl
theorem m_1645 : (Cond.methodLink "ClauseLedgerLaw" 145 ⟨"ClauseLedgerModel", "empty", "()I"⟩) ∈ gw := gt_7 (i := 205) rfl rfl
theorem m_1646 : (Cond.instanceMethod ⟨"ClauseLedgerModel", "empty", "()I"⟩) ∈ gw := gt_7 (i := 206) rfl rfl
theorem m_1647 : (Cond.selects "ClauseLedgerModel" ⟨"ClauseLedgerModel", "empty", "()I"⟩ ⟨"ClauseLedgerModel", "empty", "()I"⟩) ∈ gw := gt_7 (i := 207) rfl rfl
theorem m_1648 : (Cond.code ⟨"ClauseLedgerModel", "empty", "()I"⟩ prog_14_method_60_code 2 (some .int)) ∈ gw := gt_7 (i := 208) rfl rfl
theorem m_1649 : (Cond.methodLink "ClauseLedgerLaw" 149 ⟨"ClauseLedgerModel", "look", "(II)I"⟩) ∈ gw := gt_7 (i := 209) rfl rfl
theorem m_1650 : (Cond.instanceMethod ⟨"ClauseLedgerModel", "look", "(II)I"⟩) ∈ gw := gt_7 (i := 210) rfl rfl
theorem m_1651 : (Cond.selects "ClauseLedgerModel" ⟨"ClauseLedgerModel", "look", "(II)I"⟩ ⟨"ClauseLedgerModel", "look", "(II)I"⟩) ∈ gw := gt_7 (i := 211) rfl rfl
theorem m_1652 : (Cond.code ⟨"ClauseLedgerModel", "look", "(II)I"⟩ prog_14_method_61_code 3 (some .int)) ∈ gw := gt_7 (i := 212) rfl rfl
theorem m_1653 : (Cond.methodLink "ClauseLedgerLaw" 153 ⟨"ClauseLedgerModel", "text", "(II)I"⟩) ∈ gw := gt_7 (i := 213) rfl rfl
theorem m_1654 : (Cond.instanceMethod ⟨"ClauseLedgerModel", "text", "(II)I"⟩) ∈ gw := gt_7 (i := 214) rfl rfl
theorem m_1655 : (Cond.selects "ClauseLedgerModel" ⟨"ClauseLedgerModel", "text", "(II)I"⟩ ⟨"ClauseLedgerModel", "text", "(II)I"⟩) ∈ gw := gt_7 (i := 215) rfl rfl
theorem m_1656 : (Cond.code ⟨"ClauseLedgerModel", "text", "(II)I"⟩ prog_14_method_66_code 3 (some .int)) ∈ gw := gt_7 (i := 216) rfl rfl
theorem m_1657 : (Cond.methodLink "ClauseLedgerModel" 315 ⟨"ClauseLedgerModel", "writeAll", "(I)V"⟩) ∈ gw := gt_7 (i := 217) rfl rfl
theorem m_1659 : (Cond.instanceMethod ⟨"ClauseLedgerModel", "writeAll", "(I)V"⟩) ∈ gw := gt_7 (i := 219) rfl rfl
theorem m_1660 : (Cond.code ⟨"ClauseLedgerModel", "writeAll", "(I)V"⟩ prog_14_method_65_code 5 none) ∈ gw := gt_7 (i := 220) rfl rfl
theorem m_1661 : (Cond.methodLink "ClauseLedgerModel" 312 ⟨"ClauseLedgerModel", "writeHead", "(I)V"⟩) ∈ gw := gt_7 (i := 221) rfl rfl
theorem m_1663 : (Cond.instanceMethod ⟨"ClauseLedgerModel", "writeHead", "(I)V"⟩) ∈ gw := gt_7 (i := 223) rfl rfl
theorem m_1664 : (Cond.code ⟨"ClauseLedgerModel", "writeHead", "(I)V"⟩ prog_14_method_64_code 3 none) ∈ gw := gt_7 (i := 224) rfl rfl
theorem m_1665 : (Cond.methodLink "ClauseLedgerModel" 306 ⟨"ClauseLedgerModel", "write", "(I)V"⟩) ∈ gw := gt_7 (i := 225) rfl rfl
theorem m_1667 : (Cond.instanceMethod ⟨"ClauseLedgerModel", "write", "(I)V"⟩) ∈ gw := gt_7 (i := 227) rfl rfl
theorem m_1668 : (Cond.code ⟨"ClauseLedgerModel", "write", "(I)V"⟩ prog_14_method_62_code 2 none) ∈ gw := gt_7 (i := 228) rfl rfl
theorem m_1669 : (Cond.methodLink "ClauseLedgerModel" 309 ⟨"ClauseLedgerModel", "writeNumber", "(I)V"⟩) ∈ gw := gt_7 (i := 229) rfl rfl
theorem m_1671 : (Cond.instanceMethod ⟨"ClauseLedgerModel", "writeNumber", "(I)V"⟩) ∈ gw := gt_7 (i := 231) rfl rfl
theorem m_1672 : (Cond.code ⟨"ClauseLedgerModel", "writeNumber", "(I)V"⟩ prog_14_method_63_code 3 none) ∈ gw := gt_7 (i := 232) rfl rfl
theorem m_1673 : (Cond.constantLong "ClauseLedgerLaw" 78 4294967295) ∈ gw := gt_7 (i := 233) rfl rfl
theorem m_1675 : (Cond.fieldLink "java/lang/String" 15 "java/lang/String" "coder" "B") ∈ gw := gt_7 (i := 235) rfl rfl
theorem m_1676 : (Cond.fieldLink "java/lang/String" 9 "java/lang/String" "value" "[B") ∈ gw := gt_7 (i := 236) rfl rfl
theorem ms_0 : (Cond.selects "ClauseLedger$Signature" ⟨"ClauseLedger$Signature", "isSort", "(I)Z"⟩ ⟨"ClauseLedger$Signature", "isSort", "(I)Z"⟩) ∈ gw := gw_sel (i := 0) rfl rfl
theorem ms_1 : (Cond.selects "ClauseLedger$Signature" ⟨"ClauseLedger$Signature", "isSortOrNone", "(I)Z"⟩ ⟨"ClauseLedger$Signature", "isSortOrNone", "(I)Z"⟩) ∈ gw := gw_sel (i := 1) rfl rfl
theorem ms_2 : (Cond.selects "ClauseLedger$Scopes" ⟨"ClauseLedger$Scopes", "has", "(I)Z"⟩ ⟨"ClauseLedger$Scopes", "has", "(I)Z"⟩) ∈ gw := gw_sel (i := 2) rfl rfl
theorem ms_3 : (Cond.selects "ClauseLedger" ⟨"ClauseLedger", "stands", "(I)Z"⟩ ⟨"ClauseLedger", "stands", "(I)Z"⟩) ∈ gw := gw_sel (i := 3) rfl rfl
theorem ms_4 : (Cond.selects "ClauseLedger" ⟨"ClauseLedger", "lookAtLedger", "(I)I"⟩ ⟨"ClauseLedger", "lookAtLedger", "(I)I"⟩) ∈ gw := gw_sel (i := 4) rfl rfl
theorem ms_5 : (Cond.selects "ClauseLedger$Writer" ⟨"ClauseLedger$Writer", "letterOfHead", "(II)C"⟩ ⟨"ClauseLedger$Writer", "letterOfHead", "(II)C"⟩) ∈ gw := gw_sel (i := 5) rfl rfl
theorem ms_6 : (Cond.selects "ClauseLedger$Writer" ⟨"ClauseLedger$Writer", "letterOfMark", "(I)C"⟩ ⟨"ClauseLedger$Writer", "letterOfMark", "(I)C"⟩) ∈ gw := gw_sel (i := 6) rfl rfl
theorem ms_7 : (Cond.selects "ClauseLedger$Writer" ⟨"ClauseLedger$Writer", "letterOfLeaf", "(II)C"⟩ ⟨"ClauseLedger$Writer", "letterOfLeaf", "(II)C"⟩) ∈ gw := gw_sel (i := 7) rfl rfl
theorem ms_8 : (Cond.selects "ClauseLedger" ⟨"ClauseLedger", "isShut", "()Z"⟩ ⟨"ClauseLedger", "isShut", "()Z"⟩) ∈ gw := gw_sel (i := 8) rfl rfl
theorem ms_9 : (Cond.selects "ClauseLedger$Reader" ⟨"ClauseLedger$Reader", "readAny", "(I)I"⟩ ⟨"ClauseLedger$Reader", "readAny", "(I)I"⟩) ∈ gw := gw_sel (i := 9) rfl rfl
theorem ms_10 : (Cond.selects "ClauseLedger$Reader" ⟨"ClauseLedger$Reader", "readBracket", "(I)I"⟩ ⟨"ClauseLedger$Reader", "readBracket", "(I)I"⟩) ∈ gw := gw_sel (i := 10) rfl rfl
theorem ms_11 : (Cond.selects "ClauseLedger$Reader" ⟨"ClauseLedger$Reader", "readApplied", "(II)I"⟩ ⟨"ClauseLedger$Reader", "readApplied", "(II)I"⟩) ∈ gw := gw_sel (i := 11) rfl rfl
theorem ms_12 : (Cond.selects "ClauseLedger$Reader" ⟨"ClauseLedger$Reader", "readPart", "(I)I"⟩ ⟨"ClauseLedger$Reader", "readPart", "(I)I"⟩) ∈ gw := gw_sel (i := 12) rfl rfl
theorem ms_13 : (Cond.selects "ClauseLedger$Reader" ⟨"ClauseLedger$Reader", "take", "(C)Z"⟩ ⟨"ClauseLedger$Reader", "take", "(C)Z"⟩) ∈ gw := gw_sel (i := 13) rfl rfl
theorem ms_14 : (Cond.selects "ClauseLedger$Terms" ⟨"ClauseLedger$Terms", "find", "(JI)I"⟩ ⟨"ClauseLedger$Terms", "find", "(JI)I"⟩) ∈ gw := gw_sel (i := 14) rfl rfl
theorem ms_15 : (Cond.selects "ClauseLedger$Terms" ⟨"ClauseLedger$Terms", "append", "(JIII)I"⟩ ⟨"ClauseLedger$Terms", "append", "(JIII)I"⟩) ∈ gw := gw_sel (i := 15) rfl rfl
theorem ms_16 : (Cond.selects "ClauseLedger$Terms" ⟨"ClauseLedger$Terms", "freeOf", "(I)I"⟩ ⟨"ClauseLedger$Terms", "freeOf", "(I)I"⟩) ∈ gw := gw_sel (i := 16) rfl rfl
theorem ms_17 : (Cond.selects "ClauseLedger$Reader" ⟨"ClauseLedger$Reader", "readOverTruth", "(III)I"⟩ ⟨"ClauseLedger$Reader", "readOverTruth", "(III)I"⟩) ∈ gw := gw_sel (i := 17) rfl rfl
theorem ms_18 : (Cond.selects "ClauseLedger$Reader" ⟨"ClauseLedger$Reader", "readVariable", "()I"⟩ ⟨"ClauseLedger$Reader", "readVariable", "()I"⟩) ∈ gw := gw_sel (i := 18) rfl rfl
theorem ms_19 : (Cond.selects "ClauseLedger$Reader" ⟨"ClauseLedger$Reader", "readOverTwo", "(II)I"⟩ ⟨"ClauseLedger$Reader", "readOverTwo", "(II)I"⟩) ∈ gw := gw_sel (i := 19) rfl rfl
theorem ms_20 : (Cond.selects "ClauseLedger$Reader" ⟨"ClauseLedger$Reader", "canBePartsOf", "(III)Z"⟩ ⟨"ClauseLedger$Reader", "canBePartsOf", "(III)Z"⟩) ∈ gw := gw_sel (i := 20) rfl rfl
theorem ms_21 : (Cond.selects "ClauseLedger$Reader" ⟨"ClauseLedger$Reader", "readBareSymbol", "()I"⟩ ⟨"ClauseLedger$Reader", "readBareSymbol", "()I"⟩) ∈ gw := gw_sel (i := 21) rfl rfl
theorem ms_22 : (Cond.selects "ClauseLedger$Reader" ⟨"ClauseLedger$Reader", "readConstant", "()I"⟩ ⟨"ClauseLedger$Reader", "readConstant", "()I"⟩) ∈ gw := gw_sel (i := 22) rfl rfl
theorem ms_23 : (Cond.selects "ClauseLedger$Reader" ⟨"ClauseLedger$Reader", "readDigits", "()I"⟩ ⟨"ClauseLedger$Reader", "readDigits", "()I"⟩) ∈ gw := gw_sel (i := 23) rfl rfl
theorem ms_24 : (Cond.selects "ClauseLedger" ⟨"ClauseLedger", "throwWrong", "()I"⟩ ⟨"ClauseLedger", "throwWrong", "()I"⟩) ∈ gw := gw_sel (i := 24) rfl rfl
theorem ms_25 : (Cond.selects "ClauseLedger" ⟨"ClauseLedger", "undo", "()V"⟩ ⟨"ClauseLedger", "undo", "()V"⟩) ∈ gw := gw_sel (i := 25) rfl rfl
theorem ms_27 : (Cond.selects "ClauseLedger" ⟨"ClauseLedger", "throwTooGreat", "()I"⟩ ⟨"ClauseLedger", "throwTooGreat", "()I"⟩) ∈ gw := gw_sel (i := 27) rfl rfl
theorem ms_28 : (Cond.selects "ClauseLedger" ⟨"ClauseLedger", "throwNoRoom", "()I"⟩ ⟨"ClauseLedger", "throwNoRoom", "()I"⟩) ∈ gw := gw_sel (i := 28) rfl rfl
theorem ms_29 : (Cond.selects "ClauseLedger" ⟨"ClauseLedger", "throwMissing", "()I"⟩ ⟨"ClauseLedger", "throwMissing", "()I"⟩) ∈ gw := gw_sel (i := 29) rfl rfl
theorem ms_30 : (Cond.selects "ClauseLedger" ⟨"ClauseLedger", "enterRow", "(IZ)I"⟩ ⟨"ClauseLedger", "enterRow", "(IZ)I"⟩) ∈ gw := gw_sel (i := 30) rfl rfl
theorem ms_31 : (Cond.selects "ClauseLedger" ⟨"ClauseLedger", "joinAllBut", "(II)V"⟩ ⟨"ClauseLedger", "joinAllBut", "(II)V"⟩) ∈ gw := gw_sel (i := 31) rfl rfl
theorem ms_32 : (Cond.selects "ClauseLedger" ⟨"ClauseLedger", "joinMeaning", "(II)Z"⟩ ⟨"ClauseLedger", "joinMeaning", "(II)Z"⟩) ∈ gw := gw_sel (i := 32) rfl rfl
theorem ms_33 : (Cond.selects "ClauseLedger" ⟨"ClauseLedger", "joinMeaningOfAnd", "(IIII)Z"⟩ ⟨"ClauseLedger", "joinMeaningOfAnd", "(IIII)Z"⟩) ∈ gw := gw_sel (i := 33) rfl rfl
theorem ms_34 : (Cond.selects "ClauseLedger" ⟨"ClauseLedger", "joinThree", "(III)Z"⟩ ⟨"ClauseLedger", "joinThree", "(III)Z"⟩) ∈ gw := gw_sel (i := 34) rfl rfl
theorem ms_35 : (Cond.selects "ClauseLedger" ⟨"ClauseLedger", "joinMeaningOfOr", "(IIII)Z"⟩ ⟨"ClauseLedger", "joinMeaningOfOr", "(IIII)Z"⟩) ∈ gw := gw_sel (i := 35) rfl rfl
theorem ms_36 : (Cond.selects "ClauseLedger" ⟨"ClauseLedger", "joinMeaningOfEqual", "(IIII)Z"⟩ ⟨"ClauseLedger", "joinMeaningOfEqual", "(IIII)Z"⟩) ∈ gw := gw_sel (i := 36) rfl rfl
theorem ms_37 : (Cond.selects "ClauseLedger" ⟨"ClauseLedger", "isReplaceable", "(II)Z"⟩ ⟨"ClauseLedger", "isReplaceable", "(II)Z"⟩) ∈ gw := gw_sel (i := 37) rfl rfl
theorem ms_38 : (Cond.selects "ClauseLedger" ⟨"ClauseLedger", "joinDifference", "(II)Z"⟩ ⟨"ClauseLedger", "joinDifference", "(II)Z"⟩) ∈ gw := gw_sel (i := 38) rfl rfl
theorem ms_39 : (Cond.selects "ClauseLedger" ⟨"ClauseLedger", "isTermOrNone", "(I)Z"⟩ ⟨"ClauseLedger", "isTermOrNone", "(I)Z"⟩) ∈ gw := gw_sel (i := 39) rfl rfl
theorem ms_40 : (Cond.selects "ClauseLedger$Balance" ⟨"ClauseLedger$Balance", "isOpposedEquation", "(I)Z"⟩ ⟨"ClauseLedger$Balance", "isOpposedEquation", "(I)Z"⟩) ∈ gw := gw_sel (i := 40) rfl rfl
theorem ms_41 : (Cond.selects "ClauseLedger$Balance" ⟨"ClauseLedger$Balance", "inside", "(I)I"⟩ ⟨"ClauseLedger$Balance", "inside", "(I)I"⟩) ∈ gw := gw_sel (i := 41) rfl rfl
theorem ms_44 : (Cond.selects "ClauseLedger$Sum" ⟨"ClauseLedger$Sum", "placeOf", "(I)I"⟩ ⟨"ClauseLedger$Sum", "placeOf", "(I)I"⟩) ∈ gw := gw_sel (i := 44) rfl rfl
theorem ms_46 : (Cond.selects "ClauseLedger$Putting" ⟨"ClauseLedger$Putting", "putIn", "(II)I"⟩ ⟨"ClauseLedger$Putting", "putIn", "(II)I"⟩) ∈ gw := gw_sel (i := 46) rfl rfl
theorem ms_47 : (Cond.selects "ClauseLedger$Putting" ⟨"ClauseLedger$Putting", "isCaught", "(I)Z"⟩ ⟨"ClauseLedger$Putting", "isCaught", "(I)Z"⟩) ∈ gw := gw_sel (i := 47) rfl rfl
theorem ms_48 : (Cond.selects "ClauseLedger" ⟨"ClauseLedger", "joinOppositesAssumedIn", "(I)V"⟩ ⟨"ClauseLedger", "joinOppositesAssumedIn", "(I)V"⟩) ∈ gw := gw_sel (i := 48) rfl rfl
theorem ms_49 : (Cond.selects "ClauseLedgerModel" ⟨"ClauseLedgerModel", "begin", "()Z"⟩ ⟨"ClauseLedgerModel", "begin", "()Z"⟩) ∈ gw := gw_sel (i := 49) rfl rfl
theorem ms_50 : (Cond.selects "ClauseLedgerModel" ⟨"ClauseLedgerModel", "readAll", "()I"⟩ ⟨"ClauseLedgerModel", "readAll", "()I"⟩) ∈ gw := gw_sel (i := 50) rfl rfl
theorem ms_51 : (Cond.selects "ClauseLedgerModel" ⟨"ClauseLedgerModel", "peek", "()I"⟩ ⟨"ClauseLedgerModel", "peek", "()I"⟩) ∈ gw := gw_sel (i := 51) rfl rfl
theorem ms_52 : (Cond.selects "ClauseLedgerModel" ⟨"ClauseLedgerModel", "openBracket", "()V"⟩ ⟨"ClauseLedgerModel", "openBracket", "()V"⟩) ∈ gw := gw_sel (i := 52) rfl rfl
theorem ms_53 : (Cond.selects "ClauseLedgerModel" ⟨"ClauseLedgerModel", "blank", "()V"⟩ ⟨"ClauseLedgerModel", "blank", "()V"⟩) ∈ gw := gw_sel (i := 53) rfl rfl
theorem ms_54 : (Cond.selects "ClauseLedgerModel" ⟨"ClauseLedgerModel", "readSimple", "()I"⟩ ⟨"ClauseLedgerModel", "readSimple", "()I"⟩) ∈ gw := gw_sel (i := 54) rfl rfl
theorem ms_55 : (Cond.selects "ClauseLedgerModel" ⟨"ClauseLedgerModel", "readConstant", "()I"⟩ ⟨"ClauseLedgerModel", "readConstant", "()I"⟩) ∈ gw := gw_sel (i := 55) rfl rfl
theorem ms_56 : (Cond.selects "ClauseLedgerModel" ⟨"ClauseLedgerModel", "digits", "()I"⟩ ⟨"ClauseLedgerModel", "digits", "()I"⟩) ∈ gw := gw_sel (i := 56) rfl rfl
theorem ms_57 : (Cond.selects "ClauseLedgerModel" ⟨"ClauseLedgerModel", "found", "(IIIIIII)I"⟩ ⟨"ClauseLedgerModel", "found", "(IIIIIII)I"⟩) ∈ gw := gw_sel (i := 57) rfl rfl
theorem ms_58 : (Cond.selects "ClauseLedgerModel" ⟨"ClauseLedgerModel", "takesOne", "(I)Z"⟩ ⟨"ClauseLedgerModel", "takesOne", "(I)Z"⟩) ∈ gw := gw_sel (i := 58) rfl rfl
theorem ms_59 : (Cond.selects "ClauseLedgerModel" ⟨"ClauseLedgerModel", "closeBracket", "()I"⟩ ⟨"ClauseLedgerModel", "closeBracket", "()I"⟩) ∈ gw := gw_sel (i := 59) rfl rfl
theorem ms_60 : (Cond.selects "ClauseLedgerModel" ⟨"ClauseLedgerModel", "isTruth", "(I)Z"⟩ ⟨"ClauseLedgerModel", "isTruth", "(I)Z"⟩) ∈ gw := gw_sel (i := 60) rfl rfl
theorem ms_61 : (Cond.selects "ClauseLedgerModel" ⟨"ClauseLedgerModel", "made", "(III)I"⟩ ⟨"ClauseLedgerModel", "made", "(III)I"⟩) ∈ gw := gw_sel (i := 61) rfl rfl
theorem ms_62 : (Cond.selects "ClauseLedgerModel" ⟨"ClauseLedgerModel", "fails", "(II)I"⟩ ⟨"ClauseLedgerModel", "fails", "(II)I"⟩) ∈ gw := gw_sel (i := 62) rfl rfl
theorem ms_63 : (Cond.selects "ClauseLedgerModel" ⟨"ClauseLedgerModel", "tooDeep", "()Z"⟩ ⟨"ClauseLedgerModel", "tooDeep", "()Z"⟩) ∈ gw := gw_sel (i := 63) rfl rfl
theorem ms_64 : (Cond.selects "ClauseLedgerModel" ⟨"ClauseLedgerModel", "isTerm", "(I)Z"⟩ ⟨"ClauseLedgerModel", "isTerm", "(I)Z"⟩) ∈ gw := gw_sel (i := 64) rfl rfl
theorem ms_65 : (Cond.selects "ClauseLedgerModel" ⟨"ClauseLedgerModel", "join", "(I)V"⟩ ⟨"ClauseLedgerModel", "join", "(I)V"⟩) ∈ gw := gw_sel (i := 65) rfl rfl
theorem ms_66 : (Cond.selects "ClauseLedgerModel" ⟨"ClauseLedgerModel", "enter", "(II)I"⟩ ⟨"ClauseLedgerModel", "enter", "(II)I"⟩) ∈ gw := gw_sel (i := 66) rfl rfl
theorem ms_67 : (Cond.selects "ClauseLedgerModel" ⟨"ClauseLedgerModel", "stands", "(I)Z"⟩ ⟨"ClauseLedgerModel", "stands", "(I)Z"⟩) ∈ gw := gw_sel (i := 67) rfl rfl
theorem ms_68 : (Cond.selects "ClauseLedgerModel" ⟨"ClauseLedgerModel", "opposite", "(I)I"⟩ ⟨"ClauseLedgerModel", "opposite", "(I)I"⟩) ∈ gw := gw_sel (i := 68) rfl rfl
theorem ms_69 : (Cond.selects "ClauseLedgerModel" ⟨"ClauseLedgerModel", "has", "(II)Z"⟩ ⟨"ClauseLedgerModel", "has", "(II)Z"⟩) ∈ gw := gw_sel (i := 69) rfl rfl
theorem ms_70 : (Cond.selects "ClauseLedgerModel" ⟨"ClauseLedgerModel", "joinAll", "(I)V"⟩ ⟨"ClauseLedgerModel", "joinAll", "(I)V"⟩) ∈ gw := gw_sel (i := 70) rfl rfl
theorem ms_71 : (Cond.selects "ClauseLedgerModel" ⟨"ClauseLedgerModel", "joinAs", "(IZ)V"⟩ ⟨"ClauseLedgerModel", "joinAs", "(IZ)V"⟩) ∈ gw := gw_sel (i := 71) rfl rfl
theorem ms_72 : (Cond.selects "ClauseLedgerModel" ⟨"ClauseLedgerModel", "joinUnequal", "(II)V"⟩ ⟨"ClauseLedgerModel", "joinUnequal", "(II)V"⟩) ∈ gw := gw_sel (i := 72) rfl rfl
theorem ms_73 : (Cond.selects "ClauseLedgerModel" ⟨"ClauseLedgerModel", "needFor", "(II)V"⟩ ⟨"ClauseLedgerModel", "needFor", "(II)V"⟩) ∈ gw := gw_sel (i := 73) rfl rfl
theorem ms_74 : (Cond.selects "ClauseLedgerModel" ⟨"ClauseLedgerModel", "put", "(III)I"⟩ ⟨"ClauseLedgerModel", "put", "(III)I"⟩) ∈ gw := gw_sel (i := 74) rfl rfl
theorem ms_75 : (Cond.selects "ClauseLedgerModel" ⟨"ClauseLedgerModel", "formed", "(II)Z"⟩ ⟨"ClauseLedgerModel", "formed", "(II)Z"⟩) ∈ gw := gw_sel (i := 75) rfl rfl
theorem ms_76 : (Cond.selects "ClauseLedgerModel" ⟨"ClauseLedgerModel", "addExcess", "(III)V"⟩ ⟨"ClauseLedgerModel", "addExcess", "(III)V"⟩) ∈ gw := gw_sel (i := 76) rfl rfl
theorem ms_77 : (Cond.selects "ClauseLedgerModel" ⟨"ClauseLedgerModel", "excess", "(II)V"⟩ ⟨"ClauseLedgerModel", "excess", "(II)V"⟩) ∈ gw := gw_sel (i := 77) rfl rfl
theorem ms_78 : (Cond.selects "ClauseLedgerModel" ⟨"ClauseLedgerModel", "coefficient", "(II)V"⟩ ⟨"ClauseLedgerModel", "coefficient", "(II)V"⟩) ∈ gw := gw_sel (i := 78) rfl rfl
theorem ms_79 : (Cond.selects "ClauseLedgerModel" ⟨"ClauseLedgerModel", "need", "(I)V"⟩ ⟨"ClauseLedgerModel", "need", "(I)V"⟩) ∈ gw := gw_sel (i := 79) rfl rfl
theorem ms_80 : (Cond.selects "ClauseLedgerModel" ⟨"ClauseLedgerModel", "become", "(JJ)V"⟩ ⟨"ClauseLedgerModel", "become", "(JJ)V"⟩) ∈ gw := gw_sel (i := 80) rfl rfl
theorem ms_81 : (Cond.selects "ClauseLedgerModel" ⟨"ClauseLedgerModel", "deepOf", "(I)I"⟩ ⟨"ClauseLedgerModel", "deepOf", "(I)I"⟩) ∈ gw := gw_sel (i := 81) rfl rfl
theorem ms_82 : (Cond.selects "ClauseLedgerModel" ⟨"ClauseLedgerModel", "writeAll", "(I)V"⟩ ⟨"ClauseLedgerModel", "writeAll", "(I)V"⟩) ∈ gw := gw_sel (i := 82) rfl rfl
theorem ms_83 : (Cond.selects "ClauseLedgerModel" ⟨"ClauseLedgerModel", "writeHead", "(I)V"⟩ ⟨"ClauseLedgerModel", "writeHead", "(I)V"⟩) ∈ gw := gw_sel (i := 83) rfl rfl
theorem ms_84 : (Cond.selects "ClauseLedgerModel" ⟨"ClauseLedgerModel", "write", "(I)V"⟩ ⟨"ClauseLedgerModel", "write", "(I)V"⟩) ∈ gw := gw_sel (i := 84) rfl rfl
theorem ms_85 : (Cond.selects "ClauseLedgerModel" ⟨"ClauseLedgerModel", "writeNumber", "(I)V"⟩ ⟨"ClauseLedgerModel", "writeNumber", "(I)V"⟩) ∈ gw := gw_sel (i := 85) rfl rfl
theorem in_CL : ∀ w ∈ u_ws R_CL T_CL 11, w ∈ gw := by
  show ∀ w ∈ [Cond.laysFinal "ClauseLedger" "ClauseLedger" "signature" "LClauseLedger$Signature;", Cond.laysFinal "ClauseLedger" "ClauseLedger" "terms" "LClauseLedger$Terms;", Cond.laysFinal "ClauseLedger" "ClauseLedger" "draft" "LClauseLedger$Draft;", Cond.laysFinal "ClauseLedger" "ClauseLedger" "reader" "LClauseLedger$Reader;", Cond.laysFinal "ClauseLedger" "ClauseLedger" "writer" "LClauseLedger$Writer;", Cond.laysFinal "ClauseLedger" "ClauseLedger" "putting" "LClauseLedger$Putting;", Cond.laysFinal "ClauseLedger" "ClauseLedger" "balance" "LClauseLedger$Balance;", Cond.laysFinal "ClauseLedger" "ClauseLedger" "row" "LClauseLedger$Row;", Cond.laysFinal "ClauseLedger" "ClauseLedger" "scopes" "LClauseLedger$Scopes;", Cond.laysFinal "ClauseLedger" "ClauseLedger" "steps" "LClauseLedger$Steps;", Cond.lays "ClauseLedger" "ClauseLedger" "thrown" "I"], w ∈ gw
  exact List.forall_mem_cons.mpr ⟨m_295, List.forall_mem_cons.mpr ⟨m_297, List.forall_mem_cons.mpr ⟨m_299, List.forall_mem_cons.mpr ⟨m_301, List.forall_mem_cons.mpr ⟨m_303, List.forall_mem_cons.mpr ⟨m_305, List.forall_mem_cons.mpr ⟨m_307, List.forall_mem_cons.mpr ⟨m_309, List.forall_mem_cons.mpr ⟨m_311, List.forall_mem_cons.mpr ⟨m_313, List.forall_mem_cons.mpr ⟨m_315, fun _ h => absurd h List.not_mem_nil⟩⟩⟩⟩⟩⟩⟩⟩⟩⟩⟩
theorem in_Sg : ∀ w ∈ u_ws R_Sg T_Sg 6, w ∈ gw := by
  show ∀ w ∈ [Cond.laysFinal "ClauseLedger$Signature" "ClauseLedger$Signature" "sorts" "[I", Cond.laysFinal "ClauseLedger$Signature" "ClauseLedger$Signature" "firsts" "[I", Cond.laysFinal "ClauseLedger$Signature" "ClauseLedger$Signature" "seconds" "[I", Cond.laysFinal "ClauseLedger$Signature" "ClauseLedger$Signature" "variables" "[I", Cond.lays "ClauseLedger$Signature" "ClauseLedger$Signature" "sortCount" "I", Cond.lays "ClauseLedger$Signature" "ClauseLedger$Signature" "symbolCount" "I"], w ∈ gw
  exact List.forall_mem_cons.mpr ⟨m_49, List.forall_mem_cons.mpr ⟨m_51, List.forall_mem_cons.mpr ⟨m_53, List.forall_mem_cons.mpr ⟨m_55, List.forall_mem_cons.mpr ⟨m_57, List.forall_mem_cons.mpr ⟨m_59, fun _ h => absurd h List.not_mem_nil⟩⟩⟩⟩⟩⟩
theorem in_Te : ∀ w ∈ u_ws R_Te T_Te 14, w ∈ gw := by
  show ∀ w ∈ [Cond.laysFinal "ClauseLedger$Terms" "ClauseLedger$Terms" "kinds" "[I", Cond.laysFinal "ClauseLedger$Terms" "ClauseLedger$Terms" "sorts" "[I", Cond.laysFinal "ClauseLedger$Terms" "ClauseLedger$Terms" "names" "[I", Cond.laysFinal "ClauseLedger$Terms" "ClauseLedger$Terms" "firsts" "[I", Cond.laysFinal "ClauseLedger$Terms" "ClauseLedger$Terms" "seconds" "[I", Cond.laysFinal "ClauseLedger$Terms" "ClauseLedger$Terms" "tops" "[I", Cond.laysFinal "ClauseLedger$Terms" "ClauseLedger$Terms" "bottoms" "[I", Cond.laysFinal "ClauseLedger$Terms" "ClauseLedger$Terms" "depths" "[I", Cond.laysFinal "ClauseLedger$Terms" "ClauseLedger$Terms" "lengths" "[I", Cond.laysFinal "ClauseLedger$Terms" "ClauseLedger$Terms" "frees" "[I", Cond.laysFinal "ClauseLedger$Terms" "ClauseLedger$Terms" "keys" "[J", Cond.lays "ClauseLedger$Terms" "ClauseLedger$Terms" "count" "I", Cond.lays "ClauseLedger$Terms" "ClauseLedger$Terms" "kept" "I", Cond.lays "ClauseLedger$Terms" "ClauseLedger$Terms" "deep" "Z"], w ∈ gw
  exact List.forall_mem_cons.mpr ⟨m_83, List.forall_mem_cons.mpr ⟨m_85, List.forall_mem_cons.mpr ⟨m_87, List.forall_mem_cons.mpr ⟨m_89, List.forall_mem_cons.mpr ⟨m_91, List.forall_mem_cons.mpr ⟨m_93, List.forall_mem_cons.mpr ⟨m_95, List.forall_mem_cons.mpr ⟨m_97, List.forall_mem_cons.mpr ⟨m_99, List.forall_mem_cons.mpr ⟨m_101, List.forall_mem_cons.mpr ⟨m_103, List.forall_mem_cons.mpr ⟨m_105, List.forall_mem_cons.mpr ⟨m_107, List.forall_mem_cons.mpr ⟨m_109, fun _ h => absurd h List.not_mem_nil⟩⟩⟩⟩⟩⟩⟩⟩⟩⟩⟩⟩⟩⟩
theorem in_Dr : ∀ w ∈ u_ws R_Dr T_Dr 2, w ∈ gw := by
  show ∀ w ∈ [Cond.laysFinal "ClauseLedger$Draft" "ClauseLedger$Draft" "letters" "[C", Cond.lays "ClauseLedger$Draft" "ClauseLedger$Draft" "size" "I"], w ∈ gw
  exact List.forall_mem_cons.mpr ⟨m_121, List.forall_mem_cons.mpr ⟨m_123, fun _ h => absurd h List.not_mem_nil⟩⟩
theorem in_Rd : ∀ w ∈ u_ws R_Rd T_Rd 4, w ∈ gw := by
  show ∀ w ∈ [Cond.laysFinal "ClauseLedger$Reader" "ClauseLedger$Reader" "draft" "LClauseLedger$Draft;", Cond.laysFinal "ClauseLedger$Reader" "ClauseLedger$Reader" "signature" "LClauseLedger$Signature;", Cond.laysFinal "ClauseLedger$Reader" "ClauseLedger$Reader" "terms" "LClauseLedger$Terms;", Cond.lays "ClauseLedger$Reader" "ClauseLedger$Reader" "position" "I"], w ∈ gw
  exact List.forall_mem_cons.mpr ⟨m_137, List.forall_mem_cons.mpr ⟨m_139, List.forall_mem_cons.mpr ⟨m_141, List.forall_mem_cons.mpr ⟨m_143, fun _ h => absurd h List.not_mem_nil⟩⟩⟩⟩
theorem in_Wr : ∀ w ∈ u_ws R_Wr T_Wr 1, w ∈ gw := by
  show ∀ w ∈ [Cond.laysFinal "ClauseLedger$Writer" "ClauseLedger$Writer" "terms" "LClauseLedger$Terms;"], w ∈ gw
  exact List.forall_mem_cons.mpr ⟨m_153, fun _ h => absurd h List.not_mem_nil⟩
theorem in_Pu : ∀ w ∈ u_ws R_Pu T_Pu 5, w ∈ gw := by
  show ∀ w ∈ [Cond.laysFinal "ClauseLedger$Putting" "ClauseLedger$Putting" "terms" "LClauseLedger$Terms;", Cond.laysFinal "ClauseLedger$Putting" "ClauseLedger$Putting" "results" "[I", Cond.lays "ClauseLedger$Putting" "ClauseLedger$Putting" "variable" "I", Cond.lays "ClauseLedger$Putting" "ClauseLedger$Putting" "value" "I", Cond.lays "ClauseLedger$Putting" "ClauseLedger$Putting" "failed" "Z"], w ∈ gw
  exact List.forall_mem_cons.mpr ⟨m_167, List.forall_mem_cons.mpr ⟨m_169, List.forall_mem_cons.mpr ⟨m_171, List.forall_mem_cons.mpr ⟨m_173, List.forall_mem_cons.mpr ⟨m_175, fun _ h => absurd h List.not_mem_nil⟩⟩⟩⟩⟩
theorem in_Ba : ∀ w ∈ u_ws R_Ba T_Ba 6, w ∈ gw := by
  show ∀ w ∈ [Cond.laysFinal "ClauseLedger$Balance" "ClauseLedger$Balance" "terms" "LClauseLedger$Terms;", Cond.laysFinal "ClauseLedger$Balance" "ClauseLedger$Balance" "sums" "[LClauseLedger$Sum;", Cond.laysFinal "ClauseLedger$Balance" "ClauseLedger$Balance" "nothing" "LClauseLedger$Sum;", Cond.laysFinal "ClauseLedger$Balance" "ClauseLedger$Balance" "excess" "LClauseLedger$Sum;", Cond.laysFinal "ClauseLedger$Balance" "ClauseLedger$Balance" "total" "LClauseLedger$Sum;", Cond.lays "ClauseLedger$Balance" "ClauseLedger$Balance" "strict" "Z"], w ∈ gw
  exact List.forall_mem_cons.mpr ⟨m_213, List.forall_mem_cons.mpr ⟨m_215, List.forall_mem_cons.mpr ⟨m_217, List.forall_mem_cons.mpr ⟨m_219, List.forall_mem_cons.mpr ⟨m_221, List.forall_mem_cons.mpr ⟨m_223, fun _ h => absurd h List.not_mem_nil⟩⟩⟩⟩⟩⟩
theorem in_Su : ∀ w ∈ u_ws R_Su T_Su 5, w ∈ gw := by
  show ∀ w ∈ [Cond.laysFinal "ClauseLedger$Sum" "ClauseLedger$Sum" "atoms" "[I", Cond.laysFinal "ClauseLedger$Sum" "ClauseLedger$Sum" "tops" "[J", Cond.laysFinal "ClauseLedger$Sum" "ClauseLedger$Sum" "bottoms" "[J", Cond.lays "ClauseLedger$Sum" "ClauseLedger$Sum" "size" "I", Cond.lays "ClauseLedger$Sum" "ClauseLedger$Sum" "tooGreat" "Z"], w ∈ gw
  exact List.forall_mem_cons.mpr ⟨m_196, List.forall_mem_cons.mpr ⟨m_198, List.forall_mem_cons.mpr ⟨m_200, List.forall_mem_cons.mpr ⟨m_202, List.forall_mem_cons.mpr ⟨m_204, fun _ h => absurd h List.not_mem_nil⟩⟩⟩⟩⟩
theorem in_Ro : ∀ w ∈ u_ws R_Ro T_Ro 2, w ∈ gw := by
  show ∀ w ∈ [Cond.laysFinal "ClauseLedger$Row" "ClauseLedger$Row" "truths" "[I", Cond.lays "ClauseLedger$Row" "ClauseLedger$Row" "size" "I"], w ∈ gw
  exact List.forall_mem_cons.mpr ⟨m_234, List.forall_mem_cons.mpr ⟨m_236, fun _ h => absurd h List.not_mem_nil⟩⟩
theorem in_Sc : ∀ w ∈ u_ws R_Sc T_Sc 5, w ∈ gw := by
  show ∀ w ∈ [Cond.laysFinal "ClauseLedger$Scopes" "ClauseLedger$Scopes" "arounds" "[I", Cond.laysFinal "ClauseLedger$Scopes" "ClauseLedger$Scopes" "depths" "[I", Cond.laysFinal "ClauseLedger$Scopes" "ClauseLedger$Scopes" "closed" "[Z", Cond.lays "ClauseLedger$Scopes" "ClauseLedger$Scopes" "count" "I", Cond.lays "ClauseLedger$Scopes" "ClauseLedger$Scopes" "innermost" "I"], w ∈ gw
  exact List.forall_mem_cons.mpr ⟨m_250, List.forall_mem_cons.mpr ⟨m_252, List.forall_mem_cons.mpr ⟨m_254, List.forall_mem_cons.mpr ⟨m_256, List.forall_mem_cons.mpr ⟨m_258, fun _ h => absurd h List.not_mem_nil⟩⟩⟩⟩⟩
theorem in_St : ∀ w ∈ u_ws R_St T_St 5, w ∈ gw := by
  show ∀ w ∈ [Cond.laysFinal "ClauseLedger$Steps" "ClauseLedger$Steps" "truths" "[I", Cond.laysFinal "ClauseLedger$Steps" "ClauseLedger$Steps" "sizes" "[I", Cond.laysFinal "ClauseLedger$Steps" "ClauseLedger$Steps" "scopes" "[I", Cond.laysFinal "ClauseLedger$Steps" "ClauseLedger$Steps" "assumed" "[Z", Cond.lays "ClauseLedger$Steps" "ClauseLedger$Steps" "count" "I"], w ∈ gw
  exact List.forall_mem_cons.mpr ⟨m_273, List.forall_mem_cons.mpr ⟨m_275, List.forall_mem_cons.mpr ⟨m_277, List.forall_mem_cons.mpr ⟨m_279, List.forall_mem_cons.mpr ⟨m_281, fun _ h => absurd h List.not_mem_nil⟩⟩⟩⟩⟩
theorem in_Mo : ∀ w ∈ u_ws R_Mo T_Mo 51, w ∈ gw := by
  show ∀ w ∈ [Cond.lays "ClauseLedgerModel" "ClauseLedgerModel" "code" "I", Cond.lays "ClauseLedgerModel" "ClauseLedgerModel" "failures" "I", Cond.lays "ClauseLedgerModel" "ClauseLedgerModel" "sorts" "I", Cond.lays "ClauseLedgerModel" "ClauseLedgerModel" "symbols" "I", Cond.laysFinal "ClauseLedgerModel" "ClauseLedgerModel" "symbolSort" "[I", Cond.laysFinal "ClauseLedgerModel" "ClauseLedgerModel" "first" "[I", Cond.laysFinal "ClauseLedgerModel" "ClauseLedgerModel" "second" "[I", Cond.laysFinal "ClauseLedgerModel" "ClauseLedgerModel" "variableSort" "[I", Cond.lays "ClauseLedgerModel" "ClauseLedgerModel" "terms" "I", Cond.lays "ClauseLedgerModel" "ClauseLedgerModel" "kept" "I", Cond.laysFinal "ClauseLedgerModel" "ClauseLedgerModel" "kind" "[I", Cond.laysFinal "ClauseLedgerModel" "ClauseLedgerModel" "sort" "[I", Cond.laysFinal "ClauseLedgerModel" "ClauseLedgerModel" "depth" "[I", Cond.laysFinal "ClauseLedgerModel" "ClauseLedgerModel" "one" "[I", Cond.laysFinal "ClauseLedgerModel" "ClauseLedgerModel" "two" "[I", Cond.laysFinal "ClauseLedgerModel" "ClauseLedgerModel" "letter" "[I", Cond.laysFinal "ClauseLedgerModel" "ClauseLedgerModel" "top" "[I", Cond.laysFinal "ClauseLedgerModel" "ClauseLedgerModel" "below" "[I", Cond.laysFinal "ClauseLedgerModel" "ClauseLedgerModel" "free" "[I", Cond.lays "ClauseLedgerModel" "ClauseLedgerModel" "steps" "I", Cond.laysFinal "ClauseLedgerModel" "ClauseLedgerModel" "many" "[I", Cond.laysFinal "ClauseLedgerModel" "ClauseLedgerModel" "truths" "[I", Cond.laysFinal "ClauseLedgerModel" "ClauseLedgerModel" "scopeOf" "[I", Cond.laysFinal "ClauseLedgerModel" "ClauseLedgerModel" "assumed" "[Z", Cond.lays "ClauseLedgerModel" "ClauseLedgerModel" "scopes" "I", Cond.lays "ClauseLedgerModel" "ClauseLedgerModel" "inner" "I", Cond.laysFinal "ClauseLedgerModel" "ClauseLedgerModel" "around" "[I", Cond.laysFinal "ClauseLedgerModel" "ClauseLedgerModel" "closed" "[Z", Cond.lays "ClauseLedgerModel" "ClauseLedgerModel" "rowSize" "I", Cond.laysFinal "ClauseLedgerModel" "ClauseLedgerModel" "row" "[I", Cond.lays "ClauseLedgerModel" "ClauseLedgerModel" "drafted" "I", Cond.laysFinal "ClauseLedgerModel" "ClauseLedgerModel" "draft" "[I", Cond.lays "ClauseLedgerModel" "ClauseLedgerModel" "at" "I", Cond.lays "ClauseLedgerModel" "ClauseLedgerModel" "bad" "Z", Cond.lays "ClauseLedgerModel" "ClauseLedgerModel" "opens" "I", Cond.laysFinal "ClauseLedgerModel" "ClauseLedgerModel" "sign" "[I", Cond.laysFinal "ClauseLedgerModel" "ClauseLedgerModel" "got" "[I", Cond.laysFinal "ClauseLedgerModel" "ClauseLedgerModel" "left" "[I", Cond.laysFinal "ClauseLedgerModel" "ClauseLedgerModel" "right" "[I", Cond.laysFinal "ClauseLedgerModel" "ClauseLedgerModel" "became" "[I", Cond.laysFinal "ClauseLedgerModel" "ClauseLedgerModel" "num" "[J", Cond.laysFinal "ClauseLedgerModel" "ClauseLedgerModel" "den" "[J", Cond.laysFinal "ClauseLedgerModel" "ClauseLedgerModel" "needed" "[Z", Cond.lays "ClauseLedgerModel" "ClauseLedgerModel" "sumNum" "J", Cond.lays "ClauseLedgerModel" "ClauseLedgerModel" "sumDen" "J", Cond.lays "ClauseLedgerModel" "ClauseLedgerModel" "great" "Z", Cond.lays "ClauseLedgerModel" "ClauseLedgerModel" "written" "I", Cond.lays "ClauseLedgerModel" "ClauseLedgerModel" "wanted" "I", Cond.lays "ClauseLedgerModel" "ClauseLedgerModel" "caught" "I", Cond.lays "ClauseLedgerModel" "ClauseLedgerModel" "allNum" "J", Cond.lays "ClauseLedgerModel" "ClauseLedgerModel" "allDen" "J"], w ∈ gw
  exact List.forall_mem_cons.mpr ⟨m_1310, List.forall_mem_cons.mpr ⟨m_1312, List.forall_mem_cons.mpr ⟨m_1314, List.forall_mem_cons.mpr ⟨m_1316, List.forall_mem_cons.mpr ⟨m_1318, List.forall_mem_cons.mpr ⟨m_1320, List.forall_mem_cons.mpr ⟨m_1322, List.forall_mem_cons.mpr ⟨m_1324, List.forall_mem_cons.mpr ⟨m_1326, List.forall_mem_cons.mpr ⟨m_1328, List.forall_mem_cons.mpr ⟨m_1330, List.forall_mem_cons.mpr ⟨m_1332, List.forall_mem_cons.mpr ⟨m_1334, List.forall_mem_cons.mpr ⟨m_1336, List.forall_mem_cons.mpr ⟨m_1338, List.forall_mem_cons.mpr ⟨m_1340, List.forall_mem_cons.mpr ⟨m_1342, List.forall_mem_cons.mpr ⟨m_1344, List.forall_mem_cons.mpr ⟨m_1346, List.forall_mem_cons.mpr ⟨m_1348, List.forall_mem_cons.mpr ⟨m_1350, List.forall_mem_cons.mpr ⟨m_1352, List.forall_mem_cons.mpr ⟨m_1354, List.forall_mem_cons.mpr ⟨m_1356, List.forall_mem_cons.mpr ⟨m_1358, List.forall_mem_cons.mpr ⟨m_1360, List.forall_mem_cons.mpr ⟨m_1362, List.forall_mem_cons.mpr ⟨m_1364, List.forall_mem_cons.mpr ⟨m_1366, List.forall_mem_cons.mpr ⟨m_1368, List.forall_mem_cons.mpr ⟨m_1370, List.forall_mem_cons.mpr ⟨m_1372, List.forall_mem_cons.mpr ⟨m_1374, List.forall_mem_cons.mpr ⟨m_1376, List.forall_mem_cons.mpr ⟨m_1378, List.forall_mem_cons.mpr ⟨m_1380, List.forall_mem_cons.mpr ⟨m_1382, List.forall_mem_cons.mpr ⟨m_1384, List.forall_mem_cons.mpr ⟨m_1386, List.forall_mem_cons.mpr ⟨m_1388, List.forall_mem_cons.mpr ⟨m_1390, List.forall_mem_cons.mpr ⟨m_1392, List.forall_mem_cons.mpr ⟨m_1394, List.forall_mem_cons.mpr ⟨m_1396, List.forall_mem_cons.mpr ⟨m_1398, List.forall_mem_cons.mpr ⟨m_1400, List.forall_mem_cons.mpr ⟨m_1402, List.forall_mem_cons.mpr ⟨m_1404, List.forall_mem_cons.mpr ⟨m_1406, List.forall_mem_cons.mpr ⟨m_1408, List.forall_mem_cons.mpr ⟨m_1410, fun _ h => absurd h List.not_mem_nil⟩⟩⟩⟩⟩⟩⟩⟩⟩⟩⟩⟩⟩⟩⟩⟩⟩⟩⟩⟩⟩⟩⟩⟩⟩⟩⟩⟩⟩⟩⟩⟩⟩⟩⟩⟩⟩⟩⟩⟩⟩⟩⟩⟩⟩⟩⟩⟩⟩⟩⟩
