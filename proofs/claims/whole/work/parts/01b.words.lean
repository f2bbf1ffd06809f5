-- the words of the tables, by their places
def tw_chk (w : Cond) : Bool := (w.onTables && w.keeps) || match w with
  | .arrayClass _ => true
  | _ => false
def lw_gd : List Cond := lw_tbl.filter tw_chk
theorem lw_gd_of {w : Cond} {i : Nat} (h : lw_tbl[i]? = some w) (hc : tw_chk w = true) : w ∈ lw_gd := List.mem_filter.mpr ⟨List.mem_of_getElem? h, hc⟩
theorem tw_0 : (Cond.initialized "AlexanderMatrixLaw") ∈ lw_gd := lw_gd_of (i := 57) (by decide +kernel) rfl
theorem tw_1 : (Cond.initialized R_AM) ∈ lw_gd := lw_gd_of (i := 58) (by decide +kernel) rfl
theorem tw_2 : (Cond.initialized R_CR) ∈ lw_gd := lw_gd_of (i := 59) (by decide +kernel) rfl
theorem tw_3 : (Cond.initialized R_DR) ∈ lw_gd := lw_gd_of (i := 60) (by decide +kernel) rfl
theorem tw_4 : (Cond.initialized R_AL) ∈ lw_gd := lw_gd_of (i := 61) (by decide +kernel) rfl
theorem tw_5 : (Cond.initialized R_ET) ∈ lw_gd := lw_gd_of (i := 62) (by decide +kernel) rfl
theorem tw_6 : (Cond.initialized R_MT) ∈ lw_gd := lw_gd_of (i := 63) (by decide +kernel) rfl
theorem tw_7 : (Cond.initialized R_DT) ∈ lw_gd := lw_gd_of (i := 64) (by decide +kernel) rfl
theorem tw_8 : (Cond.initialized R_PO) ∈ lw_gd := lw_gd_of (i := 65) (by decide +kernel) rfl
theorem tw_9 : (Cond.initialized R_MR) ∈ lw_gd := lw_gd_of (i := 66) (by decide +kernel) rfl
theorem tw_10 : (Cond.initialized R_MM) ∈ lw_gd := lw_gd_of (i := 67) (by decide +kernel) rfl
theorem tw_11 : (Cond.initialized "java/lang/Math") ∈ lw_gd := lw_gd_of (i := 68) (by decide +kernel) rfl
theorem tw_12 : (Cond.initialized "java/util/Arrays") ∈ lw_gd := lw_gd_of (i := 69) (by decide +kernel) rfl
theorem tw_13 : (Cond.initialized "java/lang/System") ∈ lw_gd := lw_gd_of (i := 70) (by decide +kernel) rfl
theorem tw_14 : (Cond.classLink "AlexanderMatrixLaw" (7 : Nat) R_AM) ∈ lw_gd := lw_gd_of (i := 71) (by decide +kernel) rfl
theorem tw_15 : (Cond.instantiable R_AM (10 : Nat)) ∈ lw_gd := lw_gd_of (i := 72) (by decide +kernel) rfl
theorem tw_16 : (Cond.methodLink "AlexanderMatrixLaw" (9 : Nat) y_AM_init) ∈ lw_gd := lw_gd_of (i := 73) (by decide +kernel) rfl
theorem tw_17 : (Cond.instanceMethod y_AM_init) ∈ lw_gd := lw_gd_of (i := 74) (by decide +kernel) rfl
theorem tw_18 : (.code y_AM_init b_AM_init 1 none : Cond) ∈ lw_gd := lw_gd_of (i := 75) (by decide +kernel) rfl
theorem tw_19 : (Cond.methodLink R_AM (3 : Nat) y_JO_init) ∈ lw_gd := lw_gd_of (i := 76) (by decide +kernel) rfl
theorem tw_20 : (Cond.instanceMethod y_JO_init) ∈ lw_gd := lw_gd_of (i := 77) (by decide +kernel) rfl
theorem tw_21 : (.code y_JO_init b_JO_init 1 none : Cond) ∈ lw_gd := lw_gd_of (i := 78) (by decide +kernel) rfl
theorem tw_22 : (Cond.classLink R_AM (9 : Nat) R_CR) ∈ lw_gd := lw_gd_of (i := 79) (by decide +kernel) rfl
theorem tw_23 : (Cond.instantiable R_CR (3 : Nat)) ∈ lw_gd := lw_gd_of (i := 80) (by decide +kernel) rfl
theorem tw_24 : (Cond.methodLink R_AM (11 : Nat) y_CR_init) ∈ lw_gd := lw_gd_of (i := 81) (by decide +kernel) rfl
theorem tw_25 : (Cond.instanceMethod y_CR_init) ∈ lw_gd := lw_gd_of (i := 82) (by decide +kernel) rfl
theorem tw_26 : (.code y_CR_init b_CR_init 1 none : Cond) ∈ lw_gd := lw_gd_of (i := 83) (by decide +kernel) rfl
theorem tw_27 : (Cond.methodLink R_CR (3 : Nat) y_JO_init) ∈ lw_gd := lw_gd_of (i := 84) (by decide +kernel) rfl
theorem tw_28 : (Cond.fieldLink R_CR (9 : Nat) "AlexanderMatrix$CrossingRow" "signs" "[I") ∈ lw_gd := lw_gd_of (i := 85) (by decide +kernel) rfl
theorem tw_29 : (Cond.fieldLink R_CR (15 : Nat) "AlexanderMatrix$CrossingRow" "labels" "[I") ∈ lw_gd := lw_gd_of (i := 86) (by decide +kernel) rfl
theorem tw_30 : (Cond.fieldLink R_CR (18 : Nat) "AlexanderMatrix$CrossingRow" "count" "I") ∈ lw_gd := lw_gd_of (i := 87) (by decide +kernel) rfl
theorem tw_38 : (Cond.arrayClass Jvm.ClassFile.FieldType.int) ∈ lw_gd := lw_gd_of (i := 95) (by decide +kernel) rfl
theorem tw_39 : (Cond.classLink R_AM (19 : Nat) R_DR) ∈ lw_gd := lw_gd_of (i := 96) (by decide +kernel) rfl
theorem tw_40 : (Cond.instantiable R_DR (4 : Nat)) ∈ lw_gd := lw_gd_of (i := 97) (by decide +kernel) rfl
theorem tw_41 : (Cond.methodLink R_AM (21 : Nat) y_DR_init) ∈ lw_gd := lw_gd_of (i := 98) (by decide +kernel) rfl
theorem tw_42 : (Cond.instanceMethod y_DR_init) ∈ lw_gd := lw_gd_of (i := 99) (by decide +kernel) rfl
theorem tw_43 : (.code y_DR_init b_DR_init 1 none : Cond) ∈ lw_gd := lw_gd_of (i := 100) (by decide +kernel) rfl
theorem tw_44 : (Cond.methodLink R_DR (3 : Nat) y_JO_init) ∈ lw_gd := lw_gd_of (i := 101) (by decide +kernel) rfl
theorem tw_45 : (Cond.fieldLink R_DR (9 : Nat) "AlexanderMatrix$DiagramRules" "partners" "[I") ∈ lw_gd := lw_gd_of (i := 102) (by decide +kernel) rfl
theorem tw_46 : (Cond.fieldLink R_DR (15 : Nat) "AlexanderMatrix$DiagramRules" "pieces" "[I") ∈ lw_gd := lw_gd_of (i := 103) (by decide +kernel) rfl
theorem tw_47 : (Cond.fieldLink R_DR (18 : Nat) "AlexanderMatrix$DiagramRules" "surplus" "[I") ∈ lw_gd := lw_gd_of (i := 104) (by decide +kernel) rfl
theorem tw_48 : (Cond.fieldLink R_DR (21 : Nat) "AlexanderMatrix$DiagramRules" "seen" "[Z") ∈ lw_gd := lw_gd_of (i := 105) (by decide +kernel) rfl
theorem tw_58 : (Cond.arrayClass Jvm.ClassFile.FieldType.boolean) ∈ lw_gd := lw_gd_of (i := 115) (by decide +kernel) rfl
theorem tw_59 : (Cond.classLink R_AM (26 : Nat) R_AL) ∈ lw_gd := lw_gd_of (i := 116) (by decide +kernel) rfl
theorem tw_60 : (Cond.instantiable R_AL (5 : Nat)) ∈ lw_gd := lw_gd_of (i := 117) (by decide +kernel) rfl
theorem tw_61 : (Cond.methodLink R_AM (28 : Nat) y_AL_init) ∈ lw_gd := lw_gd_of (i := 118) (by decide +kernel) rfl
theorem tw_62 : (Cond.instanceMethod y_AL_init) ∈ lw_gd := lw_gd_of (i := 119) (by decide +kernel) rfl
theorem tw_63 : (.code y_AL_init b_AL_init 1 none : Cond) ∈ lw_gd := lw_gd_of (i := 120) (by decide +kernel) rfl
theorem tw_64 : (Cond.methodLink R_AL (3 : Nat) y_JO_init) ∈ lw_gd := lw_gd_of (i := 121) (by decide +kernel) rfl
theorem tw_65 : (Cond.fieldLink R_AL (9 : Nat) "AlexanderMatrix$ArcList" "labels" "[I") ∈ lw_gd := lw_gd_of (i := 122) (by decide +kernel) rfl
theorem tw_66 : (Cond.fieldLink R_AL (15 : Nat) "AlexanderMatrix$ArcList" "leastAt" "[I") ∈ lw_gd := lw_gd_of (i := 123) (by decide +kernel) rfl
theorem tw_67 : (Cond.fieldLink R_AL (18 : Nat) "AlexanderMatrix$ArcList" "leasts" "[I") ∈ lw_gd := lw_gd_of (i := 124) (by decide +kernel) rfl
theorem tw_68 : (Cond.fieldLink R_AL (21 : Nat) "AlexanderMatrix$ArcList" "places" "I") ∈ lw_gd := lw_gd_of (i := 125) (by decide +kernel) rfl
theorem tw_69 : (Cond.fieldLink R_AL (25 : Nat) "AlexanderMatrix$ArcList" "count" "I") ∈ lw_gd := lw_gd_of (i := 126) (by decide +kernel) rfl
theorem tw_81 : (Cond.classLink R_AM (33 : Nat) R_ET) ∈ lw_gd := lw_gd_of (i := 138) (by decide +kernel) rfl
theorem tw_82 : (Cond.instantiable R_ET (4 : Nat)) ∈ lw_gd := lw_gd_of (i := 139) (by decide +kernel) rfl
theorem tw_83 : (Cond.methodLink R_AM (35 : Nat) y_ET_init) ∈ lw_gd := lw_gd_of (i := 140) (by decide +kernel) rfl
theorem tw_84 : (Cond.instanceMethod y_ET_init) ∈ lw_gd := lw_gd_of (i := 141) (by decide +kernel) rfl
theorem tw_85 : (.code y_ET_init b_ET_init 1 none : Cond) ∈ lw_gd := lw_gd_of (i := 142) (by decide +kernel) rfl
theorem tw_86 : (Cond.methodLink R_ET (3 : Nat) y_JO_init) ∈ lw_gd := lw_gd_of (i := 143) (by decide +kernel) rfl
theorem tw_87 : (Cond.classLink R_ET (9 : Nat) "[[I") ∈ lw_gd := lw_gd_of (i := 144) (by decide +kernel) rfl
theorem tw_88 : (Cond.arrayOver (Jvm.ClassFile.FieldType.array Jvm.ClassFile.FieldType.int)) ∈ lw_tbl := List.mem_of_getElem? (i := 145) (by decide +kernel)
theorem tw_89 : (Cond.fieldLink R_ET (11 : Nat) "AlexanderMatrix$EntryTable" "constants" "[[I") ∈ lw_gd := lw_gd_of (i := 146) (by decide +kernel) rfl
theorem tw_90 : (Cond.fieldLink R_ET (16 : Nat) "AlexanderMatrix$EntryTable" "slopes" "[[I") ∈ lw_gd := lw_gd_of (i := 147) (by decide +kernel) rfl
theorem tw_91 : (Cond.fieldLink R_ET (19 : Nat) "AlexanderMatrix$EntryTable" "rows" "I") ∈ lw_gd := lw_gd_of (i := 148) (by decide +kernel) rfl
theorem tw_92 : (Cond.fieldLink R_ET (23 : Nat) "AlexanderMatrix$EntryTable" "columns" "I") ∈ lw_gd := lw_gd_of (i := 149) (by decide +kernel) rfl
theorem tw_102 : (Cond.classLink R_AM (40 : Nat) R_MT) ∈ lw_gd := lw_gd_of (i := 159) (by decide +kernel) rfl
theorem tw_103 : (Cond.instantiable R_MT (5 : Nat)) ∈ lw_gd := lw_gd_of (i := 160) (by decide +kernel) rfl
theorem tw_104 : (Cond.methodLink R_AM (42 : Nat) y_MT_init) ∈ lw_gd := lw_gd_of (i := 161) (by decide +kernel) rfl
theorem tw_105 : (Cond.instanceMethod y_MT_init) ∈ lw_gd := lw_gd_of (i := 162) (by decide +kernel) rfl
theorem tw_106 : (.code y_MT_init b_MT_init 1 none : Cond) ∈ lw_gd := lw_gd_of (i := 163) (by decide +kernel) rfl
theorem tw_107 : (Cond.methodLink R_MT (1 : Nat) y_JO_init) ∈ lw_gd := lw_gd_of (i := 164) (by decide +kernel) rfl
theorem tw_108 : (Cond.classLink R_MT (7 : Nat) R_DT) ∈ lw_gd := lw_gd_of (i := 165) (by decide +kernel) rfl
theorem tw_109 : (Cond.instantiable R_DT (3 : Nat)) ∈ lw_gd := lw_gd_of (i := 166) (by decide +kernel) rfl
theorem tw_110 : (Cond.methodLink R_MT (9 : Nat) y_DT_init) ∈ lw_gd := lw_gd_of (i := 167) (by decide +kernel) rfl
theorem tw_111 : (Cond.instanceMethod y_DT_init) ∈ lw_gd := lw_gd_of (i := 168) (by decide +kernel) rfl
theorem tw_112 : (.code y_DT_init b_DT_init 2 none : Cond) ∈ lw_gd := lw_gd_of (i := 169) (by decide +kernel) rfl
theorem tw_113 : (Cond.methodLink R_DT (3 : Nat) y_JO_init) ∈ lw_gd := lw_gd_of (i := 170) (by decide +kernel) rfl
theorem tw_114 : (Cond.classLink R_DT (9 : Nat) R_PO) ∈ lw_gd := lw_gd_of (i := 171) (by decide +kernel) rfl
theorem tw_115 : (Cond.arrayOver (Jvm.ClassFile.FieldType.object "AlexanderMatrix$Polynomial")) ∈ lw_tbl := List.mem_of_getElem? (i := 172) (by decide +kernel)
theorem tw_116 : (Cond.instantiable R_PO (2 : Nat)) ∈ lw_gd := lw_gd_of (i := 173) (by decide +kernel) rfl
theorem tw_117 : (Cond.methodLink R_DT (17 : Nat) y_PO_init) ∈ lw_gd := lw_gd_of (i := 174) (by decide +kernel) rfl
theorem tw_118 : (Cond.instanceMethod y_PO_init) ∈ lw_gd := lw_gd_of (i := 175) (by decide +kernel) rfl
theorem tw_119 : (.code y_PO_init b_PO_init 1 none : Cond) ∈ lw_gd := lw_gd_of (i := 176) (by decide +kernel) rfl
theorem tw_120 : (Cond.methodLink R_PO (3 : Nat) y_JO_init) ∈ lw_gd := lw_gd_of (i := 177) (by decide +kernel) rfl
theorem tw_121 : (Cond.fieldLink R_PO (9 : Nat) "AlexanderMatrix$Polynomial" "coefficients" "[J") ∈ lw_gd := lw_gd_of (i := 178) (by decide +kernel) rfl
theorem tw_122 : (Cond.fieldLink R_PO (15 : Nat) "AlexanderMatrix$Polynomial" "degree" "I") ∈ lw_gd := lw_gd_of (i := 179) (by decide +kernel) rfl
theorem tw_128 : (Cond.arrayClass Jvm.ClassFile.FieldType.long) ∈ lw_gd := lw_gd_of (i := 185) (by decide +kernel) rfl
theorem tw_129 : (Cond.methodLink R_DT (25 : Nat) y_PO_setLinear) ∈ lw_gd := lw_gd_of (i := 186) (by decide +kernel) rfl
theorem tw_130 : (Cond.instanceMethod y_PO_setLinear) ∈ lw_gd := lw_gd_of (i := 187) (by decide +kernel) rfl
theorem tw_131 : (Cond.selects R_PO y_PO_setLinear y_PO_setLinear) ∈ lw_gd := lw_gd_of (i := 188) (by decide +kernel) rfl
theorem tw_132 : (.code y_PO_setLinear b_PO_setLinear 5 none : Cond) ∈ lw_gd := lw_gd_of (i := 189) (by decide +kernel) rfl
theorem tw_133 : (Cond.methodLink R_PO (23 : Nat) y_PO_setZero) ∈ lw_gd := lw_gd_of (i := 190) (by decide +kernel) rfl
theorem tw_134 : (Cond.instanceMethod y_PO_setZero) ∈ lw_gd := lw_gd_of (i := 191) (by decide +kernel) rfl
theorem tw_135 : (Cond.selects R_PO y_PO_setZero y_PO_setZero) ∈ lw_gd := lw_gd_of (i := 192) (by decide +kernel) rfl
theorem tw_136 : (.code y_PO_setZero b_PO_setZero 2 none : Cond) ∈ lw_gd := lw_gd_of (i := 193) (by decide +kernel) rfl
theorem tw_137 : (Cond.methodLink R_PO (26 : Nat) y_PO_lowerDegree) ∈ lw_gd := lw_gd_of (i := 194) (by decide +kernel) rfl
theorem tw_139 : (Cond.instanceMethod y_PO_lowerDegree) ∈ lw_gd := lw_gd_of (i := 196) (by decide +kernel) rfl
theorem tw_140 : (.code y_PO_lowerDegree b_PO_lowerDegree 3 none : Cond) ∈ lw_gd := lw_gd_of (i := 197) (by decide +kernel) rfl
theorem tw_141 : (Cond.fieldLink R_DT (11 : Nat) "AlexanderMatrix$Determinant" "cells" "[LAlexanderMatrix$Polynomial;") ∈ lw_gd := lw_gd_of (i := 198) (by decide +kernel) rfl
theorem tw_142 : (Cond.fieldLink R_DT (18 : Nat) "AlexanderMatrix$Determinant" "product" "LAlexanderMatrix$Polynomial;") ∈ lw_gd := lw_gd_of (i := 199) (by decide +kernel) rfl
theorem tw_143 : (Cond.fieldLink R_DT (22 : Nat) "AlexanderMatrix$Determinant" "one" "LAlexanderMatrix$Polynomial;") ∈ lw_gd := lw_gd_of (i := 200) (by decide +kernel) rfl
theorem tw_151 : (Cond.classLink R_MT (16 : Nat) R_PO) ∈ lw_gd := lw_gd_of (i := 208) (by decide +kernel) rfl
theorem tw_152 : (Cond.methodLink R_MT (18 : Nat) y_PO_init) ∈ lw_gd := lw_gd_of (i := 209) (by decide +kernel) rfl
theorem tw_153 : (Cond.fieldLink R_MT (10 : Nat) "AlexanderMatrix$MinorTaker" "determinant" "LAlexanderMatrix$Determinant;") ∈ lw_gd := lw_gd_of (i := 210) (by decide +kernel) rfl
theorem tw_154 : (Cond.fieldLink R_MT (19 : Nat) "AlexanderMatrix$MinorTaker" "last" "LAlexanderMatrix$Polynomial;") ∈ lw_gd := lw_gd_of (i := 211) (by decide +kernel) rfl
theorem tw_155 : (Cond.fieldLink R_MT (23 : Nat) "AlexanderMatrix$MinorTaker" "lastRow" "I") ∈ lw_gd := lw_gd_of (i := 212) (by decide +kernel) rfl
theorem tw_156 : (Cond.fieldLink R_MT (27 : Nat) "AlexanderMatrix$MinorTaker" "lastColumn" "I") ∈ lw_gd := lw_gd_of (i := 213) (by decide +kernel) rfl
theorem tw_157 : (Cond.fieldLink R_MT (30 : Nat) "AlexanderMatrix$MinorTaker" "known" "Z") ∈ lw_gd := lw_gd_of (i := 214) (by decide +kernel) rfl
theorem tw_169 : (Cond.classLink R_AM (47 : Nat) R_MR) ∈ lw_gd := lw_gd_of (i := 226) (by decide +kernel) rfl
theorem tw_170 : (Cond.instantiable R_MR (1 : Nat)) ∈ lw_gd := lw_gd_of (i := 227) (by decide +kernel) rfl
theorem tw_171 : (Cond.methodLink R_AM (49 : Nat) y_MR_init) ∈ lw_gd := lw_gd_of (i := 228) (by decide +kernel) rfl
theorem tw_172 : (Cond.instanceMethod y_MR_init) ∈ lw_gd := lw_gd_of (i := 229) (by decide +kernel) rfl
theorem tw_173 : (.code y_MR_init b_MR_init 1 none : Cond) ∈ lw_gd := lw_gd_of (i := 230) (by decide +kernel) rfl
theorem tw_174 : (Cond.methodLink R_MR (3 : Nat) y_JO_init) ∈ lw_gd := lw_gd_of (i := 231) (by decide +kernel) rfl
theorem tw_175 : (Cond.classLink R_MR (9 : Nat) "[[I") ∈ lw_gd := lw_gd_of (i := 232) (by decide +kernel) rfl
theorem tw_176 : (Cond.fieldLink R_MR (11 : Nat) "AlexanderMatrix$ModularRank" "cells" "[[I") ∈ lw_gd := lw_gd_of (i := 233) (by decide +kernel) rfl
theorem tw_180 : (Cond.classLink R_AM (54 : Nat) R_PO) ∈ lw_gd := lw_gd_of (i := 237) (by decide +kernel) rfl
theorem tw_181 : (Cond.methodLink R_AM (56 : Nat) y_PO_init) ∈ lw_gd := lw_gd_of (i := 238) (by decide +kernel) rfl
theorem tw_182 : (Cond.fieldLink R_AM (12 : Nat) "AlexanderMatrix" "putIn" "LAlexanderMatrix$CrossingRow;") ∈ lw_gd := lw_gd_of (i := 239) (by decide +kernel) rfl
theorem tw_183 : (Cond.fieldLink R_AM (16 : Nat) "AlexanderMatrix" "diagram" "LAlexanderMatrix$CrossingRow;") ∈ lw_gd := lw_gd_of (i := 240) (by decide +kernel) rfl
theorem tw_184 : (Cond.fieldLink R_AM (22 : Nat) "AlexanderMatrix" "rules" "LAlexanderMatrix$DiagramRules;") ∈ lw_gd := lw_gd_of (i := 241) (by decide +kernel) rfl
theorem tw_185 : (Cond.fieldLink R_AM (29 : Nat) "AlexanderMatrix" "arcs" "LAlexanderMatrix$ArcList;") ∈ lw_gd := lw_gd_of (i := 242) (by decide +kernel) rfl
theorem tw_186 : (Cond.fieldLink R_AM (36 : Nat) "AlexanderMatrix" "entries" "LAlexanderMatrix$EntryTable;") ∈ lw_gd := lw_gd_of (i := 243) (by decide +kernel) rfl
theorem tw_187 : (Cond.fieldLink R_AM (43 : Nat) "AlexanderMatrix" "minors" "LAlexanderMatrix$MinorTaker;") ∈ lw_gd := lw_gd_of (i := 244) (by decide +kernel) rfl
theorem tw_188 : (Cond.fieldLink R_AM (50 : Nat) "AlexanderMatrix" "ranks" "LAlexanderMatrix$ModularRank;") ∈ lw_gd := lw_gd_of (i := 245) (by decide +kernel) rfl
theorem tw_189 : (Cond.fieldLink R_AM (57 : Nat) "AlexanderMatrix" "normal" "LAlexanderMatrix$Polynomial;") ∈ lw_gd := lw_gd_of (i := 246) (by decide +kernel) rfl
theorem tw_190 : (Cond.fieldLink R_AM (61 : Nat) "AlexanderMatrix" "circles" "I") ∈ lw_gd := lw_gd_of (i := 247) (by decide +kernel) rfl
theorem tw_191 : (Cond.fieldLink R_AM (65 : Nat) "AlexanderMatrix" "normalKnown" "Z") ∈ lw_gd := lw_gd_of (i := 248) (by decide +kernel) rfl
theorem tw_213 : (Cond.methodLink "AlexanderMatrixLaw" (13 : Nat) y_AM_crossing) ∈ lw_gd := lw_gd_of (i := 270) (by decide +kernel) rfl
theorem tw_214 : (Cond.instanceMethod y_AM_crossing) ∈ lw_gd := lw_gd_of (i := 271) (by decide +kernel) rfl
theorem tw_215 : (Cond.selects R_AM y_AM_crossing y_AM_crossing) ∈ lw_gd := lw_gd_of (i := 272) (by decide +kernel) rfl
theorem tw_216 : (.code y_AM_crossing b_AM_crossing 6 (some .int) : Cond) ∈ lw_gd := lw_gd_of (i := 273) (by decide +kernel) rfl
theorem tw_217 : (Cond.methodLink R_AM (69 : Nat) y_AM_isLabel) ∈ lw_gd := lw_gd_of (i := 274) (by decide +kernel) rfl
theorem tw_218 : (Cond.static y_AM_isLabel) ∈ lw_gd := lw_gd_of (i := 275) (by decide +kernel) rfl
theorem tw_219 : (.code y_AM_isLabel b_AM_isLabel 1 (some .boolean) : Cond) ∈ lw_gd := lw_gd_of (i := 276) (by decide +kernel) rfl
theorem tw_220 : (Cond.methodLink R_AM (73 : Nat) y_CR_append) ∈ lw_gd := lw_gd_of (i := 277) (by decide +kernel) rfl
theorem tw_221 : (Cond.instanceMethod y_CR_append) ∈ lw_gd := lw_gd_of (i := 278) (by decide +kernel) rfl
theorem tw_222 : (Cond.selects R_CR y_CR_append y_CR_append) ∈ lw_gd := lw_gd_of (i := 279) (by decide +kernel) rfl
theorem tw_223 : (.code y_CR_append b_CR_append 6 (some .int) : Cond) ∈ lw_gd := lw_gd_of (i := 280) (by decide +kernel) rfl
theorem tw_224 : (Cond.methodLink R_CR (22 : Nat) y_CR_write) ∈ lw_gd := lw_gd_of (i := 281) (by decide +kernel) rfl
theorem tw_226 : (Cond.instanceMethod y_CR_write) ∈ lw_gd := lw_gd_of (i := 283) (by decide +kernel) rfl
theorem tw_227 : (.code y_CR_write b_CR_write 8 none : Cond) ∈ lw_gd := lw_gd_of (i := 284) (by decide +kernel) rfl
theorem tw_228 : (Cond.methodLink "AlexanderMatrixLaw" (18 : Nat) y_AM_check) ∈ lw_gd := lw_gd_of (i := 285) (by decide +kernel) rfl
theorem tw_229 : (Cond.instanceMethod y_AM_check) ∈ lw_gd := lw_gd_of (i := 286) (by decide +kernel) rfl
theorem tw_230 : (Cond.selects R_AM y_AM_check y_AM_check) ∈ lw_gd := lw_gd_of (i := 287) (by decide +kernel) rfl
theorem tw_231 : (.code y_AM_check b_AM_check 3 (some .int) : Cond) ∈ lw_gd := lw_gd_of (i := 288) (by decide +kernel) rfl
theorem tw_232 : (Cond.methodLink R_AM (77 : Nat) y_DR_firstBroken) ∈ lw_gd := lw_gd_of (i := 289) (by decide +kernel) rfl
theorem tw_233 : (Cond.instanceMethod y_DR_firstBroken) ∈ lw_gd := lw_gd_of (i := 290) (by decide +kernel) rfl
theorem tw_234 : (Cond.selects R_DR y_DR_firstBroken y_DR_firstBroken) ∈ lw_gd := lw_gd_of (i := 291) (by decide +kernel) rfl
theorem tw_235 : (.code y_DR_firstBroken b_DR_firstBroken 3 (some .int) : Cond) ∈ lw_gd := lw_gd_of (i := 292) (by decide +kernel) rfl
theorem tw_236 : (Cond.methodLink R_DR (25 : Nat) y_CR_places) ∈ lw_gd := lw_gd_of (i := 293) (by decide +kernel) rfl
theorem tw_237 : (Cond.instanceMethod y_CR_places) ∈ lw_gd := lw_gd_of (i := 294) (by decide +kernel) rfl
theorem tw_238 : (Cond.selects R_CR y_CR_places y_CR_places) ∈ lw_gd := lw_gd_of (i := 295) (by decide +kernel) rfl
theorem tw_239 : (.code y_CR_places b_CR_places 1 (some .int) : Cond) ∈ lw_gd := lw_gd_of (i := 296) (by decide +kernel) rfl
theorem tw_240 : (Cond.methodLink R_DR (31 : Nat) y_JM_min) ∈ lw_gd := lw_gd_of (i := 297) (by decide +kernel) rfl
theorem tw_241 : (Cond.static y_JM_min) ∈ lw_gd := lw_gd_of (i := 298) (by decide +kernel) rfl
theorem tw_242 : (.code y_JM_min b_JM_min 2 (some .int) : Cond) ∈ lw_gd := lw_gd_of (i := 299) (by decide +kernel) rfl
theorem tw_243 : (Cond.methodLink R_DR (37 : Nat) y_DR_findPartners) ∈ lw_gd := lw_gd_of (i := 300) (by decide +kernel) rfl
theorem tw_245 : (Cond.instanceMethod y_DR_findPartners) ∈ lw_gd := lw_gd_of (i := 302) (by decide +kernel) rfl
theorem tw_246 : (.code y_DR_findPartners b_DR_findPartners 6 (some .boolean) : Cond) ∈ lw_gd := lw_gd_of (i := 303) (by decide +kernel) rfl
theorem tw_247 : (Cond.methodLink R_DR (52 : Nat) y_CR_labelAt) ∈ lw_gd := lw_gd_of (i := 304) (by decide +kernel) rfl
theorem tw_248 : (Cond.instanceMethod y_CR_labelAt) ∈ lw_gd := lw_gd_of (i := 305) (by decide +kernel) rfl
theorem tw_249 : (Cond.selects R_CR y_CR_labelAt y_CR_labelAt) ∈ lw_gd := lw_gd_of (i := 306) (by decide +kernel) rfl
theorem tw_250 : (.code y_CR_labelAt b_CR_labelAt 2 (some .int) : Cond) ∈ lw_gd := lw_gd_of (i := 307) (by decide +kernel) rfl
theorem tw_251 : (Cond.methodLink R_CR (36 : Nat) y_CR_places) ∈ lw_gd := lw_gd_of (i := 308) (by decide +kernel) rfl
theorem tw_252 : (Cond.methodLink R_DR (41 : Nat) y_DR_partnersAreEdges) ∈ lw_gd := lw_gd_of (i := 309) (by decide +kernel) rfl
theorem tw_254 : (Cond.instanceMethod y_DR_partnersAreEdges) ∈ lw_gd := lw_gd_of (i := 311) (by decide +kernel) rfl
theorem tw_255 : (.code y_DR_partnersAreEdges b_DR_partnersAreEdges 4 (some .boolean) : Cond) ∈ lw_gd := lw_gd_of (i := 312) (by decide +kernel) rfl
theorem tw_256 : (Cond.methodLink R_DR (56 : Nat) y_CR_goesIn) ∈ lw_gd := lw_gd_of (i := 313) (by decide +kernel) rfl
theorem tw_257 : (Cond.instanceMethod y_CR_goesIn) ∈ lw_gd := lw_gd_of (i := 314) (by decide +kernel) rfl
theorem tw_258 : (Cond.selects R_CR y_CR_goesIn y_CR_goesIn) ∈ lw_gd := lw_gd_of (i := 315) (by decide +kernel) rfl
theorem tw_259 : (.code y_CR_goesIn b_CR_goesIn 3 (some .boolean) : Cond) ∈ lw_gd := lw_gd_of (i := 316) (by decide +kernel) rfl
theorem tw_260 : (Cond.methodLink R_CR (44 : Nat) y_CR_lowerIn) ∈ lw_gd := lw_gd_of (i := 317) (by decide +kernel) rfl
theorem tw_261 : (Cond.instanceMethod y_CR_lowerIn) ∈ lw_gd := lw_gd_of (i := 318) (by decide +kernel) rfl
theorem tw_262 : (Cond.selects R_CR y_CR_lowerIn y_CR_lowerIn) ∈ lw_gd := lw_gd_of (i := 319) (by decide +kernel) rfl
theorem tw_263 : (.code y_CR_lowerIn b_CR_lowerIn 2 (some .int) : Cond) ∈ lw_gd := lw_gd_of (i := 320) (by decide +kernel) rfl
theorem tw_264 : (Cond.methodLink R_CR (47 : Nat) y_CR_upperIn) ∈ lw_gd := lw_gd_of (i := 321) (by decide +kernel) rfl
theorem tw_265 : (Cond.instanceMethod y_CR_upperIn) ∈ lw_gd := lw_gd_of (i := 322) (by decide +kernel) rfl
theorem tw_266 : (Cond.selects R_CR y_CR_upperIn y_CR_upperIn) ∈ lw_gd := lw_gd_of (i := 323) (by decide +kernel) rfl
theorem tw_267 : (.code y_CR_upperIn b_CR_upperIn 2 (some .int) : Cond) ∈ lw_gd := lw_gd_of (i := 324) (by decide +kernel) rfl
theorem tw_268 : (Cond.methodLink R_CR (40 : Nat) y_CR_signOf) ∈ lw_gd := lw_gd_of (i := 325) (by decide +kernel) rfl
theorem tw_269 : (Cond.instanceMethod y_CR_signOf) ∈ lw_gd := lw_gd_of (i := 326) (by decide +kernel) rfl
theorem tw_270 : (Cond.selects R_CR y_CR_signOf y_CR_signOf) ∈ lw_gd := lw_gd_of (i := 327) (by decide +kernel) rfl
theorem tw_271 : (.code y_CR_signOf b_CR_signOf 2 (some .int) : Cond) ∈ lw_gd := lw_gd_of (i := 328) (by decide +kernel) rfl
theorem tw_272 : (Cond.methodLink R_CR (32 : Nat) y_CR_has) ∈ lw_gd := lw_gd_of (i := 329) (by decide +kernel) rfl
theorem tw_273 : (Cond.instanceMethod y_CR_has) ∈ lw_gd := lw_gd_of (i := 330) (by decide +kernel) rfl
theorem tw_274 : (Cond.selects R_CR y_CR_has y_CR_has) ∈ lw_gd := lw_gd_of (i := 331) (by decide +kernel) rfl
theorem tw_275 : (.code y_CR_has b_CR_has 2 (some .boolean) : Cond) ∈ lw_gd := lw_gd_of (i := 332) (by decide +kernel) rfl
theorem tw_276 : (Cond.methodLink R_DR (44 : Nat) y_DR_findPieces) ∈ lw_gd := lw_gd_of (i := 333) (by decide +kernel) rfl
theorem tw_278 : (Cond.instanceMethod y_DR_findPieces) ∈ lw_gd := lw_gd_of (i := 335) (by decide +kernel) rfl
theorem tw_279 : (.code y_DR_findPieces b_DR_findPieces 6 none : Cond) ∈ lw_gd := lw_gd_of (i := 336) (by decide +kernel) rfl
theorem tw_280 : (Cond.methodLink R_DR (59 : Nat) y_DR_pieceAt) ∈ lw_gd := lw_gd_of (i := 337) (by decide +kernel) rfl
theorem tw_282 : (Cond.instanceMethod y_DR_pieceAt) ∈ lw_gd := lw_gd_of (i := 339) (by decide +kernel) rfl
theorem tw_283 : (.code y_DR_pieceAt b_DR_pieceAt 3 (some .int) : Cond) ∈ lw_gd := lw_gd_of (i := 340) (by decide +kernel) rfl
theorem tw_284 : (Cond.methodLink R_DR (48 : Nat) y_DR_piecesAreSpheres) ∈ lw_gd := lw_gd_of (i := 341) (by decide +kernel) rfl
theorem tw_286 : (Cond.instanceMethod y_DR_piecesAreSpheres) ∈ lw_gd := lw_gd_of (i := 343) (by decide +kernel) rfl
theorem tw_287 : (.code y_DR_piecesAreSpheres b_DR_piecesAreSpheres 4 (some .boolean) : Cond) ∈ lw_gd := lw_gd_of (i := 344) (by decide +kernel) rfl
theorem tw_288 : (Cond.methodLink R_DR (62 : Nat) y_JA_fill) ∈ lw_gd := lw_gd_of (i := 345) (by decide +kernel) rfl
theorem tw_289 : (Cond.static y_JA_fill) ∈ lw_gd := lw_gd_of (i := 346) (by decide +kernel) rfl
theorem tw_290 : (.code y_JA_fill b_JA_fill 4 none : Cond) ∈ lw_gd := lw_gd_of (i := 347) (by decide +kernel) rfl
theorem tw_291 : (Cond.methodLink R_DR (68 : Nat) y_DR_countFaces) ∈ lw_gd := lw_gd_of (i := 348) (by decide +kernel) rfl
theorem tw_293 : (Cond.instanceMethod y_DR_countFaces) ∈ lw_gd := lw_gd_of (i := 350) (by decide +kernel) rfl
theorem tw_294 : (.code y_DR_countFaces b_DR_countFaces 3 none : Cond) ∈ lw_gd := lw_gd_of (i := 351) (by decide +kernel) rfl
theorem tw_295 : (Cond.methodLink R_DR (75 : Nat) y_DR_goRound) ∈ lw_gd := lw_gd_of (i := 352) (by decide +kernel) rfl
theorem tw_297 : (Cond.instanceMethod y_DR_goRound) ∈ lw_gd := lw_gd_of (i := 354) (by decide +kernel) rfl
theorem tw_298 : (.code y_DR_goRound b_DR_goRound 5 none : Cond) ∈ lw_gd := lw_gd_of (i := 355) (by decide +kernel) rfl
theorem tw_299 : (Cond.methodLink R_DR (71 : Nat) y_DR_addSurplus) ∈ lw_gd := lw_gd_of (i := 356) (by decide +kernel) rfl
theorem tw_301 : (Cond.instanceMethod y_DR_addSurplus) ∈ lw_gd := lw_gd_of (i := 358) (by decide +kernel) rfl
theorem tw_302 : (.code y_DR_addSurplus b_DR_addSurplus 4 none : Cond) ∈ lw_gd := lw_gd_of (i := 359) (by decide +kernel) rfl
theorem tw_303 : (Cond.methodLink R_AM (81 : Nat) y_CR_copyFrom) ∈ lw_gd := lw_gd_of (i := 360) (by decide +kernel) rfl
theorem tw_304 : (Cond.instanceMethod y_CR_copyFrom) ∈ lw_gd := lw_gd_of (i := 361) (by decide +kernel) rfl
theorem tw_305 : (Cond.selects R_CR y_CR_copyFrom y_CR_copyFrom) ∈ lw_gd := lw_gd_of (i := 362) (by decide +kernel) rfl
theorem tw_306 : (.code y_CR_copyFrom b_CR_copyFrom 2 none : Cond) ∈ lw_gd := lw_gd_of (i := 363) (by decide +kernel) rfl
theorem tw_307 : (Cond.methodLink R_CR (26 : Nat) ({ cls := "java/lang/System", name := "arraycopy", desc := "(Ljava/lang/Object;ILjava/lang/Object;II)V" } : Jvm.MethodName)) ∈ lw_gd := lw_gd_of (i := 364) (by decide +kernel) rfl
theorem tw_308 : (Cond.static ({ cls := "java/lang/System", name := "arraycopy", desc := "(Ljava/lang/Object;ILjava/lang/Object;II)V" } : Jvm.MethodName)) ∈ lw_gd := lw_gd_of (i := 365) (by decide +kernel) rfl
theorem tw_309 : (Cond.native ({ cls := "java/lang/System", name := "arraycopy", desc := "(Ljava/lang/Object;ILjava/lang/Object;II)V" } : Jvm.MethodName)) ∈ lw_gd := lw_gd_of (i := 366) (by decide +kernel) rfl
theorem tw_310 : (Cond.methodLink R_AM (85 : Nat) y_AM_readDiagram) ∈ lw_gd := lw_gd_of (i := 367) (by decide +kernel) rfl
theorem tw_312 : (Cond.instanceMethod y_AM_readDiagram) ∈ lw_gd := lw_gd_of (i := 369) (by decide +kernel) rfl
theorem tw_313 : (.code y_AM_readDiagram b_AM_readDiagram 1 none : Cond) ∈ lw_gd := lw_gd_of (i := 370) (by decide +kernel) rfl
theorem tw_314 : (Cond.methodLink R_AM (150 : Nat) y_AL_read) ∈ lw_gd := lw_gd_of (i := 371) (by decide +kernel) rfl
theorem tw_315 : (Cond.instanceMethod y_AL_read) ∈ lw_gd := lw_gd_of (i := 372) (by decide +kernel) rfl
theorem tw_316 : (Cond.selects R_AL y_AL_read y_AL_read) ∈ lw_gd := lw_gd_of (i := 373) (by decide +kernel) rfl
theorem tw_317 : (.code y_AL_read b_AL_read 4 none : Cond) ∈ lw_gd := lw_gd_of (i := 374) (by decide +kernel) rfl
theorem tw_318 : (Cond.methodLink R_AL (28 : Nat) y_CR_places) ∈ lw_gd := lw_gd_of (i := 375) (by decide +kernel) rfl
theorem tw_319 : (Cond.methodLink R_AL (33 : Nat) y_JM_min) ∈ lw_gd := lw_gd_of (i := 376) (by decide +kernel) rfl
theorem tw_320 : (Cond.methodLink R_AL (39 : Nat) y_CR_labelAt) ∈ lw_gd := lw_gd_of (i := 377) (by decide +kernel) rfl
theorem tw_321 : (Cond.methodLink R_AL (43 : Nat) y_CR_size) ∈ lw_gd := lw_gd_of (i := 378) (by decide +kernel) rfl
theorem tw_322 : (Cond.instanceMethod y_CR_size) ∈ lw_gd := lw_gd_of (i := 379) (by decide +kernel) rfl
theorem tw_323 : (Cond.selects R_CR y_CR_size y_CR_size) ∈ lw_gd := lw_gd_of (i := 380) (by decide +kernel) rfl
theorem tw_324 : (.code y_CR_size b_CR_size 1 (some .int) : Cond) ∈ lw_gd := lw_gd_of (i := 381) (by decide +kernel) rfl
theorem tw_325 : (Cond.methodLink R_AL (46 : Nat) y_CR_upperIn) ∈ lw_gd := lw_gd_of (i := 382) (by decide +kernel) rfl
theorem tw_326 : (Cond.methodLink R_AL (49 : Nat) y_CR_upperOut) ∈ lw_gd := lw_gd_of (i := 383) (by decide +kernel) rfl
theorem tw_327 : (Cond.instanceMethod y_CR_upperOut) ∈ lw_gd := lw_gd_of (i := 384) (by decide +kernel) rfl
theorem tw_328 : (Cond.selects R_CR y_CR_upperOut y_CR_upperOut) ∈ lw_gd := lw_gd_of (i := 385) (by decide +kernel) rfl
theorem tw_329 : (.code y_CR_upperOut b_CR_upperOut 2 (some .int) : Cond) ∈ lw_gd := lw_gd_of (i := 386) (by decide +kernel) rfl
theorem tw_330 : (Cond.methodLink R_AL (52 : Nat) y_AL_joinOver) ∈ lw_gd := lw_gd_of (i := 387) (by decide +kernel) rfl
theorem tw_332 : (Cond.instanceMethod y_AL_joinOver) ∈ lw_gd := lw_gd_of (i := 389) (by decide +kernel) rfl
theorem tw_333 : (.code y_AL_joinOver b_AL_joinOver 6 none : Cond) ∈ lw_gd := lw_gd_of (i := 390) (by decide +kernel) rfl
theorem tw_334 : (Cond.methodLink R_AL (63 : Nat) y_JM_max) ∈ lw_gd := lw_gd_of (i := 391) (by decide +kernel) rfl
theorem tw_335 : (Cond.static y_JM_max) ∈ lw_gd := lw_gd_of (i := 392) (by decide +kernel) rfl
theorem tw_336 : (.code y_JM_max b_JM_max 2 (some .int) : Cond) ∈ lw_gd := lw_gd_of (i := 393) (by decide +kernel) rfl
theorem tw_337 : (Cond.methodLink R_AL (56 : Nat) y_AL_insert) ∈ lw_gd := lw_gd_of (i := 394) (by decide +kernel) rfl
theorem tw_339 : (Cond.instanceMethod y_AL_insert) ∈ lw_gd := lw_gd_of (i := 396) (by decide +kernel) rfl
theorem tw_340 : (.code y_AL_insert b_AL_insert 5 none : Cond) ∈ lw_gd := lw_gd_of (i := 397) (by decide +kernel) rfl
theorem tw_341 : (Cond.methodLink R_AM (154 : Nat) y_ET_read) ∈ lw_gd := lw_gd_of (i := 398) (by decide +kernel) rfl
theorem tw_342 : (Cond.instanceMethod y_ET_read) ∈ lw_gd := lw_gd_of (i := 399) (by decide +kernel) rfl
theorem tw_343 : (Cond.selects R_ET y_ET_read y_ET_read) ∈ lw_gd := lw_gd_of (i := 400) (by decide +kernel) rfl
theorem tw_344 : (.code y_ET_read b_ET_read 7 none : Cond) ∈ lw_gd := lw_gd_of (i := 401) (by decide +kernel) rfl
theorem tw_345 : (Cond.methodLink R_ET (26 : Nat) y_CR_size) ∈ lw_gd := lw_gd_of (i := 402) (by decide +kernel) rfl
theorem tw_346 : (Cond.methodLink R_ET (32 : Nat) y_JM_min) ∈ lw_gd := lw_gd_of (i := 403) (by decide +kernel) rfl
theorem tw_347 : (Cond.methodLink R_ET (38 : Nat) y_AL_size) ∈ lw_gd := lw_gd_of (i := 404) (by decide +kernel) rfl
theorem tw_348 : (Cond.instanceMethod y_AL_size) ∈ lw_gd := lw_gd_of (i := 405) (by decide +kernel) rfl
theorem tw_349 : (Cond.selects R_AL y_AL_size y_AL_size) ∈ lw_gd := lw_gd_of (i := 406) (by decide +kernel) rfl
theorem tw_350 : (.code y_AL_size b_AL_size 1 (some .int) : Cond) ∈ lw_gd := lw_gd_of (i := 407) (by decide +kernel) rfl
theorem tw_351 : (Cond.methodLink R_ET (41 : Nat) y_JA_fill) ∈ lw_gd := lw_gd_of (i := 408) (by decide +kernel) rfl
theorem tw_352 : (Cond.methodLink R_ET (47 : Nat) y_CR_lowerIn) ∈ lw_gd := lw_gd_of (i := 409) (by decide +kernel) rfl
theorem tw_353 : (Cond.methodLink R_ET (51 : Nat) y_AL_numberAt) ∈ lw_gd := lw_gd_of (i := 410) (by decide +kernel) rfl
theorem tw_354 : (Cond.instanceMethod y_AL_numberAt) ∈ lw_gd := lw_gd_of (i := 411) (by decide +kernel) rfl
theorem tw_355 : (Cond.selects R_AL y_AL_numberAt y_AL_numberAt) ∈ lw_gd := lw_gd_of (i := 412) (by decide +kernel) rfl
theorem tw_356 : (.code y_AL_numberAt b_AL_numberAt 3 (some .int) : Cond) ∈ lw_gd := lw_gd_of (i := 413) (by decide +kernel) rfl
theorem tw_357 : (Cond.methodLink R_ET (54 : Nat) y_CR_lowerOut) ∈ lw_gd := lw_gd_of (i := 414) (by decide +kernel) rfl
theorem tw_358 : (Cond.instanceMethod y_CR_lowerOut) ∈ lw_gd := lw_gd_of (i := 415) (by decide +kernel) rfl
theorem tw_359 : (Cond.selects R_CR y_CR_lowerOut y_CR_lowerOut) ∈ lw_gd := lw_gd_of (i := 416) (by decide +kernel) rfl
theorem tw_360 : (.code y_CR_lowerOut b_CR_lowerOut 2 (some .int) : Cond) ∈ lw_gd := lw_gd_of (i := 417) (by decide +kernel) rfl
theorem tw_361 : (Cond.methodLink R_ET (57 : Nat) y_CR_signOf) ∈ lw_gd := lw_gd_of (i := 418) (by decide +kernel) rfl
theorem tw_362 : (Cond.methodLink R_ET (60 : Nat) y_ET_add) ∈ lw_gd := lw_gd_of (i := 419) (by decide +kernel) rfl
theorem tw_364 : (Cond.instanceMethod y_ET_add) ∈ lw_gd := lw_gd_of (i := 421) (by decide +kernel) rfl
theorem tw_365 : (.code y_ET_add b_ET_add 5 none : Cond) ∈ lw_gd := lw_gd_of (i := 422) (by decide +kernel) rfl
theorem tw_366 : (Cond.methodLink R_ET (67 : Nat) y_ET_has) ∈ lw_gd := lw_gd_of (i := 423) (by decide +kernel) rfl
theorem tw_367 : (Cond.instanceMethod y_ET_has) ∈ lw_gd := lw_gd_of (i := 424) (by decide +kernel) rfl
theorem tw_368 : (Cond.selects R_ET y_ET_has y_ET_has) ∈ lw_gd := lw_gd_of (i := 425) (by decide +kernel) rfl
theorem tw_369 : (.code y_ET_has b_ET_has 3 (some .boolean) : Cond) ∈ lw_gd := lw_gd_of (i := 426) (by decide +kernel) rfl
theorem tw_370 : (Cond.methodLink R_ET (64 : Nat) y_CR_upperIn) ∈ lw_gd := lw_gd_of (i := 427) (by decide +kernel) rfl
theorem tw_371 : (Cond.methodLink R_AM (157 : Nat) y_MT_forget) ∈ lw_gd := lw_gd_of (i := 428) (by decide +kernel) rfl
theorem tw_372 : (Cond.instanceMethod y_MT_forget) ∈ lw_gd := lw_gd_of (i := 429) (by decide +kernel) rfl
theorem tw_373 : (Cond.selects R_MT y_MT_forget y_MT_forget) ∈ lw_gd := lw_gd_of (i := 430) (by decide +kernel) rfl
theorem tw_374 : (.code y_MT_forget b_MT_forget 1 none : Cond) ∈ lw_gd := lw_gd_of (i := 431) (by decide +kernel) rfl
theorem tw_375 : (Cond.methodLink R_AM (88 : Nat) y_CR_clear) ∈ lw_gd := lw_gd_of (i := 432) (by decide +kernel) rfl
theorem tw_376 : (Cond.instanceMethod y_CR_clear) ∈ lw_gd := lw_gd_of (i := 433) (by decide +kernel) rfl
theorem tw_377 : (Cond.selects R_CR y_CR_clear y_CR_clear) ∈ lw_gd := lw_gd_of (i := 434) (by decide +kernel) rfl
theorem tw_378 : (.code y_CR_clear b_CR_clear 1 none : Cond) ∈ lw_gd := lw_gd_of (i := 435) (by decide +kernel) rfl
theorem tw_379 : (Cond.methodLink "AlexanderMatrixLaw" (23 : Nat) y_AM_many) ∈ lw_gd := lw_gd_of (i := 436) (by decide +kernel) rfl
theorem tw_380 : (Cond.instanceMethod y_AM_many) ∈ lw_gd := lw_gd_of (i := 437) (by decide +kernel) rfl
theorem tw_381 : (Cond.selects R_AM y_AM_many y_AM_many) ∈ lw_gd := lw_gd_of (i := 438) (by decide +kernel) rfl
theorem tw_382 : (.code y_AM_many b_AM_many 2 (some .long) : Cond) ∈ lw_gd := lw_gd_of (i := 439) (by decide +kernel) rfl
theorem tw_383 : (Cond.methodLink R_AM (91 : Nat) y_CR_size) ∈ lw_gd := lw_gd_of (i := 440) (by decide +kernel) rfl
theorem tw_384 : (Cond.methodLink R_AM (95 : Nat) y_AL_size) ∈ lw_gd := lw_gd_of (i := 441) (by decide +kernel) rfl
theorem tw_385 : (Cond.methodLink R_AM (96 : Nat) y_AM_normalForm) ∈ lw_gd := lw_gd_of (i := 442) (by decide +kernel) rfl
theorem tw_387 : (Cond.instanceMethod y_AM_normalForm) ∈ lw_gd := lw_gd_of (i := 444) (by decide +kernel) rfl
theorem tw_388 : (.code y_AM_normalForm b_AM_normalForm 2 (some (.object "AlexanderMatrix$Polynomial")) : Cond) ∈ lw_gd := lw_gd_of (i := 445) (by decide +kernel) rfl
theorem tw_389 : (Cond.methodLink R_AM (160 : Nat) y_ET_rows) ∈ lw_gd := lw_gd_of (i := 446) (by decide +kernel) rfl
theorem tw_390 : (Cond.instanceMethod y_ET_rows) ∈ lw_gd := lw_gd_of (i := 447) (by decide +kernel) rfl
theorem tw_391 : (Cond.selects R_ET y_ET_rows y_ET_rows) ∈ lw_gd := lw_gd_of (i := 448) (by decide +kernel) rfl
theorem tw_392 : (.code y_ET_rows b_ET_rows 1 (some .int) : Cond) ∈ lw_gd := lw_gd_of (i := 449) (by decide +kernel) rfl
theorem tw_393 : (Cond.methodLink R_AM (163 : Nat) y_ET_columns) ∈ lw_gd := lw_gd_of (i := 450) (by decide +kernel) rfl
theorem tw_394 : (Cond.instanceMethod y_ET_columns) ∈ lw_gd := lw_gd_of (i := 451) (by decide +kernel) rfl
theorem tw_395 : (Cond.selects R_ET y_ET_columns y_ET_columns) ∈ lw_gd := lw_gd_of (i := 452) (by decide +kernel) rfl
theorem tw_396 : (.code y_ET_columns b_ET_columns 1 (some .int) : Cond) ∈ lw_gd := lw_gd_of (i := 453) (by decide +kernel) rfl
theorem tw_397 : (Cond.methodLink R_AM (123 : Nat) y_MT_take) ∈ lw_gd := lw_gd_of (i := 454) (by decide +kernel) rfl
theorem tw_398 : (Cond.instanceMethod y_MT_take) ∈ lw_gd := lw_gd_of (i := 455) (by decide +kernel) rfl
theorem tw_399 : (Cond.selects R_MT y_MT_take y_MT_take) ∈ lw_gd := lw_gd_of (i := 456) (by decide +kernel) rfl
theorem tw_400 : (.code y_MT_take b_MT_take 7 (some (.object "AlexanderMatrix$Polynomial")) : Cond) ∈ lw_gd := lw_gd_of (i := 457) (by decide +kernel) rfl
theorem tw_401 : (Cond.methodLink R_MT (34 : Nat) y_PO_setZero) ∈ lw_gd := lw_gd_of (i := 458) (by decide +kernel) rfl
theorem tw_402 : (Cond.methodLink R_MT (37 : Nat) y_ET_rows) ∈ lw_gd := lw_gd_of (i := 459) (by decide +kernel) rfl
theorem tw_403 : (Cond.methodLink R_MT (43 : Nat) y_ET_columns) ∈ lw_gd := lw_gd_of (i := 460) (by decide +kernel) rfl
theorem tw_404 : (Cond.methodLink R_MT (46 : Nat) y_MT_fillCells) ∈ lw_gd := lw_gd_of (i := 461) (by decide +kernel) rfl
theorem tw_406 : (Cond.instanceMethod y_MT_fillCells) ∈ lw_gd := lw_gd_of (i := 463) (by decide +kernel) rfl
theorem tw_407 : (.code y_MT_fillCells b_MT_fillCells 7 none : Cond) ∈ lw_gd := lw_gd_of (i := 464) (by decide +kernel) rfl
theorem tw_408 : (Cond.methodLink R_MT (54 : Nat) y_ET_constantAt) ∈ lw_gd := lw_gd_of (i := 465) (by decide +kernel) rfl
theorem tw_409 : (Cond.instanceMethod y_ET_constantAt) ∈ lw_gd := lw_gd_of (i := 466) (by decide +kernel) rfl
theorem tw_410 : (Cond.selects R_ET y_ET_constantAt y_ET_constantAt) ∈ lw_gd := lw_gd_of (i := 467) (by decide +kernel) rfl
theorem tw_411 : (.code y_ET_constantAt b_ET_constantAt 3 (some .int) : Cond) ∈ lw_gd := lw_gd_of (i := 468) (by decide +kernel) rfl
theorem tw_412 : (Cond.methodLink R_MT (58 : Nat) y_ET_slopeAt) ∈ lw_gd := lw_gd_of (i := 469) (by decide +kernel) rfl
theorem tw_413 : (Cond.instanceMethod y_ET_slopeAt) ∈ lw_gd := lw_gd_of (i := 470) (by decide +kernel) rfl
theorem tw_414 : (Cond.selects R_ET y_ET_slopeAt y_ET_slopeAt) ∈ lw_gd := lw_gd_of (i := 471) (by decide +kernel) rfl
theorem tw_415 : (.code y_ET_slopeAt b_ET_slopeAt 3 (some .int) : Cond) ∈ lw_gd := lw_gd_of (i := 472) (by decide +kernel) rfl
theorem tw_416 : (Cond.methodLink R_MT (61 : Nat) y_DT_put) ∈ lw_gd := lw_gd_of (i := 473) (by decide +kernel) rfl
theorem tw_417 : (Cond.instanceMethod y_DT_put) ∈ lw_gd := lw_gd_of (i := 474) (by decide +kernel) rfl
theorem tw_418 : (Cond.selects R_DT y_DT_put y_DT_put) ∈ lw_gd := lw_gd_of (i := 475) (by decide +kernel) rfl
theorem tw_419 : (.code y_DT_put b_DT_put 5 none : Cond) ∈ lw_gd := lw_gd_of (i := 476) (by decide +kernel) rfl
theorem tw_420 : (Cond.methodLink R_DT (29 : Nat) y_DT_isInside) ∈ lw_gd := lw_gd_of (i := 477) (by decide +kernel) rfl
theorem tw_421 : (Cond.static y_DT_isInside) ∈ lw_gd := lw_gd_of (i := 478) (by decide +kernel) rfl
theorem tw_422 : (.code y_DT_isInside b_DT_isInside 1 (some .boolean) : Cond) ∈ lw_gd := lw_gd_of (i := 479) (by decide +kernel) rfl
theorem tw_423 : (Cond.methodLink R_DT (33 : Nat) y_DT_cell) ∈ lw_gd := lw_gd_of (i := 480) (by decide +kernel) rfl
theorem tw_425 : (Cond.instanceMethod y_DT_cell) ∈ lw_gd := lw_gd_of (i := 482) (by decide +kernel) rfl
theorem tw_426 : (.code y_DT_cell b_DT_cell 3 (some (.object "AlexanderMatrix$Polynomial")) : Cond) ∈ lw_gd := lw_gd_of (i := 483) (by decide +kernel) rfl
theorem tw_427 : (Cond.methodLink R_MT (50 : Nat) y_DT_evaluate) ∈ lw_gd := lw_gd_of (i := 484) (by decide +kernel) rfl
theorem tw_428 : (Cond.instanceMethod y_DT_evaluate) ∈ lw_gd := lw_gd_of (i := 485) (by decide +kernel) rfl
theorem tw_429 : (Cond.selects R_DT y_DT_evaluate y_DT_evaluate) ∈ lw_gd := lw_gd_of (i := 486) (by decide +kernel) rfl
theorem tw_430 : (.code y_DT_evaluate b_DT_evaluate 7 none : Cond) ∈ lw_gd := lw_gd_of (i := 487) (by decide +kernel) rfl
theorem tw_431 : (Cond.methodLink R_DT (37 : Nat) y_PO_setZero) ∈ lw_gd := lw_gd_of (i := 488) (by decide +kernel) rfl
theorem tw_432 : (Cond.methodLink R_DT (40 : Nat) y_DT_findPivot) ∈ lw_gd := lw_gd_of (i := 489) (by decide +kernel) rfl
theorem tw_434 : (Cond.instanceMethod y_DT_findPivot) ∈ lw_gd := lw_gd_of (i := 491) (by decide +kernel) rfl
theorem tw_435 : (.code y_DT_findPivot b_DT_findPivot 4 (some .int) : Cond) ∈ lw_gd := lw_gd_of (i := 492) (by decide +kernel) rfl
theorem tw_436 : (Cond.methodLink R_DT (58 : Nat) y_PO_isZero) ∈ lw_gd := lw_gd_of (i := 493) (by decide +kernel) rfl
theorem tw_437 : (Cond.instanceMethod y_PO_isZero) ∈ lw_gd := lw_gd_of (i := 494) (by decide +kernel) rfl
theorem tw_438 : (Cond.selects R_PO y_PO_isZero y_PO_isZero) ∈ lw_gd := lw_gd_of (i := 495) (by decide +kernel) rfl
theorem tw_439 : (.code y_PO_isZero b_PO_isZero 1 (some .boolean) : Cond) ∈ lw_gd := lw_gd_of (i := 496) (by decide +kernel) rfl
theorem tw_440 : (Cond.methodLink R_DT (44 : Nat) y_DT_exchangeRows) ∈ lw_gd := lw_gd_of (i := 497) (by decide +kernel) rfl
theorem tw_442 : (Cond.instanceMethod y_DT_exchangeRows) ∈ lw_gd := lw_gd_of (i := 499) (by decide +kernel) rfl
theorem tw_443 : (.code y_DT_exchangeRows b_DT_exchangeRows 7 none : Cond) ∈ lw_gd := lw_gd_of (i := 500) (by decide +kernel) rfl
theorem tw_444 : (Cond.methodLink R_DT (48 : Nat) y_DT_clearBelow) ∈ lw_gd := lw_gd_of (i := 501) (by decide +kernel) rfl
theorem tw_446 : (Cond.instanceMethod y_DT_clearBelow) ∈ lw_gd := lw_gd_of (i := 503) (by decide +kernel) rfl
theorem tw_447 : (.code y_DT_clearBelow b_DT_clearBelow 9 none : Cond) ∈ lw_gd := lw_gd_of (i := 504) (by decide +kernel) rfl
theorem tw_448 : (Cond.methodLink R_DT (62 : Nat) y_PO_addProduct) ∈ lw_gd := lw_gd_of (i := 505) (by decide +kernel) rfl
theorem tw_449 : (Cond.instanceMethod y_PO_addProduct) ∈ lw_gd := lw_gd_of (i := 506) (by decide +kernel) rfl
theorem tw_450 : (Cond.selects R_PO y_PO_addProduct y_PO_addProduct) ∈ lw_gd := lw_gd_of (i := 507) (by decide +kernel) rfl
theorem tw_451 : (.code y_PO_addProduct b_PO_addProduct 6 none : Cond) ∈ lw_gd := lw_gd_of (i := 508) (by decide +kernel) rfl
theorem tw_452 : (Cond.methodLink R_PO (19 : Nat) y_PO_coefficient) ∈ lw_gd := lw_gd_of (i := 509) (by decide +kernel) rfl
theorem tw_453 : (Cond.instanceMethod y_PO_coefficient) ∈ lw_gd := lw_gd_of (i := 510) (by decide +kernel) rfl
theorem tw_454 : (Cond.selects R_PO y_PO_coefficient y_PO_coefficient) ∈ lw_gd := lw_gd_of (i := 511) (by decide +kernel) rfl
theorem tw_455 : (.code y_PO_coefficient b_PO_coefficient 2 (some .long) : Cond) ∈ lw_gd := lw_gd_of (i := 512) (by decide +kernel) rfl
theorem tw_456 : (Cond.methodLink R_PO (30 : Nat) y_PO_addShifted) ∈ lw_gd := lw_gd_of (i := 513) (by decide +kernel) rfl
theorem tw_458 : (Cond.instanceMethod y_PO_addShifted) ∈ lw_gd := lw_gd_of (i := 515) (by decide +kernel) rfl
theorem tw_459 : (.code y_PO_addShifted b_PO_addShifted 9 none : Cond) ∈ lw_gd := lw_gd_of (i := 516) (by decide +kernel) rfl
theorem tw_460 : (Cond.constantLong R_DT (52 : Nat) (-1 : Int64)) ∈ lw_gd := lw_gd_of (i := 517) (by decide +kernel) rfl
theorem tw_461 : (Cond.methodLink R_DT (66 : Nat) y_PO_setQuotient) ∈ lw_gd := lw_gd_of (i := 518) (by decide +kernel) rfl
theorem tw_462 : (Cond.instanceMethod y_PO_setQuotient) ∈ lw_gd := lw_gd_of (i := 519) (by decide +kernel) rfl
theorem tw_463 : (Cond.selects R_PO y_PO_setQuotient y_PO_setQuotient) ∈ lw_gd := lw_gd_of (i := 520) (by decide +kernel) rfl
theorem tw_464 : (.code y_PO_setQuotient b_PO_setQuotient 9 none : Cond) ∈ lw_gd := lw_gd_of (i := 521) (by decide +kernel) rfl
theorem tw_465 : (Cond.methodLink R_DT (54 : Nat) y_PO_setMultiple) ∈ lw_gd := lw_gd_of (i := 522) (by decide +kernel) rfl
theorem tw_466 : (Cond.instanceMethod y_PO_setMultiple) ∈ lw_gd := lw_gd_of (i := 523) (by decide +kernel) rfl
theorem tw_467 : (Cond.selects R_PO y_PO_setMultiple y_PO_setMultiple) ∈ lw_gd := lw_gd_of (i := 524) (by decide +kernel) rfl
theorem tw_468 : (.code y_PO_setMultiple b_PO_setMultiple 4 none : Cond) ∈ lw_gd := lw_gd_of (i := 525) (by decide +kernel) rfl
theorem tw_469 : (Cond.methodLink R_AM (166 : Nat) y_PO_setNormalFormOf) ∈ lw_gd := lw_gd_of (i := 526) (by decide +kernel) rfl
theorem tw_470 : (Cond.instanceMethod y_PO_setNormalFormOf) ∈ lw_gd := lw_gd_of (i := 527) (by decide +kernel) rfl
theorem tw_471 : (Cond.selects R_PO y_PO_setNormalFormOf y_PO_setNormalFormOf) ∈ lw_gd := lw_gd_of (i := 528) (by decide +kernel) rfl
theorem tw_472 : (.code y_PO_setNormalFormOf b_PO_setNormalFormOf 3 none : Cond) ∈ lw_gd := lw_gd_of (i := 529) (by decide +kernel) rfl
theorem tw_473 : (Cond.constantLong R_PO (34 : Nat) (-1 : Int64)) ∈ lw_gd := lw_gd_of (i := 530) (by decide +kernel) rfl
theorem tw_474 : (Cond.methodLink R_AM (100 : Nat) y_PO_degree) ∈ lw_gd := lw_gd_of (i := 531) (by decide +kernel) rfl
theorem tw_475 : (Cond.instanceMethod y_PO_degree) ∈ lw_gd := lw_gd_of (i := 532) (by decide +kernel) rfl
theorem tw_476 : (Cond.selects R_PO y_PO_degree y_PO_degree) ∈ lw_gd := lw_gd_of (i := 533) (by decide +kernel) rfl
theorem tw_477 : (.code y_PO_degree b_PO_degree 1 (some .int) : Cond) ∈ lw_gd := lw_gd_of (i := 534) (by decide +kernel) rfl
theorem tw_478 : (Cond.methodLink R_AM (103 : Nat) y_PO_valueAt) ∈ lw_gd := lw_gd_of (i := 535) (by decide +kernel) rfl
theorem tw_479 : (Cond.instanceMethod y_PO_valueAt) ∈ lw_gd := lw_gd_of (i := 536) (by decide +kernel) rfl
theorem tw_480 : (Cond.selects R_PO y_PO_valueAt y_PO_valueAt) ∈ lw_gd := lw_gd_of (i := 537) (by decide +kernel) rfl
theorem tw_481 : (.code y_PO_valueAt b_PO_valueAt 5 (some .long) : Cond) ∈ lw_gd := lw_gd_of (i := 538) (by decide +kernel) rfl
theorem tw_482 : (Cond.constantLong R_AM (107 : Nat) (-1000 : Int64)) ∈ lw_gd := lw_gd_of (i := 539) (by decide +kernel) rfl
theorem tw_483 : (Cond.methodLink "AlexanderMatrixLaw" (28 : Nat) y_AM_arc) ∈ lw_gd := lw_gd_of (i := 540) (by decide +kernel) rfl
theorem tw_484 : (Cond.instanceMethod y_AM_arc) ∈ lw_gd := lw_gd_of (i := 541) (by decide +kernel) rfl
theorem tw_485 : (Cond.selects R_AM y_AM_arc y_AM_arc) ∈ lw_gd := lw_gd_of (i := 542) (by decide +kernel) rfl
theorem tw_486 : (.code y_AM_arc b_AM_arc 2 (some .int) : Cond) ∈ lw_gd := lw_gd_of (i := 543) (by decide +kernel) rfl
theorem tw_487 : (Cond.methodLink R_AM (109 : Nat) y_AL_numberOfLabel) ∈ lw_gd := lw_gd_of (i := 544) (by decide +kernel) rfl
theorem tw_488 : (Cond.instanceMethod y_AL_numberOfLabel) ∈ lw_gd := lw_gd_of (i := 545) (by decide +kernel) rfl
theorem tw_489 : (Cond.selects R_AL y_AL_numberOfLabel y_AL_numberOfLabel) ∈ lw_gd := lw_gd_of (i := 546) (by decide +kernel) rfl
theorem tw_490 : (.code y_AL_numberOfLabel b_AL_numberOfLabel 3 (some .int) : Cond) ∈ lw_gd := lw_gd_of (i := 547) (by decide +kernel) rfl
theorem tw_491 : (Cond.methodLink R_AL (60 : Nat) y_AL_numberAt) ∈ lw_gd := lw_gd_of (i := 548) (by decide +kernel) rfl
theorem tw_492 : (Cond.methodLink "AlexanderMatrixLaw" (32 : Nat) y_AM_least) ∈ lw_gd := lw_gd_of (i := 549) (by decide +kernel) rfl
theorem tw_493 : (Cond.instanceMethod y_AM_least) ∈ lw_gd := lw_gd_of (i := 550) (by decide +kernel) rfl
theorem tw_494 : (Cond.selects R_AM y_AM_least y_AM_least) ∈ lw_gd := lw_gd_of (i := 551) (by decide +kernel) rfl
theorem tw_495 : (.code y_AM_least b_AM_least 2 (some .int) : Cond) ∈ lw_gd := lw_gd_of (i := 552) (by decide +kernel) rfl
theorem tw_496 : (Cond.methodLink R_AM (113 : Nat) y_AL_leastLabel) ∈ lw_gd := lw_gd_of (i := 553) (by decide +kernel) rfl
theorem tw_497 : (Cond.instanceMethod y_AL_leastLabel) ∈ lw_gd := lw_gd_of (i := 554) (by decide +kernel) rfl
theorem tw_498 : (Cond.selects R_AL y_AL_leastLabel y_AL_leastLabel) ∈ lw_gd := lw_gd_of (i := 555) (by decide +kernel) rfl
theorem tw_499 : (.code y_AL_leastLabel b_AL_leastLabel 2 (some .int) : Cond) ∈ lw_gd := lw_gd_of (i := 556) (by decide +kernel) rfl
theorem tw_500 : (Cond.methodLink "AlexanderMatrixLaw" (36 : Nat) y_AM_entry) ∈ lw_gd := lw_gd_of (i := 557) (by decide +kernel) rfl
theorem tw_501 : (Cond.instanceMethod y_AM_entry) ∈ lw_gd := lw_gd_of (i := 558) (by decide +kernel) rfl
theorem tw_502 : (Cond.selects R_AM y_AM_entry y_AM_entry) ∈ lw_gd := lw_gd_of (i := 559) (by decide +kernel) rfl
theorem tw_503 : (.code y_AM_entry b_AM_entry 4 (some .int) : Cond) ∈ lw_gd := lw_gd_of (i := 560) (by decide +kernel) rfl
theorem tw_504 : (Cond.methodLink R_AM (116 : Nat) y_ET_constantAt) ∈ lw_gd := lw_gd_of (i := 561) (by decide +kernel) rfl
theorem tw_505 : (Cond.methodLink R_AM (120 : Nat) y_ET_slopeAt) ∈ lw_gd := lw_gd_of (i := 562) (by decide +kernel) rfl
theorem tw_506 : (Cond.methodLink "AlexanderMatrixLaw" (41 : Nat) y_AM_minor) ∈ lw_gd := lw_gd_of (i := 563) (by decide +kernel) rfl
theorem tw_507 : (Cond.instanceMethod y_AM_minor) ∈ lw_gd := lw_gd_of (i := 564) (by decide +kernel) rfl
theorem tw_508 : (Cond.selects R_AM y_AM_minor y_AM_minor) ∈ lw_gd := lw_gd_of (i := 565) (by decide +kernel) rfl
theorem tw_509 : (.code y_AM_minor b_AM_minor 4 (some .long) : Cond) ∈ lw_gd := lw_gd_of (i := 566) (by decide +kernel) rfl
theorem tw_510 : (Cond.methodLink R_AM (127 : Nat) y_PO_coefficient) ∈ lw_gd := lw_gd_of (i := 567) (by decide +kernel) rfl
theorem tw_511 : (Cond.methodLink "AlexanderMatrixLaw" (46 : Nat) y_AM_alexander) ∈ lw_gd := lw_gd_of (i := 568) (by decide +kernel) rfl
theorem tw_512 : (Cond.instanceMethod y_AM_alexander) ∈ lw_gd := lw_gd_of (i := 569) (by decide +kernel) rfl
theorem tw_513 : (Cond.selects R_AM y_AM_alexander y_AM_alexander) ∈ lw_gd := lw_gd_of (i := 570) (by decide +kernel) rfl
theorem tw_514 : (.code y_AM_alexander b_AM_alexander 2 (some .long) : Cond) ∈ lw_gd := lw_gd_of (i := 571) (by decide +kernel) rfl
theorem tw_515 : (Cond.methodLink "AlexanderMatrixLaw" (50 : Nat) y_AM_rank) ∈ lw_gd := lw_gd_of (i := 572) (by decide +kernel) rfl
theorem tw_516 : (Cond.instanceMethod y_AM_rank) ∈ lw_gd := lw_gd_of (i := 573) (by decide +kernel) rfl
theorem tw_517 : (Cond.selects R_AM y_AM_rank y_AM_rank) ∈ lw_gd := lw_gd_of (i := 574) (by decide +kernel) rfl
theorem tw_518 : (.code y_AM_rank b_AM_rank 3 (some .int) : Cond) ∈ lw_gd := lw_gd_of (i := 575) (by decide +kernel) rfl
theorem tw_519 : (Cond.methodLink R_AM (130 : Nat) y_AM_isSmallPrime) ∈ lw_gd := lw_gd_of (i := 576) (by decide +kernel) rfl
theorem tw_520 : (Cond.static y_AM_isSmallPrime) ∈ lw_gd := lw_gd_of (i := 577) (by decide +kernel) rfl
theorem tw_521 : (.code y_AM_isSmallPrime b_AM_isSmallPrime 2 (some .boolean) : Cond) ∈ lw_gd := lw_gd_of (i := 578) (by decide +kernel) rfl
theorem tw_522 : (Cond.methodLink R_AM (133 : Nat) y_MR_rankOf) ∈ lw_gd := lw_gd_of (i := 579) (by decide +kernel) rfl
theorem tw_523 : (Cond.instanceMethod y_MR_rankOf) ∈ lw_gd := lw_gd_of (i := 580) (by decide +kernel) rfl
theorem tw_524 : (Cond.selects R_MR y_MR_rankOf y_MR_rankOf) ∈ lw_gd := lw_gd_of (i := 581) (by decide +kernel) rfl
theorem tw_525 : (.code y_MR_rankOf b_MR_rankOf 10 (some .int) : Cond) ∈ lw_gd := lw_gd_of (i := 582) (by decide +kernel) rfl
theorem tw_526 : (Cond.methodLink R_MR (16 : Nat) y_ET_rows) ∈ lw_gd := lw_gd_of (i := 583) (by decide +kernel) rfl
theorem tw_527 : (Cond.methodLink R_MR (22 : Nat) y_JM_min) ∈ lw_gd := lw_gd_of (i := 584) (by decide +kernel) rfl
theorem tw_528 : (Cond.methodLink R_MR (28 : Nat) y_ET_columns) ∈ lw_gd := lw_gd_of (i := 585) (by decide +kernel) rfl
theorem tw_529 : (Cond.methodLink R_MR (31 : Nat) y_JM_floorMod) ∈ lw_gd := lw_gd_of (i := 586) (by decide +kernel) rfl
theorem tw_530 : (Cond.static y_JM_floorMod) ∈ lw_gd := lw_gd_of (i := 587) (by decide +kernel) rfl
theorem tw_531 : (.code y_JM_floorMod b_JM_floorMod 3 (some .int) : Cond) ∈ lw_gd := lw_gd_of (i := 588) (by decide +kernel) rfl
theorem tw_532 : (Cond.methodLink R_MR (34 : Nat) y_ET_constantAt) ∈ lw_gd := lw_gd_of (i := 589) (by decide +kernel) rfl
theorem tw_533 : (Cond.methodLink R_MR (37 : Nat) y_ET_slopeAt) ∈ lw_gd := lw_gd_of (i := 590) (by decide +kernel) rfl
theorem tw_534 : (Cond.methodLink R_MR (40 : Nat) y_MR_findPivot) ∈ lw_gd := lw_gd_of (i := 591) (by decide +kernel) rfl
theorem tw_536 : (Cond.instanceMethod y_MR_findPivot) ∈ lw_gd := lw_gd_of (i := 593) (by decide +kernel) rfl
theorem tw_537 : (.code y_MR_findPivot b_MR_findPivot 5 (some .int) : Cond) ∈ lw_gd := lw_gd_of (i := 594) (by decide +kernel) rfl
theorem tw_538 : (Cond.methodLink R_MR (44 : Nat) y_MR_exchangeRows) ∈ lw_gd := lw_gd_of (i := 595) (by decide +kernel) rfl
theorem tw_540 : (Cond.instanceMethod y_MR_exchangeRows) ∈ lw_gd := lw_gd_of (i := 597) (by decide +kernel) rfl
theorem tw_541 : (.code y_MR_exchangeRows b_MR_exchangeRows 4 none : Cond) ∈ lw_gd := lw_gd_of (i := 598) (by decide +kernel) rfl
theorem tw_542 : (Cond.methodLink R_MR (48 : Nat) y_MR_clearBelow) ∈ lw_gd := lw_gd_of (i := 599) (by decide +kernel) rfl
theorem tw_544 : (Cond.instanceMethod y_MR_clearBelow) ∈ lw_gd := lw_gd_of (i := 601) (by decide +kernel) rfl
theorem tw_545 : (.code y_MR_clearBelow b_MR_clearBelow 10 none : Cond) ∈ lw_gd := lw_gd_of (i := 602) (by decide +kernel) rfl
theorem tw_546 : (Cond.methodLink "AlexanderMatrixLaw" (55 : Nat) y_AM_change) ∈ lw_gd := lw_gd_of (i := 603) (by decide +kernel) rfl
theorem tw_547 : (Cond.instanceMethod y_AM_change) ∈ lw_gd := lw_gd_of (i := 604) (by decide +kernel) rfl
theorem tw_548 : (Cond.selects R_AM y_AM_change y_AM_change) ∈ lw_gd := lw_gd_of (i := 605) (by decide +kernel) rfl
theorem tw_549 : (.code y_AM_change b_AM_change 2 (some .boolean) : Cond) ∈ lw_gd := lw_gd_of (i := 606) (by decide +kernel) rfl
theorem tw_550 : (Cond.methodLink R_AM (137 : Nat) y_CR_has) ∈ lw_gd := lw_gd_of (i := 607) (by decide +kernel) rfl
theorem tw_551 : (Cond.methodLink R_AM (140 : Nat) y_CR_swapStrands) ∈ lw_gd := lw_gd_of (i := 608) (by decide +kernel) rfl
theorem tw_552 : (Cond.instanceMethod y_CR_swapStrands) ∈ lw_gd := lw_gd_of (i := 609) (by decide +kernel) rfl
theorem tw_553 : (Cond.selects R_CR y_CR_swapStrands y_CR_swapStrands) ∈ lw_gd := lw_gd_of (i := 610) (by decide +kernel) rfl
theorem tw_554 : (.code y_CR_swapStrands b_CR_swapStrands 4 none : Cond) ∈ lw_gd := lw_gd_of (i := 611) (by decide +kernel) rfl
theorem tw_555 : (Cond.methodLink R_CR (50 : Nat) y_CR_labelAt) ∈ lw_gd := lw_gd_of (i := 612) (by decide +kernel) rfl
theorem tw_556 : (Cond.methodLink "AlexanderMatrixLaw" (60 : Nat) y_AM_smooth) ∈ lw_gd := lw_gd_of (i := 613) (by decide +kernel) rfl
theorem tw_557 : (Cond.instanceMethod y_AM_smooth) ∈ lw_gd := lw_gd_of (i := 614) (by decide +kernel) rfl
theorem tw_558 : (Cond.selects R_AM y_AM_smooth y_AM_smooth) ∈ lw_gd := lw_gd_of (i := 615) (by decide +kernel) rfl
theorem tw_559 : (.code y_AM_smooth b_AM_smooth 3 (some .boolean) : Cond) ∈ lw_gd := lw_gd_of (i := 616) (by decide +kernel) rfl
theorem tw_560 : (Cond.methodLink R_AM (144 : Nat) y_CR_closingsAt) ∈ lw_gd := lw_gd_of (i := 617) (by decide +kernel) rfl
theorem tw_561 : (Cond.instanceMethod y_CR_closingsAt) ∈ lw_gd := lw_gd_of (i := 618) (by decide +kernel) rfl
theorem tw_562 : (Cond.selects R_CR y_CR_closingsAt y_CR_closingsAt) ∈ lw_gd := lw_gd_of (i := 619) (by decide +kernel) rfl
theorem tw_563 : (.code y_CR_closingsAt b_CR_closingsAt 3 (some .int) : Cond) ∈ lw_gd := lw_gd_of (i := 620) (by decide +kernel) rfl
theorem tw_564 : (Cond.methodLink R_CR (53 : Nat) y_CR_upperOut) ∈ lw_gd := lw_gd_of (i := 621) (by decide +kernel) rfl
theorem tw_565 : (Cond.methodLink R_CR (56 : Nat) y_CR_lowerOut) ∈ lw_gd := lw_gd_of (i := 622) (by decide +kernel) rfl
theorem tw_566 : (Cond.methodLink R_AM (147 : Nat) y_CR_joinStrands) ∈ lw_gd := lw_gd_of (i := 623) (by decide +kernel) rfl
theorem tw_567 : (Cond.instanceMethod y_CR_joinStrands) ∈ lw_gd := lw_gd_of (i := 624) (by decide +kernel) rfl
theorem tw_568 : (Cond.selects R_CR y_CR_joinStrands y_CR_joinStrands) ∈ lw_gd := lw_gd_of (i := 625) (by decide +kernel) rfl
theorem tw_569 : (.code y_CR_joinStrands b_CR_joinStrands 2 none : Cond) ∈ lw_gd := lw_gd_of (i := 626) (by decide +kernel) rfl
theorem tw_570 : (Cond.methodLink R_CR (59 : Nat) y_CR_makeOne) ∈ lw_gd := lw_gd_of (i := 627) (by decide +kernel) rfl
theorem tw_572 : (Cond.instanceMethod y_CR_makeOne) ∈ lw_gd := lw_gd_of (i := 629) (by decide +kernel) rfl
theorem tw_573 : (.code y_CR_makeOne b_CR_makeOne 6 none : Cond) ∈ lw_gd := lw_gd_of (i := 630) (by decide +kernel) rfl
theorem tw_574 : (Cond.methodLink R_CR (67 : Nat) y_JM_min) ∈ lw_gd := lw_gd_of (i := 631) (by decide +kernel) rfl
theorem tw_575 : (Cond.methodLink R_CR (73 : Nat) y_JM_max) ∈ lw_gd := lw_gd_of (i := 632) (by decide +kernel) rfl
theorem tw_576 : (Cond.methodLink R_CR (63 : Nat) y_CR_remove) ∈ lw_gd := lw_gd_of (i := 633) (by decide +kernel) rfl
theorem tw_578 : (Cond.instanceMethod y_CR_remove) ∈ lw_gd := lw_gd_of (i := 635) (by decide +kernel) rfl
theorem tw_579 : (.code y_CR_remove b_CR_remove 4 none : Cond) ∈ lw_gd := lw_gd_of (i := 636) (by decide +kernel) rfl
theorem tw_580 : (Cond.classLink "AlexanderMatrixLaw" (10 : Nat) R_MM) ∈ lw_gd := lw_gd_of (i := 637) (by decide +kernel) rfl
theorem tw_581 : (Cond.instantiable R_MM (30 : Nat)) ∈ lw_gd := lw_gd_of (i := 638) (by decide +kernel) rfl
theorem tw_582 : (Cond.methodLink "AlexanderMatrixLaw" (12 : Nat) y_MM_init) ∈ lw_gd := lw_gd_of (i := 639) (by decide +kernel) rfl
theorem tw_583 : (Cond.instanceMethod y_MM_init) ∈ lw_gd := lw_gd_of (i := 640) (by decide +kernel) rfl
theorem tw_584 : (.code y_MM_init b_MM_init 1 none : Cond) ∈ lw_gd := lw_gd_of (i := 641) (by decide +kernel) rfl
theorem tw_585 : (Cond.methodLink R_MM (1 : Nat) y_JO_init) ∈ lw_gd := lw_gd_of (i := 642) (by decide +kernel) rfl
theorem tw_586 : (Cond.constant R_MM (53 : Nat) (114688 : Int32)) ∈ lw_gd := lw_gd_of (i := 643) (by decide +kernel) rfl
theorem tw_587 : (Cond.fieldLink R_MM (103 : Nat) "AlexanderMatrixModel" "put" "I") ∈ lw_gd := lw_gd_of (i := 644) (by decide +kernel) rfl
theorem tw_588 : (Cond.fieldLink R_MM (7 : Nat) "AlexanderMatrixModel" "wrong" "I") ∈ lw_gd := lw_gd_of (i := 645) (by decide +kernel) rfl
theorem tw_589 : (Cond.fieldLink R_MM (13 : Nat) "AlexanderMatrixModel" "putSign" "[I") ∈ lw_gd := lw_gd_of (i := 646) (by decide +kernel) rfl
theorem tw_590 : (Cond.fieldLink R_MM (17 : Nat) "AlexanderMatrixModel" "putLabel" "[I") ∈ lw_gd := lw_gd_of (i := 647) (by decide +kernel) rfl
theorem tw_591 : (Cond.fieldLink R_MM (73 : Nat) "AlexanderMatrixModel" "n" "I") ∈ lw_gd := lw_gd_of (i := 648) (by decide +kernel) rfl
theorem tw_592 : (Cond.fieldLink R_MM (109 : Nat) "AlexanderMatrixModel" "circles" "I") ∈ lw_gd := lw_gd_of (i := 649) (by decide +kernel) rfl
theorem tw_593 : (Cond.fieldLink R_MM (106 : Nat) "AlexanderMatrixModel" "oldN" "I") ∈ lw_gd := lw_gd_of (i := 650) (by decide +kernel) rfl
theorem tw_594 : (Cond.fieldLink R_MM (112 : Nat) "AlexanderMatrixModel" "oldCircles" "I") ∈ lw_gd := lw_gd_of (i := 651) (by decide +kernel) rfl
theorem tw_595 : (Cond.fieldLink R_MM (20 : Nat) "AlexanderMatrixModel" "sign" "[I") ∈ lw_gd := lw_gd_of (i := 652) (by decide +kernel) rfl
theorem tw_596 : (Cond.fieldLink R_MM (23 : Nat) "AlexanderMatrixModel" "label" "[I") ∈ lw_gd := lw_gd_of (i := 653) (by decide +kernel) rfl
theorem tw_597 : (Cond.fieldLink R_MM (26 : Nat) "AlexanderMatrixModel" "oldSign" "[I") ∈ lw_gd := lw_gd_of (i := 654) (by decide +kernel) rfl
theorem tw_598 : (Cond.fieldLink R_MM (29 : Nat) "AlexanderMatrixModel" "oldLabel" "[I") ∈ lw_gd := lw_gd_of (i := 655) (by decide +kernel) rfl
theorem tw_599 : (Cond.fieldLink R_MM (88 : Nat) "AlexanderMatrixModel" "labels" "I") ∈ lw_gd := lw_gd_of (i := 656) (by decide +kernel) rfl
theorem tw_600 : (Cond.fieldLink R_MM (32 : Nat) "AlexanderMatrixModel" "row" "[I") ∈ lw_gd := lw_gd_of (i := 657) (by decide +kernel) rfl
theorem tw_601 : (Cond.fieldLink R_MM (35 : Nat) "AlexanderMatrixModel" "fresh" "[I") ∈ lw_gd := lw_gd_of (i := 658) (by decide +kernel) rfl
theorem tw_602 : (Cond.fieldLink R_MM (38 : Nat) "AlexanderMatrixModel" "piece" "[I") ∈ lw_gd := lw_gd_of (i := 659) (by decide +kernel) rfl
theorem tw_603 : (Cond.fieldLink R_MM (94 : Nat) "AlexanderMatrixModel" "faces" "I") ∈ lw_gd := lw_gd_of (i := 660) (by decide +kernel) rfl
theorem tw_604 : (Cond.fieldLink R_MM (41 : Nat) "AlexanderMatrixModel" "faceOf" "[I") ∈ lw_gd := lw_gd_of (i := 661) (by decide +kernel) rfl
theorem tw_605 : (Cond.fieldLink R_MM (151 : Nat) "AlexanderMatrixModel" "arcs" "I") ∈ lw_gd := lw_gd_of (i := 662) (by decide +kernel) rfl
theorem tw_606 : (Cond.fieldLink R_MM (44 : Nat) "AlexanderMatrixModel" "arcLeast" "[I") ∈ lw_gd := lw_gd_of (i := 663) (by decide +kernel) rfl
theorem tw_607 : (Cond.fieldLink R_MM (47 : Nat) "AlexanderMatrixModel" "one" "[I") ∈ lw_gd := lw_gd_of (i := 664) (by decide +kernel) rfl
theorem tw_608 : (Cond.fieldLink R_MM (50 : Nat) "AlexanderMatrixModel" "two" "[I") ∈ lw_gd := lw_gd_of (i := 665) (by decide +kernel) rfl
theorem tw_609 : (Cond.fieldLink R_MM (54 : Nat) "AlexanderMatrixModel" "sum" "[J") ∈ lw_gd := lw_gd_of (i := 666) (by decide +kernel) rfl
theorem tw_610 : (Cond.fieldLink R_MM (181 : Nat) "AlexanderMatrixModel" "minors" "I") ∈ lw_gd := lw_gd_of (i := 667) (by decide +kernel) rfl
theorem tw_611 : (Cond.fieldLink R_MM (58 : Nat) "AlexanderMatrixModel" "all" "[J") ∈ lw_gd := lw_gd_of (i := 668) (by decide +kernel) rfl
theorem tw_612 : (Cond.fieldLink R_MM (61 : Nat) "AlexanderMatrixModel" "polynomial" "[J") ∈ lw_gd := lw_gd_of (i := 669) (by decide +kernel) rfl
theorem tw_613 : (Cond.fieldLink R_MM (64 : Nat) "AlexanderMatrixModel" "left" "[J") ∈ lw_gd := lw_gd_of (i := 670) (by decide +kernel) rfl
theorem tw_614 : (Cond.fieldLink R_MM (141 : Nat) "AlexanderMatrixModel" "known" "Z") ∈ lw_gd := lw_gd_of (i := 671) (by decide +kernel) rfl
theorem tw_615 : (Cond.fieldLink R_MM (67 : Nat) "AlexanderMatrixModel" "grid" "[I") ∈ lw_gd := lw_gd_of (i := 672) (by decide +kernel) rfl
theorem tw_677 : (Cond.methodLink "AlexanderMatrixLaw" (17 : Nat) y_MM_crossing) ∈ lw_gd := lw_gd_of (i := 734) (by decide +kernel) rfl
theorem tw_678 : (Cond.instanceMethod y_MM_crossing) ∈ lw_gd := lw_gd_of (i := 735) (by decide +kernel) rfl
theorem tw_679 : (Cond.selects R_MM y_MM_crossing y_MM_crossing) ∈ lw_gd := lw_gd_of (i := 736) (by decide +kernel) rfl
theorem tw_680 : (.code y_MM_crossing b_MM_crossing 7 (some .int) : Cond) ∈ lw_gd := lw_gd_of (i := 737) (by decide +kernel) rfl
theorem tw_681 : (Cond.methodLink "AlexanderMatrixLaw" (22 : Nat) y_MM_check) ∈ lw_gd := lw_gd_of (i := 738) (by decide +kernel) rfl
theorem tw_682 : (Cond.instanceMethod y_MM_check) ∈ lw_gd := lw_gd_of (i := 739) (by decide +kernel) rfl
theorem tw_683 : (Cond.selects R_MM y_MM_check y_MM_check) ∈ lw_gd := lw_gd_of (i := 740) (by decide +kernel) rfl
theorem tw_684 : (.code y_MM_check b_MM_check 3 (some .int) : Cond) ∈ lw_gd := lw_gd_of (i := 741) (by decide +kernel) rfl
theorem tw_685 : (Cond.methodLink R_MM (132 : Nat) y_MM_take) ∈ lw_gd := lw_gd_of (i := 742) (by decide +kernel) rfl
theorem tw_687 : (Cond.instanceMethod y_MM_take) ∈ lw_gd := lw_gd_of (i := 744) (by decide +kernel) rfl
theorem tw_688 : (.code y_MM_take b_MM_take 2 none : Cond) ∈ lw_gd := lw_gd_of (i := 745) (by decide +kernel) rfl
theorem tw_689 : (Cond.methodLink R_MM (135 : Nat) y_MM_fault) ∈ lw_gd := lw_gd_of (i := 746) (by decide +kernel) rfl
theorem tw_691 : (Cond.instanceMethod y_MM_fault) ∈ lw_gd := lw_gd_of (i := 748) (by decide +kernel) rfl
theorem tw_692 : (.code y_MM_fault b_MM_fault 1 (some .int) : Cond) ∈ lw_gd := lw_gd_of (i := 749) (by decide +kernel) rfl
theorem tw_693 : (Cond.methodLink R_MM (124 : Nat) y_MM_badLabel) ∈ lw_gd := lw_gd_of (i := 750) (by decide +kernel) rfl
theorem tw_695 : (Cond.instanceMethod y_MM_badLabel) ∈ lw_gd := lw_gd_of (i := 752) (by decide +kernel) rfl
theorem tw_696 : (.code y_MM_badLabel b_MM_badLabel 5 (some .int) : Cond) ∈ lw_gd := lw_gd_of (i := 753) (by decide +kernel) rfl
theorem tw_697 : (Cond.methodLink R_MM (91 : Nat) y_MM_sort) ∈ lw_gd := lw_gd_of (i := 754) (by decide +kernel) rfl
theorem tw_699 : (Cond.instanceMethod y_MM_sort) ∈ lw_gd := lw_gd_of (i := 756) (by decide +kernel) rfl
theorem tw_700 : (.code y_MM_sort b_MM_sort 4 none : Cond) ∈ lw_gd := lw_gd_of (i := 757) (by decide +kernel) rfl
theorem tw_701 : (Cond.methodLink R_MM (80 : Nat) y_MM_placeOf) ∈ lw_gd := lw_gd_of (i := 758) (by decide +kernel) rfl
theorem tw_703 : (Cond.instanceMethod y_MM_placeOf) ∈ lw_gd := lw_gd_of (i := 760) (by decide +kernel) rfl
theorem tw_704 : (.code y_MM_placeOf b_MM_placeOf 5 (some .int) : Cond) ∈ lw_gd := lw_gd_of (i := 761) (by decide +kernel) rfl
theorem tw_705 : (Cond.methodLink R_MM (76 : Nat) y_MM_isOut) ∈ lw_gd := lw_gd_of (i := 762) (by decide +kernel) rfl
theorem tw_707 : (Cond.instanceMethod y_MM_isOut) ∈ lw_gd := lw_gd_of (i := 764) (by decide +kernel) rfl
theorem tw_708 : (.code y_MM_isOut b_MM_isOut 3 (some .boolean) : Cond) ∈ lw_gd := lw_gd_of (i := 765) (by decide +kernel) rfl
theorem tw_709 : (Cond.methodLink R_MM (128 : Nat) y_MM_badPiece) ∈ lw_gd := lw_gd_of (i := 766) (by decide +kernel) rfl
theorem tw_711 : (Cond.instanceMethod y_MM_badPiece) ∈ lw_gd := lw_gd_of (i := 768) (by decide +kernel) rfl
theorem tw_712 : (.code y_MM_badPiece b_MM_badPiece 5 (some .int) : Cond) ∈ lw_gd := lw_gd_of (i := 769) (by decide +kernel) rfl
theorem tw_713 : (Cond.methodLink R_MM (115 : Nat) y_MM_hang) ∈ lw_gd := lw_gd_of (i := 770) (by decide +kernel) rfl
theorem tw_715 : (Cond.instanceMethod y_MM_hang) ∈ lw_gd := lw_gd_of (i := 772) (by decide +kernel) rfl
theorem tw_716 : (.code y_MM_hang b_MM_hang 4 none : Cond) ∈ lw_gd := lw_gd_of (i := 773) (by decide +kernel) rfl
theorem tw_717 : (Cond.methodLink R_MM (118 : Nat) y_MM_findFaces) ∈ lw_gd := lw_gd_of (i := 774) (by decide +kernel) rfl
theorem tw_719 : (Cond.instanceMethod y_MM_findFaces) ∈ lw_gd := lw_gd_of (i := 776) (by decide +kernel) rfl
theorem tw_720 : (.code y_MM_findFaces b_MM_findFaces 4 none : Cond) ∈ lw_gd := lw_gd_of (i := 777) (by decide +kernel) rfl
theorem tw_721 : (Cond.methodLink R_MM (97 : Nat) y_MM_rowOf) ∈ lw_gd := lw_gd_of (i := 778) (by decide +kernel) rfl
theorem tw_723 : (Cond.instanceMethod y_MM_rowOf) ∈ lw_gd := lw_gd_of (i := 780) (by decide +kernel) rfl
theorem tw_724 : (.code y_MM_rowOf b_MM_rowOf 3 (some .int) : Cond) ∈ lw_gd := lw_gd_of (i := 781) (by decide +kernel) rfl
theorem tw_725 : (Cond.methodLink R_MM (100 : Nat) y_MM_turn) ∈ lw_gd := lw_gd_of (i := 782) (by decide +kernel) rfl
theorem tw_727 : (Cond.instanceMethod y_MM_turn) ∈ lw_gd := lw_gd_of (i := 784) (by decide +kernel) rfl
theorem tw_728 : (.code y_MM_turn b_MM_turn 4 (some .int) : Cond) ∈ lw_gd := lw_gd_of (i := 785) (by decide +kernel) rfl
theorem tw_729 : (Cond.methodLink R_MM (121 : Nat) y_MM_facesAt) ∈ lw_gd := lw_gd_of (i := 786) (by decide +kernel) rfl
theorem tw_731 : (Cond.instanceMethod y_MM_facesAt) ∈ lw_gd := lw_gd_of (i := 788) (by decide +kernel) rfl
theorem tw_732 : (.code y_MM_facesAt b_MM_facesAt 6 (some .int) : Cond) ∈ lw_gd := lw_gd_of (i := 789) (by decide +kernel) rfl
theorem tw_733 : (Cond.methodLink R_MM (138 : Nat) y_MM_back) ∈ lw_gd := lw_gd_of (i := 790) (by decide +kernel) rfl
theorem tw_735 : (Cond.instanceMethod y_MM_back) ∈ lw_gd := lw_gd_of (i := 792) (by decide +kernel) rfl
theorem tw_736 : (.code y_MM_back b_MM_back 2 none : Cond) ∈ lw_gd := lw_gd_of (i := 793) (by decide +kernel) rfl
theorem tw_737 : (Cond.methodLink "AlexanderMatrixLaw" (27 : Nat) y_MM_many) ∈ lw_gd := lw_gd_of (i := 794) (by decide +kernel) rfl
theorem tw_738 : (Cond.instanceMethod y_MM_many) ∈ lw_gd := lw_gd_of (i := 795) (by decide +kernel) rfl
theorem tw_739 : (Cond.selects R_MM y_MM_many y_MM_many) ∈ lw_gd := lw_gd_of (i := 796) (by decide +kernel) rfl
theorem tw_740 : (.code y_MM_many b_MM_many 2 (some .long) : Cond) ∈ lw_gd := lw_gd_of (i := 797) (by decide +kernel) rfl
theorem tw_741 : (Cond.methodLink R_MM (198 : Nat) y_MM_know) ∈ lw_gd := lw_gd_of (i := 798) (by decide +kernel) rfl
theorem tw_743 : (Cond.instanceMethod y_MM_know) ∈ lw_gd := lw_gd_of (i := 800) (by decide +kernel) rfl
theorem tw_744 : (.code y_MM_know b_MM_know 7 none : Cond) ∈ lw_gd := lw_gd_of (i := 801) (by decide +kernel) rfl
theorem tw_745 : (Cond.methodLink R_MM (178 : Nat) y_MM_fill) ∈ lw_gd := lw_gd_of (i := 802) (by decide +kernel) rfl
theorem tw_747 : (Cond.instanceMethod y_MM_fill) ∈ lw_gd := lw_gd_of (i := 804) (by decide +kernel) rfl
theorem tw_748 : (.code y_MM_fill b_MM_fill 5 none : Cond) ∈ lw_gd := lw_gd_of (i := 805) (by decide +kernel) rfl
theorem tw_749 : (Cond.methodLink R_MM (157 : Nat) y_MM_findArcs) ∈ lw_gd := lw_gd_of (i := 806) (by decide +kernel) rfl
theorem tw_751 : (Cond.instanceMethod y_MM_findArcs) ∈ lw_gd := lw_gd_of (i := 808) (by decide +kernel) rfl
theorem tw_752 : (.code y_MM_findArcs b_MM_findArcs 2 none : Cond) ∈ lw_gd := lw_gd_of (i := 809) (by decide +kernel) rfl
theorem tw_753 : (Cond.methodLink R_MM (154 : Nat) y_MM_arcOf) ∈ lw_gd := lw_gd_of (i := 810) (by decide +kernel) rfl
theorem tw_755 : (Cond.instanceMethod y_MM_arcOf) ∈ lw_gd := lw_gd_of (i := 812) (by decide +kernel) rfl
theorem tw_756 : (.code y_MM_arcOf b_MM_arcOf 6 (some .int) : Cond) ∈ lw_gd := lw_gd_of (i := 813) (by decide +kernel) rfl
theorem tw_757 : (Cond.methodLink R_MM (145 : Nat) y_MM_isUpper) ∈ lw_gd := lw_gd_of (i := 814) (by decide +kernel) rfl
theorem tw_758 : (Cond.static y_MM_isUpper) ∈ lw_gd := lw_gd_of (i := 815) (by decide +kernel) rfl
theorem tw_759 : (.code y_MM_isUpper b_MM_isUpper 1 (some .boolean) : Cond) ∈ lw_gd := lw_gd_of (i := 816) (by decide +kernel) rfl
theorem tw_760 : (Cond.methodLink R_MM (84 : Nat) y_MM_across) ∈ lw_gd := lw_gd_of (i := 817) (by decide +kernel) rfl
theorem tw_761 : (Cond.static y_MM_across) ∈ lw_gd := lw_gd_of (i := 818) (by decide +kernel) rfl
theorem tw_762 : (.code y_MM_across b_MM_across 1 (some .int) : Cond) ∈ lw_gd := lw_gd_of (i := 819) (by decide +kernel) rfl
theorem tw_763 : (Cond.methodLink R_MM (148 : Nat) y_MM_next) ∈ lw_gd := lw_gd_of (i := 820) (by decide +kernel) rfl
theorem tw_765 : (Cond.instanceMethod y_MM_next) ∈ lw_gd := lw_gd_of (i := 822) (by decide +kernel) rfl
theorem tw_766 : (.code y_MM_next b_MM_next 2 (some .int) : Cond) ∈ lw_gd := lw_gd_of (i := 823) (by decide +kernel) rfl
theorem tw_767 : (Cond.methodLink R_MM (160 : Nat) y_MM_arcNumber) ∈ lw_gd := lw_gd_of (i := 824) (by decide +kernel) rfl
theorem tw_769 : (Cond.instanceMethod y_MM_arcNumber) ∈ lw_gd := lw_gd_of (i := 826) (by decide +kernel) rfl
theorem tw_770 : (.code y_MM_arcNumber b_MM_arcNumber 4 (some .int) : Cond) ∈ lw_gd := lw_gd_of (i := 827) (by decide +kernel) rfl
theorem tw_771 : (Cond.methodLink R_MM (163 : Nat) y_MM_addEntry) ∈ lw_gd := lw_gd_of (i := 828) (by decide +kernel) rfl
theorem tw_773 : (Cond.instanceMethod y_MM_addEntry) ∈ lw_gd := lw_gd_of (i := 830) (by decide +kernel) rfl
theorem tw_774 : (.code y_MM_addEntry b_MM_addEntry 5 none : Cond) ∈ lw_gd := lw_gd_of (i := 831) (by decide +kernel) rfl
theorem tw_775 : (Cond.methodLink R_MM (184 : Nat) y_MM_sumUp) ∈ lw_gd := lw_gd_of (i := 832) (by decide +kernel) rfl
theorem tw_777 : (Cond.instanceMethod y_MM_sumUp) ∈ lw_gd := lw_gd_of (i := 834) (by decide +kernel) rfl
theorem tw_778 : (.code y_MM_sumUp b_MM_sumUp 6 none : Cond) ∈ lw_gd := lw_gd_of (i := 835) (by decide +kernel) rfl
theorem tw_779 : (Cond.methodLink R_MM (167 : Nat) y_MM_bits) ∈ lw_gd := lw_gd_of (i := 836) (by decide +kernel) rfl
theorem tw_780 : (Cond.static y_MM_bits) ∈ lw_gd := lw_gd_of (i := 837) (by decide +kernel) rfl
theorem tw_781 : (.code y_MM_bits b_MM_bits 3 (some .int) : Cond) ∈ lw_gd := lw_gd_of (i := 838) (by decide +kernel) rfl
theorem tw_782 : (Cond.methodLink R_MM (174 : Nat) y_MM_carry) ∈ lw_gd := lw_gd_of (i := 839) (by decide +kernel) rfl
theorem tw_784 : (Cond.instanceMethod y_MM_carry) ∈ lw_gd := lw_gd_of (i := 841) (by decide +kernel) rfl
theorem tw_785 : (.code y_MM_carry b_MM_carry 11 none : Cond) ∈ lw_gd := lw_gd_of (i := 842) (by decide +kernel) rfl
theorem tw_786 : (Cond.methodLink R_MM (170 : Nat) y_MM_behind) ∈ lw_gd := lw_gd_of (i := 843) (by decide +kernel) rfl
theorem tw_787 : (Cond.static y_MM_behind) ∈ lw_gd := lw_gd_of (i := 844) (by decide +kernel) rfl
theorem tw_788 : (.code y_MM_behind b_MM_behind 2 (some .int) : Cond) ∈ lw_gd := lw_gd_of (i := 845) (by decide +kernel) rfl
theorem tw_789 : (Cond.methodLink R_MM (188 : Nat) y_MM_findDivisor) ∈ lw_gd := lw_gd_of (i := 846) (by decide +kernel) rfl
theorem tw_791 : (Cond.instanceMethod y_MM_findDivisor) ∈ lw_gd := lw_gd_of (i := 848) (by decide +kernel) rfl
theorem tw_792 : (.code y_MM_findDivisor b_MM_findDivisor 5 none : Cond) ∈ lw_gd := lw_gd_of (i := 849) (by decide +kernel) rfl
theorem tw_793 : (Cond.methodLink R_MM (191 : Nat) y_MM_lowest) ∈ lw_gd := lw_gd_of (i := 850) (by decide +kernel) rfl
theorem tw_795 : (Cond.instanceMethod y_MM_lowest) ∈ lw_gd := lw_gd_of (i := 852) (by decide +kernel) rfl
theorem tw_796 : (.code y_MM_lowest b_MM_lowest 3 (some .int) : Cond) ∈ lw_gd := lw_gd_of (i := 853) (by decide +kernel) rfl
theorem tw_797 : (Cond.methodLink R_MM (194 : Nat) y_MM_divides) ∈ lw_gd := lw_gd_of (i := 854) (by decide +kernel) rfl
theorem tw_799 : (Cond.instanceMethod y_MM_divides) ∈ lw_gd := lw_gd_of (i := 856) (by decide +kernel) rfl
theorem tw_800 : (.code y_MM_divides b_MM_divides 11 (some .boolean) : Cond) ∈ lw_gd := lw_gd_of (i := 857) (by decide +kernel) rfl
theorem tw_801 : (Cond.methodLink R_MM (201 : Nat) y_MM_degree) ∈ lw_gd := lw_gd_of (i := 858) (by decide +kernel) rfl
theorem tw_803 : (Cond.instanceMethod y_MM_degree) ∈ lw_gd := lw_gd_of (i := 860) (by decide +kernel) rfl
theorem tw_804 : (.code y_MM_degree b_MM_degree 2 (some .int) : Cond) ∈ lw_gd := lw_gd_of (i := 861) (by decide +kernel) rfl
theorem tw_805 : (Cond.methodLink R_MM (204 : Nat) y_MM_valueAt) ∈ lw_gd := lw_gd_of (i := 862) (by decide +kernel) rfl
theorem tw_807 : (Cond.instanceMethod y_MM_valueAt) ∈ lw_gd := lw_gd_of (i := 864) (by decide +kernel) rfl
theorem tw_808 : (.code y_MM_valueAt b_MM_valueAt 5 (some .long) : Cond) ∈ lw_gd := lw_gd_of (i := 865) (by decide +kernel) rfl
theorem tw_809 : (Cond.constantLong R_MM (208 : Nat) (-1000 : Int64)) ∈ lw_gd := lw_gd_of (i := 866) (by decide +kernel) rfl
theorem tw_810 : (Cond.methodLink "AlexanderMatrixLaw" (31 : Nat) y_MM_arc) ∈ lw_gd := lw_gd_of (i := 867) (by decide +kernel) rfl
theorem tw_811 : (Cond.instanceMethod y_MM_arc) ∈ lw_gd := lw_gd_of (i := 868) (by decide +kernel) rfl
theorem tw_812 : (Cond.selects R_MM y_MM_arc y_MM_arc) ∈ lw_gd := lw_gd_of (i := 869) (by decide +kernel) rfl
theorem tw_813 : (.code y_MM_arc b_MM_arc 2 (some .int) : Cond) ∈ lw_gd := lw_gd_of (i := 870) (by decide +kernel) rfl
theorem tw_814 : (Cond.methodLink "AlexanderMatrixLaw" (35 : Nat) y_MM_least) ∈ lw_gd := lw_gd_of (i := 871) (by decide +kernel) rfl
theorem tw_815 : (Cond.instanceMethod y_MM_least) ∈ lw_gd := lw_gd_of (i := 872) (by decide +kernel) rfl
theorem tw_816 : (Cond.selects R_MM y_MM_least y_MM_least) ∈ lw_gd := lw_gd_of (i := 873) (by decide +kernel) rfl
theorem tw_817 : (.code y_MM_least b_MM_least 2 (some .int) : Cond) ∈ lw_gd := lw_gd_of (i := 874) (by decide +kernel) rfl
theorem tw_818 : (Cond.methodLink "AlexanderMatrixLaw" (40 : Nat) y_MM_entry) ∈ lw_gd := lw_gd_of (i := 875) (by decide +kernel) rfl
theorem tw_819 : (Cond.instanceMethod y_MM_entry) ∈ lw_gd := lw_gd_of (i := 876) (by decide +kernel) rfl
theorem tw_820 : (Cond.selects R_MM y_MM_entry y_MM_entry) ∈ lw_gd := lw_gd_of (i := 877) (by decide +kernel) rfl
theorem tw_821 : (.code y_MM_entry b_MM_entry 4 (some .int) : Cond) ∈ lw_gd := lw_gd_of (i := 878) (by decide +kernel) rfl
theorem tw_822 : (Cond.methodLink "AlexanderMatrixLaw" (45 : Nat) y_MM_minor) ∈ lw_gd := lw_gd_of (i := 879) (by decide +kernel) rfl
theorem tw_823 : (Cond.instanceMethod y_MM_minor) ∈ lw_gd := lw_gd_of (i := 880) (by decide +kernel) rfl
theorem tw_824 : (Cond.selects R_MM y_MM_minor y_MM_minor) ∈ lw_gd := lw_gd_of (i := 881) (by decide +kernel) rfl
theorem tw_825 : (.code y_MM_minor b_MM_minor 5 (some .long) : Cond) ∈ lw_gd := lw_gd_of (i := 882) (by decide +kernel) rfl
theorem tw_826 : (Cond.methodLink "AlexanderMatrixLaw" (49 : Nat) y_MM_alexander) ∈ lw_gd := lw_gd_of (i := 883) (by decide +kernel) rfl
theorem tw_827 : (Cond.instanceMethod y_MM_alexander) ∈ lw_gd := lw_gd_of (i := 884) (by decide +kernel) rfl
theorem tw_828 : (Cond.selects R_MM y_MM_alexander y_MM_alexander) ∈ lw_gd := lw_gd_of (i := 885) (by decide +kernel) rfl
theorem tw_829 : (.code y_MM_alexander b_MM_alexander 2 (some .long) : Cond) ∈ lw_gd := lw_gd_of (i := 886) (by decide +kernel) rfl
theorem tw_830 : (Cond.methodLink "AlexanderMatrixLaw" (54 : Nat) y_MM_rank) ∈ lw_gd := lw_gd_of (i := 887) (by decide +kernel) rfl
theorem tw_831 : (Cond.instanceMethod y_MM_rank) ∈ lw_gd := lw_gd_of (i := 888) (by decide +kernel) rfl
theorem tw_832 : (Cond.selects R_MM y_MM_rank y_MM_rank) ∈ lw_gd := lw_gd_of (i := 889) (by decide +kernel) rfl
theorem tw_833 : (.code y_MM_rank b_MM_rank 11 (some .int) : Cond) ∈ lw_gd := lw_gd_of (i := 890) (by decide +kernel) rfl
theorem tw_834 : (Cond.methodLink R_MM (210 : Nat) y_MM_isPrime) ∈ lw_gd := lw_gd_of (i := 891) (by decide +kernel) rfl
theorem tw_835 : (Cond.static y_MM_isPrime) ∈ lw_gd := lw_gd_of (i := 892) (by decide +kernel) rfl
theorem tw_836 : (.code y_MM_isPrime b_MM_isPrime 3 (some .boolean) : Cond) ∈ lw_gd := lw_gd_of (i := 893) (by decide +kernel) rfl
theorem tw_837 : (Cond.methodLink R_MM (213 : Nat) y_MM_mod) ∈ lw_gd := lw_gd_of (i := 894) (by decide +kernel) rfl
theorem tw_838 : (Cond.static y_MM_mod) ∈ lw_gd := lw_gd_of (i := 895) (by decide +kernel) rfl
theorem tw_839 : (.code y_MM_mod b_MM_mod 4 (some .int) : Cond) ∈ lw_gd := lw_gd_of (i := 896) (by decide +kernel) rfl
theorem tw_840 : (Cond.methodLink R_MM (217 : Nat) y_MM_rowWith) ∈ lw_gd := lw_gd_of (i := 897) (by decide +kernel) rfl
theorem tw_842 : (Cond.instanceMethod y_MM_rowWith) ∈ lw_gd := lw_gd_of (i := 899) (by decide +kernel) rfl
theorem tw_843 : (.code y_MM_rowWith b_MM_rowWith 5 (some .int) : Cond) ∈ lw_gd := lw_gd_of (i := 900) (by decide +kernel) rfl
theorem tw_844 : (Cond.methodLink "AlexanderMatrixLaw" (59 : Nat) y_MM_change) ∈ lw_gd := lw_gd_of (i := 901) (by decide +kernel) rfl
theorem tw_845 : (Cond.instanceMethod y_MM_change) ∈ lw_gd := lw_gd_of (i := 902) (by decide +kernel) rfl
theorem tw_846 : (Cond.selects R_MM y_MM_change y_MM_change) ∈ lw_gd := lw_gd_of (i := 903) (by decide +kernel) rfl
theorem tw_847 : (.code y_MM_change b_MM_change 4 (some .boolean) : Cond) ∈ lw_gd := lw_gd_of (i := 904) (by decide +kernel) rfl
theorem tw_848 : (Cond.methodLink R_MM (220 : Nat) y_MM_upperIn) ∈ lw_gd := lw_gd_of (i := 905) (by decide +kernel) rfl
theorem tw_850 : (Cond.instanceMethod y_MM_upperIn) ∈ lw_gd := lw_gd_of (i := 907) (by decide +kernel) rfl
theorem tw_851 : (.code y_MM_upperIn b_MM_upperIn 2 (some .int) : Cond) ∈ lw_gd := lw_gd_of (i := 908) (by decide +kernel) rfl
theorem tw_852 : (Cond.methodLink "AlexanderMatrixLaw" (63 : Nat) y_MM_smooth) ∈ lw_gd := lw_gd_of (i := 909) (by decide +kernel) rfl
theorem tw_853 : (Cond.instanceMethod y_MM_smooth) ∈ lw_gd := lw_gd_of (i := 910) (by decide +kernel) rfl
theorem tw_854 : (Cond.selects R_MM y_MM_smooth y_MM_smooth) ∈ lw_gd := lw_gd_of (i := 911) (by decide +kernel) rfl
theorem tw_855 : (.code y_MM_smooth b_MM_smooth 10 (some .boolean) : Cond) ∈ lw_gd := lw_gd_of (i := 912) (by decide +kernel) rfl
theorem tw_856 : (Cond.methodLink R_MM (227 : Nat) y_MM_join) ∈ lw_gd := lw_gd_of (i := 913) (by decide +kernel) rfl
theorem tw_858 : (Cond.instanceMethod y_MM_join) ∈ lw_gd := lw_gd_of (i := 915) (by decide +kernel) rfl
theorem tw_859 : (.code y_MM_join b_MM_join 3 none : Cond) ∈ lw_gd := lw_gd_of (i := 916) (by decide +kernel) rfl
theorem tw_860 : (Cond.methodLink R_MM (223 : Nat) y_MM_rename) ∈ lw_gd := lw_gd_of (i := 917) (by decide +kernel) rfl
theorem tw_862 : (Cond.instanceMethod y_MM_rename) ∈ lw_gd := lw_gd_of (i := 919) (by decide +kernel) rfl
theorem tw_863 : (.code y_MM_rename b_MM_rename 4 none : Cond) ∈ lw_gd := lw_gd_of (i := 920) (by decide +kernel) rfl
theorem i_AM : ∀ w ∈ u_ws R_AM F_AM 10, w ∈ lw_gd := by
  intro w hw
  obtain ⟨k, hk, rfl⟩ := List.mem_map.mp hw
  have hk := List.mem_range.mp hk
  match k, hk with
  | 0, _ => exact lw_gd_of (i := 249) (by decide +kernel) rfl
  | 1, _ => exact lw_gd_of (i := 251) (by decide +kernel) rfl
  | 2, _ => exact lw_gd_of (i := 253) (by decide +kernel) rfl
  | 3, _ => exact lw_gd_of (i := 255) (by decide +kernel) rfl
  | 4, _ => exact lw_gd_of (i := 257) (by decide +kernel) rfl
  | 5, _ => exact lw_gd_of (i := 259) (by decide +kernel) rfl
  | 6, _ => exact lw_gd_of (i := 261) (by decide +kernel) rfl
  | 7, _ => exact lw_gd_of (i := 263) (by decide +kernel) rfl
  | 8, _ => exact lw_gd_of (i := 265) (by decide +kernel) rfl
  | 9, _ => exact lw_gd_of (i := 267) (by decide +kernel) rfl
  | k + 10, hk => omega
theorem i_AL : ∀ w ∈ u_ws R_AL F_AL 5, w ∈ lw_gd := by
  intro w hw
  obtain ⟨k, hk, rfl⟩ := List.mem_map.mp hw
  have hk := List.mem_range.mp hk
  match k, hk with
  | 0, _ => exact lw_gd_of (i := 127) (by decide +kernel) rfl
  | 1, _ => exact lw_gd_of (i := 129) (by decide +kernel) rfl
  | 2, _ => exact lw_gd_of (i := 131) (by decide +kernel) rfl
  | 3, _ => exact lw_gd_of (i := 133) (by decide +kernel) rfl
  | 4, _ => exact lw_gd_of (i := 135) (by decide +kernel) rfl
  | k + 5, hk => omega
theorem i_CR : ∀ w ∈ u_ws R_CR F_CR 3, w ∈ lw_gd := by
  intro w hw
  obtain ⟨k, hk, rfl⟩ := List.mem_map.mp hw
  have hk := List.mem_range.mp hk
  match k, hk with
  | 0, _ => exact lw_gd_of (i := 88) (by decide +kernel) rfl
  | 1, _ => exact lw_gd_of (i := 90) (by decide +kernel) rfl
  | 2, _ => exact lw_gd_of (i := 92) (by decide +kernel) rfl
  | k + 3, hk => omega
theorem i_DT : ∀ w ∈ u_ws R_DT F_DT 3, w ∈ lw_gd := by
  intro w hw
  obtain ⟨k, hk, rfl⟩ := List.mem_map.mp hw
  have hk := List.mem_range.mp hk
  match k, hk with
  | 0, _ => exact lw_gd_of (i := 201) (by decide +kernel) rfl
  | 1, _ => exact lw_gd_of (i := 203) (by decide +kernel) rfl
  | 2, _ => exact lw_gd_of (i := 205) (by decide +kernel) rfl
  | k + 3, hk => omega
theorem i_DR : ∀ w ∈ u_ws R_DR F_DR 4, w ∈ lw_gd := by
  intro w hw
  obtain ⟨k, hk, rfl⟩ := List.mem_map.mp hw
  have hk := List.mem_range.mp hk
  match k, hk with
  | 0, _ => exact lw_gd_of (i := 106) (by decide +kernel) rfl
  | 1, _ => exact lw_gd_of (i := 108) (by decide +kernel) rfl
  | 2, _ => exact lw_gd_of (i := 110) (by decide +kernel) rfl
  | 3, _ => exact lw_gd_of (i := 112) (by decide +kernel) rfl
  | k + 4, hk => omega
theorem i_ET : ∀ w ∈ u_ws R_ET F_ET 4, w ∈ lw_gd := by
  intro w hw
  obtain ⟨k, hk, rfl⟩ := List.mem_map.mp hw
  have hk := List.mem_range.mp hk
  match k, hk with
  | 0, _ => exact lw_gd_of (i := 150) (by decide +kernel) rfl
  | 1, _ => exact lw_gd_of (i := 152) (by decide +kernel) rfl
  | 2, _ => exact lw_gd_of (i := 154) (by decide +kernel) rfl
  | 3, _ => exact lw_gd_of (i := 156) (by decide +kernel) rfl
  | k + 4, hk => omega
theorem i_MT : ∀ w ∈ u_ws R_MT F_MT 5, w ∈ lw_gd := by
  intro w hw
  obtain ⟨k, hk, rfl⟩ := List.mem_map.mp hw
  have hk := List.mem_range.mp hk
  match k, hk with
  | 0, _ => exact lw_gd_of (i := 215) (by decide +kernel) rfl
  | 1, _ => exact lw_gd_of (i := 217) (by decide +kernel) rfl
  | 2, _ => exact lw_gd_of (i := 219) (by decide +kernel) rfl
  | 3, _ => exact lw_gd_of (i := 221) (by decide +kernel) rfl
  | 4, _ => exact lw_gd_of (i := 223) (by decide +kernel) rfl
  | k + 5, hk => omega
theorem i_MR : ∀ w ∈ u_ws R_MR F_MR 1, w ∈ lw_gd := by
  intro w hw
  obtain ⟨k, hk, rfl⟩ := List.mem_map.mp hw
  have hk := List.mem_range.mp hk
  match k, hk with
  | 0, _ => exact lw_gd_of (i := 234) (by decide +kernel) rfl
  | k + 1, hk => omega
theorem i_PO : ∀ w ∈ u_ws R_PO F_PO 2, w ∈ lw_gd := by
  intro w hw
  obtain ⟨k, hk, rfl⟩ := List.mem_map.mp hw
  have hk := List.mem_range.mp hk
  match k, hk with
  | 0, _ => exact lw_gd_of (i := 180) (by decide +kernel) rfl
  | 1, _ => exact lw_gd_of (i := 182) (by decide +kernel) rfl
  | k + 2, hk => omega
theorem i_MM : ∀ w ∈ u_ws R_MM F_MM 30, w ∈ lw_gd := by
  intro w hw
  obtain ⟨k, hk, rfl⟩ := List.mem_map.mp hw
  have hk := List.mem_range.mp hk
  match k, hk with
  | 0, _ => exact lw_gd_of (i := 673) (by decide +kernel) rfl
  | 1, _ => exact lw_gd_of (i := 675) (by decide +kernel) rfl
  | 2, _ => exact lw_gd_of (i := 677) (by decide +kernel) rfl
  | 3, _ => exact lw_gd_of (i := 679) (by decide +kernel) rfl
  | 4, _ => exact lw_gd_of (i := 681) (by decide +kernel) rfl
  | 5, _ => exact lw_gd_of (i := 683) (by decide +kernel) rfl
  | 6, _ => exact lw_gd_of (i := 685) (by decide +kernel) rfl
  | 7, _ => exact lw_gd_of (i := 687) (by decide +kernel) rfl
  | 8, _ => exact lw_gd_of (i := 689) (by decide +kernel) rfl
  | 9, _ => exact lw_gd_of (i := 691) (by decide +kernel) rfl
  | 10, _ => exact lw_gd_of (i := 693) (by decide +kernel) rfl
  | 11, _ => exact lw_gd_of (i := 695) (by decide +kernel) rfl
  | 12, _ => exact lw_gd_of (i := 697) (by decide +kernel) rfl
  | 13, _ => exact lw_gd_of (i := 699) (by decide +kernel) rfl
  | 14, _ => exact lw_gd_of (i := 701) (by decide +kernel) rfl
  | 15, _ => exact lw_gd_of (i := 703) (by decide +kernel) rfl
  | 16, _ => exact lw_gd_of (i := 705) (by decide +kernel) rfl
  | 17, _ => exact lw_gd_of (i := 707) (by decide +kernel) rfl
  | 18, _ => exact lw_gd_of (i := 709) (by decide +kernel) rfl
  | 19, _ => exact lw_gd_of (i := 711) (by decide +kernel) rfl
  | 20, _ => exact lw_gd_of (i := 713) (by decide +kernel) rfl
  | 21, _ => exact lw_gd_of (i := 715) (by decide +kernel) rfl
  | 22, _ => exact lw_gd_of (i := 717) (by decide +kernel) rfl
  | 23, _ => exact lw_gd_of (i := 719) (by decide +kernel) rfl
  | 24, _ => exact lw_gd_of (i := 721) (by decide +kernel) rfl
  | 25, _ => exact lw_gd_of (i := 723) (by decide +kernel) rfl
  | 26, _ => exact lw_gd_of (i := 725) (by decide +kernel) rfl
  | 27, _ => exact lw_gd_of (i := 727) (by decide +kernel) rfl
  | 28, _ => exact lw_gd_of (i := 729) (by decide +kernel) rfl
  | 29, _ => exact lw_gd_of (i := 731) (by decide +kernel) rfl
  | k + 30, hk => omega
theorem ts_0 : (Cond.selects R_PO y_PO_lowerDegree y_PO_lowerDegree) ∈ lw_gd := lw_gd_of (i := 0) (by decide +kernel) rfl
theorem ts_1 : (Cond.selects R_CR y_CR_write y_CR_write) ∈ lw_gd := lw_gd_of (i := 1) (by decide +kernel) rfl
theorem ts_2 : (Cond.selects R_DR y_DR_findPartners y_DR_findPartners) ∈ lw_gd := lw_gd_of (i := 2) (by decide +kernel) rfl
theorem ts_3 : (Cond.selects R_DR y_DR_partnersAreEdges y_DR_partnersAreEdges) ∈ lw_gd := lw_gd_of (i := 3) (by decide +kernel) rfl
theorem ts_4 : (Cond.selects R_DR y_DR_findPieces y_DR_findPieces) ∈ lw_gd := lw_gd_of (i := 4) (by decide +kernel) rfl
theorem ts_5 : (Cond.selects R_DR y_DR_pieceAt y_DR_pieceAt) ∈ lw_gd := lw_gd_of (i := 5) (by decide +kernel) rfl
theorem ts_6 : (Cond.selects R_DR y_DR_piecesAreSpheres y_DR_piecesAreSpheres) ∈ lw_gd := lw_gd_of (i := 6) (by decide +kernel) rfl
theorem ts_7 : (Cond.selects R_DR y_DR_countFaces y_DR_countFaces) ∈ lw_gd := lw_gd_of (i := 7) (by decide +kernel) rfl
theorem ts_8 : (Cond.selects R_DR y_DR_goRound y_DR_goRound) ∈ lw_gd := lw_gd_of (i := 8) (by decide +kernel) rfl
theorem ts_9 : (Cond.selects R_DR y_DR_addSurplus y_DR_addSurplus) ∈ lw_gd := lw_gd_of (i := 9) (by decide +kernel) rfl
theorem ts_10 : (Cond.selects R_AM y_AM_readDiagram y_AM_readDiagram) ∈ lw_gd := lw_gd_of (i := 10) (by decide +kernel) rfl
theorem ts_11 : (Cond.selects R_AL y_AL_joinOver y_AL_joinOver) ∈ lw_gd := lw_gd_of (i := 11) (by decide +kernel) rfl
theorem ts_12 : (Cond.selects R_AL y_AL_insert y_AL_insert) ∈ lw_gd := lw_gd_of (i := 12) (by decide +kernel) rfl
theorem ts_13 : (Cond.selects R_ET y_ET_add y_ET_add) ∈ lw_gd := lw_gd_of (i := 13) (by decide +kernel) rfl
theorem ts_14 : (Cond.selects R_AM y_AM_normalForm y_AM_normalForm) ∈ lw_gd := lw_gd_of (i := 14) (by decide +kernel) rfl
theorem ts_15 : (Cond.selects R_MT y_MT_fillCells y_MT_fillCells) ∈ lw_gd := lw_gd_of (i := 15) (by decide +kernel) rfl
theorem ts_16 : (Cond.selects R_DT y_DT_cell y_DT_cell) ∈ lw_gd := lw_gd_of (i := 16) (by decide +kernel) rfl
theorem ts_17 : (Cond.selects R_DT y_DT_findPivot y_DT_findPivot) ∈ lw_gd := lw_gd_of (i := 17) (by decide +kernel) rfl
theorem ts_18 : (Cond.selects R_DT y_DT_exchangeRows y_DT_exchangeRows) ∈ lw_gd := lw_gd_of (i := 18) (by decide +kernel) rfl
theorem ts_19 : (Cond.selects R_DT y_DT_clearBelow y_DT_clearBelow) ∈ lw_gd := lw_gd_of (i := 19) (by decide +kernel) rfl
theorem ts_20 : (Cond.selects R_PO y_PO_addShifted y_PO_addShifted) ∈ lw_gd := lw_gd_of (i := 20) (by decide +kernel) rfl
theorem ts_21 : (Cond.selects R_MR y_MR_findPivot y_MR_findPivot) ∈ lw_gd := lw_gd_of (i := 21) (by decide +kernel) rfl
theorem ts_22 : (Cond.selects R_MR y_MR_exchangeRows y_MR_exchangeRows) ∈ lw_gd := lw_gd_of (i := 22) (by decide +kernel) rfl
theorem ts_23 : (Cond.selects R_MR y_MR_clearBelow y_MR_clearBelow) ∈ lw_gd := lw_gd_of (i := 23) (by decide +kernel) rfl
theorem ts_24 : (Cond.selects R_CR y_CR_makeOne y_CR_makeOne) ∈ lw_gd := lw_gd_of (i := 24) (by decide +kernel) rfl
theorem ts_25 : (Cond.selects R_CR y_CR_remove y_CR_remove) ∈ lw_gd := lw_gd_of (i := 25) (by decide +kernel) rfl
theorem ts_26 : (Cond.selects R_MM y_MM_take y_MM_take) ∈ lw_gd := lw_gd_of (i := 26) (by decide +kernel) rfl
theorem ts_27 : (Cond.selects R_MM y_MM_fault y_MM_fault) ∈ lw_gd := lw_gd_of (i := 27) (by decide +kernel) rfl
theorem ts_28 : (Cond.selects R_MM y_MM_badLabel y_MM_badLabel) ∈ lw_gd := lw_gd_of (i := 28) (by decide +kernel) rfl
theorem ts_29 : (Cond.selects R_MM y_MM_sort y_MM_sort) ∈ lw_gd := lw_gd_of (i := 29) (by decide +kernel) rfl
theorem ts_30 : (Cond.selects R_MM y_MM_placeOf y_MM_placeOf) ∈ lw_gd := lw_gd_of (i := 30) (by decide +kernel) rfl
theorem ts_31 : (Cond.selects R_MM y_MM_isOut y_MM_isOut) ∈ lw_gd := lw_gd_of (i := 31) (by decide +kernel) rfl
theorem ts_32 : (Cond.selects R_MM y_MM_badPiece y_MM_badPiece) ∈ lw_gd := lw_gd_of (i := 32) (by decide +kernel) rfl
theorem ts_33 : (Cond.selects R_MM y_MM_hang y_MM_hang) ∈ lw_gd := lw_gd_of (i := 33) (by decide +kernel) rfl
theorem ts_34 : (Cond.selects R_MM y_MM_findFaces y_MM_findFaces) ∈ lw_gd := lw_gd_of (i := 34) (by decide +kernel) rfl
theorem ts_35 : (Cond.selects R_MM y_MM_rowOf y_MM_rowOf) ∈ lw_gd := lw_gd_of (i := 35) (by decide +kernel) rfl
theorem ts_36 : (Cond.selects R_MM y_MM_turn y_MM_turn) ∈ lw_gd := lw_gd_of (i := 36) (by decide +kernel) rfl
theorem ts_37 : (Cond.selects R_MM y_MM_facesAt y_MM_facesAt) ∈ lw_gd := lw_gd_of (i := 37) (by decide +kernel) rfl
theorem ts_38 : (Cond.selects R_MM y_MM_back y_MM_back) ∈ lw_gd := lw_gd_of (i := 38) (by decide +kernel) rfl
theorem ts_39 : (Cond.selects R_MM y_MM_know y_MM_know) ∈ lw_gd := lw_gd_of (i := 39) (by decide +kernel) rfl
theorem ts_40 : (Cond.selects R_MM y_MM_fill y_MM_fill) ∈ lw_gd := lw_gd_of (i := 40) (by decide +kernel) rfl
theorem ts_41 : (Cond.selects R_MM y_MM_findArcs y_MM_findArcs) ∈ lw_gd := lw_gd_of (i := 41) (by decide +kernel) rfl
theorem ts_42 : (Cond.selects R_MM y_MM_arcOf y_MM_arcOf) ∈ lw_gd := lw_gd_of (i := 42) (by decide +kernel) rfl
theorem ts_43 : (Cond.selects R_MM y_MM_next y_MM_next) ∈ lw_gd := lw_gd_of (i := 43) (by decide +kernel) rfl
theorem ts_44 : (Cond.selects R_MM y_MM_arcNumber y_MM_arcNumber) ∈ lw_gd := lw_gd_of (i := 44) (by decide +kernel) rfl
theorem ts_45 : (Cond.selects R_MM y_MM_addEntry y_MM_addEntry) ∈ lw_gd := lw_gd_of (i := 45) (by decide +kernel) rfl
theorem ts_46 : (Cond.selects R_MM y_MM_sumUp y_MM_sumUp) ∈ lw_gd := lw_gd_of (i := 46) (by decide +kernel) rfl
theorem ts_47 : (Cond.selects R_MM y_MM_carry y_MM_carry) ∈ lw_gd := lw_gd_of (i := 47) (by decide +kernel) rfl
theorem ts_48 : (Cond.selects R_MM y_MM_findDivisor y_MM_findDivisor) ∈ lw_gd := lw_gd_of (i := 48) (by decide +kernel) rfl
theorem ts_49 : (Cond.selects R_MM y_MM_lowest y_MM_lowest) ∈ lw_gd := lw_gd_of (i := 49) (by decide +kernel) rfl
theorem ts_50 : (Cond.selects R_MM y_MM_divides y_MM_divides) ∈ lw_gd := lw_gd_of (i := 50) (by decide +kernel) rfl
theorem ts_51 : (Cond.selects R_MM y_MM_degree y_MM_degree) ∈ lw_gd := lw_gd_of (i := 51) (by decide +kernel) rfl
theorem ts_52 : (Cond.selects R_MM y_MM_valueAt y_MM_valueAt) ∈ lw_gd := lw_gd_of (i := 52) (by decide +kernel) rfl
theorem ts_53 : (Cond.selects R_MM y_MM_rowWith y_MM_rowWith) ∈ lw_gd := lw_gd_of (i := 53) (by decide +kernel) rfl
theorem ts_54 : (Cond.selects R_MM y_MM_upperIn y_MM_upperIn) ∈ lw_gd := lw_gd_of (i := 54) (by decide +kernel) rfl
theorem ts_55 : (Cond.selects R_MM y_MM_join y_MM_join) ∈ lw_gd := lw_gd_of (i := 55) (by decide +kernel) rfl
theorem ts_56 : (Cond.selects R_MM y_MM_rename y_MM_rename) ∈ lw_gd := lw_gd_of (i := 56) (by decide +kernel) rfl
theorem tw_good : ∀ w ∈ lw_gd, (w.onTables && w.keeps) = true ∨ ∃ ty, w = .arrayClass ty := by
  intro w hw
  have h := (List.mem_filter.mp hw).2
  unfold tw_chk at h
  rcases (Bool.or_eq_true _ _).mp h with h | h
  · exact Or.inl h
  · right
    split at h
    · exact ⟨_, rfl⟩
    · cases h
theorem tw_goodIn {ws : List Cond} (h : ∀ w ∈ ws, w ∈ lw_gd) : GoodIn lw_gd ws := fun w hw => ⟨h w hw, tw_good w (h w hw)⟩
theorem zg_V {own C : String} {idx maxL : Nat} {y : MethodName} {b : ByteArray} {ret : Option FieldType} (h1 : Cond.methodLink own idx y ∈ lw_gd) (h2 : Cond.instanceMethod y ∈ lw_gd) (h3 : Cond.selects C y y ∈ lw_gd) (h4 : Cond.initialized C ∈ lw_gd) (h5 : Cond.code y b maxL ret ∈ lw_gd) : GoodIn lw_gd (wsV own idx C y (Cond.code y b maxL ret :: lw_gd)) := tw_goodIn fun w hw => by
  unfold wsV at hw
  rcases List.mem_append.mp hw with h | h
  · simp only [List.mem_cons, List.not_mem_nil, or_false] at h
    rcases h with rfl | rfl | rfl | rfl <;> assumption
  · rcases List.mem_cons.mp h with rfl | h
    · exact h5
    · exact h
theorem zg_S {own : String} {idx maxL : Nat} {y : MethodName} {b : ByteArray} {ret : Option FieldType} (h1 : Cond.methodLink own idx y ∈ lw_gd) (h2 : Cond.static y ∈ lw_gd) (h4 : Cond.initialized own ∈ lw_gd) (h5 : Cond.code y b maxL ret ∈ lw_gd) : GoodIn lw_gd (wsS own idx y (Cond.code y b maxL ret :: lw_gd)) := tw_goodIn fun w hw => by
  unfold wsS at hw
  rcases List.mem_append.mp hw with h | h
  · simp only [List.mem_cons, List.not_mem_nil, or_false] at h
    rcases h with rfl | rfl | rfl <;> assumption
  · rcases List.mem_cons.mp h with rfl | h
    · exact h5
    · exact h
theorem zg_I {maxL : Nat} {y : MethodName} {b : ByteArray} {ret : Option FieldType} (h5 : Cond.code y b maxL ret ∈ lw_gd) : GoodIn lw_gd (Cond.code y b maxL ret :: lw_gd) := tw_goodIn fun w hw => by
  rcases List.mem_cons.mp hw with rfl | h
  · exact h5
  · exact h
