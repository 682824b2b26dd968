theorem w_0 : Cond.initialized "LineDiskLaw" ∈ gw := gw_tbl (i := 0) (by decide +kernel) rfl
theorem w_1 : Cond.initialized "LineDisk" ∈ gw := gw_tbl (i := 1) (by decide +kernel) rfl
theorem w_2 : Cond.initialized "LineDisk$Store" ∈ gw := gw_tbl (i := 2) (by decide +kernel) rfl
theorem w_3 : Cond.initialized "LineDisk$Journal" ∈ gw := gw_tbl (i := 3) (by decide +kernel) rfl
theorem w_4 : Cond.initialized "LineDisk$Workspace" ∈ gw := gw_tbl (i := 4) (by decide +kernel) rfl
theorem w_5 : Cond.initialized "LineDisk$Statement" ∈ gw := gw_tbl (i := 5) (by decide +kernel) rfl
theorem w_6 : Cond.initialized "LineDiskModel" ∈ gw := gw_tbl (i := 6) (by decide +kernel) rfl
theorem w_7 : Cond.initialized "java/lang/System" ∈ gw := gw_tbl (i := 7) (by decide +kernel) rfl
theorem w_8 : Cond.initialized "java/util/Arrays" ∈ gw := gw_tbl (i := 8) (by decide +kernel) rfl
theorem w_9 : Cond.initialized "java/lang/Math" ∈ gw := gw_tbl (i := 9) (by decide +kernel) rfl
theorem w_10 : Cond.initialized "java/lang/Throwable" ∈ gw := gw_tbl (i := 10) (by decide +kernel) rfl
theorem w_11 : Cond.initialized "java/lang/Exception" ∈ gw := gw_tbl (i := 11) (by decide +kernel) rfl
theorem w_12 : Cond.initialized "java/lang/RuntimeException" ∈ gw := gw_tbl (i := 12) (by decide +kernel) rfl
theorem w_13 : Cond.initialized "java/lang/IllegalArgumentException" ∈ gw := gw_tbl (i := 13) (by decide +kernel) rfl
theorem w_14 : Cond.initialized "java/lang/IndexOutOfBoundsException" ∈ gw := gw_tbl (i := 14) (by decide +kernel) rfl
theorem w_15 : Cond.classLink "LineDiskLaw" 8 "LineDisk" ∈ gw := gw_tbl (i := 15) (by decide +kernel) rfl
theorem w_16 : Cond.instantiable "LineDisk" 6 ∈ gw := gw_tbl (i := 16) (by decide +kernel) rfl
theorem w_17 : Cond.methodLink "LineDiskLaw" 24 ⟨"LineDisk", "<init>", "()V"⟩ ∈ gw := gw_tbl (i := 17) (by decide +kernel) rfl
theorem w_18 : Cond.instanceMethod ⟨"LineDisk", "<init>", "()V"⟩ ∈ gw := gw_tbl (i := 18) (by decide +kernel) rfl
theorem w_19 : Cond.code ⟨"LineDisk", "<init>", "()V"⟩ prog_1_method_1_code 1 none ∈ gw := gw_tbl (i := 19) (by decide +kernel) rfl
theorem w_20 : Cond.methodLink "LineDisk" 1 ⟨"java/lang/Object", "<init>", "()V"⟩ ∈ gw := gw_tbl (i := 20) (by decide +kernel) rfl
theorem w_21 : Cond.instanceMethod ⟨"java/lang/Object", "<init>", "()V"⟩ ∈ gw := gw_tbl (i := 21) (by decide +kernel) rfl
theorem w_22 : Cond.code ⟨"java/lang/Object", "<init>", "()V"⟩ object_method_1_code 1 none ∈ gw := gw_tbl (i := 22) (by decide +kernel) rfl
theorem w_23 : Cond.classLink "LineDisk" 7 "LineDisk$Store" ∈ gw := gw_tbl (i := 23) (by decide +kernel) rfl
theorem w_24 : Cond.instantiable "LineDisk$Store" 4 ∈ gw := gw_tbl (i := 24) (by decide +kernel) rfl
theorem w_26 : Cond.instanceMethod ⟨"LineDisk$Store", "<init>", "()V"⟩ ∈ gw := gw_tbl (i := 26) (by decide +kernel) rfl
theorem w_27 : Cond.code ⟨"LineDisk$Store", "<init>", "()V"⟩ prog_4_method_1_code 1 none ∈ gw := gw_tbl (i := 27) (by decide +kernel) rfl
theorem w_28 : Cond.methodLink "LineDisk$Store" 3 ⟨"java/lang/Object", "<init>", "()V"⟩ ∈ gw := gw_tbl (i := 28) (by decide +kernel) rfl
theorem w_29 : Cond.fieldLink "LineDisk$Store" 9 "LineDisk$Store" "cells" "[I" ∈ gw := gw_tbl (i := 29) (by decide +kernel) rfl
theorem w_30 : Cond.fieldLink "LineDisk$Store" 15 "LineDisk$Store" "armed" "I" ∈ gw := gw_tbl (i := 30) (by decide +kernel) rfl
theorem w_32 : Cond.fieldLink "LineDisk$Store" 19 "LineDisk$Store" "dead" "Z" ∈ gw := gw_tbl (i := 32) (by decide +kernel) rfl
theorem w_34 : Cond.fieldLink "LineDisk$Store" 23 "LineDisk$Store" "writes" "I" ∈ gw := gw_tbl (i := 34) (by decide +kernel) rfl
theorem w_36 : Cond.laysFinal "LineDisk$Store" "LineDisk$Store" "cells" "[I" ∈ gw := gw_tbl (i := 36) (by decide +kernel) rfl
theorem w_37 : Cond.soleField "LineDisk$Store" "cells" ∈ gw := gw_tbl (i := 37) (by decide +kernel) rfl
theorem w_38 : Cond.lays "LineDisk$Store" "LineDisk$Store" "armed" "I" ∈ gw := gw_tbl (i := 38) (by decide +kernel) rfl
theorem w_39 : Cond.soleField "LineDisk$Store" "armed" ∈ gw := gw_tbl (i := 39) (by decide +kernel) rfl
theorem w_40 : Cond.lays "LineDisk$Store" "LineDisk$Store" "dead" "Z" ∈ gw := gw_tbl (i := 40) (by decide +kernel) rfl
theorem w_41 : Cond.soleField "LineDisk$Store" "dead" ∈ gw := gw_tbl (i := 41) (by decide +kernel) rfl
theorem w_42 : Cond.lays "LineDisk$Store" "LineDisk$Store" "writes" "I" ∈ gw := gw_tbl (i := 42) (by decide +kernel) rfl
theorem w_43 : Cond.soleField "LineDisk$Store" "writes" ∈ gw := gw_tbl (i := 43) (by decide +kernel) rfl
theorem w_44 : Cond.superclass "LineDisk$Store" "java/lang/Object" ∈ gw := gw_tbl (i := 44) (by decide +kernel) rfl
theorem w_45 : Cond.arrayClass .int ∈ gw := gw_tbl (i := 45) (by decide +kernel) rfl
theorem w_46 : Cond.classLink "LineDisk" 16 "LineDisk$Journal" ∈ gw := gw_tbl (i := 46) (by decide +kernel) rfl
theorem w_47 : Cond.instantiable "LineDisk$Journal" 3 ∈ gw := gw_tbl (i := 47) (by decide +kernel) rfl
theorem w_49 : Cond.instanceMethod ⟨"LineDisk$Journal", "<init>", "()V"⟩ ∈ gw := gw_tbl (i := 49) (by decide +kernel) rfl
theorem w_50 : Cond.code ⟨"LineDisk$Journal", "<init>", "()V"⟩ prog_2_method_1_code 1 none ∈ gw := gw_tbl (i := 50) (by decide +kernel) rfl
theorem w_51 : Cond.methodLink "LineDisk$Journal" 3 ⟨"java/lang/Object", "<init>", "()V"⟩ ∈ gw := gw_tbl (i := 51) (by decide +kernel) rfl
theorem w_52 : Cond.fieldLink "LineDisk$Journal" 9 "LineDisk$Journal" "rows" "[I" ∈ gw := gw_tbl (i := 52) (by decide +kernel) rfl
theorem w_53 : Cond.fieldLink "LineDisk$Journal" 15 "LineDisk$Journal" "head" "[I" ∈ gw := gw_tbl (i := 53) (by decide +kernel) rfl
theorem w_54 : Cond.fieldLink "LineDisk$Journal" 18 "LineDisk$Journal" "count" "I" ∈ gw := gw_tbl (i := 54) (by decide +kernel) rfl
theorem w_55 : Cond.laysFinal "LineDisk$Journal" "LineDisk$Journal" "rows" "[I" ∈ gw := gw_tbl (i := 55) (by decide +kernel) rfl
theorem w_56 : Cond.soleField "LineDisk$Journal" "rows" ∈ gw := gw_tbl (i := 56) (by decide +kernel) rfl
theorem w_57 : Cond.laysFinal "LineDisk$Journal" "LineDisk$Journal" "head" "[I" ∈ gw := gw_tbl (i := 57) (by decide +kernel) rfl
theorem w_58 : Cond.soleField "LineDisk$Journal" "head" ∈ gw := gw_tbl (i := 58) (by decide +kernel) rfl
theorem w_59 : Cond.lays "LineDisk$Journal" "LineDisk$Journal" "count" "I" ∈ gw := gw_tbl (i := 59) (by decide +kernel) rfl
theorem w_60 : Cond.soleField "LineDisk$Journal" "count" ∈ gw := gw_tbl (i := 60) (by decide +kernel) rfl
theorem w_61 : Cond.superclass "LineDisk$Journal" "java/lang/Object" ∈ gw := gw_tbl (i := 61) (by decide +kernel) rfl
theorem w_62 : Cond.classLink "LineDisk" 23 "LineDisk$Workspace" ∈ gw := gw_tbl (i := 62) (by decide +kernel) rfl
theorem w_63 : Cond.instantiable "LineDisk$Workspace" 9 ∈ gw := gw_tbl (i := 63) (by decide +kernel) rfl
theorem w_65 : Cond.instanceMethod ⟨"LineDisk$Workspace", "<init>", "()V"⟩ ∈ gw := gw_tbl (i := 65) (by decide +kernel) rfl
theorem w_66 : Cond.code ⟨"LineDisk$Workspace", "<init>", "()V"⟩ prog_5_method_1_code 1 none ∈ gw := gw_tbl (i := 66) (by decide +kernel) rfl
theorem w_67 : Cond.methodLink "LineDisk$Workspace" 3 ⟨"java/lang/Object", "<init>", "()V"⟩ ∈ gw := gw_tbl (i := 67) (by decide +kernel) rfl
theorem w_68 : Cond.fieldLink "LineDisk$Workspace" 9 "LineDisk$Workspace" "numbers" "[I" ∈ gw := gw_tbl (i := 68) (by decide +kernel) rfl
theorem w_69 : Cond.fieldLink "LineDisk$Workspace" 15 "LineDisk$Workspace" "lengths" "[I" ∈ gw := gw_tbl (i := 69) (by decide +kernel) rfl
theorem w_71 : Cond.fieldLink "LineDisk$Workspace" 18 "LineDisk$Workspace" "texts" "[I" ∈ gw := gw_tbl (i := 71) (by decide +kernel) rfl
theorem w_73 : Cond.fieldLink "LineDisk$Workspace" 21 "LineDisk$Workspace" "unpacked" "[I" ∈ gw := gw_tbl (i := 73) (by decide +kernel) rfl
theorem w_74 : Cond.fieldLink "LineDisk$Workspace" 24 "LineDisk$Workspace" "variables" "[I" ∈ gw := gw_tbl (i := 74) (by decide +kernel) rfl
theorem w_76 : Cond.fieldLink "LineDisk$Workspace" 27 "LineDisk$Workspace" "typed" "[I" ∈ gw := gw_tbl (i := 76) (by decide +kernel) rfl
theorem w_78 : Cond.fieldLink "LineDisk$Workspace" 30 "LineDisk$Workspace" "lines" "I" ∈ gw := gw_tbl (i := 78) (by decide +kernel) rfl
theorem w_80 : Cond.fieldLink "LineDisk$Workspace" 34 "LineDisk$Workspace" "next" "I" ∈ gw := gw_tbl (i := 80) (by decide +kernel) rfl
theorem w_82 : Cond.fieldLink "LineDisk$Workspace" 37 "LineDisk$Workspace" "typedCount" "I" ∈ gw := gw_tbl (i := 82) (by decide +kernel) rfl
theorem w_84 : Cond.laysFinal "LineDisk$Workspace" "LineDisk$Workspace" "numbers" "[I" ∈ gw := gw_tbl (i := 84) (by decide +kernel) rfl
theorem w_85 : Cond.soleField "LineDisk$Workspace" "numbers" ∈ gw := gw_tbl (i := 85) (by decide +kernel) rfl
theorem w_86 : Cond.laysFinal "LineDisk$Workspace" "LineDisk$Workspace" "lengths" "[I" ∈ gw := gw_tbl (i := 86) (by decide +kernel) rfl
theorem w_87 : Cond.soleField "LineDisk$Workspace" "lengths" ∈ gw := gw_tbl (i := 87) (by decide +kernel) rfl
theorem w_88 : Cond.laysFinal "LineDisk$Workspace" "LineDisk$Workspace" "texts" "[I" ∈ gw := gw_tbl (i := 88) (by decide +kernel) rfl
theorem w_89 : Cond.soleField "LineDisk$Workspace" "texts" ∈ gw := gw_tbl (i := 89) (by decide +kernel) rfl
theorem w_90 : Cond.laysFinal "LineDisk$Workspace" "LineDisk$Workspace" "unpacked" "[I" ∈ gw := gw_tbl (i := 90) (by decide +kernel) rfl
theorem w_91 : Cond.soleField "LineDisk$Workspace" "unpacked" ∈ gw := gw_tbl (i := 91) (by decide +kernel) rfl
theorem w_92 : Cond.laysFinal "LineDisk$Workspace" "LineDisk$Workspace" "variables" "[I" ∈ gw := gw_tbl (i := 92) (by decide +kernel) rfl
theorem w_93 : Cond.soleField "LineDisk$Workspace" "variables" ∈ gw := gw_tbl (i := 93) (by decide +kernel) rfl
theorem w_94 : Cond.laysFinal "LineDisk$Workspace" "LineDisk$Workspace" "typed" "[I" ∈ gw := gw_tbl (i := 94) (by decide +kernel) rfl
theorem w_95 : Cond.soleField "LineDisk$Workspace" "typed" ∈ gw := gw_tbl (i := 95) (by decide +kernel) rfl
theorem w_96 : Cond.lays "LineDisk$Workspace" "LineDisk$Workspace" "lines" "I" ∈ gw := gw_tbl (i := 96) (by decide +kernel) rfl
theorem w_97 : Cond.soleField "LineDisk$Workspace" "lines" ∈ gw := gw_tbl (i := 97) (by decide +kernel) rfl
theorem w_98 : Cond.lays "LineDisk$Workspace" "LineDisk$Workspace" "next" "I" ∈ gw := gw_tbl (i := 98) (by decide +kernel) rfl
theorem w_99 : Cond.soleField "LineDisk$Workspace" "next" ∈ gw := gw_tbl (i := 99) (by decide +kernel) rfl
theorem w_100 : Cond.lays "LineDisk$Workspace" "LineDisk$Workspace" "typedCount" "I" ∈ gw := gw_tbl (i := 100) (by decide +kernel) rfl
theorem w_101 : Cond.soleField "LineDisk$Workspace" "typedCount" ∈ gw := gw_tbl (i := 101) (by decide +kernel) rfl
theorem w_102 : Cond.superclass "LineDisk$Workspace" "java/lang/Object" ∈ gw := gw_tbl (i := 102) (by decide +kernel) rfl
theorem w_103 : Cond.classLink "LineDisk" 30 "LineDisk$Statement" ∈ gw := gw_tbl (i := 103) (by decide +kernel) rfl
theorem w_104 : Cond.instantiable "LineDisk$Statement" 12 ∈ gw := gw_tbl (i := 104) (by decide +kernel) rfl
theorem w_106 : Cond.instanceMethod ⟨"LineDisk$Statement", "<init>", "()V"⟩ ∈ gw := gw_tbl (i := 106) (by decide +kernel) rfl
theorem w_107 : Cond.code ⟨"LineDisk$Statement", "<init>", "()V"⟩ prog_3_method_1_code 1 none ∈ gw := gw_tbl (i := 107) (by decide +kernel) rfl
theorem w_108 : Cond.methodLink "LineDisk$Statement" 3 ⟨"java/lang/Object", "<init>", "()V"⟩ ∈ gw := gw_tbl (i := 108) (by decide +kernel) rfl
theorem w_109 : Cond.fieldLink "LineDisk$Statement" 9 "LineDisk$Statement" "text" "[I" ∈ gw := gw_tbl (i := 109) (by decide +kernel) rfl
theorem w_110 : Cond.fieldLink "LineDisk$Statement" 15 "LineDisk$Statement" "variables" "[I" ∈ gw := gw_tbl (i := 110) (by decide +kernel) rfl
theorem w_111 : Cond.fieldLink "LineDisk$Statement" 18 "LineDisk$Statement" "end" "I" ∈ gw := gw_tbl (i := 111) (by decide +kernel) rfl
theorem w_112 : Cond.fieldLink "LineDisk$Statement" 22 "LineDisk$Statement" "at" "I" ∈ gw := gw_tbl (i := 112) (by decide +kernel) rfl
theorem w_113 : Cond.fieldLink "LineDisk$Statement" 25 "LineDisk$Statement" "good" "Z" ∈ gw := gw_tbl (i := 113) (by decide +kernel) rfl
theorem w_114 : Cond.fieldLink "LineDisk$Statement" 29 "LineDisk$Statement" "kind" "I" ∈ gw := gw_tbl (i := 114) (by decide +kernel) rfl
theorem w_116 : Cond.fieldLink "LineDisk$Statement" 32 "LineDisk$Statement" "variable" "I" ∈ gw := gw_tbl (i := 116) (by decide +kernel) rfl
theorem w_118 : Cond.fieldLink "LineDisk$Statement" 35 "LineDisk$Statement" "file" "I" ∈ gw := gw_tbl (i := 118) (by decide +kernel) rfl
theorem w_120 : Cond.fieldLink "LineDisk$Statement" 38 "LineDisk$Statement" "left" "I" ∈ gw := gw_tbl (i := 120) (by decide +kernel) rfl
theorem w_122 : Cond.fieldLink "LineDisk$Statement" 41 "LineDisk$Statement" "sign" "I" ∈ gw := gw_tbl (i := 122) (by decide +kernel) rfl
theorem w_123 : Cond.fieldLink "LineDisk$Statement" 44 "LineDisk$Statement" "right" "I" ∈ gw := gw_tbl (i := 123) (by decide +kernel) rfl
theorem w_125 : Cond.fieldLink "LineDisk$Statement" 47 "LineDisk$Statement" "target" "I" ∈ gw := gw_tbl (i := 125) (by decide +kernel) rfl
theorem w_127 : Cond.laysFinal "LineDisk$Statement" "LineDisk$Statement" "text" "[I" ∈ gw := gw_tbl (i := 127) (by decide +kernel) rfl
theorem w_128 : Cond.soleField "LineDisk$Statement" "text" ∈ gw := gw_tbl (i := 128) (by decide +kernel) rfl
theorem w_129 : Cond.laysFinal "LineDisk$Statement" "LineDisk$Statement" "variables" "[I" ∈ gw := gw_tbl (i := 129) (by decide +kernel) rfl
theorem w_130 : Cond.soleField "LineDisk$Statement" "variables" ∈ gw := gw_tbl (i := 130) (by decide +kernel) rfl
theorem w_131 : Cond.lays "LineDisk$Statement" "LineDisk$Statement" "end" "I" ∈ gw := gw_tbl (i := 131) (by decide +kernel) rfl
theorem w_132 : Cond.soleField "LineDisk$Statement" "end" ∈ gw := gw_tbl (i := 132) (by decide +kernel) rfl
theorem w_133 : Cond.lays "LineDisk$Statement" "LineDisk$Statement" "at" "I" ∈ gw := gw_tbl (i := 133) (by decide +kernel) rfl
theorem w_134 : Cond.soleField "LineDisk$Statement" "at" ∈ gw := gw_tbl (i := 134) (by decide +kernel) rfl
theorem w_135 : Cond.lays "LineDisk$Statement" "LineDisk$Statement" "good" "Z" ∈ gw := gw_tbl (i := 135) (by decide +kernel) rfl
theorem w_136 : Cond.soleField "LineDisk$Statement" "good" ∈ gw := gw_tbl (i := 136) (by decide +kernel) rfl
theorem w_137 : Cond.lays "LineDisk$Statement" "LineDisk$Statement" "kind" "I" ∈ gw := gw_tbl (i := 137) (by decide +kernel) rfl
theorem w_138 : Cond.soleField "LineDisk$Statement" "kind" ∈ gw := gw_tbl (i := 138) (by decide +kernel) rfl
theorem w_139 : Cond.lays "LineDisk$Statement" "LineDisk$Statement" "variable" "I" ∈ gw := gw_tbl (i := 139) (by decide +kernel) rfl
theorem w_140 : Cond.soleField "LineDisk$Statement" "variable" ∈ gw := gw_tbl (i := 140) (by decide +kernel) rfl
theorem w_141 : Cond.lays "LineDisk$Statement" "LineDisk$Statement" "file" "I" ∈ gw := gw_tbl (i := 141) (by decide +kernel) rfl
theorem w_142 : Cond.soleField "LineDisk$Statement" "file" ∈ gw := gw_tbl (i := 142) (by decide +kernel) rfl
theorem w_143 : Cond.lays "LineDisk$Statement" "LineDisk$Statement" "left" "I" ∈ gw := gw_tbl (i := 143) (by decide +kernel) rfl
theorem w_144 : Cond.soleField "LineDisk$Statement" "left" ∈ gw := gw_tbl (i := 144) (by decide +kernel) rfl
theorem w_145 : Cond.lays "LineDisk$Statement" "LineDisk$Statement" "sign" "I" ∈ gw := gw_tbl (i := 145) (by decide +kernel) rfl
theorem w_146 : Cond.soleField "LineDisk$Statement" "sign" ∈ gw := gw_tbl (i := 146) (by decide +kernel) rfl
theorem w_147 : Cond.lays "LineDisk$Statement" "LineDisk$Statement" "right" "I" ∈ gw := gw_tbl (i := 147) (by decide +kernel) rfl
theorem w_148 : Cond.soleField "LineDisk$Statement" "right" ∈ gw := gw_tbl (i := 148) (by decide +kernel) rfl
theorem w_149 : Cond.lays "LineDisk$Statement" "LineDisk$Statement" "target" "I" ∈ gw := gw_tbl (i := 149) (by decide +kernel) rfl
theorem w_150 : Cond.soleField "LineDisk$Statement" "target" ∈ gw := gw_tbl (i := 150) (by decide +kernel) rfl
theorem w_151 : Cond.superclass "LineDisk$Statement" "java/lang/Object" ∈ gw := gw_tbl (i := 151) (by decide +kernel) rfl
theorem w_152 : Cond.fieldLink "LineDisk" 10 "LineDisk" "store" "LLineDisk$Store;" ∈ gw := gw_tbl (i := 152) (by decide +kernel) rfl
theorem w_153 : Cond.fieldLink "LineDisk" 19 "LineDisk" "journal" "LLineDisk$Journal;" ∈ gw := gw_tbl (i := 153) (by decide +kernel) rfl
theorem w_154 : Cond.fieldLink "LineDisk" 26 "LineDisk" "workspace" "LLineDisk$Workspace;" ∈ gw := gw_tbl (i := 154) (by decide +kernel) rfl
theorem w_155 : Cond.fieldLink "LineDisk" 33 "LineDisk" "statement" "LLineDisk$Statement;" ∈ gw := gw_tbl (i := 155) (by decide +kernel) rfl
theorem w_156 : Cond.fieldLink "LineDisk" 37 "LineDisk" "kept" "[I" ∈ gw := gw_tbl (i := 156) (by decide +kernel) rfl
theorem w_157 : Cond.fieldLink "LineDisk" 41 "LineDisk" "outCount" "I" ∈ gw := gw_tbl (i := 157) (by decide +kernel) rfl
theorem w_158 : Cond.laysFinal "LineDisk" "LineDisk" "store" "LLineDisk$Store;" ∈ gw := gw_tbl (i := 158) (by decide +kernel) rfl
theorem w_159 : Cond.soleField "LineDisk" "store" ∈ gw := gw_tbl (i := 159) (by decide +kernel) rfl
theorem w_160 : Cond.laysFinal "LineDisk" "LineDisk" "journal" "LLineDisk$Journal;" ∈ gw := gw_tbl (i := 160) (by decide +kernel) rfl
theorem w_161 : Cond.soleField "LineDisk" "journal" ∈ gw := gw_tbl (i := 161) (by decide +kernel) rfl
theorem w_162 : Cond.laysFinal "LineDisk" "LineDisk" "workspace" "LLineDisk$Workspace;" ∈ gw := gw_tbl (i := 162) (by decide +kernel) rfl
theorem w_163 : Cond.soleField "LineDisk" "workspace" ∈ gw := gw_tbl (i := 163) (by decide +kernel) rfl
theorem w_164 : Cond.laysFinal "LineDisk" "LineDisk" "statement" "LLineDisk$Statement;" ∈ gw := gw_tbl (i := 164) (by decide +kernel) rfl
theorem w_165 : Cond.soleField "LineDisk" "statement" ∈ gw := gw_tbl (i := 165) (by decide +kernel) rfl
theorem w_166 : Cond.laysFinal "LineDisk" "LineDisk" "kept" "[I" ∈ gw := gw_tbl (i := 166) (by decide +kernel) rfl
theorem w_167 : Cond.soleField "LineDisk" "kept" ∈ gw := gw_tbl (i := 167) (by decide +kernel) rfl
theorem w_168 : Cond.lays "LineDisk" "LineDisk" "outCount" "I" ∈ gw := gw_tbl (i := 168) (by decide +kernel) rfl
theorem w_169 : Cond.soleField "LineDisk" "outCount" ∈ gw := gw_tbl (i := 169) (by decide +kernel) rfl
theorem w_170 : Cond.superclass "LineDisk" "java/lang/Object" ∈ gw := gw_tbl (i := 170) (by decide +kernel) rfl
theorem w_171 : Cond.methodLink "LineDiskLaw" 28 ⟨"LineDisk", "format", "()I"⟩ ∈ gw := gw_tbl (i := 171) (by decide +kernel) rfl
theorem w_172 : Cond.instanceMethod ⟨"LineDisk", "format", "()I"⟩ ∈ gw := gw_tbl (i := 172) (by decide +kernel) rfl
theorem w_173 : Cond.selects "LineDisk" ⟨"LineDisk", "format", "()I"⟩ ⟨"LineDisk", "format", "()I"⟩ ∈ gw := gw_tbl (i := 173) (by decide +kernel) rfl
theorem w_174 : Cond.code ⟨"LineDisk", "format", "()I"⟩ prog_1_method_2_code 2 (some .int) ∈ gw := gw_tbl (i := 174) (by decide +kernel) rfl
theorem w_175 : Cond.fieldLink "LineDisk" 49 "LineDisk" "EMPTY_BLOCK" "[I" ∈ gw := gw_tbl (i := 175) (by decide +kernel) rfl
theorem w_177 : Cond.methodLink "LineDisk" 52 ⟨"LineDisk$Store", "write", "(I[II)Z"⟩ ∈ gw := gw_tbl (i := 177) (by decide +kernel) rfl
theorem w_178 : Cond.instanceMethod ⟨"LineDisk$Store", "write", "(I[II)Z"⟩ ∈ gw := gw_tbl (i := 178) (by decide +kernel) rfl
theorem w_179 : Cond.selects "LineDisk$Store" ⟨"LineDisk$Store", "write", "(I[II)Z"⟩ ⟨"LineDisk$Store", "write", "(I[II)Z"⟩ ∈ gw := gw_tbl (i := 179) (by decide +kernel) rfl
theorem w_180 : Cond.code ⟨"LineDisk$Store", "write", "(I[II)Z"⟩ prog_4_method_4_code 4 (some .boolean) ∈ gw := gw_tbl (i := 180) (by decide +kernel) rfl
theorem w_181 : Cond.methodLink "LineDisk$Store" 26 ⟨"java/lang/System", "arraycopy", "(Ljava/lang/Object;ILjava/lang/Object;II)V"⟩ ∈ gw := gw_tbl (i := 181) (by decide +kernel) rfl
theorem w_182 : Cond.static ⟨"java/lang/System", "arraycopy", "(Ljava/lang/Object;ILjava/lang/Object;II)V"⟩ ∈ gw := gw_tbl (i := 182) (by decide +kernel) rfl
theorem w_183 : Cond.native ⟨"java/lang/System", "arraycopy", "(Ljava/lang/Object;ILjava/lang/Object;II)V"⟩ ∈ gw := gw_tbl (i := 183) (by decide +kernel) rfl
theorem w_184 : Cond.fieldLink "LineDisk" 56 "LineDisk" "FORMATTED_HEAD" "[I" ∈ gw := gw_tbl (i := 184) (by decide +kernel) rfl
theorem w_186 : Cond.methodLink "LineDisk" 59 ⟨"LineDisk", "died", "()I"⟩ ∈ gw := gw_tbl (i := 186) (by decide +kernel) rfl
theorem w_188 : Cond.instanceMethod ⟨"LineDisk", "died", "()I"⟩ ∈ gw := gw_tbl (i := 188) (by decide +kernel) rfl
theorem w_189 : Cond.code ⟨"LineDisk", "died", "()I"⟩ prog_1_method_16_code 1 (some .int) ∈ gw := gw_tbl (i := 189) (by decide +kernel) rfl
theorem w_190 : Cond.methodLink "LineDisk" 63 ⟨"LineDisk$Workspace", "empty", "()V"⟩ ∈ gw := gw_tbl (i := 190) (by decide +kernel) rfl
theorem w_191 : Cond.instanceMethod ⟨"LineDisk$Workspace", "empty", "()V"⟩ ∈ gw := gw_tbl (i := 191) (by decide +kernel) rfl
theorem w_192 : Cond.selects "LineDisk$Workspace" ⟨"LineDisk$Workspace", "empty", "()V"⟩ ⟨"LineDisk$Workspace", "empty", "()V"⟩ ∈ gw := gw_tbl (i := 192) (by decide +kernel) rfl
theorem w_193 : Cond.code ⟨"LineDisk$Workspace", "empty", "()V"⟩ prog_5_method_2_code 1 none ∈ gw := gw_tbl (i := 193) (by decide +kernel) rfl
theorem w_194 : Cond.methodLink "LineDisk$Workspace" 40 ⟨"java/util/Arrays", "fill", "([II)V"⟩ ∈ gw := gw_tbl (i := 194) (by decide +kernel) rfl
theorem w_195 : Cond.static ⟨"java/util/Arrays", "fill", "([II)V"⟩ ∈ gw := gw_tbl (i := 195) (by decide +kernel) rfl
theorem w_196 : Cond.code ⟨"java/util/Arrays", "fill", "([II)V"⟩ prog_16_method_103_code 4 none ∈ gw := gw_tbl (i := 196) (by decide +kernel) rfl
theorem w_197 : Cond.methodLink "LineDiskLaw" 33 ⟨"LineDisk", "recover", "()I"⟩ ∈ gw := gw_tbl (i := 197) (by decide +kernel) rfl
theorem w_198 : Cond.instanceMethod ⟨"LineDisk", "recover", "()I"⟩ ∈ gw := gw_tbl (i := 198) (by decide +kernel) rfl
theorem w_199 : Cond.selects "LineDisk" ⟨"LineDisk", "recover", "()I"⟩ ⟨"LineDisk", "recover", "()I"⟩ ∈ gw := gw_tbl (i := 199) (by decide +kernel) rfl
theorem w_200 : Cond.code ⟨"LineDisk", "recover", "()I"⟩ prog_1_method_3_code 2 (some .int) ∈ gw := gw_tbl (i := 200) (by decide +kernel) rfl
theorem w_201 : Cond.methodLink "LineDisk" 66 ⟨"LineDisk$Store", "isFormatted", "()Z"⟩ ∈ gw := gw_tbl (i := 201) (by decide +kernel) rfl
theorem w_202 : Cond.instanceMethod ⟨"LineDisk$Store", "isFormatted", "()Z"⟩ ∈ gw := gw_tbl (i := 202) (by decide +kernel) rfl
theorem w_203 : Cond.selects "LineDisk$Store" ⟨"LineDisk$Store", "isFormatted", "()Z"⟩ ⟨"LineDisk$Store", "isFormatted", "()Z"⟩ ∈ gw := gw_tbl (i := 203) (by decide +kernel) rfl
theorem w_204 : Cond.code ⟨"LineDisk$Store", "isFormatted", "()Z"⟩ prog_4_method_3_code 1 (some .boolean) ∈ gw := gw_tbl (i := 204) (by decide +kernel) rfl
theorem w_205 : Cond.methodLink "LineDisk" 70 ⟨"LineDisk$Journal", "replay", "(LLineDisk$Store;)Z"⟩ ∈ gw := gw_tbl (i := 205) (by decide +kernel) rfl
theorem w_206 : Cond.instanceMethod ⟨"LineDisk$Journal", "replay", "(LLineDisk$Store;)Z"⟩ ∈ gw := gw_tbl (i := 206) (by decide +kernel) rfl
theorem w_207 : Cond.selects "LineDisk$Journal" ⟨"LineDisk$Journal", "replay", "(LLineDisk$Store;)Z"⟩ ⟨"LineDisk$Journal", "replay", "(LLineDisk$Store;)Z"⟩ ∈ gw := gw_tbl (i := 207) (by decide +kernel) rfl
theorem w_208 : Cond.code ⟨"LineDisk$Journal", "replay", "(LLineDisk$Store;)Z"⟩ prog_2_method_7_code 6 (some .boolean) ∈ gw := gw_tbl (i := 208) (by decide +kernel) rfl
theorem w_209 : Cond.methodLink "LineDisk$Journal" 32 ⟨"LineDisk$Store", "cell", "(I)I"⟩ ∈ gw := gw_tbl (i := 209) (by decide +kernel) rfl
theorem w_210 : Cond.instanceMethod ⟨"LineDisk$Store", "cell", "(I)I"⟩ ∈ gw := gw_tbl (i := 210) (by decide +kernel) rfl
theorem w_211 : Cond.selects "LineDisk$Store" ⟨"LineDisk$Store", "cell", "(I)I"⟩ ⟨"LineDisk$Store", "cell", "(I)I"⟩ ∈ gw := gw_tbl (i := 211) (by decide +kernel) rfl
theorem w_212 : Cond.code ⟨"LineDisk$Store", "cell", "(I)I"⟩ prog_4_method_2_code 2 (some .int) ∈ gw := gw_tbl (i := 212) (by decide +kernel) rfl
theorem w_213 : Cond.methodLink "LineDisk$Journal" 49 ⟨"LineDisk$Store", "copyBlock", "(II)Z"⟩ ∈ gw := gw_tbl (i := 213) (by decide +kernel) rfl
theorem w_214 : Cond.instanceMethod ⟨"LineDisk$Store", "copyBlock", "(II)Z"⟩ ∈ gw := gw_tbl (i := 214) (by decide +kernel) rfl
theorem w_215 : Cond.selects "LineDisk$Store" ⟨"LineDisk$Store", "copyBlock", "(II)Z"⟩ ⟨"LineDisk$Store", "copyBlock", "(II)Z"⟩ ∈ gw := gw_tbl (i := 215) (by decide +kernel) rfl
theorem w_216 : Cond.code ⟨"LineDisk$Store", "copyBlock", "(II)Z"⟩ prog_4_method_5_code 3 (some .boolean) ∈ gw := gw_tbl (i := 216) (by decide +kernel) rfl
theorem w_217 : Cond.methodLink "LineDisk$Store" 32 ⟨"LineDisk$Store", "write", "(I[II)Z"⟩ ∈ gw := gw_tbl (i := 217) (by decide +kernel) rfl
theorem w_219 : Cond.methodLink "LineDisk$Journal" 42 ⟨"LineDisk$Store", "write", "(I[II)Z"⟩ ∈ gw := gw_tbl (i := 219) (by decide +kernel) rfl
theorem w_220 : Cond.methodLink "LineDiskLaw" 37 ⟨"LineDisk", "feed", "(I)I"⟩ ∈ gw := gw_tbl (i := 220) (by decide +kernel) rfl
theorem w_221 : Cond.instanceMethod ⟨"LineDisk", "feed", "(I)I"⟩ ∈ gw := gw_tbl (i := 221) (by decide +kernel) rfl
theorem w_222 : Cond.selects "LineDisk" ⟨"LineDisk", "feed", "(I)I"⟩ ⟨"LineDisk", "feed", "(I)I"⟩ ∈ gw := gw_tbl (i := 222) (by decide +kernel) rfl
theorem w_223 : Cond.code ⟨"LineDisk", "feed", "(I)I"⟩ prog_1_method_4_code 4 (some .int) ∈ gw := gw_tbl (i := 223) (by decide +kernel) rfl
theorem w_224 : Cond.methodLink "LineDisk" 77 ⟨"LineDisk$Workspace", "keepTyped", "(I)V"⟩ ∈ gw := gw_tbl (i := 224) (by decide +kernel) rfl
theorem w_225 : Cond.instanceMethod ⟨"LineDisk$Workspace", "keepTyped", "(I)V"⟩ ∈ gw := gw_tbl (i := 225) (by decide +kernel) rfl
theorem w_226 : Cond.selects "LineDisk$Workspace" ⟨"LineDisk$Workspace", "keepTyped", "(I)V"⟩ ⟨"LineDisk$Workspace", "keepTyped", "(I)V"⟩ ∈ gw := gw_tbl (i := 226) (by decide +kernel) rfl
theorem w_227 : Cond.code ⟨"LineDisk$Workspace", "keepTyped", "(I)V"⟩ prog_5_method_3_code 2 none ∈ gw := gw_tbl (i := 227) (by decide +kernel) rfl
theorem w_228 : Cond.methodLink "LineDisk" 87 ⟨"LineDisk", "isDigit", "(I)Z"⟩ ∈ gw := gw_tbl (i := 228) (by decide +kernel) rfl
theorem w_229 : Cond.static ⟨"LineDisk", "isDigit", "(I)Z"⟩ ∈ gw := gw_tbl (i := 229) (by decide +kernel) rfl
theorem w_230 : Cond.code ⟨"LineDisk", "isDigit", "(I)Z"⟩ prog_1_method_12_code 1 (some .boolean) ∈ gw := gw_tbl (i := 230) (by decide +kernel) rfl
theorem w_231 : Cond.methodLink "LineDisk" 91 ⟨"LineDisk", "enterLine", "([II)I"⟩ ∈ gw := gw_tbl (i := 231) (by decide +kernel) rfl
theorem w_233 : Cond.instanceMethod ⟨"LineDisk", "enterLine", "([II)I"⟩ ∈ gw := gw_tbl (i := 233) (by decide +kernel) rfl
theorem w_234 : Cond.code ⟨"LineDisk", "enterLine", "([II)I"⟩ prog_1_method_18_code 5 (some .int) ∈ gw := gw_tbl (i := 234) (by decide +kernel) rfl
theorem w_235 : Cond.methodLink "LineDisk" 146 ⟨"LineDisk$Workspace", "remove", "(I)V"⟩ ∈ gw := gw_tbl (i := 235) (by decide +kernel) rfl
theorem w_236 : Cond.instanceMethod ⟨"LineDisk$Workspace", "remove", "(I)V"⟩ ∈ gw := gw_tbl (i := 236) (by decide +kernel) rfl
theorem w_237 : Cond.selects "LineDisk$Workspace" ⟨"LineDisk$Workspace", "remove", "(I)V"⟩ ⟨"LineDisk$Workspace", "remove", "(I)V"⟩ ∈ gw := gw_tbl (i := 237) (by decide +kernel) rfl
theorem w_238 : Cond.code ⟨"LineDisk$Workspace", "remove", "(I)V"⟩ prog_5_method_8_code 3 none ∈ gw := gw_tbl (i := 238) (by decide +kernel) rfl
theorem w_239 : Cond.methodLink "LineDisk$Workspace" 46 ⟨"LineDisk$Workspace", "placeOf", "(I)I"⟩ ∈ gw := gw_tbl (i := 239) (by decide +kernel) rfl
theorem w_241 : Cond.instanceMethod ⟨"LineDisk$Workspace", "placeOf", "(I)I"⟩ ∈ gw := gw_tbl (i := 241) (by decide +kernel) rfl
theorem w_242 : Cond.code ⟨"LineDisk$Workspace", "placeOf", "(I)I"⟩ prog_5_method_14_code 3 (some .int) ∈ gw := gw_tbl (i := 242) (by decide +kernel) rfl
theorem w_243 : Cond.methodLink "LineDisk$Workspace" 50 ⟨"LineDisk$Workspace", "numberOf", "(I)I"⟩ ∈ gw := gw_tbl (i := 243) (by decide +kernel) rfl
theorem w_244 : Cond.instanceMethod ⟨"LineDisk$Workspace", "numberOf", "(I)I"⟩ ∈ gw := gw_tbl (i := 244) (by decide +kernel) rfl
theorem w_245 : Cond.selects "LineDisk$Workspace" ⟨"LineDisk$Workspace", "numberOf", "(I)I"⟩ ⟨"LineDisk$Workspace", "numberOf", "(I)I"⟩ ∈ gw := gw_tbl (i := 245) (by decide +kernel) rfl
theorem w_246 : Cond.code ⟨"LineDisk$Workspace", "numberOf", "(I)I"⟩ prog_5_method_7_code 2 (some .int) ∈ gw := gw_tbl (i := 246) (by decide +kernel) rfl
theorem w_247 : Cond.methodLink "LineDisk$Workspace" 53 ⟨"LineDisk$Workspace", "moveLines", "(II)V"⟩ ∈ gw := gw_tbl (i := 247) (by decide +kernel) rfl
theorem w_249 : Cond.instanceMethod ⟨"LineDisk$Workspace", "moveLines", "(II)V"⟩ ∈ gw := gw_tbl (i := 249) (by decide +kernel) rfl
theorem w_250 : Cond.code ⟨"LineDisk$Workspace", "moveLines", "(II)V"⟩ prog_5_method_15_code 4 none ∈ gw := gw_tbl (i := 250) (by decide +kernel) rfl
theorem w_251 : Cond.methodLink "LineDisk$Workspace" 57 ⟨"java/lang/System", "arraycopy", "(Ljava/lang/Object;ILjava/lang/Object;II)V"⟩ ∈ gw := gw_tbl (i := 251) (by decide +kernel) rfl
theorem w_252 : Cond.methodLink "LineDisk" 149 ⟨"LineDisk$Statement", "read", "([III[I)Z"⟩ ∈ gw := gw_tbl (i := 252) (by decide +kernel) rfl
theorem w_253 : Cond.instanceMethod ⟨"LineDisk$Statement", "read", "([III[I)Z"⟩ ∈ gw := gw_tbl (i := 253) (by decide +kernel) rfl
theorem w_254 : Cond.selects "LineDisk$Statement" ⟨"LineDisk$Statement", "read", "([III[I)Z"⟩ ⟨"LineDisk$Statement", "read", "([III[I)Z"⟩ ∈ gw := gw_tbl (i := 254) (by decide +kernel) rfl
theorem w_255 : Cond.code ⟨"LineDisk$Statement", "read", "([III[I)Z"⟩ prog_3_method_2_code 5 (some .boolean) ∈ gw := gw_tbl (i := 255) (by decide +kernel) rfl
theorem w_256 : Cond.methodLink "LineDisk$Statement" 50 ⟨"LineDisk$Statement", "take", "([III[I)Z"⟩ ∈ gw := gw_tbl (i := 256) (by decide +kernel) rfl
theorem w_258 : Cond.instanceMethod ⟨"LineDisk$Statement", "take", "([III[I)Z"⟩ ∈ gw := gw_tbl (i := 258) (by decide +kernel) rfl
theorem w_259 : Cond.code ⟨"LineDisk$Statement", "take", "([III[I)Z"⟩ prog_3_method_4_code 5 (some .boolean) ∈ gw := gw_tbl (i := 259) (by decide +kernel) rfl
theorem w_260 : Cond.methodLink "LineDisk$Statement" 73 ⟨"java/lang/System", "arraycopy", "(Ljava/lang/Object;ILjava/lang/Object;II)V"⟩ ∈ gw := gw_tbl (i := 260) (by decide +kernel) rfl
theorem w_262 : Cond.static ⟨"LineDisk", "isVariable", "(I)Z"⟩ ∈ gw := gw_tbl (i := 262) (by decide +kernel) rfl
theorem w_263 : Cond.code ⟨"LineDisk", "isVariable", "(I)Z"⟩ prog_1_method_14_code 1 (some .boolean) ∈ gw := gw_tbl (i := 263) (by decide +kernel) rfl
theorem w_264 : Cond.methodLink "LineDisk$Statement" 54 ⟨"LineDisk$Statement", "variable", "()I"⟩ ∈ gw := gw_tbl (i := 264) (by decide +kernel) rfl
theorem w_266 : Cond.instanceMethod ⟨"LineDisk$Statement", "variable", "()I"⟩ ∈ gw := gw_tbl (i := 266) (by decide +kernel) rfl
theorem w_267 : Cond.code ⟨"LineDisk$Statement", "variable", "()I"⟩ prog_3_method_12_code 2 (some .int) ∈ gw := gw_tbl (i := 267) (by decide +kernel) rfl
theorem w_268 : Cond.methodLink "LineDisk$Statement" 86 ⟨"LineDisk$Statement", "peek", "()I"⟩ ∈ gw := gw_tbl (i := 268) (by decide +kernel) rfl
theorem w_270 : Cond.instanceMethod ⟨"LineDisk$Statement", "peek", "()I"⟩ ∈ gw := gw_tbl (i := 270) (by decide +kernel) rfl
theorem w_271 : Cond.code ⟨"LineDisk$Statement", "peek", "()I"⟩ prog_3_method_8_code 1 (some .int) ∈ gw := gw_tbl (i := 271) (by decide +kernel) rfl
theorem w_272 : Cond.methodLink "LineDisk$Statement" 57 ⟨"LineDisk$Statement", "expect", "(I)V"⟩ ∈ gw := gw_tbl (i := 272) (by decide +kernel) rfl
theorem w_274 : Cond.instanceMethod ⟨"LineDisk$Statement", "expect", "(I)V"⟩ ∈ gw := gw_tbl (i := 274) (by decide +kernel) rfl
theorem w_275 : Cond.code ⟨"LineDisk$Statement", "expect", "(I)V"⟩ prog_3_method_9_code 2 none ∈ gw := gw_tbl (i := 275) (by decide +kernel) rfl
theorem w_276 : Cond.methodLink "LineDisk$Statement" 61 ⟨"LineDisk$Statement", "value", "(I)I"⟩ ∈ gw := gw_tbl (i := 276) (by decide +kernel) rfl
theorem w_278 : Cond.instanceMethod ⟨"LineDisk$Statement", "value", "(I)I"⟩ ∈ gw := gw_tbl (i := 278) (by decide +kernel) rfl
theorem w_279 : Cond.code ⟨"LineDisk$Statement", "value", "(I)I"⟩ prog_3_method_5_code 6 (some .int) ∈ gw := gw_tbl (i := 279) (by decide +kernel) rfl
theorem w_280 : Cond.methodLink "LineDisk$Statement" 83 ⟨"LineDisk$Statement", "product", "(I)I"⟩ ∈ gw := gw_tbl (i := 280) (by decide +kernel) rfl
theorem w_282 : Cond.instanceMethod ⟨"LineDisk$Statement", "product", "(I)I"⟩ ∈ gw := gw_tbl (i := 282) (by decide +kernel) rfl
theorem w_283 : Cond.code ⟨"LineDisk$Statement", "product", "(I)I"⟩ prog_3_method_6_code 4 (some .int) ∈ gw := gw_tbl (i := 283) (by decide +kernel) rfl
theorem w_284 : Cond.methodLink "LineDisk$Statement" 89 ⟨"LineDisk$Statement", "piece", "(I)I"⟩ ∈ gw := gw_tbl (i := 284) (by decide +kernel) rfl
theorem w_286 : Cond.instanceMethod ⟨"LineDisk$Statement", "piece", "(I)I"⟩ ∈ gw := gw_tbl (i := 286) (by decide +kernel) rfl
theorem w_287 : Cond.code ⟨"LineDisk$Statement", "piece", "(I)I"⟩ prog_3_method_7_code 3 (some .int) ∈ gw := gw_tbl (i := 287) (by decide +kernel) rfl
theorem w_289 : Cond.methodLink "LineDisk$Statement" 95 ⟨"LineDisk$Statement", "digits", "(I)I"⟩ ∈ gw := gw_tbl (i := 289) (by decide +kernel) rfl
theorem w_291 : Cond.instanceMethod ⟨"LineDisk$Statement", "digits", "(I)I"⟩ ∈ gw := gw_tbl (i := 291) (by decide +kernel) rfl
theorem w_292 : Cond.code ⟨"LineDisk$Statement", "digits", "(I)I"⟩ prog_3_method_10_code 4 (some .int) ∈ gw := gw_tbl (i := 292) (by decide +kernel) rfl
theorem w_293 : Cond.methodLink "LineDisk$Statement" 65 ⟨"LineDisk$Statement", "sign", "()I"⟩ ∈ gw := gw_tbl (i := 293) (by decide +kernel) rfl
theorem w_295 : Cond.instanceMethod ⟨"LineDisk$Statement", "sign", "()I"⟩ ∈ gw := gw_tbl (i := 295) (by decide +kernel) rfl
theorem w_296 : Cond.code ⟨"LineDisk$Statement", "sign", "()I"⟩ prog_3_method_14_code 2 (some .int) ∈ gw := gw_tbl (i := 296) (by decide +kernel) rfl
theorem w_297 : Cond.methodLink "LineDisk$Statement" 67 ⟨"LineDisk$Statement", "lineNumber", "()I"⟩ ∈ gw := gw_tbl (i := 297) (by decide +kernel) rfl
theorem w_299 : Cond.instanceMethod ⟨"LineDisk$Statement", "lineNumber", "()I"⟩ ∈ gw := gw_tbl (i := 299) (by decide +kernel) rfl
theorem w_300 : Cond.code ⟨"LineDisk$Statement", "lineNumber", "()I"⟩ prog_3_method_11_code 2 (some .int) ∈ gw := gw_tbl (i := 300) (by decide +kernel) rfl
theorem w_301 : Cond.methodLink "LineDisk$Statement" 70 ⟨"LineDisk$Statement", "fileDigit", "()I"⟩ ∈ gw := gw_tbl (i := 301) (by decide +kernel) rfl
theorem w_303 : Cond.instanceMethod ⟨"LineDisk$Statement", "fileDigit", "()I"⟩ ∈ gw := gw_tbl (i := 303) (by decide +kernel) rfl
theorem w_304 : Cond.code ⟨"LineDisk$Statement", "fileDigit", "()I"⟩ prog_3_method_13_code 2 (some .int) ∈ gw := gw_tbl (i := 304) (by decide +kernel) rfl
theorem w_306 : Cond.static ⟨"LineDisk", "isFileDigit", "(I)Z"⟩ ∈ gw := gw_tbl (i := 306) (by decide +kernel) rfl
theorem w_307 : Cond.code ⟨"LineDisk", "isFileDigit", "(I)Z"⟩ prog_1_method_13_code 1 (some .boolean) ∈ gw := gw_tbl (i := 307) (by decide +kernel) rfl
theorem w_308 : Cond.methodLink "LineDisk" 153 ⟨"LineDisk$Workspace", "put", "(I[III)Z"⟩ ∈ gw := gw_tbl (i := 308) (by decide +kernel) rfl
theorem w_309 : Cond.instanceMethod ⟨"LineDisk$Workspace", "put", "(I[III)Z"⟩ ∈ gw := gw_tbl (i := 309) (by decide +kernel) rfl
theorem w_310 : Cond.selects "LineDisk$Workspace" ⟨"LineDisk$Workspace", "put", "(I[III)Z"⟩ ⟨"LineDisk$Workspace", "put", "(I[III)Z"⟩ ∈ gw := gw_tbl (i := 310) (by decide +kernel) rfl
theorem w_311 : Cond.code ⟨"LineDisk$Workspace", "put", "(I[III)Z"⟩ prog_5_method_9_code 6 (some .boolean) ∈ gw := gw_tbl (i := 311) (by decide +kernel) rfl
theorem w_312 : Cond.methodLink "LineDisk" 95 ⟨"LineDisk", "enterCommand", "([II)I"⟩ ∈ gw := gw_tbl (i := 312) (by decide +kernel) rfl
theorem w_314 : Cond.instanceMethod ⟨"LineDisk", "enterCommand", "([II)I"⟩ ∈ gw := gw_tbl (i := 314) (by decide +kernel) rfl
theorem w_315 : Cond.code ⟨"LineDisk", "enterCommand", "([II)I"⟩ prog_1_method_19_code 3 (some .int) ∈ gw := gw_tbl (i := 315) (by decide +kernel) rfl
theorem w_316 : Cond.methodLink "LineDisk" 157 ⟨"LineDisk", "plainCommand", "(I)I"⟩ ∈ gw := gw_tbl (i := 316) (by decide +kernel) rfl
theorem w_318 : Cond.instanceMethod ⟨"LineDisk", "plainCommand", "(I)I"⟩ ∈ gw := gw_tbl (i := 318) (by decide +kernel) rfl
theorem w_319 : Cond.code ⟨"LineDisk", "plainCommand", "(I)I"⟩ prog_1_method_20_code 2 (some .int) ∈ gw := gw_tbl (i := 319) (by decide +kernel) rfl
theorem w_320 : Cond.methodLink "LineDisk" 166 ⟨"LineDisk", "listFiles", "()I"⟩ ∈ gw := gw_tbl (i := 320) (by decide +kernel) rfl
theorem w_322 : Cond.instanceMethod ⟨"LineDisk", "listFiles", "()I"⟩ ∈ gw := gw_tbl (i := 322) (by decide +kernel) rfl
theorem w_323 : Cond.code ⟨"LineDisk", "listFiles", "()I"⟩ prog_1_method_22_code 2 (some .int) ∈ gw := gw_tbl (i := 323) (by decide +kernel) rfl
theorem w_324 : Cond.methodLink "LineDisk" 128 ⟨"LineDisk$Store", "fileCells", "(I)I"⟩ ∈ gw := gw_tbl (i := 324) (by decide +kernel) rfl
theorem w_325 : Cond.instanceMethod ⟨"LineDisk$Store", "fileCells", "(I)I"⟩ ∈ gw := gw_tbl (i := 325) (by decide +kernel) rfl
theorem w_326 : Cond.selects "LineDisk$Store" ⟨"LineDisk$Store", "fileCells", "(I)I"⟩ ⟨"LineDisk$Store", "fileCells", "(I)I"⟩ ∈ gw := gw_tbl (i := 326) (by decide +kernel) rfl
theorem w_327 : Cond.code ⟨"LineDisk$Store", "fileCells", "(I)I"⟩ prog_4_method_6_code 2 (some .int) ∈ gw := gw_tbl (i := 327) (by decide +kernel) rfl
theorem w_328 : Cond.methodLink "LineDisk$Store" 36 ⟨"LineDisk$Store", "cell", "(I)I"⟩ ∈ gw := gw_tbl (i := 328) (by decide +kernel) rfl
theorem w_329 : Cond.methodLink "LineDisk" 187 ⟨"LineDisk", "putOut", "(I)V"⟩ ∈ gw := gw_tbl (i := 329) (by decide +kernel) rfl
theorem w_331 : Cond.instanceMethod ⟨"LineDisk", "putOut", "(I)V"⟩ ∈ gw := gw_tbl (i := 331) (by decide +kernel) rfl
theorem w_332 : Cond.code ⟨"LineDisk", "putOut", "(I)V"⟩ prog_1_method_17_code 2 none ∈ gw := gw_tbl (i := 332) (by decide +kernel) rfl
theorem w_333 : Cond.methodLink "LineDisk" 169 ⟨"LineDisk$Workspace", "removeLines", "()V"⟩ ∈ gw := gw_tbl (i := 333) (by decide +kernel) rfl
theorem w_334 : Cond.instanceMethod ⟨"LineDisk$Workspace", "removeLines", "()V"⟩ ∈ gw := gw_tbl (i := 334) (by decide +kernel) rfl
theorem w_335 : Cond.selects "LineDisk$Workspace" ⟨"LineDisk$Workspace", "removeLines", "()V"⟩ ⟨"LineDisk$Workspace", "removeLines", "()V"⟩ ∈ gw := gw_tbl (i := 335) (by decide +kernel) rfl
theorem w_336 : Cond.code ⟨"LineDisk$Workspace", "removeLines", "()V"⟩ prog_5_method_4_code 1 none ∈ gw := gw_tbl (i := 336) (by decide +kernel) rfl
theorem w_337 : Cond.methodLink "LineDisk" 172 ⟨"LineDisk$Workspace", "clearVariables", "()V"⟩ ∈ gw := gw_tbl (i := 337) (by decide +kernel) rfl
theorem w_338 : Cond.instanceMethod ⟨"LineDisk$Workspace", "clearVariables", "()V"⟩ ∈ gw := gw_tbl (i := 338) (by decide +kernel) rfl
theorem w_339 : Cond.selects "LineDisk$Workspace" ⟨"LineDisk$Workspace", "clearVariables", "()V"⟩ ⟨"LineDisk$Workspace", "clearVariables", "()V"⟩ ∈ gw := gw_tbl (i := 339) (by decide +kernel) rfl
theorem w_340 : Cond.code ⟨"LineDisk$Workspace", "clearVariables", "()V"⟩ prog_5_method_5_code 1 none ∈ gw := gw_tbl (i := 340) (by decide +kernel) rfl
theorem w_341 : Cond.methodLink "LineDisk" 160 ⟨"LineDisk", "isFileDigit", "(I)Z"⟩ ∈ gw := gw_tbl (i := 341) (by decide +kernel) rfl
theorem w_342 : Cond.methodLink "LineDisk" 163 ⟨"LineDisk", "fileCommand", "(II)I"⟩ ∈ gw := gw_tbl (i := 342) (by decide +kernel) rfl
theorem w_344 : Cond.instanceMethod ⟨"LineDisk", "fileCommand", "(II)I"⟩ ∈ gw := gw_tbl (i := 344) (by decide +kernel) rfl
theorem w_345 : Cond.code ⟨"LineDisk", "fileCommand", "(II)I"⟩ prog_1_method_21_code 3 (some .int) ∈ gw := gw_tbl (i := 345) (by decide +kernel) rfl
theorem w_346 : Cond.methodLink "LineDisk" 178 ⟨"LineDisk", "saveLines", "(I)I"⟩ ∈ gw := gw_tbl (i := 346) (by decide +kernel) rfl
theorem w_348 : Cond.instanceMethod ⟨"LineDisk", "saveLines", "(I)I"⟩ ∈ gw := gw_tbl (i := 348) (by decide +kernel) rfl
theorem w_349 : Cond.code ⟨"LineDisk", "saveLines", "(I)I"⟩ prog_1_method_23_code 7 (some .int) ∈ gw := gw_tbl (i := 349) (by decide +kernel) rfl
theorem w_350 : Cond.methodLink "LineDisk" 190 ⟨"LineDisk", "blocksFor", "(I)I"⟩ ∈ gw := gw_tbl (i := 350) (by decide +kernel) rfl
theorem w_351 : Cond.static ⟨"LineDisk", "blocksFor", "(I)I"⟩ ∈ gw := gw_tbl (i := 351) (by decide +kernel) rfl
theorem w_352 : Cond.code ⟨"LineDisk", "blocksFor", "(I)I"⟩ prog_1_method_15_code 1 (some .int) ∈ gw := gw_tbl (i := 352) (by decide +kernel) rfl
theorem w_353 : Cond.methodLink "LineDisk" 193 ⟨"LineDisk$Store", "room", "(II)I"⟩ ∈ gw := gw_tbl (i := 353) (by decide +kernel) rfl
theorem w_354 : Cond.instanceMethod ⟨"LineDisk$Store", "room", "(II)I"⟩ ∈ gw := gw_tbl (i := 354) (by decide +kernel) rfl
theorem w_355 : Cond.selects "LineDisk$Store" ⟨"LineDisk$Store", "room", "(II)I"⟩ ⟨"LineDisk$Store", "room", "(II)I"⟩ ∈ gw := gw_tbl (i := 355) (by decide +kernel) rfl
theorem w_356 : Cond.code ⟨"LineDisk$Store", "room", "(II)I"⟩ prog_4_method_8_code 4 (some .int) ∈ gw := gw_tbl (i := 356) (by decide +kernel) rfl
theorem w_357 : Cond.methodLink "LineDisk$Store" 40 ⟨"LineDisk$Store", "isFreeFor", "(III)Z"⟩ ∈ gw := gw_tbl (i := 357) (by decide +kernel) rfl
theorem w_359 : Cond.instanceMethod ⟨"LineDisk$Store", "isFreeFor", "(III)Z"⟩ ∈ gw := gw_tbl (i := 359) (by decide +kernel) rfl
theorem w_360 : Cond.code ⟨"LineDisk$Store", "isFreeFor", "(III)Z"⟩ prog_4_method_9_code 7 (some .boolean) ∈ gw := gw_tbl (i := 360) (by decide +kernel) rfl
theorem w_361 : Cond.methodLink "LineDisk$Store" 44 ⟨"LineDisk$Store", "fileStart", "(I)I"⟩ ∈ gw := gw_tbl (i := 361) (by decide +kernel) rfl
theorem w_362 : Cond.instanceMethod ⟨"LineDisk$Store", "fileStart", "(I)I"⟩ ∈ gw := gw_tbl (i := 362) (by decide +kernel) rfl
theorem w_363 : Cond.selects "LineDisk$Store" ⟨"LineDisk$Store", "fileStart", "(I)I"⟩ ⟨"LineDisk$Store", "fileStart", "(I)I"⟩ ∈ gw := gw_tbl (i := 363) (by decide +kernel) rfl
theorem w_364 : Cond.code ⟨"LineDisk$Store", "fileStart", "(I)I"⟩ prog_4_method_7_code 2 (some .int) ∈ gw := gw_tbl (i := 364) (by decide +kernel) rfl
theorem w_365 : Cond.methodLink "LineDisk$Store" 47 ⟨"LineDisk$Store", "fileCells", "(I)I"⟩ ∈ gw := gw_tbl (i := 365) (by decide +kernel) rfl
theorem w_367 : Cond.methodLink "LineDisk" 196 ⟨"LineDisk", "beginFile", "(III)V"⟩ ∈ gw := gw_tbl (i := 367) (by decide +kernel) rfl
theorem w_369 : Cond.instanceMethod ⟨"LineDisk", "beginFile", "(III)V"⟩ ∈ gw := gw_tbl (i := 369) (by decide +kernel) rfl
theorem w_370 : Cond.code ⟨"LineDisk", "beginFile", "(III)V"⟩ prog_1_method_26_code 6 none ∈ gw := gw_tbl (i := 370) (by decide +kernel) rfl
theorem w_371 : Cond.methodLink "LineDisk" 219 ⟨"LineDisk$Journal", "begin", "()V"⟩ ∈ gw := gw_tbl (i := 371) (by decide +kernel) rfl
theorem w_372 : Cond.instanceMethod ⟨"LineDisk$Journal", "begin", "()V"⟩ ∈ gw := gw_tbl (i := 372) (by decide +kernel) rfl
theorem w_373 : Cond.selects "LineDisk$Journal" ⟨"LineDisk$Journal", "begin", "()V"⟩ ⟨"LineDisk$Journal", "begin", "()V"⟩ ∈ gw := gw_tbl (i := 373) (by decide +kernel) rfl
theorem w_374 : Cond.code ⟨"LineDisk$Journal", "begin", "()V"⟩ prog_2_method_2_code 1 none ∈ gw := gw_tbl (i := 374) (by decide +kernel) rfl
theorem w_375 : Cond.methodLink "LineDisk$Journal" 22 ⟨"java/util/Arrays", "fill", "([II)V"⟩ ∈ gw := gw_tbl (i := 375) (by decide +kernel) rfl
theorem w_376 : Cond.methodLink "LineDisk" 222 ⟨"LineDisk$Journal", "takeAsItIs", "(LLineDisk$Store;I)V"⟩ ∈ gw := gw_tbl (i := 376) (by decide +kernel) rfl
theorem w_377 : Cond.instanceMethod ⟨"LineDisk$Journal", "takeAsItIs", "(LLineDisk$Store;I)V"⟩ ∈ gw := gw_tbl (i := 377) (by decide +kernel) rfl
theorem w_378 : Cond.selects "LineDisk$Journal" ⟨"LineDisk$Journal", "takeAsItIs", "(LLineDisk$Store;I)V"⟩ ⟨"LineDisk$Journal", "takeAsItIs", "(LLineDisk$Store;I)V"⟩ ∈ gw := gw_tbl (i := 378) (by decide +kernel) rfl
theorem w_379 : Cond.code ⟨"LineDisk$Journal", "takeAsItIs", "(LLineDisk$Store;I)V"⟩ prog_2_method_4_code 5 none ∈ gw := gw_tbl (i := 379) (by decide +kernel) rfl
theorem w_380 : Cond.methodLink "LineDisk$Journal" 28 ⟨"LineDisk$Journal", "takeEmpty", "(I)V"⟩ ∈ gw := gw_tbl (i := 380) (by decide +kernel) rfl
theorem w_381 : Cond.instanceMethod ⟨"LineDisk$Journal", "takeEmpty", "(I)V"⟩ ∈ gw := gw_tbl (i := 381) (by decide +kernel) rfl
theorem w_382 : Cond.selects "LineDisk$Journal" ⟨"LineDisk$Journal", "takeEmpty", "(I)V"⟩ ⟨"LineDisk$Journal", "takeEmpty", "(I)V"⟩ ∈ gw := gw_tbl (i := 382) (by decide +kernel) rfl
theorem w_383 : Cond.code ⟨"LineDisk$Journal", "takeEmpty", "(I)V"⟩ prog_2_method_3_code 2 none ∈ gw := gw_tbl (i := 383) (by decide +kernel) rfl
theorem w_384 : Cond.methodLink "LineDisk$Journal" 38 ⟨"LineDisk$Journal", "put", "(II)V"⟩ ∈ gw := gw_tbl (i := 384) (by decide +kernel) rfl
theorem w_385 : Cond.instanceMethod ⟨"LineDisk$Journal", "put", "(II)V"⟩ ∈ gw := gw_tbl (i := 385) (by decide +kernel) rfl
theorem w_386 : Cond.selects "LineDisk$Journal" ⟨"LineDisk$Journal", "put", "(II)V"⟩ ⟨"LineDisk$Journal", "put", "(II)V"⟩ ∈ gw := gw_tbl (i := 386) (by decide +kernel) rfl
theorem w_387 : Cond.code ⟨"LineDisk$Journal", "put", "(II)V"⟩ prog_2_method_5_code 3 none ∈ gw := gw_tbl (i := 387) (by decide +kernel) rfl
theorem w_388 : Cond.methodLink "LineDisk" 200 ⟨"LineDisk$Journal", "put", "(II)V"⟩ ∈ gw := gw_tbl (i := 388) (by decide +kernel) rfl
theorem w_389 : Cond.methodLink "LineDisk" 226 ⟨"LineDisk$Journal", "takeEmpty", "(I)V"⟩ ∈ gw := gw_tbl (i := 389) (by decide +kernel) rfl
theorem w_390 : Cond.methodLink "LineDisk" 203 ⟨"LineDisk$Workspace", "tag", "(I)I"⟩ ∈ gw := gw_tbl (i := 390) (by decide +kernel) rfl
theorem w_391 : Cond.instanceMethod ⟨"LineDisk$Workspace", "tag", "(I)I"⟩ ∈ gw := gw_tbl (i := 391) (by decide +kernel) rfl
theorem w_392 : Cond.selects "LineDisk$Workspace" ⟨"LineDisk$Workspace", "tag", "(I)I"⟩ ⟨"LineDisk$Workspace", "tag", "(I)I"⟩ ∈ gw := gw_tbl (i := 392) (by decide +kernel) rfl
theorem w_393 : Cond.code ⟨"LineDisk$Workspace", "tag", "(I)I"⟩ prog_5_method_10_code 2 (some .int) ∈ gw := gw_tbl (i := 393) (by decide +kernel) rfl
theorem w_394 : Cond.methodLink "LineDisk" 206 ⟨"LineDisk$Workspace", "packed", "(II)I"⟩ ∈ gw := gw_tbl (i := 394) (by decide +kernel) rfl
theorem w_395 : Cond.instanceMethod ⟨"LineDisk$Workspace", "packed", "(II)I"⟩ ∈ gw := gw_tbl (i := 395) (by decide +kernel) rfl
theorem w_396 : Cond.selects "LineDisk$Workspace" ⟨"LineDisk$Workspace", "packed", "(II)I"⟩ ⟨"LineDisk$Workspace", "packed", "(II)I"⟩ ∈ gw := gw_tbl (i := 396) (by decide +kernel) rfl
theorem w_397 : Cond.code ⟨"LineDisk$Workspace", "packed", "(II)I"⟩ prog_5_method_11_code 6 (some .int) ∈ gw := gw_tbl (i := 397) (by decide +kernel) rfl
theorem w_398 : Cond.methodLink "LineDisk" 209 ⟨"LineDisk", "commit", "()I"⟩ ∈ gw := gw_tbl (i := 398) (by decide +kernel) rfl
theorem w_400 : Cond.instanceMethod ⟨"LineDisk", "commit", "()I"⟩ ∈ gw := gw_tbl (i := 400) (by decide +kernel) rfl
theorem w_401 : Cond.code ⟨"LineDisk", "commit", "()I"⟩ prog_1_method_27_code 1 (some .int) ∈ gw := gw_tbl (i := 401) (by decide +kernel) rfl
theorem w_402 : Cond.methodLink "LineDisk" 229 ⟨"LineDisk$Journal", "commit", "(LLineDisk$Store;)Z"⟩ ∈ gw := gw_tbl (i := 402) (by decide +kernel) rfl
theorem w_403 : Cond.instanceMethod ⟨"LineDisk$Journal", "commit", "(LLineDisk$Store;)Z"⟩ ∈ gw := gw_tbl (i := 403) (by decide +kernel) rfl
theorem w_404 : Cond.selects "LineDisk$Journal" ⟨"LineDisk$Journal", "commit", "(LLineDisk$Store;)Z"⟩ ⟨"LineDisk$Journal", "commit", "(LLineDisk$Store;)Z"⟩ ∈ gw := gw_tbl (i := 404) (by decide +kernel) rfl
theorem w_405 : Cond.code ⟨"LineDisk$Journal", "commit", "(LLineDisk$Store;)Z"⟩ prog_2_method_6_code 4 (some .boolean) ∈ gw := gw_tbl (i := 405) (by decide +kernel) rfl
theorem w_406 : Cond.methodLink "LineDisk" 181 ⟨"LineDisk", "loadLines", "(I)I"⟩ ∈ gw := gw_tbl (i := 406) (by decide +kernel) rfl
theorem w_408 : Cond.instanceMethod ⟨"LineDisk", "loadLines", "(I)I"⟩ ∈ gw := gw_tbl (i := 408) (by decide +kernel) rfl
theorem w_409 : Cond.code ⟨"LineDisk", "loadLines", "(I)I"⟩ prog_1_method_24_code 6 (some .int) ∈ gw := gw_tbl (i := 409) (by decide +kernel) rfl
theorem w_410 : Cond.methodLink "LineDisk" 212 ⟨"LineDisk$Store", "fileStart", "(I)I"⟩ ∈ gw := gw_tbl (i := 410) (by decide +kernel) rfl
theorem w_411 : Cond.methodLink "LineDisk" 124 ⟨"LineDisk$Store", "cell", "(I)I"⟩ ∈ gw := gw_tbl (i := 411) (by decide +kernel) rfl
theorem w_412 : Cond.methodLink "LineDisk" 215 ⟨"LineDisk$Workspace", "putPacked", "(IIII)V"⟩ ∈ gw := gw_tbl (i := 412) (by decide +kernel) rfl
theorem w_413 : Cond.instanceMethod ⟨"LineDisk$Workspace", "putPacked", "(IIII)V"⟩ ∈ gw := gw_tbl (i := 413) (by decide +kernel) rfl
theorem w_414 : Cond.selects "LineDisk$Workspace" ⟨"LineDisk$Workspace", "putPacked", "(IIII)V"⟩ ⟨"LineDisk$Workspace", "putPacked", "(IIII)V"⟩ ∈ gw := gw_tbl (i := 414) (by decide +kernel) rfl
theorem w_415 : Cond.code ⟨"LineDisk$Workspace", "putPacked", "(IIII)V"⟩ prog_5_method_12_code 5 none ∈ gw := gw_tbl (i := 415) (by decide +kernel) rfl
theorem w_416 : Cond.methodLink "LineDisk$Workspace" 63 ⟨"LineDisk$Workspace", "unpack", "(II)V"⟩ ∈ gw := gw_tbl (i := 416) (by decide +kernel) rfl
theorem w_418 : Cond.instanceMethod ⟨"LineDisk$Workspace", "unpack", "(II)V"⟩ ∈ gw := gw_tbl (i := 418) (by decide +kernel) rfl
theorem w_419 : Cond.code ⟨"LineDisk$Workspace", "unpack", "(II)V"⟩ prog_5_method_13_code 4 none ∈ gw := gw_tbl (i := 419) (by decide +kernel) rfl
theorem w_420 : Cond.methodLink "LineDisk$Workspace" 66 ⟨"LineDisk$Workspace", "put", "(I[III)Z"⟩ ∈ gw := gw_tbl (i := 420) (by decide +kernel) rfl
theorem w_421 : Cond.methodLink "LineDisk" 184 ⟨"LineDisk", "deleteFile", "(I)I"⟩ ∈ gw := gw_tbl (i := 421) (by decide +kernel) rfl
theorem w_423 : Cond.instanceMethod ⟨"LineDisk", "deleteFile", "(I)I"⟩ ∈ gw := gw_tbl (i := 423) (by decide +kernel) rfl
theorem w_424 : Cond.code ⟨"LineDisk", "deleteFile", "(I)I"⟩ prog_1_method_25_code 2 (some .int) ∈ gw := gw_tbl (i := 424) (by decide +kernel) rfl
theorem w_425 : Cond.methodLink "LineDiskLaw" 41 ⟨"LineDisk", "step", "(I)I"⟩ ∈ gw := gw_tbl (i := 425) (by decide +kernel) rfl
theorem w_426 : Cond.instanceMethod ⟨"LineDisk", "step", "(I)I"⟩ ∈ gw := gw_tbl (i := 426) (by decide +kernel) rfl
theorem w_427 : Cond.selects "LineDisk" ⟨"LineDisk", "step", "(I)I"⟩ ⟨"LineDisk", "step", "(I)I"⟩ ∈ gw := gw_tbl (i := 427) (by decide +kernel) rfl
theorem w_428 : Cond.code ⟨"LineDisk", "step", "(I)I"⟩ prog_1_method_5_code 5 (some .int) ∈ gw := gw_tbl (i := 428) (by decide +kernel) rfl
theorem w_429 : Cond.methodLink "LineDisk" 98 ⟨"java/lang/Math", "min", "(II)I"⟩ ∈ gw := gw_tbl (i := 429) (by decide +kernel) rfl
