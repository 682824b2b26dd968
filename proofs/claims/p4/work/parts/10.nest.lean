theorem v_25 : tables_1[25]? = some (Cond.methodLinkNest "LineDisk" 9 ⟨"LineDisk$Store", "<init>", "()V"⟩ "LineDisk") := by decide +kernel
theorem v_31 : tables_1[31]? = some (Cond.fieldLinkNest "LineDisk" 74 "LineDisk$Store" "armed" "I" "LineDisk") := by decide +kernel
theorem v_33 : tables_1[33]? = some (Cond.fieldLinkNest "LineDisk" 45 "LineDisk$Store" "dead" "Z" "LineDisk") := by decide +kernel
theorem v_35 : tables_1[35]? = some (Cond.fieldLinkNest "LineDisk" 131 "LineDisk$Store" "writes" "I" "LineDisk") := by decide +kernel
theorem v_48 : tables_1[48]? = some (Cond.methodLinkNest "LineDisk" 18 ⟨"LineDisk$Journal", "<init>", "()V"⟩ "LineDisk") := by decide +kernel
theorem v_64 : tables_1[64]? = some (Cond.methodLinkNest "LineDisk" 25 ⟨"LineDisk$Workspace", "<init>", "()V"⟩ "LineDisk") := by decide +kernel
theorem v_70 : tables_1[70]? = some (Cond.fieldLinkNest "LineDisk" 234 "LineDisk$Workspace" "lengths" "[I" "LineDisk") := by decide +kernel
theorem v_72 : tables_1[72]? = some (Cond.fieldLinkNest "LineDisk" 231 "LineDisk$Workspace" "texts" "[I" "LineDisk") := by decide +kernel
theorem v_75 : tables_1[75]? = some (Cond.fieldLinkNest "LineDisk" 134 "LineDisk$Workspace" "variables" "[I" "LineDisk") := by decide +kernel
theorem v_77 : tables_1[77]? = some (Cond.fieldLinkNest "LineDisk" 81 "LineDisk$Workspace" "typed" "[I" "LineDisk") := by decide +kernel
theorem v_79 : tables_1[79]? = some (Cond.fieldLinkNest "LineDisk" 137 "LineDisk$Workspace" "lines" "I" "LineDisk") := by decide +kernel
theorem v_81 : tables_1[81]? = some (Cond.fieldLinkNest "LineDisk" 175 "LineDisk$Workspace" "next" "I" "LineDisk") := by decide +kernel
theorem v_83 : tables_1[83]? = some (Cond.fieldLinkNest "LineDisk" 84 "LineDisk$Workspace" "typedCount" "I" "LineDisk") := by decide +kernel
theorem v_105 : tables_1[105]? = some (Cond.methodLinkNest "LineDisk" 32 ⟨"LineDisk$Statement", "<init>", "()V"⟩ "LineDisk") := by decide +kernel
theorem v_115 : tables_1[115]? = some (Cond.fieldLinkNest "LineDisk" 237 "LineDisk$Statement" "kind" "I" "LineDisk") := by decide +kernel
theorem v_117 : tables_1[117]? = some (Cond.fieldLinkNest "LineDisk" 249 "LineDisk$Statement" "variable" "I" "LineDisk") := by decide +kernel
theorem v_119 : tables_1[119]? = some (Cond.fieldLinkNest "LineDisk" 255 "LineDisk$Statement" "file" "I" "LineDisk") := by decide +kernel
theorem v_121 : tables_1[121]? = some (Cond.fieldLinkNest "LineDisk" 252 "LineDisk$Statement" "left" "I" "LineDisk") := by decide +kernel
theorem v_124 : tables_1[124]? = some (Cond.fieldLinkNest "LineDisk" 258 "LineDisk$Statement" "right" "I" "LineDisk") := by decide +kernel
theorem v_126 : tables_1[126]? = some (Cond.fieldLinkNest "LineDisk" 246 "LineDisk$Statement" "target" "I" "LineDisk") := by decide +kernel
theorem v_218 : tables_1[218]? = some (Cond.fieldLinkNest "LineDisk$Journal" 46 "LineDisk" "EMPTY_BLOCK" "[I" "LineDisk") := by decide +kernel
theorem v_261 : tables_1[261]? = some (Cond.methodLinkNest "LineDisk$Statement" 79 ⟨"LineDisk", "isVariable", "(I)Z"⟩ "LineDisk") := by decide +kernel
theorem v_288 : tables_1[288]? = some (Cond.methodLinkNest "LineDisk$Statement" 92 ⟨"LineDisk", "isDigit", "(I)Z"⟩ "LineDisk") := by decide +kernel
theorem v_305 : tables_1[305]? = some (Cond.methodLinkNest "LineDisk$Statement" 98 ⟨"LineDisk", "isFileDigit", "(I)Z"⟩ "LineDisk") := by decide +kernel
theorem v_366 : tables_1[366]? = some (Cond.methodLinkNest "LineDisk$Store" 50 ⟨"LineDisk", "blocksFor", "(I)I"⟩ "LineDisk") := by decide +kernel
theorem v_486 : tables_1[486]? = some (Cond.castable "java/lang/IllegalArgumentException" "java/lang/IllegalArgumentException") := by decide +kernel
theorem v_487 : tables_1[487]? = some (Cond.declares ⟨"java/lang/RuntimeException", "<init>", "()V"⟩) := by decide +kernel
theorem v_488 : tables_1[488]? = some (Cond.declares ⟨"java/lang/RuntimeException", "<init>", "(Ljava/lang/String;)V"⟩) := by decide +kernel
theorem v_489 : tables_1[489]? = some (Cond.declares ⟨"java/lang/Exception", "<init>", "()V"⟩) := by decide +kernel
theorem v_490 : tables_1[490]? = some (Cond.declares ⟨"java/lang/Exception", "<init>", "(Ljava/lang/String;)V"⟩) := by decide +kernel
theorem v_491 : tables_1[491]? = some (Cond.declares ⟨"java/lang/Throwable", "<init>", "()V"⟩) := by decide +kernel
theorem v_492 : tables_1[492]? = some (Cond.declares ⟨"java/lang/Throwable", "<init>", "(Ljava/lang/String;)V"⟩) := by decide +kernel
theorem v_561 : tables_1[561]? = some (Cond.castable "java/lang/IndexOutOfBoundsException" "java/lang/IndexOutOfBoundsException") := by decide +kernel
