section
-- ===== PART A: goes FIRST, ahead of the names: the tables' words, and 'selects' of the private methods out of them =====
/-- a private method of a class that the tables say can be made, by its rows of tables_1 -/
def lw_okq (q : MethodName × Nat) : Prop := (q.1.cls ≠ "java/lang/invoke/MethodHandle" ∧ q.1.cls ≠ "java/lang/invoke/VarHandle") ∧ Cond.instantiable q.1.cls q.2 ∈ tables_1 ∧ Cond.privateMethod q.1 ∈ tables_1 ∧ Cond.instanceMethod q.1 ∈ tables_1
theorem lw_p0 : lw_okq (⟨"LineDisk", "died", "()I"⟩, 6) := ⟨⟨by decide +kernel, by decide +kernel⟩, List.mem_of_getElem? (i := 16) (by decide +kernel), List.mem_of_getElem? (i := 187) (by decide +kernel), List.mem_of_getElem? (i := 188) (by decide +kernel)⟩
theorem lw_p1 : lw_okq (⟨"LineDisk", "enterLine", "([II)I"⟩, 6) := ⟨⟨by decide +kernel, by decide +kernel⟩, List.mem_of_getElem? (i := 16) (by decide +kernel), List.mem_of_getElem? (i := 232) (by decide +kernel), List.mem_of_getElem? (i := 233) (by decide +kernel)⟩
theorem lw_p2 : lw_okq (⟨"LineDisk$Workspace", "placeOf", "(I)I"⟩, 9) := ⟨⟨by decide +kernel, by decide +kernel⟩, List.mem_of_getElem? (i := 63) (by decide +kernel), List.mem_of_getElem? (i := 240) (by decide +kernel), List.mem_of_getElem? (i := 241) (by decide +kernel)⟩
theorem lw_p3 : lw_okq (⟨"LineDisk$Workspace", "moveLines", "(II)V"⟩, 9) := ⟨⟨by decide +kernel, by decide +kernel⟩, List.mem_of_getElem? (i := 63) (by decide +kernel), List.mem_of_getElem? (i := 248) (by decide +kernel), List.mem_of_getElem? (i := 249) (by decide +kernel)⟩
theorem lw_p4 : lw_okq (⟨"LineDisk$Statement", "take", "([III[I)Z"⟩, 12) := ⟨⟨by decide +kernel, by decide +kernel⟩, List.mem_of_getElem? (i := 104) (by decide +kernel), List.mem_of_getElem? (i := 257) (by decide +kernel), List.mem_of_getElem? (i := 258) (by decide +kernel)⟩
theorem lw_p5 : lw_okq (⟨"LineDisk$Statement", "variable", "()I"⟩, 12) := ⟨⟨by decide +kernel, by decide +kernel⟩, List.mem_of_getElem? (i := 104) (by decide +kernel), List.mem_of_getElem? (i := 265) (by decide +kernel), List.mem_of_getElem? (i := 266) (by decide +kernel)⟩
theorem lw_p6 : lw_okq (⟨"LineDisk$Statement", "peek", "()I"⟩, 12) := ⟨⟨by decide +kernel, by decide +kernel⟩, List.mem_of_getElem? (i := 104) (by decide +kernel), List.mem_of_getElem? (i := 269) (by decide +kernel), List.mem_of_getElem? (i := 270) (by decide +kernel)⟩
theorem lw_p7 : lw_okq (⟨"LineDisk$Statement", "expect", "(I)V"⟩, 12) := ⟨⟨by decide +kernel, by decide +kernel⟩, List.mem_of_getElem? (i := 104) (by decide +kernel), List.mem_of_getElem? (i := 273) (by decide +kernel), List.mem_of_getElem? (i := 274) (by decide +kernel)⟩
theorem lw_p8 : lw_okq (⟨"LineDisk$Statement", "value", "(I)I"⟩, 12) := ⟨⟨by decide +kernel, by decide +kernel⟩, List.mem_of_getElem? (i := 104) (by decide +kernel), List.mem_of_getElem? (i := 277) (by decide +kernel), List.mem_of_getElem? (i := 278) (by decide +kernel)⟩
theorem lw_p9 : lw_okq (⟨"LineDisk$Statement", "product", "(I)I"⟩, 12) := ⟨⟨by decide +kernel, by decide +kernel⟩, List.mem_of_getElem? (i := 104) (by decide +kernel), List.mem_of_getElem? (i := 281) (by decide +kernel), List.mem_of_getElem? (i := 282) (by decide +kernel)⟩
theorem lw_p10 : lw_okq (⟨"LineDisk$Statement", "piece", "(I)I"⟩, 12) := ⟨⟨by decide +kernel, by decide +kernel⟩, List.mem_of_getElem? (i := 104) (by decide +kernel), List.mem_of_getElem? (i := 285) (by decide +kernel), List.mem_of_getElem? (i := 286) (by decide +kernel)⟩
theorem lw_p11 : lw_okq (⟨"LineDisk$Statement", "digits", "(I)I"⟩, 12) := ⟨⟨by decide +kernel, by decide +kernel⟩, List.mem_of_getElem? (i := 104) (by decide +kernel), List.mem_of_getElem? (i := 290) (by decide +kernel), List.mem_of_getElem? (i := 291) (by decide +kernel)⟩
theorem lw_p12 : lw_okq (⟨"LineDisk$Statement", "sign", "()I"⟩, 12) := ⟨⟨by decide +kernel, by decide +kernel⟩, List.mem_of_getElem? (i := 104) (by decide +kernel), List.mem_of_getElem? (i := 294) (by decide +kernel), List.mem_of_getElem? (i := 295) (by decide +kernel)⟩
theorem lw_p13 : lw_okq (⟨"LineDisk$Statement", "lineNumber", "()I"⟩, 12) := ⟨⟨by decide +kernel, by decide +kernel⟩, List.mem_of_getElem? (i := 104) (by decide +kernel), List.mem_of_getElem? (i := 298) (by decide +kernel), List.mem_of_getElem? (i := 299) (by decide +kernel)⟩
theorem lw_p14 : lw_okq (⟨"LineDisk$Statement", "fileDigit", "()I"⟩, 12) := ⟨⟨by decide +kernel, by decide +kernel⟩, List.mem_of_getElem? (i := 104) (by decide +kernel), List.mem_of_getElem? (i := 302) (by decide +kernel), List.mem_of_getElem? (i := 303) (by decide +kernel)⟩
theorem lw_p15 : lw_okq (⟨"LineDisk", "enterCommand", "([II)I"⟩, 6) := ⟨⟨by decide +kernel, by decide +kernel⟩, List.mem_of_getElem? (i := 16) (by decide +kernel), List.mem_of_getElem? (i := 313) (by decide +kernel), List.mem_of_getElem? (i := 314) (by decide +kernel)⟩
def lw_privs_1 : List (MethodName × Nat) := [(⟨"LineDisk", "died", "()I"⟩, 6), (⟨"LineDisk", "enterLine", "([II)I"⟩, 6), (⟨"LineDisk$Workspace", "placeOf", "(I)I"⟩, 9), (⟨"LineDisk$Workspace", "moveLines", "(II)V"⟩, 9), (⟨"LineDisk$Statement", "take", "([III[I)Z"⟩, 12), (⟨"LineDisk$Statement", "variable", "()I"⟩, 12), (⟨"LineDisk$Statement", "peek", "()I"⟩, 12), (⟨"LineDisk$Statement", "expect", "(I)V"⟩, 12), (⟨"LineDisk$Statement", "value", "(I)I"⟩, 12), (⟨"LineDisk$Statement", "product", "(I)I"⟩, 12), (⟨"LineDisk$Statement", "piece", "(I)I"⟩, 12), (⟨"LineDisk$Statement", "digits", "(I)I"⟩, 12), (⟨"LineDisk$Statement", "sign", "()I"⟩, 12), (⟨"LineDisk$Statement", "lineNumber", "()I"⟩, 12), (⟨"LineDisk$Statement", "fileDigit", "()I"⟩, 12), (⟨"LineDisk", "enterCommand", "([II)I"⟩, 6)]
theorem lw_r1 : ∀ q ∈ lw_privs_1, lw_okq q := List.forall_mem_cons.mpr ⟨lw_p0, List.forall_mem_cons.mpr ⟨lw_p1, List.forall_mem_cons.mpr ⟨lw_p2, List.forall_mem_cons.mpr ⟨lw_p3, List.forall_mem_cons.mpr ⟨lw_p4, List.forall_mem_cons.mpr ⟨lw_p5, List.forall_mem_cons.mpr ⟨lw_p6, List.forall_mem_cons.mpr ⟨lw_p7, List.forall_mem_cons.mpr ⟨lw_p8, List.forall_mem_cons.mpr ⟨lw_p9, List.forall_mem_cons.mpr ⟨lw_p10, List.forall_mem_cons.mpr ⟨lw_p11, List.forall_mem_cons.mpr ⟨lw_p12, List.forall_mem_cons.mpr ⟨lw_p13, List.forall_mem_cons.mpr ⟨lw_p14, List.forall_mem_cons.mpr ⟨lw_p15, fun _ h => absurd h List.not_mem_nil⟩⟩⟩⟩⟩⟩⟩⟩⟩⟩⟩⟩⟩⟩⟩⟩
theorem lw_p16 : lw_okq (⟨"LineDisk", "plainCommand", "(I)I"⟩, 6) := ⟨⟨by decide +kernel, by decide +kernel⟩, List.mem_of_getElem? (i := 16) (by decide +kernel), List.mem_of_getElem? (i := 317) (by decide +kernel), List.mem_of_getElem? (i := 318) (by decide +kernel)⟩
theorem lw_p17 : lw_okq (⟨"LineDisk", "listFiles", "()I"⟩, 6) := ⟨⟨by decide +kernel, by decide +kernel⟩, List.mem_of_getElem? (i := 16) (by decide +kernel), List.mem_of_getElem? (i := 321) (by decide +kernel), List.mem_of_getElem? (i := 322) (by decide +kernel)⟩
theorem lw_p18 : lw_okq (⟨"LineDisk", "putOut", "(I)V"⟩, 6) := ⟨⟨by decide +kernel, by decide +kernel⟩, List.mem_of_getElem? (i := 16) (by decide +kernel), List.mem_of_getElem? (i := 330) (by decide +kernel), List.mem_of_getElem? (i := 331) (by decide +kernel)⟩
theorem lw_p19 : lw_okq (⟨"LineDisk", "fileCommand", "(II)I"⟩, 6) := ⟨⟨by decide +kernel, by decide +kernel⟩, List.mem_of_getElem? (i := 16) (by decide +kernel), List.mem_of_getElem? (i := 343) (by decide +kernel), List.mem_of_getElem? (i := 344) (by decide +kernel)⟩
theorem lw_p20 : lw_okq (⟨"LineDisk", "saveLines", "(I)I"⟩, 6) := ⟨⟨by decide +kernel, by decide +kernel⟩, List.mem_of_getElem? (i := 16) (by decide +kernel), List.mem_of_getElem? (i := 347) (by decide +kernel), List.mem_of_getElem? (i := 348) (by decide +kernel)⟩
theorem lw_p21 : lw_okq (⟨"LineDisk$Store", "isFreeFor", "(III)Z"⟩, 4) := ⟨⟨by decide +kernel, by decide +kernel⟩, List.mem_of_getElem? (i := 24) (by decide +kernel), List.mem_of_getElem? (i := 358) (by decide +kernel), List.mem_of_getElem? (i := 359) (by decide +kernel)⟩
theorem lw_p22 : lw_okq (⟨"LineDisk", "beginFile", "(III)V"⟩, 6) := ⟨⟨by decide +kernel, by decide +kernel⟩, List.mem_of_getElem? (i := 16) (by decide +kernel), List.mem_of_getElem? (i := 368) (by decide +kernel), List.mem_of_getElem? (i := 369) (by decide +kernel)⟩
theorem lw_p23 : lw_okq (⟨"LineDisk", "commit", "()I"⟩, 6) := ⟨⟨by decide +kernel, by decide +kernel⟩, List.mem_of_getElem? (i := 16) (by decide +kernel), List.mem_of_getElem? (i := 399) (by decide +kernel), List.mem_of_getElem? (i := 400) (by decide +kernel)⟩
theorem lw_p24 : lw_okq (⟨"LineDisk", "loadLines", "(I)I"⟩, 6) := ⟨⟨by decide +kernel, by decide +kernel⟩, List.mem_of_getElem? (i := 16) (by decide +kernel), List.mem_of_getElem? (i := 407) (by decide +kernel), List.mem_of_getElem? (i := 408) (by decide +kernel)⟩
theorem lw_p25 : lw_okq (⟨"LineDisk$Workspace", "unpack", "(II)V"⟩, 9) := ⟨⟨by decide +kernel, by decide +kernel⟩, List.mem_of_getElem? (i := 63) (by decide +kernel), List.mem_of_getElem? (i := 417) (by decide +kernel), List.mem_of_getElem? (i := 418) (by decide +kernel)⟩
theorem lw_p26 : lw_okq (⟨"LineDisk", "deleteFile", "(I)I"⟩, 6) := ⟨⟨by decide +kernel, by decide +kernel⟩, List.mem_of_getElem? (i := 16) (by decide +kernel), List.mem_of_getElem? (i := 422) (by decide +kernel), List.mem_of_getElem? (i := 423) (by decide +kernel)⟩
theorem lw_p27 : lw_okq (⟨"LineDisk", "oneStep", "()I"⟩, 6) := ⟨⟨by decide +kernel, by decide +kernel⟩, List.mem_of_getElem? (i := 16) (by decide +kernel), List.mem_of_getElem? (i := 436) (by decide +kernel), List.mem_of_getElem? (i := 437) (by decide +kernel)⟩
theorem lw_p28 : lw_okq (⟨"LineDisk", "perform", "()I"⟩, 6) := ⟨⟨by decide +kernel, by decide +kernel⟩, List.mem_of_getElem? (i := 16) (by decide +kernel), List.mem_of_getElem? (i := 444) (by decide +kernel), List.mem_of_getElem? (i := 445) (by decide +kernel)⟩
theorem lw_p29 : lw_okq (⟨"LineDisk", "writeRecord", "(III)I"⟩, 6) := ⟨⟨by decide +kernel, by decide +kernel⟩, List.mem_of_getElem? (i := 16) (by decide +kernel), List.mem_of_getElem? (i := 448) (by decide +kernel), List.mem_of_getElem? (i := 449) (by decide +kernel)⟩
theorem lw_p30 : lw_okq (⟨"LineDisk", "recordFault", "(II)I"⟩, 6) := ⟨⟨by decide +kernel, by decide +kernel⟩, List.mem_of_getElem? (i := 16) (by decide +kernel), List.mem_of_getElem? (i := 452) (by decide +kernel), List.mem_of_getElem? (i := 453) (by decide +kernel)⟩
theorem lw_p31 : lw_okq (⟨"LineDisk", "readRecord", "(III)I"⟩, 6) := ⟨⟨by decide +kernel, by decide +kernel⟩, List.mem_of_getElem? (i := 16) (by decide +kernel), List.mem_of_getElem? (i := 456) (by decide +kernel), List.mem_of_getElem? (i := 457) (by decide +kernel)⟩
def lw_privs_2 : List (MethodName × Nat) := [(⟨"LineDisk", "plainCommand", "(I)I"⟩, 6), (⟨"LineDisk", "listFiles", "()I"⟩, 6), (⟨"LineDisk", "putOut", "(I)V"⟩, 6), (⟨"LineDisk", "fileCommand", "(II)I"⟩, 6), (⟨"LineDisk", "saveLines", "(I)I"⟩, 6), (⟨"LineDisk$Store", "isFreeFor", "(III)Z"⟩, 4), (⟨"LineDisk", "beginFile", "(III)V"⟩, 6), (⟨"LineDisk", "commit", "()I"⟩, 6), (⟨"LineDisk", "loadLines", "(I)I"⟩, 6), (⟨"LineDisk$Workspace", "unpack", "(II)V"⟩, 9), (⟨"LineDisk", "deleteFile", "(I)I"⟩, 6), (⟨"LineDisk", "oneStep", "()I"⟩, 6), (⟨"LineDisk", "perform", "()I"⟩, 6), (⟨"LineDisk", "writeRecord", "(III)I"⟩, 6), (⟨"LineDisk", "recordFault", "(II)I"⟩, 6), (⟨"LineDisk", "readRecord", "(III)I"⟩, 6)]
theorem lw_r2 : ∀ q ∈ lw_privs_2, lw_okq q := List.forall_mem_cons.mpr ⟨lw_p16, List.forall_mem_cons.mpr ⟨lw_p17, List.forall_mem_cons.mpr ⟨lw_p18, List.forall_mem_cons.mpr ⟨lw_p19, List.forall_mem_cons.mpr ⟨lw_p20, List.forall_mem_cons.mpr ⟨lw_p21, List.forall_mem_cons.mpr ⟨lw_p22, List.forall_mem_cons.mpr ⟨lw_p23, List.forall_mem_cons.mpr ⟨lw_p24, List.forall_mem_cons.mpr ⟨lw_p25, List.forall_mem_cons.mpr ⟨lw_p26, List.forall_mem_cons.mpr ⟨lw_p27, List.forall_mem_cons.mpr ⟨lw_p28, List.forall_mem_cons.mpr ⟨lw_p29, List.forall_mem_cons.mpr ⟨lw_p30, List.forall_mem_cons.mpr ⟨lw_p31, fun _ h => absurd h List.not_mem_nil⟩⟩⟩⟩⟩⟩⟩⟩⟩⟩⟩⟩⟩⟩⟩⟩
theorem lw_p32 : lw_okq (⟨"java/lang/Throwable", "fillInStackTrace", "(I)Ljava/lang/Throwable;"⟩, 6) := ⟨⟨by decide +kernel, by decide +kernel⟩, List.mem_of_getElem? (i := 522) (by decide +kernel), List.mem_of_getElem? (i := 520) (by decide +kernel), List.mem_of_getElem? (i := 521) (by decide +kernel)⟩
theorem lw_p33 : lw_okq (⟨"LineDiskModel", "nothing", "()V"⟩, 25) := ⟨⟨by decide +kernel, by decide +kernel⟩, List.mem_of_getElem? (i := 584) (by decide +kernel), List.mem_of_getElem? (i := 590) (by decide +kernel), List.mem_of_getElem? (i := 591) (by decide +kernel)⟩
theorem lw_p34 : lw_okq (⟨"LineDiskModel", "write", "(II)V"⟩, 25) := ⟨⟨by decide +kernel, by decide +kernel⟩, List.mem_of_getElem? (i := 584) (by decide +kernel), List.mem_of_getElem? (i := 678) (by decide +kernel), List.mem_of_getElem? (i := 679) (by decide +kernel)⟩
theorem lw_p35 : lw_okq (⟨"LineDiskModel", "dies", "()V"⟩, 25) := ⟨⟨by decide +kernel, by decide +kernel⟩, List.mem_of_getElem? (i := 584) (by decide +kernel), List.mem_of_getElem? (i := 682) (by decide +kernel), List.mem_of_getElem? (i := 683) (by decide +kernel)⟩
theorem lw_p36 : lw_okq (⟨"LineDiskModel", "formatted", "()Z"⟩, 25) := ⟨⟨by decide +kernel, by decide +kernel⟩, List.mem_of_getElem? (i := 584) (by decide +kernel), List.mem_of_getElem? (i := 690) (by decide +kernel), List.mem_of_getElem? (i := 691) (by decide +kernel)⟩
theorem lw_p37 : lw_okq (⟨"LineDiskModel", "nextLine", "()I"⟩, 25) := ⟨⟨by decide +kernel, by decide +kernel⟩, List.mem_of_getElem? (i := 584) (by decide +kernel), List.mem_of_getElem? (i := 698) (by decide +kernel), List.mem_of_getElem? (i := 699) (by decide +kernel)⟩
theorem lw_p38 : lw_okq (⟨"LineDiskModel", "goThrough", "(ZII)V"⟩, 25) := ⟨⟨by decide +kernel, by decide +kernel⟩, List.mem_of_getElem? (i := 584) (by decide +kernel), List.mem_of_getElem? (i := 702) (by decide +kernel), List.mem_of_getElem? (i := 703) (by decide +kernel)⟩
theorem lw_p39 : lw_okq (⟨"LineDiskModel", "statement", "(ZI)I"⟩, 25) := ⟨⟨by decide +kernel, by decide +kernel⟩, List.mem_of_getElem? (i := 584) (by decide +kernel), List.mem_of_getElem? (i := 706) (by decide +kernel), List.mem_of_getElem? (i := 707) (by decide +kernel)⟩
theorem lw_p40 : lw_okq (⟨"LineDiskModel", "here", "()I"⟩, 25) := ⟨⟨by decide +kernel, by decide +kernel⟩, List.mem_of_getElem? (i := 584) (by decide +kernel), List.mem_of_getElem? (i := 710) (by decide +kernel), List.mem_of_getElem? (i := 711) (by decide +kernel)⟩
theorem lw_p41 : lw_okq (⟨"LineDiskModel", "must", "(I)V"⟩, 25) := ⟨⟨by decide +kernel, by decide +kernel⟩, List.mem_of_getElem? (i := 584) (by decide +kernel), List.mem_of_getElem? (i := 717) (by decide +kernel), List.mem_of_getElem? (i := 718) (by decide +kernel)⟩
theorem lw_p42 : lw_okq (⟨"LineDiskModel", "takes", "(I)Z"⟩, 25) := ⟨⟨by decide +kernel, by decide +kernel⟩, List.mem_of_getElem? (i := 584) (by decide +kernel), List.mem_of_getElem? (i := 721) (by decide +kernel), List.mem_of_getElem? (i := 722) (by decide +kernel)⟩
theorem lw_p43 : lw_okq (⟨"LineDiskModel", "value", "()I"⟩, 25) := ⟨⟨by decide +kernel, by decide +kernel⟩, List.mem_of_getElem? (i := 584) (by decide +kernel), List.mem_of_getElem? (i := 725) (by decide +kernel), List.mem_of_getElem? (i := 726) (by decide +kernel)⟩
theorem lw_p44 : lw_okq (⟨"LineDiskModel", "piece", "()Z"⟩, 25) := ⟨⟨by decide +kernel, by decide +kernel⟩, List.mem_of_getElem? (i := 584) (by decide +kernel), List.mem_of_getElem? (i := 729) (by decide +kernel), List.mem_of_getElem? (i := 730) (by decide +kernel)⟩
theorem lw_p45 : lw_okq (⟨"LineDiskModel", "reduce", "()V"⟩, 25) := ⟨⟨by decide +kernel, by decide +kernel⟩, List.mem_of_getElem? (i := 584) (by decide +kernel), List.mem_of_getElem? (i := 739) (by decide +kernel), List.mem_of_getElem? (i := 740) (by decide +kernel)⟩
theorem lw_p46 : lw_okq (⟨"LineDiskModel", "comesOut", "(I)V"⟩, 25) := ⟨⟨by decide +kernel, by decide +kernel⟩, List.mem_of_getElem? (i := 584) (by decide +kernel), List.mem_of_getElem? (i := 743) (by decide +kernel), List.mem_of_getElem? (i := 744) (by decide +kernel)⟩
theorem lw_p47 : lw_okq (⟨"LineDiskModel", "lineNumber", "()I"⟩, 25) := ⟨⟨by decide +kernel, by decide +kernel⟩, List.mem_of_getElem? (i := 584) (by decide +kernel), List.mem_of_getElem? (i := 747) (by decide +kernel), List.mem_of_getElem? (i := 748) (by decide +kernel)⟩
def lw_privs_3 : List (MethodName × Nat) := [(⟨"java/lang/Throwable", "fillInStackTrace", "(I)Ljava/lang/Throwable;"⟩, 6), (⟨"LineDiskModel", "nothing", "()V"⟩, 25), (⟨"LineDiskModel", "write", "(II)V"⟩, 25), (⟨"LineDiskModel", "dies", "()V"⟩, 25), (⟨"LineDiskModel", "formatted", "()Z"⟩, 25), (⟨"LineDiskModel", "nextLine", "()I"⟩, 25), (⟨"LineDiskModel", "goThrough", "(ZII)V"⟩, 25), (⟨"LineDiskModel", "statement", "(ZI)I"⟩, 25), (⟨"LineDiskModel", "here", "()I"⟩, 25), (⟨"LineDiskModel", "must", "(I)V"⟩, 25), (⟨"LineDiskModel", "takes", "(I)Z"⟩, 25), (⟨"LineDiskModel", "value", "()I"⟩, 25), (⟨"LineDiskModel", "piece", "()Z"⟩, 25), (⟨"LineDiskModel", "reduce", "()V"⟩, 25), (⟨"LineDiskModel", "comesOut", "(I)V"⟩, 25), (⟨"LineDiskModel", "lineNumber", "()I"⟩, 25)]
theorem lw_r3 : ∀ q ∈ lw_privs_3, lw_okq q := List.forall_mem_cons.mpr ⟨lw_p32, List.forall_mem_cons.mpr ⟨lw_p33, List.forall_mem_cons.mpr ⟨lw_p34, List.forall_mem_cons.mpr ⟨lw_p35, List.forall_mem_cons.mpr ⟨lw_p36, List.forall_mem_cons.mpr ⟨lw_p37, List.forall_mem_cons.mpr ⟨lw_p38, List.forall_mem_cons.mpr ⟨lw_p39, List.forall_mem_cons.mpr ⟨lw_p40, List.forall_mem_cons.mpr ⟨lw_p41, List.forall_mem_cons.mpr ⟨lw_p42, List.forall_mem_cons.mpr ⟨lw_p43, List.forall_mem_cons.mpr ⟨lw_p44, List.forall_mem_cons.mpr ⟨lw_p45, List.forall_mem_cons.mpr ⟨lw_p46, List.forall_mem_cons.mpr ⟨lw_p47, fun _ h => absurd h List.not_mem_nil⟩⟩⟩⟩⟩⟩⟩⟩⟩⟩⟩⟩⟩⟩⟩⟩
theorem lw_p48 : lw_okq (⟨"LineDiskModel", "digit", "()I"⟩, 25) := ⟨⟨by decide +kernel, by decide +kernel⟩, List.mem_of_getElem? (i := 584) (by decide +kernel), List.mem_of_getElem? (i := 751) (by decide +kernel), List.mem_of_getElem? (i := 752) (by decide +kernel)⟩
theorem lw_p49 : lw_okq (⟨"LineDiskModel", "recordStep", "(IIII)I"⟩, 25) := ⟨⟨by decide +kernel, by decide +kernel⟩, List.mem_of_getElem? (i := 584) (by decide +kernel), List.mem_of_getElem? (i := 755) (by decide +kernel), List.mem_of_getElem? (i := 756) (by decide +kernel)⟩
theorem lw_p50 : lw_okq (⟨"LineDiskModel", "sizeOf", "(I)I"⟩, 25) := ⟨⟨by decide +kernel, by decide +kernel⟩, List.mem_of_getElem? (i := 584) (by decide +kernel), List.mem_of_getElem? (i := 759) (by decide +kernel), List.mem_of_getElem? (i := 760) (by decide +kernel)⟩
theorem lw_p51 : lw_okq (⟨"LineDiskModel", "firstOf", "(I)I"⟩, 25) := ⟨⟨by decide +kernel, by decide +kernel⟩, List.mem_of_getElem? (i := 584) (by decide +kernel), List.mem_of_getElem? (i := 763) (by decide +kernel), List.mem_of_getElem? (i := 764) (by decide +kernel)⟩
theorem lw_p52 : lw_okq (⟨"LineDiskModel", "room", "(II)I"⟩, 25) := ⟨⟨by decide +kernel, by decide +kernel⟩, List.mem_of_getElem? (i := 584) (by decide +kernel), List.mem_of_getElem? (i := 767) (by decide +kernel), List.mem_of_getElem? (i := 768) (by decide +kernel)⟩
theorem lw_p53 : lw_okq (⟨"LineDiskModel", "used", "(II)Z"⟩, 25) := ⟨⟨by decide +kernel, by decide +kernel⟩, List.mem_of_getElem? (i := 584) (by decide +kernel), List.mem_of_getElem? (i := 771) (by decide +kernel), List.mem_of_getElem? (i := 772) (by decide +kernel)⟩
theorem lw_p54 : lw_okq (⟨"LineDiskModel", "directory", "(III)V"⟩, 25) := ⟨⟨by decide +kernel, by decide +kernel⟩, List.mem_of_getElem? (i := 584) (by decide +kernel), List.mem_of_getElem? (i := 778) (by decide +kernel), List.mem_of_getElem? (i := 779) (by decide +kernel)⟩
theorem lw_p55 : lw_okq (⟨"LineDiskModel", "commits", "()Z"⟩, 25) := ⟨⟨by decide +kernel, by decide +kernel⟩, List.mem_of_getElem? (i := 584) (by decide +kernel), List.mem_of_getElem? (i := 782) (by decide +kernel), List.mem_of_getElem? (i := 783) (by decide +kernel)⟩
theorem lw_p56 : lw_okq (⟨"LineDiskModel", "head", "()V"⟩, 25) := ⟨⟨by decide +kernel, by decide +kernel⟩, List.mem_of_getElem? (i := 584) (by decide +kernel), List.mem_of_getElem? (i := 786) (by decide +kernel), List.mem_of_getElem? (i := 787) (by decide +kernel)⟩
theorem lw_p57 : lw_okq (⟨"LineDiskModel", "last", "()I"⟩, 25) := ⟨⟨by decide +kernel, by decide +kernel⟩, List.mem_of_getElem? (i := 584) (by decide +kernel), List.mem_of_getElem? (i := 790) (by decide +kernel), List.mem_of_getElem? (i := 791) (by decide +kernel)⟩
theorem lw_p58 : lw_okq (⟨"LineDiskModel", "line", "()I"⟩, 25) := ⟨⟨by decide +kernel, by decide +kernel⟩, List.mem_of_getElem? (i := 584) (by decide +kernel), List.mem_of_getElem? (i := 798) (by decide +kernel), List.mem_of_getElem? (i := 799) (by decide +kernel)⟩
theorem lw_p59 : lw_okq (⟨"LineDiskModel", "lines", "()I"⟩, 25) := ⟨⟨by decide +kernel, by decide +kernel⟩, List.mem_of_getElem? (i := 584) (by decide +kernel), List.mem_of_getElem? (i := 802) (by decide +kernel), List.mem_of_getElem? (i := 803) (by decide +kernel)⟩
theorem lw_p60 : lw_okq (⟨"LineDiskModel", "command", "()I"⟩, 25) := ⟨⟨by decide +kernel, by decide +kernel⟩, List.mem_of_getElem? (i := 584) (by decide +kernel), List.mem_of_getElem? (i := 806) (by decide +kernel), List.mem_of_getElem? (i := 807) (by decide +kernel)⟩
theorem lw_p61 : lw_okq (⟨"LineDiskModel", "saves", "(I)I"⟩, 25) := ⟨⟨by decide +kernel, by decide +kernel⟩, List.mem_of_getElem? (i := 584) (by decide +kernel), List.mem_of_getElem? (i := 810) (by decide +kernel), List.mem_of_getElem? (i := 811) (by decide +kernel)⟩
theorem lw_p62 : lw_okq (⟨"LineDiskModel", "loads", "(I)I"⟩, 25) := ⟨⟨by decide +kernel, by decide +kernel⟩, List.mem_of_getElem? (i := 584) (by decide +kernel), List.mem_of_getElem? (i := 814) (by decide +kernel), List.mem_of_getElem? (i := 815) (by decide +kernel)⟩
theorem lw_p63 : lw_okq (⟨"LineDiskModel", "drops", "(I)I"⟩, 25) := ⟨⟨by decide +kernel, by decide +kernel⟩, List.mem_of_getElem? (i := 584) (by decide +kernel), List.mem_of_getElem? (i := 818) (by decide +kernel), List.mem_of_getElem? (i := 819) (by decide +kernel)⟩
def lw_privs_4 : List (MethodName × Nat) := [(⟨"LineDiskModel", "digit", "()I"⟩, 25), (⟨"LineDiskModel", "recordStep", "(IIII)I"⟩, 25), (⟨"LineDiskModel", "sizeOf", "(I)I"⟩, 25), (⟨"LineDiskModel", "firstOf", "(I)I"⟩, 25), (⟨"LineDiskModel", "room", "(II)I"⟩, 25), (⟨"LineDiskModel", "used", "(II)Z"⟩, 25), (⟨"LineDiskModel", "directory", "(III)V"⟩, 25), (⟨"LineDiskModel", "commits", "()Z"⟩, 25), (⟨"LineDiskModel", "head", "()V"⟩, 25), (⟨"LineDiskModel", "last", "()I"⟩, 25), (⟨"LineDiskModel", "line", "()I"⟩, 25), (⟨"LineDiskModel", "lines", "()I"⟩, 25), (⟨"LineDiskModel", "command", "()I"⟩, 25), (⟨"LineDiskModel", "saves", "(I)I"⟩, 25), (⟨"LineDiskModel", "loads", "(I)I"⟩, 25), (⟨"LineDiskModel", "drops", "(I)I"⟩, 25)]
theorem lw_r4 : ∀ q ∈ lw_privs_4, lw_okq q := List.forall_mem_cons.mpr ⟨lw_p48, List.forall_mem_cons.mpr ⟨lw_p49, List.forall_mem_cons.mpr ⟨lw_p50, List.forall_mem_cons.mpr ⟨lw_p51, List.forall_mem_cons.mpr ⟨lw_p52, List.forall_mem_cons.mpr ⟨lw_p53, List.forall_mem_cons.mpr ⟨lw_p54, List.forall_mem_cons.mpr ⟨lw_p55, List.forall_mem_cons.mpr ⟨lw_p56, List.forall_mem_cons.mpr ⟨lw_p57, List.forall_mem_cons.mpr ⟨lw_p58, List.forall_mem_cons.mpr ⟨lw_p59, List.forall_mem_cons.mpr ⟨lw_p60, List.forall_mem_cons.mpr ⟨lw_p61, List.forall_mem_cons.mpr ⟨lw_p62, List.forall_mem_cons.mpr ⟨lw_p63, fun _ h => absurd h List.not_mem_nil⟩⟩⟩⟩⟩⟩⟩⟩⟩⟩⟩⟩⟩⟩⟩⟩
def lw_privs : List (MethodName × Nat) := lw_privs_1 ++ (lw_privs_2 ++ (lw_privs_3 ++ (lw_privs_4)))
def lw_tbl : List Cond := k2_sels lw_privs ++ tables_1
theorem lw_privs_ok : ∀ q ∈ lw_privs, lw_okq q := by
  show ∀ q ∈ lw_privs_1 ++ (lw_privs_2 ++ (lw_privs_3 ++ (lw_privs_4))), lw_okq q
  exact List.forall_mem_append.mpr ⟨lw_r1, List.forall_mem_append.mpr ⟨lw_r2, List.forall_mem_append.mpr ⟨lw_r3, lw_r4⟩⟩⟩
/-! the words that stay true as the tables grow warmer: one list for all methods -/
def gw : List Cond := lw_tbl.filter goodWord
theorem gw_good : ∀ w ∈ gw, (w.onTables && w.keeps) = true ∨ ∃ ty, w = .arrayClass ty := fun w h => good_of_word (List.mem_filter.mp h).2
theorem gw_tbl {w : Cond} {i : Nat} (h : tables_1[i]? = some w) (g : goodWord w = true) : w ∈ gw := List.mem_filter.mpr ⟨List.mem_append_right _ (List.mem_of_getElem? h), g⟩
theorem gw_sel {q : MethodName × Nat} {i : Nat} (h : lw_privs[i]? = some q) : Cond.selects q.1.cls q.1 q.1 ∈ gw := List.mem_filter.mpr ⟨List.mem_append_left _ (List.mem_map.mpr ⟨q, List.mem_of_getElem? h, rfl⟩), by rfl⟩
theorem gw_lw {args : Array Value} {s : State} (h : ∀ w ∈ lw_tbl, w.before args s = true) : ∀ w ∈ gw, w.before args s = true := fun w hw => h w (List.mem_filter.mp hw).1
theorem gi {y : Cond} (h : y ∈ gw) : GoodIn gw (y :: gw) := fun w hw => (List.mem_cons.mp hw).elim (fun e => by rw [e]; exact ⟨h, gw_good _ h⟩) (fun g => ⟨g, gw_good _ g⟩)
theorem gv {own C : String} {idx : Nat} {y : MethodName} {cw : Cond} (h1 : Cond.methodLink own idx y ∈ gw) (h2 : Cond.instanceMethod y ∈ gw) (h3 : Cond.selects C y y ∈ gw) (h4 : Cond.initialized C ∈ gw) (h5 : cw ∈ gw) : GoodIn gw (wsV own idx C y (cw :: gw)) := by
  intro w hw
  unfold wsV at hw
  rcases List.mem_append.mp hw with h | h
  · have : w ∈ gw := by
      simp only [List.mem_cons, List.not_mem_nil, or_false] at h
      rcases h with rfl | rfl | rfl | rfl
      · exact h1
      · exact h2
      · exact h3
      · exact h4
    exact ⟨this, gw_good _ this⟩
  · exact gi h5 w h
theorem gs {own : String} {idx : Nat} {y : MethodName} {cw : Cond} (h1 : Cond.methodLink own idx y ∈ gw) (h2 : Cond.static y ∈ gw) (h4 : Cond.initialized y.cls ∈ gw) (h5 : cw ∈ gw) : GoodIn gw (va_wsS own idx y (cw :: gw)) := by
  intro w hw
  unfold va_wsS at hw
  rcases List.mem_append.mp hw with h | h
  · have : w ∈ gw := by
      simp only [List.mem_cons, List.not_mem_nil, or_false] at h
      rcases h with rfl | rfl | rfl
      · exact h1
      · exact h2
      · exact h4
    exact ⟨this, gw_good _ this⟩
  · exact gi h5 w h
/-! the words of another kind, which stay true too: links within the nest, castable, declares -/
def nw_ok : Cond → Bool
  | .fieldLinkNest .. => true
  | .methodLinkNest .. => true
  | .castable .. => true
  | .declares .. => true
  | _ => false
theorem nw_warm {w : Cond} (hw : nw_ok w = true) {s U : State} (hW : s.WarmedH U.vm) (h : va_Nw w s) : va_Nw w U := by
  cases w <;> first | (simp [nw_ok] at hw; done) | exact va_Nw.warmF hW h | exact va_Nw.warmM hW h | exact va_Nw.warmC hW h | exact va_tabs rfl (rfl : (s.setVm U.vm).vm = U.vm) (by rw [Cond.declares_setVm hW.alike]; exact h)
theorem nw_tab {w : Cond} (hw : nw_ok w = true) : w.onTables = true := by
  cases w <;> first | (simp [nw_ok] at hw; done) | rfl
def kw (U : State) : Prop := ∀ w ∈ tables_1, nw_ok w = true → va_Nw w U
theorem kw.warm {s U : State} (hW : s.WarmedH U.vm) (h : kw s) : kw U := fun w hw g => nw_warm g hW (h w hw g)
theorem kw.same {u U : State} (hv : u.vm = U.vm) (h : kw u) : kw U := fun w hw g => va_Nw.same (nw_tab g) hv (h w hw g)
theorem kw.of {args : Array Value} {s : State} (h : ∀ w ∈ lw_tbl, w.before args s = true) : kw s := fun w hw g => va_Nw.of (nw_tab g) (h w (List.mem_append_right _ hw))
theorem kw.at {w : Cond} {s : State} {i : Nat} (h : kw s) (hi : tables_1[i]? = some w) (g : nw_ok w = true) : va_Nw w s := h w (List.mem_of_getElem? hi) g
theorem kw.use {w : Cond} {s : State} {i : Nat} {args : Array Value} (h : kw s) (hi : tables_1[i]? = some w) (g : nw_ok w = true) : w.before args s = true := va_Nw.use (nw_tab g) (h w (List.mem_of_getElem? hi) g)
end
section
/-! Methods that throw: their contracts, their walk to the throw, a call of one from a method whose table catches it. -/
/-- the end of a method that throws a new X: nothing that was there has changed -/
def th_Q (X : String) (k n : Nat) (st : State) (o : Outcome) (t : State) : Prop :=
  ∃ a : Addr, o = .threw a ∧ (∃ ce : Cell, t.heap[a]? = some ce ∧ ce.vm.isStatics = false ∧ st.vm.findClass X = some ce.cls) ∧ st.WarmedH t.vm ∧ st.sameButNew ({ t with vm := st.vm } : State) [] k n
def th_Met (l : Launch) (y : MethodName) (ws : List Cond) (rm : Room) (Pc : Array Value → State → Prop) (X : String) : Prop :=
  MetFree l y (headSpec ws rm) Pc (fun _ _ _ _ _ => True) (fun _ st o t => th_Q X rm.cells rm.slots st o t)
def th_Z (below : List Frame) (X : String) (k n : Nat) (s : State) : State → Prop := fun t => ∃ o, t.status = .running ∧ Ended t below o ∧ th_Q X k n s o t
theorem th_ofW {l : Launch} {y : MethodName} {ws ws' : List Cond} {rm : Room} {Pc : Array Value → State → Prop} {X : String} {cc : ByteArray} {maxL : Nat} {ret : Option FieldType}
    (hy : plainName y.cls = true) (hw : ws = Cond.code y cc maxL ret :: ws')
    (body : ∀ p e s m args below meth c s₁, BodyLoose p l y (headSpec ws rm) cc maxL ret e s m args below meth c s₁ → c.maxLocals = maxL → c.exceptionTable.toList = [] → Pc args s →
      W p l e (headSpec ws rm).room s m args below meth c s.heap [] 0 0 (th_Z below X rm.cells rm.slots s) (entryFrame m args maxL)) : th_Met l y ws rm Pc X := by
  refine MetFree.of_bodyS (code := cc) (maxLocals := maxL) (ret := ret) hy ?_ ?_
  · intro args s m h hn
    obtain ⟨meth, c, h1, h2, h3, h4, h5, h6, -, -⟩ := Cond.code_spec hn (atoms_spec (ws := ws) h _ (by rw [hw]; exact List.mem_cons_self))
    exact ⟨meth, c, h1, h2, h3, h4, h5, h6⟩
  · intro p e s m args below meth c s₁ B hml hP _
    have hh0 : s₁.heap = s.heap := by rw [B.state]; rfl
    obtain ⟨meth2, c2, h1, h2, -, -, -, -, h7, -⟩ := Cond.code_spec B.named (atoms_spec (ws := ws) B.pre _ (by rw [hw]; exact List.mem_cons_self))
    have e1 : meth = meth2 := Option.some.inj (B.method.symm.trans h1)
    subst e1
    have X0 : Stand p l e (headSpec ws rm).room s m args below meth c s₁ [] 0 0 := Stand.of_body B
    have e2 : c = c2 := Option.some.inj (X0.code.symm.trans h2)
    subst e2
    have htab : c.exceptionTable.toList = [] := by
      have h8 : c.exceptionTable = #[] := by simpa using h7
      rw [h8]
    obtain ⟨t, a1, o, b1, b2, b3⟩ := body p e s m args below meth c s₁ B hml htab hP s₁ hh0 X0
    exact ⟨t, o, a1, b1, b2, b3⟩
/-- old cells are as they were where no slot of an old cell may have been written -/
theorem th_kept {s t : State} {k n : Nat} (h : s.sameButNew t [] k n) : s.heap.size ≤ t.heap.size ∧ ∀ q : Nat, q < s.heap.size → t.heap[q]? = s.heap[q]? := by
  obtain ⟨-, h2, -, -, -, h6⟩ := h
  refine ⟨h2, fun q hq => ?_⟩
  obtain ⟨c', e1, e2, e3, e4⟩ := h6 q s.heap[q] (Array.getElem?_eq_getElem hq)
  rw [e1, Array.getElem?_eq_getElem hq]
  have e5 : c'.slots = (s.heap[q]).slots := by
    apply Array.ext_getElem?
    intro i
    exact e4 i (by simp)
  rw [e2, e5]
section TH
variable {p : Program} {l : Launch} {e : Env} {R : Room} {s : State} {m : MethodId} {args : Array Value} {below : List Frame} {meth : Method} {c : Code} {H : Heap} {locs : List Loc} {cells slots : Nat} {Q : State → Prop}
variable {cc : ByteArray} {pc : Nat} {ls : Array Slot}
/-- new X; dup; ldc; X(String); athrow, in a method without a table: it ends so -/
theorem th_throw (hexec : p.tables.exec = Jvm.exec) (hb : c.code = cc) (htr : e.platform.stackTraces = false) {own X tx : String} {names : List String} {ia ib ic q k n : Nat}
    (hown : s.vm.findClass own = some m.cls) (hX : Bundle.fit X = true) (hnames : ∀ n ∈ names, Bundle.fit n = true) (h : ∀ a ∈ Bundle.ownAtoms own ic X names, a.before args s = true)
    (hcl : (Cond.classLink own ia X).before args s = true) (hini : (Cond.initialized X).before args s = true) (hZ : vk_R own ib tx q s)
    (hsize : ls.size = c.maxLocals) (htab : c.exceptionTable.toList = []) (hlocks : meth.locks = false)
    (hc : 1 ≤ R.cells) (hs : 6 ≤ R.slots) (hk : 1 ≤ k) (hn : 6 ≤ n) (hRf : names.length + 3 < R.frames) (hRl : 1 + (13 * (names.length + 1) + 42) ≤ R.locals)
    (d0 : decode cc pc = .ok (.new ia, 3)) (d3 : decode cc (pc + 3) = .ok (.dup, 1)) (d4 : decode cc (pc + 4) = .ok (.ldc ib, 2)) (d6 : decode cc (pc + 6) = .ok (.invokespecial ic, 3)) (d9 : decode cc (pc + 9) = .ok (.athrow, 1)) :
    W p l e R s m args below meth c s.heap [] 0 0 (th_Z below X k n s) (F0 m pc ls []) := by
  have hinst : (Cond.instantiable X 6).before args s = true := h _ (by simp [Bundle.ownAtoms])
  refine W.newc hexec hb hown hcl hinst hini rfl d0 (by omega) (by omega) fun cC kC h1 h2 h3 h4 => ?_
  refine W.eq (g2 := F0 m (pc + 3) ls [.ref s.heap.size]) rfl ?_
  refine lv_dup hexec hb d3 rfl ?_
  refine va_ldcS hexec hb hown hZ d4 ?_
  intro T hT Y
  subst hb
  obtain ⟨U, st, hrun, hend, hW, hsame, ce, hce, hO⟩ := Y.ctorThrowS hexec htr (own := own) (cls := X) (names := names) (ic := ic) hown hX hnames h (fun x hx => by cases hx) (a := s.heap.size) (cX := cC) (kX := kC) h1 h2
    (by rw [hT]; simp [freshCell]) (Nat.le_refl _) (msg := .ref q) rfl (g := F0 m (pc + 3 + 1 + 2) ls [.ref q, .ref s.heap.size, .ref s.heap.size]) rfl hsize rfl rfl (rest := []) rfl d6 d9 (fun x hx => by rw [htab] at hx; cases hx) hRf
    (by simpa [JFrame.monitorRoom, Value.category] using hRl) hlocks
  exact ⟨U, st, .threw s.heap.size, hrun, hend, s.heap.size, rfl, ⟨ce, hce, by rw [hO.vm]; rfl, hO.cls⟩, hW, hsame.mono (by omega) (by omega)⟩
end TH
end
section
/-! A call of a method that throws, from a method whose table has one row, which catches it. -/
section TC
theorem th_find {e : Env} {s : State} {f : JFrame} {a : Addr} {meth : Method} {code : Code} (hm : s.vm.method? f.method = some meth) (hc : meth.code = some code) {x : ExceptionTableEntry} (ht : code.exceptionTable.toList = [x])
    (hx : covers x f.pc = true) (h0 : x.catchType ≠ 0) {cT : ClassId} {cell : Cell} (hl : s.vm.ClassLinks e.platform f.method.cls x.catchType cT) (hcell : s.heap[a]? = some cell) (hobj : ∀ k, cell.vm ≠ .statics k)
    (hk : ∃ k, s.vm.classes[cell.cls]? = some k) (hcl : ∃ k, s.vm.classes[cT]? = some k) (hfit : s.vm.assignable cell.cls cT = true) (Q : Handler → Pre) (E : CtlPost) (d : Bool) (acts : List Action) :
    wp (findHandler f a) Q E e d acts s ↔ Q (.found x.handlerPc) d acts (s.setVm (s.vm.noted f.method.cls x.catchType (.cls cT))) := by
  rw [W.findHandler_eq hm hc, ht]
  simp only [covers] at hx
  obtain ⟨h1, h2⟩ := (resolveClass_links e.toSetting hl).op (op := VmOp.resolveClass f.method.cls x.catchType) rfl
  have hal : s.vm.Alike (s.vm.noted f.method.cls x.catchType (.cls cT)) := (Vm.Alike.refl s.vm).noted _ _ _
  obtain ⟨k1, hk1⟩ := hk
  obtain ⟨k2, hk2⟩ := hcl
  obtain ⟨k3, hk3, -⟩ := hal.2.2 _ _ hk1
  obtain ⟨k4, hk4, -⟩ := hal.2.2 _ _ hk2
  have hf2 : (s.vm.noted f.method.cls x.catchType (.cls cT)).assignable cell.cls cT = true := by rw [hal.assignable]; exact hfit
  simp [findHandler.go, hx, h0, h1, h2, hcell, hobj, hk3, hk4, hf2, VmOp.dirties, VmOp.acts]
variable {p : Program} {l : Launch} {e : Env} {R : Room} {s : State} {m : MethodId} {args : Array Value} {below : List Frame} {meth : Method} {c : Code} {H : Heap} {locs : List Loc} {cells slots : Nat} {Q : State → Prop}
/-- from the note over the frame to the row's handler -/
theorem th_caught {T : State} (Y : Stand p l e R s m args below meth c T locs cells slots) {a : Addr} {g : JFrame} (hg : g.method = m) {own name : String} (hown : s.vm.findClass own = some m.cls) {x : ExceptionTableEntry} (ht : c.exceptionTable.toList = [x])
    (hx : covers x g.pc = true) (h0 : x.catchType ≠ 0) (hlink : (Cond.classLink own x.catchType name).before args s = true) {X : String} (hcast : (Cond.castable X name).before args s = true) {cell : Cell} (hcell : T.heap[a]? = some cell) (hobj : cell.vm.isStatics = false) (hcX : s.vm.findClass X = some cell.cls) :
    ∃ vm', Stand p l e R s m args below meth c (T.setVm vm') locs cells slots ∧ ∀ target, Steps p.tables e below ((T.setVm vm').setTop { g with pc := x.handlerPc, stack := [.ref a] }) target → Steps p.tables e below ((T.setTop g).pushFrame (.throwing a)) target := by
  have hpl : e.platform.magicAccessors = ({} : Platform).magicAccessors := by rw [Y.admits.platform]
  obtain ⟨cT, hcT, hcl⟩ := Cond.classLink_spec hown hlink e.platform hpl
  obtain ⟨c3, c4, w1, w2, hfit⟩ := Cond.castable_spec hcast
  cases hcX.symm.trans w1
  cases hcT.symm.trans w2
  obtain ⟨dk, _, _, kt, hd, _, _, _, _, hkt, _, hopen⟩ := hcl.here
  have hcl0 := Y.warmed.classLinks hcl
  have hW' : s.WarmedH (T.vm.noted m.cls x.catchType (.cls cT)) := Y.warmed.noted hd hopen (State.rightAt_cls hcl)
  have hal := Y.warmed.alike
  obtain ⟨kt', hkt', -⟩ := hal.2.2 _ _ hkt
  have hfit' : T.vm.assignable cell.cls cT = true := by rw [hal.assignable]; exact hfit
  subst hg
  refine ⟨_, Y.noted hW', fun target hrest => ?_⟩
  have h : At T g.method c below := Y.here
  have hfind : ∀ (Q : Handler → Pre) (E : CtlPost) (d : Bool) (acts : List Action), wp (findHandler g a) Q E e d acts ((T.setTop g).pushFrame (.throwing a)) ↔ Q (.found x.handlerPc) d acts (((T.setTop g).pushFrame (.throwing a)).setVm (T.vm.noted g.method.cls x.catchType (.cls cT))) :=
    th_find (s := (T.setTop g).pushFrame (.throwing a)) (meth := meth) (code := c) Y.method' Y.code ht hx h0 (cT := cT) (cell := cell) hcl0 hcell (VmData.ne_statics_of hobj) (Vm.classAt_of_assignable hfit' ⟨kt', hkt'⟩) ⟨kt', hkt'⟩ hfit'
  generalize T.vm.noted g.method.cls x.catchType (.cls cT) = vm' at hfind hrest
  obtain ⟨hgo, hw⟩ := h.throwing a
  refine Steps.head hgo hw ?_
  rw [stepThread_throwing (frames_entered h.top _)]
  obtain ⟨g0, hg0⟩ := Option.isSome_iff_exists.mp h.top
  obtain ⟨r, hr⟩ := State.topJava?_eq_some.mp hg0
  have key : (stepThrowing e ((T.setTop g).pushFrame (.throwing a)) a (.java g :: T.frames.tail)).Is ((((T.setTop g).pushFrame (.throwing a)).setVm vm').setFrames (.java { g with pc := x.handlerPc, stack := [.ref a] } :: T.frames.tail)) [] := by
    simp only [stepThrowing, searchFrame, vmDo]
    generalize hres : Sem.go _ e false [] ((T.setTop g).pushFrame (.throwing a)) = res
    obtain ⟨as, rfl, ha⟩ := Sem.eq_ok_of hres (a := Handler.found x.handlerPc) (s' := ((T.setTop g).pushFrame (.throwing a)).setVm vm') (acts' := []) (by simp [hfind _ _ _ _])
    exact ⟨rfl, ha⟩
  rw [key.1]
  have hr' : (T.setVm vm').frames = .java g0 :: r := hr
  rw [State.setTop_of_frames _ hr'] at hrest
  have e9 : (((T.setTop g).pushFrame (.throwing a)).setVm vm').setFrames (.java { g with pc := x.handlerPc, stack := [.ref a] } :: T.frames.tail) = (T.setVm vm').setFrames (.java { g with pc := x.handlerPc, stack := [.ref a] } :: r) := by
    rw [hr, List.tail_cons, State.pushFrame, State.setTop_of_frames _ hr, State.setFrames_setFrames]
    show ((T.setVm vm').setFrames _).setFrames _ = _
    rw [State.setFrames_setFrames]
  rw [e9]
  exact hrest
set_option maxHeartbeats 1000000 in
/-- invokevirtual of a method that throws X, caught by the caller's one row -/
theorem th_call {cc : ByteArray} {nL pc index maxL : Nat} {ls : Array Slot} {own C name : String} {y : MethodName} {bytes : ByteArray} {ret : Option FieldType} {ws : List Cond} {rm : Room} {Pc : Array Value → State → Prop} {X : String} {b : Addr} {As rest : List Value} {x : ExceptionTableEntry}
    (hexec : p.tables.exec = Jvm.exec) (hb : c.code = cc) (hml : c.maxLocals = nL) (hown : s.vm.findClass own = some m.cls)
    (hM : th_Met l y ws rm Pc X) (hblind : FrameBlind Pc) (hfr : rm.frames + 1 ≤ R.frames) (hlo : 8 + (maxL + 11) + rm.locals ≤ R.locals)
    (hws : ∀ w ∈ ws, ∀ (a' : Array Value) (U : State), s.WarmedH U.vm → w.before a' U = true) (hcode : (Cond.code y bytes maxL ret).before args s = true)
    (hlink : (Cond.methodLink own index y).before args s = true) (hinst : (Cond.instanceMethod y).before args s = true) (hsel : (Cond.selects C y y).before args s = true) (hini : (Cond.initialized y.cls).before args s = true)
    (hy : y.cls ≠ "java/lang/invoke/MethodHandle" ∧ y.cls ≠ "java/lang/invoke/VarHandle") (hlen : ∀ sig, parseMethodDescriptor y.desc = some sig → As.length = sig.parameters.length)
    (hrecv : ∃ cellB : Cell, H[b]? = some cellB ∧ cellB.vm.isStatics = false ∧ s.vm.findClass C = some cellB.cls) (hPc : ∀ U : State, U.heap = H → s.WarmedH U.vm → Pc (Value.ref b :: As).toArray U)
    (hsize : ls.size = nL) (hW : (rest.map fun v => v.category).sum ≤ 8) (hdg : decode cc pc = .ok (.invokevirtual index, 3)) (hc : cells + rm.cells ≤ R.cells) (hs : slots + rm.slots ≤ R.slots)
    (ht : c.exceptionTable.toList = [x]) (hx : covers x pc = true) (h0 : x.catchType ≠ 0) (hclink : (Cond.classLink own x.catchType name).before args s = true) (hcast : (Cond.castable X name).before args s = true)
    {st0 : List Value} (hstack : st0 = As.reverse ++ .ref b :: rest)
    (kk : ∀ (a : Nat) (H1 : Heap), H.size ≤ H1.size → (∀ q : Nat, q < H.size → H1[q]? = H[q]?) → W p l e R s m args below meth c H1 locs (cells + rm.cells) (slots + rm.slots) Q (F0 m x.handlerPc ls [.ref a])) :
    W p l e R s m args below meth c H locs cells slots Q (F0 m pc ls st0) := by
  intro T hT Y
  obtain ⟨cellB, hcB, hoB, hclB⟩ := hrecv
  obtain ⟨mk, methM, hnamed, hmethM, hstM, habM⟩ := Cond.instanceMethod_spec hinst
  obtain ⟨methM', cM, hmethM', hcM, -, hlM, -, -, -, hsigM⟩ := Cond.code_spec hnamed hcode
  cases hmethM.symm.trans hmethM'
  obtain ⟨c2, r2, m2, q1, q2, q3, q4, kP, hkP, hkPi⟩ := Cond.selects_spec hsel
  cases hclB.symm.trans q1
  cases (State.methodFound?_of_named hnamed hy).symm.trans q2
  cases hnamed.symm.trans q3
  have hselP : selectMethod e.platform s.vm cellB.cls mk = .method mk := by rw [Launch.admits_selectMethod Y.admits]; exact q4
  subst hb
  obtain ⟨vm1, Y1, hstep1⟩ := Y.invokevirtual hexec hown hlink hnamed hmethM hstM hkP hkPi hy (a := b) (cell := cellB) (by rw [hT]; exact hcB)
    (fun z h => by rw [h] at hoB; cases hoB) hselP hmethM habM hkP hkPi (g := F0 m pc ls st0) rfl (argsL := As) (rest := rest) (hlen _ hsigM) hstack hdg
  generalize hU : T.setVm vm1 = U at Y1 hstep1
  have hUH : U.heap = H := by rw [← hU]; exact hT
  have hUW : s.WarmedH U.vm := Y1.warmed
  have hal := hUW.alike
  have hmU : U.vm.method? mk = some methM := by rw [hal.method?]; exact hmethM
  obtain ⟨kU, hkU, hkUe⟩ := hal.2.2 _ _ hkP
  have hnU : U.methodNamed? y = some mk := Y1.named hnamed
  have hiU : (Cond.initialized y.cls).before args U = true := word_at hUW (Or.inl (by first | rfl | simp [Cond.onTables, Cond.keeps, Cond.steady])) hini
  have hinitU : kU.init = .initialized := Cond.initialized_spec (findClass_of_methodNamed hnU) hkU hiU
  have h : At U (F0 m pc ls rest).method c below := Y1.here
  have happ : (headSpec ws rm).appliesLoose y e.platform (U.calling (F0 m pc ls rest) mk (Value.ref b :: As).toArray) = true :=
    Spec.appliesLoose_calling (g := F0 m pc ls rest) h hdg hnU hkU hinitU
      (Y1.room_calling (g := F0 m pc ls rest) (R' := rm) (hsize.trans hml.symm) hmU hcM hfr (by rw [hlM]; show 2 * 0 + (rest.map fun v => v.category).sum + (maxL + 11) + rm.locals ≤ R.locals; omega) hc hs) (atoms_intro fun w hw => hws w hw _ _ hUW)
  obtain ⟨mid, hmid⟩ := h.above
  have hfrm : (U.setTop (F0 m pc ls rest)).frames = (.java (F0 m pc ls rest) :: mid) ++ below := by rw [State.frames_setTop' _ h.top, hmid]; rfl
  obtain ⟨o, s2, hsteps, -, hend, hq⟩ := Steps.callFree hM p Y.admits Y.cas Y.clock (acts := []) hfrm happ (hblind _ _ _ _ (hPc U hUH hUW)) trivial
  obtain ⟨a, rfl, ⟨ce, hce, hcs, hcX⟩, hW2, hsame2⟩ := hq
  obtain ⟨hz, hold⟩ := th_kept hsame2
  rw [State.frames_setTop' _ h.top] at hend
  have hf2 : s2.frames = .throwing a :: .java (F0 m pc ls rest) :: U.frames.tail := hend
  have hW3 : U.WarmedH s2.vm := hW2
  obtain ⟨e2, g2, g3, g4, g5, g6⟩ := hsame2
  have e3 : s2 = ({ (U.calling (F0 m pc ls rest) mk (Value.ref b :: As).toArray).setFrames s2.frames with heap := s2.heap, slotsUsed := s2.slotsUsed } : State).setVm s2.vm := by
    have e4 : s2 = ({ s2 with vm := (U.calling (F0 m pc ls rest) mk (Value.ref b :: As).toArray).vm } : State).setVm s2.vm := rfl
    exact e4.trans (congrArg (fun z : State => z.setVm s2.vm) e2)
  obtain ⟨g0, hg0⟩ := Option.isSome_iff_exists.mp h.top
  obtain ⟨r, hr⟩ := State.topJava?_eq_some.mp hg0
  have hs2 : s2 = ((({ U with heap := s2.heap, slotsUsed := s2.slotsUsed } : State).setVm s2.vm).setTop (F0 m pc ls rest)).pushFrame (.throwing a) := by
    have hr' : (({ U with heap := s2.heap, slotsUsed := s2.slotsUsed } : State).setVm s2.vm).frames = .java g0 :: r := hr
    refine e3.trans ?_
    rw [hf2, State.calling_eq h.top, State.setFrames_setFrames, State.pushFrame, State.frames_setTop _ hr', State.setTop_of_frames _ hr', State.setFrames_setFrames, hr]
    rfl
  have hsame : U.sameButNew ({ U with heap := s2.heap, slotsUsed := s2.slotsUsed } : State) [] rm.cells rm.slots := by
    refine ⟨?_, g2, g3, g4, g5, g6⟩
    obtain ⟨t, ht, -⟩ := State.frames_cons hr
    show ({ U with heap := s2.heap, slotsUsed := s2.slotsUsed } : State) = { U.setFrames U.frames with heap := s2.heap, slotsUsed := s2.slotsUsed }
    rw [State.setFrames_self ht]
  have Y2 : Stand p l e R s m args below meth c (({ U with heap := s2.heap, slotsUsed := s2.slotsUsed } : State).setVm s2.vm) (locs ++ []) (cells + rm.cells) (slots + rm.slots) :=
    ⟨Y.admits, Y.cas, Y.clock, Y.frames, Y.room, Y.hears, Y.method, Y.code, (Y1.here.setHeapUsed s2.heap s2.slotsUsed).setVm hW3.alike, Y1.tail, State.WarmedH.trans Y1.warmed hW3, Y1.limits, Y1.bytes, Y1.same.trans (hsame.setVm s.vm)⟩
  rw [List.append_nil] at Y2
  have hcX2 : s.vm.findClass X = some ce.cls := by
    have h9 : U.vm.findClass X = some ce.cls := hcX
    rw [← hal.findClass]; exact h9
  obtain ⟨vm4, Y4, st4⟩ := th_caught Y2 (a := a) (g := F0 m pc ls rest) rfl hown ht hx h0 hclink hcast (cell := ce) hce hcs hcX2
  obtain ⟨t9, a9, b9⟩ := kk a s2.heap (by rw [← hUH]; exact hz) (fun q hq => by rw [← hUH]; exact hold q (by show q < U.heap.size; rw [hUH]; exact hq)) ((({ U with heap := s2.heap, slotsUsed := s2.slotsUsed } : State).setVm s2.vm).setVm vm4) rfl Y4
  refine ⟨t9, hstep1 _ fun acts => ?_, b9⟩
  rw [doInvoke_state]
  refine Steps.trans hsteps ?_
  rw [hs2]
  exact st4 t9 a9
end TC
end
section
theorem w_0 : Cond.initialized "LineDiskLaw" ∈ gw := gw_tbl (i := 0) (by decide +kernel) rfl
theorem w_1 : Cond.initialized "LineDisk" ∈ gw := gw_tbl (i := 1) (by decide +kernel) rfl
theorem w_2 : Cond.initialized "LineDisk$Store" ∈ gw := gw_tbl (i := 2) (by decide +kernel) rfl
theorem w_3 : Cond.initialized "LineDisk$Journal" ∈ gw := gw_tbl (i := 3) (by decide +kernel) rfl
theorem w_4 : Cond.initialized "LineDisk$Workspace" ∈ gw := gw_tbl (i := 4) (by decide +kernel) rfl
theorem w_5 : Cond.initialized "LineDisk$Statement" ∈ gw := gw_tbl (i := 5) (by decide +kernel) rfl
theorem w_6 : Cond.initialized "LineDiskModel" ∈ gw := gw_tbl (i := 6) (by decide +kernel) rfl
theorem w_7 : Cond.initialized "java/lang/System" ∈ gw := gw_tbl (i := 7) (by decide +kernel) rfl
theorem w_8 : Cond.initialized "java/util/Arrays" ∈ gw := gw_tbl (i := 8) (by decide +kernel) rfl
theorem w_9 : Cond.initialized "java/lang/Math" ∈ gw := gw_tbl (i := 9) (by decide +kernel) rfl
theorem w_10 : Cond.initialized "java/lang/Throwable" ∈ gw := gw_tbl (i := 10) (by decide +kernel) rfl
theorem w_11 : Cond.initialized "java/lang/Exception" ∈ gw := gw_tbl (i := 11) (by decide +kernel) rfl
theorem w_12 : Cond.initialized "java/lang/RuntimeException" ∈ gw := gw_tbl (i := 12) (by decide +kernel) rfl
theorem w_13 : Cond.initialized "java/lang/IllegalArgumentException" ∈ gw := gw_tbl (i := 13) (by decide +kernel) rfl
theorem w_14 : Cond.initialized "java/lang/IndexOutOfBoundsException" ∈ gw := gw_tbl (i := 14) (by decide +kernel) rfl
theorem w_15 : Cond.classLink "LineDiskLaw" 8 "LineDisk" ∈ gw := gw_tbl (i := 15) (by decide +kernel) rfl
theorem w_16 : Cond.instantiable "LineDisk" 6 ∈ gw := gw_tbl (i := 16) (by decide +kernel) rfl
theorem w_17 : Cond.methodLink "LineDiskLaw" 24 ⟨"LineDisk", "<init>", "()V"⟩ ∈ gw := gw_tbl (i := 17) (by decide +kernel) rfl
theorem w_18 : Cond.instanceMethod ⟨"LineDisk", "<init>", "()V"⟩ ∈ gw := gw_tbl (i := 18) (by decide +kernel) rfl
theorem w_19 : Cond.code ⟨"LineDisk", "<init>", "()V"⟩ prog_1_method_1_code 1 none ∈ gw := gw_tbl (i := 19) (by decide +kernel) rfl
theorem w_20 : Cond.methodLink "LineDisk" 1 ⟨"java/lang/Object", "<init>", "()V"⟩ ∈ gw := gw_tbl (i := 20) (by decide +kernel) rfl
theorem w_21 : Cond.instanceMethod ⟨"java/lang/Object", "<init>", "()V"⟩ ∈ gw := gw_tbl (i := 21) (by decide +kernel) rfl
theorem w_22 : Cond.code ⟨"java/lang/Object", "<init>", "()V"⟩ object_method_1_code 1 none ∈ gw := gw_tbl (i := 22) (by decide +kernel) rfl
theorem w_23 : Cond.classLink "LineDisk" 7 "LineDisk$Store" ∈ gw := gw_tbl (i := 23) (by decide +kernel) rfl
theorem w_24 : Cond.instantiable "LineDisk$Store" 4 ∈ gw := gw_tbl (i := 24) (by decide +kernel) rfl
theorem w_26 : Cond.instanceMethod ⟨"LineDisk$Store", "<init>", "()V"⟩ ∈ gw := gw_tbl (i := 26) (by decide +kernel) rfl
theorem w_27 : Cond.code ⟨"LineDisk$Store", "<init>", "()V"⟩ prog_4_method_1_code 1 none ∈ gw := gw_tbl (i := 27) (by decide +kernel) rfl
theorem w_28 : Cond.methodLink "LineDisk$Store" 3 ⟨"java/lang/Object", "<init>", "()V"⟩ ∈ gw := gw_tbl (i := 28) (by decide +kernel) rfl
theorem w_29 : Cond.fieldLink "LineDisk$Store" 9 "LineDisk$Store" "cells" "[I" ∈ gw := gw_tbl (i := 29) (by decide +kernel) rfl
theorem w_30 : Cond.fieldLink "LineDisk$Store" 15 "LineDisk$Store" "armed" "I" ∈ gw := gw_tbl (i := 30) (by decide +kernel) rfl
theorem w_32 : Cond.fieldLink "LineDisk$Store" 19 "LineDisk$Store" "dead" "Z" ∈ gw := gw_tbl (i := 32) (by decide +kernel) rfl
theorem w_34 : Cond.fieldLink "LineDisk$Store" 23 "LineDisk$Store" "writes" "I" ∈ gw := gw_tbl (i := 34) (by decide +kernel) rfl
theorem w_36 : Cond.laysFinal "LineDisk$Store" "LineDisk$Store" "cells" "[I" ∈ gw := gw_tbl (i := 36) (by decide +kernel) rfl
theorem w_37 : Cond.soleField "LineDisk$Store" "cells" ∈ gw := gw_tbl (i := 37) (by decide +kernel) rfl
theorem w_38 : Cond.lays "LineDisk$Store" "LineDisk$Store" "armed" "I" ∈ gw := gw_tbl (i := 38) (by decide +kernel) rfl
theorem w_39 : Cond.soleField "LineDisk$Store" "armed" ∈ gw := gw_tbl (i := 39) (by decide +kernel) rfl
theorem w_40 : Cond.lays "LineDisk$Store" "LineDisk$Store" "dead" "Z" ∈ gw := gw_tbl (i := 40) (by decide +kernel) rfl
theorem w_41 : Cond.soleField "LineDisk$Store" "dead" ∈ gw := gw_tbl (i := 41) (by decide +kernel) rfl
theorem w_42 : Cond.lays "LineDisk$Store" "LineDisk$Store" "writes" "I" ∈ gw := gw_tbl (i := 42) (by decide +kernel) rfl
theorem w_43 : Cond.soleField "LineDisk$Store" "writes" ∈ gw := gw_tbl (i := 43) (by decide +kernel) rfl
theorem w_44 : Cond.superclass "LineDisk$Store" "java/lang/Object" ∈ gw := gw_tbl (i := 44) (by decide +kernel) rfl
theorem w_45 : Cond.arrayClass .int ∈ gw := gw_tbl (i := 45) (by decide +kernel) rfl
theorem w_46 : Cond.classLink "LineDisk" 16 "LineDisk$Journal" ∈ gw := gw_tbl (i := 46) (by decide +kernel) rfl
theorem w_47 : Cond.instantiable "LineDisk$Journal" 3 ∈ gw := gw_tbl (i := 47) (by decide +kernel) rfl
theorem w_49 : Cond.instanceMethod ⟨"LineDisk$Journal", "<init>", "()V"⟩ ∈ gw := gw_tbl (i := 49) (by decide +kernel) rfl
theorem w_50 : Cond.code ⟨"LineDisk$Journal", "<init>", "()V"⟩ prog_2_method_1_code 1 none ∈ gw := gw_tbl (i := 50) (by decide +kernel) rfl
theorem w_51 : Cond.methodLink "LineDisk$Journal" 3 ⟨"java/lang/Object", "<init>", "()V"⟩ ∈ gw := gw_tbl (i := 51) (by decide +kernel) rfl
theorem w_52 : Cond.fieldLink "LineDisk$Journal" 9 "LineDisk$Journal" "rows" "[I" ∈ gw := gw_tbl (i := 52) (by decide +kernel) rfl
theorem w_53 : Cond.fieldLink "LineDisk$Journal" 15 "LineDisk$Journal" "head" "[I" ∈ gw := gw_tbl (i := 53) (by decide +kernel) rfl
theorem w_54 : Cond.fieldLink "LineDisk$Journal" 18 "LineDisk$Journal" "count" "I" ∈ gw := gw_tbl (i := 54) (by decide +kernel) rfl
theorem w_55 : Cond.laysFinal "LineDisk$Journal" "LineDisk$Journal" "rows" "[I" ∈ gw := gw_tbl (i := 55) (by decide +kernel) rfl
theorem w_56 : Cond.soleField "LineDisk$Journal" "rows" ∈ gw := gw_tbl (i := 56) (by decide +kernel) rfl
theorem w_57 : Cond.laysFinal "LineDisk$Journal" "LineDisk$Journal" "head" "[I" ∈ gw := gw_tbl (i := 57) (by decide +kernel) rfl
theorem w_58 : Cond.soleField "LineDisk$Journal" "head" ∈ gw := gw_tbl (i := 58) (by decide +kernel) rfl
theorem w_59 : Cond.lays "LineDisk$Journal" "LineDisk$Journal" "count" "I" ∈ gw := gw_tbl (i := 59) (by decide +kernel) rfl
theorem w_60 : Cond.soleField "LineDisk$Journal" "count" ∈ gw := gw_tbl (i := 60) (by decide +kernel) rfl
theorem w_61 : Cond.superclass "LineDisk$Journal" "java/lang/Object" ∈ gw := gw_tbl (i := 61) (by decide +kernel) rfl
theorem w_62 : Cond.classLink "LineDisk" 23 "LineDisk$Workspace" ∈ gw := gw_tbl (i := 62) (by decide +kernel) rfl
theorem w_63 : Cond.instantiable "LineDisk$Workspace" 9 ∈ gw := gw_tbl (i := 63) (by decide +kernel) rfl
theorem w_65 : Cond.instanceMethod ⟨"LineDisk$Workspace", "<init>", "()V"⟩ ∈ gw := gw_tbl (i := 65) (by decide +kernel) rfl
theorem w_66 : Cond.code ⟨"LineDisk$Workspace", "<init>", "()V"⟩ prog_5_method_1_code 1 none ∈ gw := gw_tbl (i := 66) (by decide +kernel) rfl
theorem w_67 : Cond.methodLink "LineDisk$Workspace" 3 ⟨"java/lang/Object", "<init>", "()V"⟩ ∈ gw := gw_tbl (i := 67) (by decide +kernel) rfl
theorem w_68 : Cond.fieldLink "LineDisk$Workspace" 9 "LineDisk$Workspace" "numbers" "[I" ∈ gw := gw_tbl (i := 68) (by decide +kernel) rfl
theorem w_69 : Cond.fieldLink "LineDisk$Workspace" 15 "LineDisk$Workspace" "lengths" "[I" ∈ gw := gw_tbl (i := 69) (by decide +kernel) rfl
theorem w_71 : Cond.fieldLink "LineDisk$Workspace" 18 "LineDisk$Workspace" "texts" "[I" ∈ gw := gw_tbl (i := 71) (by decide +kernel) rfl
theorem w_73 : Cond.fieldLink "LineDisk$Workspace" 21 "LineDisk$Workspace" "unpacked" "[I" ∈ gw := gw_tbl (i := 73) (by decide +kernel) rfl
theorem w_74 : Cond.fieldLink "LineDisk$Workspace" 24 "LineDisk$Workspace" "variables" "[I" ∈ gw := gw_tbl (i := 74) (by decide +kernel) rfl
theorem w_76 : Cond.fieldLink "LineDisk$Workspace" 27 "LineDisk$Workspace" "typed" "[I" ∈ gw := gw_tbl (i := 76) (by decide +kernel) rfl
theorem w_78 : Cond.fieldLink "LineDisk$Workspace" 30 "LineDisk$Workspace" "lines" "I" ∈ gw := gw_tbl (i := 78) (by decide +kernel) rfl
theorem w_80 : Cond.fieldLink "LineDisk$Workspace" 34 "LineDisk$Workspace" "next" "I" ∈ gw := gw_tbl (i := 80) (by decide +kernel) rfl
theorem w_82 : Cond.fieldLink "LineDisk$Workspace" 37 "LineDisk$Workspace" "typedCount" "I" ∈ gw := gw_tbl (i := 82) (by decide +kernel) rfl
theorem w_84 : Cond.laysFinal "LineDisk$Workspace" "LineDisk$Workspace" "numbers" "[I" ∈ gw := gw_tbl (i := 84) (by decide +kernel) rfl
theorem w_85 : Cond.soleField "LineDisk$Workspace" "numbers" ∈ gw := gw_tbl (i := 85) (by decide +kernel) rfl
theorem w_86 : Cond.laysFinal "LineDisk$Workspace" "LineDisk$Workspace" "lengths" "[I" ∈ gw := gw_tbl (i := 86) (by decide +kernel) rfl
theorem w_87 : Cond.soleField "LineDisk$Workspace" "lengths" ∈ gw := gw_tbl (i := 87) (by decide +kernel) rfl
theorem w_88 : Cond.laysFinal "LineDisk$Workspace" "LineDisk$Workspace" "texts" "[I" ∈ gw := gw_tbl (i := 88) (by decide +kernel) rfl
theorem w_89 : Cond.soleField "LineDisk$Workspace" "texts" ∈ gw := gw_tbl (i := 89) (by decide +kernel) rfl
theorem w_90 : Cond.laysFinal "LineDisk$Workspace" "LineDisk$Workspace" "unpacked" "[I" ∈ gw := gw_tbl (i := 90) (by decide +kernel) rfl
theorem w_91 : Cond.soleField "LineDisk$Workspace" "unpacked" ∈ gw := gw_tbl (i := 91) (by decide +kernel) rfl
theorem w_92 : Cond.laysFinal "LineDisk$Workspace" "LineDisk$Workspace" "variables" "[I" ∈ gw := gw_tbl (i := 92) (by decide +kernel) rfl
theorem w_93 : Cond.soleField "LineDisk$Workspace" "variables" ∈ gw := gw_tbl (i := 93) (by decide +kernel) rfl
theorem w_94 : Cond.laysFinal "LineDisk$Workspace" "LineDisk$Workspace" "typed" "[I" ∈ gw := gw_tbl (i := 94) (by decide +kernel) rfl
theorem w_95 : Cond.soleField "LineDisk$Workspace" "typed" ∈ gw := gw_tbl (i := 95) (by decide +kernel) rfl
theorem w_96 : Cond.lays "LineDisk$Workspace" "LineDisk$Workspace" "lines" "I" ∈ gw := gw_tbl (i := 96) (by decide +kernel) rfl
theorem w_97 : Cond.soleField "LineDisk$Workspace" "lines" ∈ gw := gw_tbl (i := 97) (by decide +kernel) rfl
theorem w_98 : Cond.lays "LineDisk$Workspace" "LineDisk$Workspace" "next" "I" ∈ gw := gw_tbl (i := 98) (by decide +kernel) rfl
theorem w_99 : Cond.soleField "LineDisk$Workspace" "next" ∈ gw := gw_tbl (i := 99) (by decide +kernel) rfl
theorem w_100 : Cond.lays "LineDisk$Workspace" "LineDisk$Workspace" "typedCount" "I" ∈ gw := gw_tbl (i := 100) (by decide +kernel) rfl
theorem w_101 : Cond.soleField "LineDisk$Workspace" "typedCount" ∈ gw := gw_tbl (i := 101) (by decide +kernel) rfl
theorem w_102 : Cond.superclass "LineDisk$Workspace" "java/lang/Object" ∈ gw := gw_tbl (i := 102) (by decide +kernel) rfl
theorem w_103 : Cond.classLink "LineDisk" 30 "LineDisk$Statement" ∈ gw := gw_tbl (i := 103) (by decide +kernel) rfl
theorem w_104 : Cond.instantiable "LineDisk$Statement" 12 ∈ gw := gw_tbl (i := 104) (by decide +kernel) rfl
theorem w_106 : Cond.instanceMethod ⟨"LineDisk$Statement", "<init>", "()V"⟩ ∈ gw := gw_tbl (i := 106) (by decide +kernel) rfl
theorem w_107 : Cond.code ⟨"LineDisk$Statement", "<init>", "()V"⟩ prog_3_method_1_code 1 none ∈ gw := gw_tbl (i := 107) (by decide +kernel) rfl
theorem w_108 : Cond.methodLink "LineDisk$Statement" 3 ⟨"java/lang/Object", "<init>", "()V"⟩ ∈ gw := gw_tbl (i := 108) (by decide +kernel) rfl
theorem w_109 : Cond.fieldLink "LineDisk$Statement" 9 "LineDisk$Statement" "text" "[I" ∈ gw := gw_tbl (i := 109) (by decide +kernel) rfl
theorem w_110 : Cond.fieldLink "LineDisk$Statement" 15 "LineDisk$Statement" "variables" "[I" ∈ gw := gw_tbl (i := 110) (by decide +kernel) rfl
theorem w_111 : Cond.fieldLink "LineDisk$Statement" 18 "LineDisk$Statement" "end" "I" ∈ gw := gw_tbl (i := 111) (by decide +kernel) rfl
theorem w_112 : Cond.fieldLink "LineDisk$Statement" 22 "LineDisk$Statement" "at" "I" ∈ gw := gw_tbl (i := 112) (by decide +kernel) rfl
theorem w_113 : Cond.fieldLink "LineDisk$Statement" 25 "LineDisk$Statement" "good" "Z" ∈ gw := gw_tbl (i := 113) (by decide +kernel) rfl
theorem w_114 : Cond.fieldLink "LineDisk$Statement" 29 "LineDisk$Statement" "kind" "I" ∈ gw := gw_tbl (i := 114) (by decide +kernel) rfl
theorem w_116 : Cond.fieldLink "LineDisk$Statement" 32 "LineDisk$Statement" "variable" "I" ∈ gw := gw_tbl (i := 116) (by decide +kernel) rfl
theorem w_118 : Cond.fieldLink "LineDisk$Statement" 35 "LineDisk$Statement" "file" "I" ∈ gw := gw_tbl (i := 118) (by decide +kernel) rfl
theorem w_120 : Cond.fieldLink "LineDisk$Statement" 38 "LineDisk$Statement" "left" "I" ∈ gw := gw_tbl (i := 120) (by decide +kernel) rfl
theorem w_122 : Cond.fieldLink "LineDisk$Statement" 41 "LineDisk$Statement" "sign" "I" ∈ gw := gw_tbl (i := 122) (by decide +kernel) rfl
theorem w_123 : Cond.fieldLink "LineDisk$Statement" 44 "LineDisk$Statement" "right" "I" ∈ gw := gw_tbl (i := 123) (by decide +kernel) rfl
theorem w_125 : Cond.fieldLink "LineDisk$Statement" 47 "LineDisk$Statement" "target" "I" ∈ gw := gw_tbl (i := 125) (by decide +kernel) rfl
theorem w_127 : Cond.laysFinal "LineDisk$Statement" "LineDisk$Statement" "text" "[I" ∈ gw := gw_tbl (i := 127) (by decide +kernel) rfl
theorem w_128 : Cond.soleField "LineDisk$Statement" "text" ∈ gw := gw_tbl (i := 128) (by decide +kernel) rfl
theorem w_129 : Cond.laysFinal "LineDisk$Statement" "LineDisk$Statement" "variables" "[I" ∈ gw := gw_tbl (i := 129) (by decide +kernel) rfl
theorem w_130 : Cond.soleField "LineDisk$Statement" "variables" ∈ gw := gw_tbl (i := 130) (by decide +kernel) rfl
theorem w_131 : Cond.lays "LineDisk$Statement" "LineDisk$Statement" "end" "I" ∈ gw := gw_tbl (i := 131) (by decide +kernel) rfl
theorem w_132 : Cond.soleField "LineDisk$Statement" "end" ∈ gw := gw_tbl (i := 132) (by decide +kernel) rfl
theorem w_133 : Cond.lays "LineDisk$Statement" "LineDisk$Statement" "at" "I" ∈ gw := gw_tbl (i := 133) (by decide +kernel) rfl
theorem w_134 : Cond.soleField "LineDisk$Statement" "at" ∈ gw := gw_tbl (i := 134) (by decide +kernel) rfl
theorem w_135 : Cond.lays "LineDisk$Statement" "LineDisk$Statement" "good" "Z" ∈ gw := gw_tbl (i := 135) (by decide +kernel) rfl
theorem w_136 : Cond.soleField "LineDisk$Statement" "good" ∈ gw := gw_tbl (i := 136) (by decide +kernel) rfl
theorem w_137 : Cond.lays "LineDisk$Statement" "LineDisk$Statement" "kind" "I" ∈ gw := gw_tbl (i := 137) (by decide +kernel) rfl
theorem w_138 : Cond.soleField "LineDisk$Statement" "kind" ∈ gw := gw_tbl (i := 138) (by decide +kernel) rfl
theorem w_139 : Cond.lays "LineDisk$Statement" "LineDisk$Statement" "variable" "I" ∈ gw := gw_tbl (i := 139) (by decide +kernel) rfl
theorem w_140 : Cond.soleField "LineDisk$Statement" "variable" ∈ gw := gw_tbl (i := 140) (by decide +kernel) rfl
theorem w_141 : Cond.lays "LineDisk$Statement" "LineDisk$Statement" "file" "I" ∈ gw := gw_tbl (i := 141) (by decide +kernel) rfl
theorem w_142 : Cond.soleField "LineDisk$Statement" "file" ∈ gw := gw_tbl (i := 142) (by decide +kernel) rfl
theorem w_143 : Cond.lays "LineDisk$Statement" "LineDisk$Statement" "left" "I" ∈ gw := gw_tbl (i := 143) (by decide +kernel) rfl
theorem w_144 : Cond.soleField "LineDisk$Statement" "left" ∈ gw := gw_tbl (i := 144) (by decide +kernel) rfl
theorem w_145 : Cond.lays "LineDisk$Statement" "LineDisk$Statement" "sign" "I" ∈ gw := gw_tbl (i := 145) (by decide +kernel) rfl
theorem w_146 : Cond.soleField "LineDisk$Statement" "sign" ∈ gw := gw_tbl (i := 146) (by decide +kernel) rfl
theorem w_147 : Cond.lays "LineDisk$Statement" "LineDisk$Statement" "right" "I" ∈ gw := gw_tbl (i := 147) (by decide +kernel) rfl
theorem w_148 : Cond.soleField "LineDisk$Statement" "right" ∈ gw := gw_tbl (i := 148) (by decide +kernel) rfl
theorem w_149 : Cond.lays "LineDisk$Statement" "LineDisk$Statement" "target" "I" ∈ gw := gw_tbl (i := 149) (by decide +kernel) rfl
theorem w_150 : Cond.soleField "LineDisk$Statement" "target" ∈ gw := gw_tbl (i := 150) (by decide +kernel) rfl
theorem w_151 : Cond.superclass "LineDisk$Statement" "java/lang/Object" ∈ gw := gw_tbl (i := 151) (by decide +kernel) rfl
theorem w_152 : Cond.fieldLink "LineDisk" 10 "LineDisk" "store" "LLineDisk$Store;" ∈ gw := gw_tbl (i := 152) (by decide +kernel) rfl
theorem w_153 : Cond.fieldLink "LineDisk" 19 "LineDisk" "journal" "LLineDisk$Journal;" ∈ gw := gw_tbl (i := 153) (by decide +kernel) rfl
theorem w_154 : Cond.fieldLink "LineDisk" 26 "LineDisk" "workspace" "LLineDisk$Workspace;" ∈ gw := gw_tbl (i := 154) (by decide +kernel) rfl
theorem w_155 : Cond.fieldLink "LineDisk" 33 "LineDisk" "statement" "LLineDisk$Statement;" ∈ gw := gw_tbl (i := 155) (by decide +kernel) rfl
theorem w_156 : Cond.fieldLink "LineDisk" 37 "LineDisk" "kept" "[I" ∈ gw := gw_tbl (i := 156) (by decide +kernel) rfl
theorem w_157 : Cond.fieldLink "LineDisk" 41 "LineDisk" "outCount" "I" ∈ gw := gw_tbl (i := 157) (by decide +kernel) rfl
theorem w_158 : Cond.laysFinal "LineDisk" "LineDisk" "store" "LLineDisk$Store;" ∈ gw := gw_tbl (i := 158) (by decide +kernel) rfl
theorem w_159 : Cond.soleField "LineDisk" "store" ∈ gw := gw_tbl (i := 159) (by decide +kernel) rfl
theorem w_160 : Cond.laysFinal "LineDisk" "LineDisk" "journal" "LLineDisk$Journal;" ∈ gw := gw_tbl (i := 160) (by decide +kernel) rfl
theorem w_161 : Cond.soleField "LineDisk" "journal" ∈ gw := gw_tbl (i := 161) (by decide +kernel) rfl
theorem w_162 : Cond.laysFinal "LineDisk" "LineDisk" "workspace" "LLineDisk$Workspace;" ∈ gw := gw_tbl (i := 162) (by decide +kernel) rfl
theorem w_163 : Cond.soleField "LineDisk" "workspace" ∈ gw := gw_tbl (i := 163) (by decide +kernel) rfl
theorem w_164 : Cond.laysFinal "LineDisk" "LineDisk" "statement" "LLineDisk$Statement;" ∈ gw := gw_tbl (i := 164) (by decide +kernel) rfl
theorem w_165 : Cond.soleField "LineDisk" "statement" ∈ gw := gw_tbl (i := 165) (by decide +kernel) rfl
theorem w_166 : Cond.laysFinal "LineDisk" "LineDisk" "kept" "[I" ∈ gw := gw_tbl (i := 166) (by decide +kernel) rfl
theorem w_167 : Cond.soleField "LineDisk" "kept" ∈ gw := gw_tbl (i := 167) (by decide +kernel) rfl
theorem w_168 : Cond.lays "LineDisk" "LineDisk" "outCount" "I" ∈ gw := gw_tbl (i := 168) (by decide +kernel) rfl
theorem w_169 : Cond.soleField "LineDisk" "outCount" ∈ gw := gw_tbl (i := 169) (by decide +kernel) rfl
theorem w_170 : Cond.superclass "LineDisk" "java/lang/Object" ∈ gw := gw_tbl (i := 170) (by decide +kernel) rfl
theorem w_171 : Cond.methodLink "LineDiskLaw" 28 ⟨"LineDisk", "format", "()I"⟩ ∈ gw := gw_tbl (i := 171) (by decide +kernel) rfl
theorem w_172 : Cond.instanceMethod ⟨"LineDisk", "format", "()I"⟩ ∈ gw := gw_tbl (i := 172) (by decide +kernel) rfl
theorem w_173 : Cond.selects "LineDisk" ⟨"LineDisk", "format", "()I"⟩ ⟨"LineDisk", "format", "()I"⟩ ∈ gw := gw_tbl (i := 173) (by decide +kernel) rfl
theorem w_174 : Cond.code ⟨"LineDisk", "format", "()I"⟩ prog_1_method_2_code 2 (some .int) ∈ gw := gw_tbl (i := 174) (by decide +kernel) rfl
theorem w_175 : Cond.fieldLink "LineDisk" 49 "LineDisk" "EMPTY_BLOCK" "[I" ∈ gw := gw_tbl (i := 175) (by decide +kernel) rfl
theorem w_177 : Cond.methodLink "LineDisk" 52 ⟨"LineDisk$Store", "write", "(I[II)Z"⟩ ∈ gw := gw_tbl (i := 177) (by decide +kernel) rfl
theorem w_178 : Cond.instanceMethod ⟨"LineDisk$Store", "write", "(I[II)Z"⟩ ∈ gw := gw_tbl (i := 178) (by decide +kernel) rfl
theorem w_179 : Cond.selects "LineDisk$Store" ⟨"LineDisk$Store", "write", "(I[II)Z"⟩ ⟨"LineDisk$Store", "write", "(I[II)Z"⟩ ∈ gw := gw_tbl (i := 179) (by decide +kernel) rfl
theorem w_180 : Cond.code ⟨"LineDisk$Store", "write", "(I[II)Z"⟩ prog_4_method_4_code 4 (some .boolean) ∈ gw := gw_tbl (i := 180) (by decide +kernel) rfl
theorem w_181 : Cond.methodLink "LineDisk$Store" 26 ⟨"java/lang/System", "arraycopy", "(Ljava/lang/Object;ILjava/lang/Object;II)V"⟩ ∈ gw := gw_tbl (i := 181) (by decide +kernel) rfl
theorem w_182 : Cond.static ⟨"java/lang/System", "arraycopy", "(Ljava/lang/Object;ILjava/lang/Object;II)V"⟩ ∈ gw := gw_tbl (i := 182) (by decide +kernel) rfl
theorem w_183 : Cond.native ⟨"java/lang/System", "arraycopy", "(Ljava/lang/Object;ILjava/lang/Object;II)V"⟩ ∈ gw := gw_tbl (i := 183) (by decide +kernel) rfl
theorem w_184 : Cond.fieldLink "LineDisk" 56 "LineDisk" "FORMATTED_HEAD" "[I" ∈ gw := gw_tbl (i := 184) (by decide +kernel) rfl
theorem w_186 : Cond.methodLink "LineDisk" 59 ⟨"LineDisk", "died", "()I"⟩ ∈ gw := gw_tbl (i := 186) (by decide +kernel) rfl
theorem w_188 : Cond.instanceMethod ⟨"LineDisk", "died", "()I"⟩ ∈ gw := gw_tbl (i := 188) (by decide +kernel) rfl
theorem w_189 : Cond.code ⟨"LineDisk", "died", "()I"⟩ prog_1_method_16_code 1 (some .int) ∈ gw := gw_tbl (i := 189) (by decide +kernel) rfl
theorem w_190 : Cond.methodLink "LineDisk" 63 ⟨"LineDisk$Workspace", "empty", "()V"⟩ ∈ gw := gw_tbl (i := 190) (by decide +kernel) rfl
theorem w_191 : Cond.instanceMethod ⟨"LineDisk$Workspace", "empty", "()V"⟩ ∈ gw := gw_tbl (i := 191) (by decide +kernel) rfl
theorem w_192 : Cond.selects "LineDisk$Workspace" ⟨"LineDisk$Workspace", "empty", "()V"⟩ ⟨"LineDisk$Workspace", "empty", "()V"⟩ ∈ gw := gw_tbl (i := 192) (by decide +kernel) rfl
theorem w_193 : Cond.code ⟨"LineDisk$Workspace", "empty", "()V"⟩ prog_5_method_2_code 1 none ∈ gw := gw_tbl (i := 193) (by decide +kernel) rfl
theorem w_194 : Cond.methodLink "LineDisk$Workspace" 40 ⟨"java/util/Arrays", "fill", "([II)V"⟩ ∈ gw := gw_tbl (i := 194) (by decide +kernel) rfl
theorem w_195 : Cond.static ⟨"java/util/Arrays", "fill", "([II)V"⟩ ∈ gw := gw_tbl (i := 195) (by decide +kernel) rfl
theorem w_196 : Cond.code ⟨"java/util/Arrays", "fill", "([II)V"⟩ prog_16_method_103_code 4 none ∈ gw := gw_tbl (i := 196) (by decide +kernel) rfl
theorem w_197 : Cond.methodLink "LineDiskLaw" 33 ⟨"LineDisk", "recover", "()I"⟩ ∈ gw := gw_tbl (i := 197) (by decide +kernel) rfl
theorem w_198 : Cond.instanceMethod ⟨"LineDisk", "recover", "()I"⟩ ∈ gw := gw_tbl (i := 198) (by decide +kernel) rfl
theorem w_199 : Cond.selects "LineDisk" ⟨"LineDisk", "recover", "()I"⟩ ⟨"LineDisk", "recover", "()I"⟩ ∈ gw := gw_tbl (i := 199) (by decide +kernel) rfl
theorem w_200 : Cond.code ⟨"LineDisk", "recover", "()I"⟩ prog_1_method_3_code 2 (some .int) ∈ gw := gw_tbl (i := 200) (by decide +kernel) rfl
theorem w_201 : Cond.methodLink "LineDisk" 66 ⟨"LineDisk$Store", "isFormatted", "()Z"⟩ ∈ gw := gw_tbl (i := 201) (by decide +kernel) rfl
theorem w_202 : Cond.instanceMethod ⟨"LineDisk$Store", "isFormatted", "()Z"⟩ ∈ gw := gw_tbl (i := 202) (by decide +kernel) rfl
theorem w_203 : Cond.selects "LineDisk$Store" ⟨"LineDisk$Store", "isFormatted", "()Z"⟩ ⟨"LineDisk$Store", "isFormatted", "()Z"⟩ ∈ gw := gw_tbl (i := 203) (by decide +kernel) rfl
theorem w_204 : Cond.code ⟨"LineDisk$Store", "isFormatted", "()Z"⟩ prog_4_method_3_code 1 (some .boolean) ∈ gw := gw_tbl (i := 204) (by decide +kernel) rfl
theorem w_205 : Cond.methodLink "LineDisk" 70 ⟨"LineDisk$Journal", "replay", "(LLineDisk$Store;)Z"⟩ ∈ gw := gw_tbl (i := 205) (by decide +kernel) rfl
theorem w_206 : Cond.instanceMethod ⟨"LineDisk$Journal", "replay", "(LLineDisk$Store;)Z"⟩ ∈ gw := gw_tbl (i := 206) (by decide +kernel) rfl
theorem w_207 : Cond.selects "LineDisk$Journal" ⟨"LineDisk$Journal", "replay", "(LLineDisk$Store;)Z"⟩ ⟨"LineDisk$Journal", "replay", "(LLineDisk$Store;)Z"⟩ ∈ gw := gw_tbl (i := 207) (by decide +kernel) rfl
theorem w_208 : Cond.code ⟨"LineDisk$Journal", "replay", "(LLineDisk$Store;)Z"⟩ prog_2_method_7_code 6 (some .boolean) ∈ gw := gw_tbl (i := 208) (by decide +kernel) rfl
theorem w_209 : Cond.methodLink "LineDisk$Journal" 32 ⟨"LineDisk$Store", "cell", "(I)I"⟩ ∈ gw := gw_tbl (i := 209) (by decide +kernel) rfl
theorem w_210 : Cond.instanceMethod ⟨"LineDisk$Store", "cell", "(I)I"⟩ ∈ gw := gw_tbl (i := 210) (by decide +kernel) rfl
theorem w_211 : Cond.selects "LineDisk$Store" ⟨"LineDisk$Store", "cell", "(I)I"⟩ ⟨"LineDisk$Store", "cell", "(I)I"⟩ ∈ gw := gw_tbl (i := 211) (by decide +kernel) rfl
theorem w_212 : Cond.code ⟨"LineDisk$Store", "cell", "(I)I"⟩ prog_4_method_2_code 2 (some .int) ∈ gw := gw_tbl (i := 212) (by decide +kernel) rfl
theorem w_213 : Cond.methodLink "LineDisk$Journal" 49 ⟨"LineDisk$Store", "copyBlock", "(II)Z"⟩ ∈ gw := gw_tbl (i := 213) (by decide +kernel) rfl
theorem w_214 : Cond.instanceMethod ⟨"LineDisk$Store", "copyBlock", "(II)Z"⟩ ∈ gw := gw_tbl (i := 214) (by decide +kernel) rfl
theorem w_215 : Cond.selects "LineDisk$Store" ⟨"LineDisk$Store", "copyBlock", "(II)Z"⟩ ⟨"LineDisk$Store", "copyBlock", "(II)Z"⟩ ∈ gw := gw_tbl (i := 215) (by decide +kernel) rfl
theorem w_216 : Cond.code ⟨"LineDisk$Store", "copyBlock", "(II)Z"⟩ prog_4_method_5_code 3 (some .boolean) ∈ gw := gw_tbl (i := 216) (by decide +kernel) rfl
theorem w_217 : Cond.methodLink "LineDisk$Store" 32 ⟨"LineDisk$Store", "write", "(I[II)Z"⟩ ∈ gw := gw_tbl (i := 217) (by decide +kernel) rfl
theorem w_219 : Cond.methodLink "LineDisk$Journal" 42 ⟨"LineDisk$Store", "write", "(I[II)Z"⟩ ∈ gw := gw_tbl (i := 219) (by decide +kernel) rfl
theorem w_220 : Cond.methodLink "LineDiskLaw" 37 ⟨"LineDisk", "feed", "(I)I"⟩ ∈ gw := gw_tbl (i := 220) (by decide +kernel) rfl
theorem w_221 : Cond.instanceMethod ⟨"LineDisk", "feed", "(I)I"⟩ ∈ gw := gw_tbl (i := 221) (by decide +kernel) rfl
theorem w_222 : Cond.selects "LineDisk" ⟨"LineDisk", "feed", "(I)I"⟩ ⟨"LineDisk", "feed", "(I)I"⟩ ∈ gw := gw_tbl (i := 222) (by decide +kernel) rfl
theorem w_223 : Cond.code ⟨"LineDisk", "feed", "(I)I"⟩ prog_1_method_4_code 4 (some .int) ∈ gw := gw_tbl (i := 223) (by decide +kernel) rfl
theorem w_224 : Cond.methodLink "LineDisk" 77 ⟨"LineDisk$Workspace", "keepTyped", "(I)V"⟩ ∈ gw := gw_tbl (i := 224) (by decide +kernel) rfl
theorem w_225 : Cond.instanceMethod ⟨"LineDisk$Workspace", "keepTyped", "(I)V"⟩ ∈ gw := gw_tbl (i := 225) (by decide +kernel) rfl
theorem w_226 : Cond.selects "LineDisk$Workspace" ⟨"LineDisk$Workspace", "keepTyped", "(I)V"⟩ ⟨"LineDisk$Workspace", "keepTyped", "(I)V"⟩ ∈ gw := gw_tbl (i := 226) (by decide +kernel) rfl
theorem w_227 : Cond.code ⟨"LineDisk$Workspace", "keepTyped", "(I)V"⟩ prog_5_method_3_code 2 none ∈ gw := gw_tbl (i := 227) (by decide +kernel) rfl
theorem w_228 : Cond.methodLink "LineDisk" 87 ⟨"LineDisk", "isDigit", "(I)Z"⟩ ∈ gw := gw_tbl (i := 228) (by decide +kernel) rfl
theorem w_229 : Cond.static ⟨"LineDisk", "isDigit", "(I)Z"⟩ ∈ gw := gw_tbl (i := 229) (by decide +kernel) rfl
theorem w_230 : Cond.code ⟨"LineDisk", "isDigit", "(I)Z"⟩ prog_1_method_12_code 1 (some .boolean) ∈ gw := gw_tbl (i := 230) (by decide +kernel) rfl
theorem w_231 : Cond.methodLink "LineDisk" 91 ⟨"LineDisk", "enterLine", "([II)I"⟩ ∈ gw := gw_tbl (i := 231) (by decide +kernel) rfl
theorem w_233 : Cond.instanceMethod ⟨"LineDisk", "enterLine", "([II)I"⟩ ∈ gw := gw_tbl (i := 233) (by decide +kernel) rfl
theorem w_234 : Cond.code ⟨"LineDisk", "enterLine", "([II)I"⟩ prog_1_method_18_code 5 (some .int) ∈ gw := gw_tbl (i := 234) (by decide +kernel) rfl
theorem w_235 : Cond.methodLink "LineDisk" 146 ⟨"LineDisk$Workspace", "remove", "(I)V"⟩ ∈ gw := gw_tbl (i := 235) (by decide +kernel) rfl
theorem w_236 : Cond.instanceMethod ⟨"LineDisk$Workspace", "remove", "(I)V"⟩ ∈ gw := gw_tbl (i := 236) (by decide +kernel) rfl
theorem w_237 : Cond.selects "LineDisk$Workspace" ⟨"LineDisk$Workspace", "remove", "(I)V"⟩ ⟨"LineDisk$Workspace", "remove", "(I)V"⟩ ∈ gw := gw_tbl (i := 237) (by decide +kernel) rfl
theorem w_238 : Cond.code ⟨"LineDisk$Workspace", "remove", "(I)V"⟩ prog_5_method_8_code 3 none ∈ gw := gw_tbl (i := 238) (by decide +kernel) rfl
theorem w_239 : Cond.methodLink "LineDisk$Workspace" 46 ⟨"LineDisk$Workspace", "placeOf", "(I)I"⟩ ∈ gw := gw_tbl (i := 239) (by decide +kernel) rfl
theorem w_241 : Cond.instanceMethod ⟨"LineDisk$Workspace", "placeOf", "(I)I"⟩ ∈ gw := gw_tbl (i := 241) (by decide +kernel) rfl
theorem w_242 : Cond.code ⟨"LineDisk$Workspace", "placeOf", "(I)I"⟩ prog_5_method_14_code 3 (some .int) ∈ gw := gw_tbl (i := 242) (by decide +kernel) rfl
theorem w_243 : Cond.methodLink "LineDisk$Workspace" 50 ⟨"LineDisk$Workspace", "numberOf", "(I)I"⟩ ∈ gw := gw_tbl (i := 243) (by decide +kernel) rfl
theorem w_244 : Cond.instanceMethod ⟨"LineDisk$Workspace", "numberOf", "(I)I"⟩ ∈ gw := gw_tbl (i := 244) (by decide +kernel) rfl
theorem w_245 : Cond.selects "LineDisk$Workspace" ⟨"LineDisk$Workspace", "numberOf", "(I)I"⟩ ⟨"LineDisk$Workspace", "numberOf", "(I)I"⟩ ∈ gw := gw_tbl (i := 245) (by decide +kernel) rfl
theorem w_246 : Cond.code ⟨"LineDisk$Workspace", "numberOf", "(I)I"⟩ prog_5_method_7_code 2 (some .int) ∈ gw := gw_tbl (i := 246) (by decide +kernel) rfl
theorem w_247 : Cond.methodLink "LineDisk$Workspace" 53 ⟨"LineDisk$Workspace", "moveLines", "(II)V"⟩ ∈ gw := gw_tbl (i := 247) (by decide +kernel) rfl
theorem w_249 : Cond.instanceMethod ⟨"LineDisk$Workspace", "moveLines", "(II)V"⟩ ∈ gw := gw_tbl (i := 249) (by decide +kernel) rfl
theorem w_250 : Cond.code ⟨"LineDisk$Workspace", "moveLines", "(II)V"⟩ prog_5_method_15_code 4 none ∈ gw := gw_tbl (i := 250) (by decide +kernel) rfl
theorem w_251 : Cond.methodLink "LineDisk$Workspace" 57 ⟨"java/lang/System", "arraycopy", "(Ljava/lang/Object;ILjava/lang/Object;II)V"⟩ ∈ gw := gw_tbl (i := 251) (by decide +kernel) rfl
theorem w_252 : Cond.methodLink "LineDisk" 149 ⟨"LineDisk$Statement", "read", "([III[I)Z"⟩ ∈ gw := gw_tbl (i := 252) (by decide +kernel) rfl
theorem w_253 : Cond.instanceMethod ⟨"LineDisk$Statement", "read", "([III[I)Z"⟩ ∈ gw := gw_tbl (i := 253) (by decide +kernel) rfl
theorem w_254 : Cond.selects "LineDisk$Statement" ⟨"LineDisk$Statement", "read", "([III[I)Z"⟩ ⟨"LineDisk$Statement", "read", "([III[I)Z"⟩ ∈ gw := gw_tbl (i := 254) (by decide +kernel) rfl
theorem w_255 : Cond.code ⟨"LineDisk$Statement", "read", "([III[I)Z"⟩ prog_3_method_2_code 5 (some .boolean) ∈ gw := gw_tbl (i := 255) (by decide +kernel) rfl
theorem w_256 : Cond.methodLink "LineDisk$Statement" 50 ⟨"LineDisk$Statement", "take", "([III[I)Z"⟩ ∈ gw := gw_tbl (i := 256) (by decide +kernel) rfl
theorem w_258 : Cond.instanceMethod ⟨"LineDisk$Statement", "take", "([III[I)Z"⟩ ∈ gw := gw_tbl (i := 258) (by decide +kernel) rfl
theorem w_259 : Cond.code ⟨"LineDisk$Statement", "take", "([III[I)Z"⟩ prog_3_method_4_code 5 (some .boolean) ∈ gw := gw_tbl (i := 259) (by decide +kernel) rfl
theorem w_260 : Cond.methodLink "LineDisk$Statement" 73 ⟨"java/lang/System", "arraycopy", "(Ljava/lang/Object;ILjava/lang/Object;II)V"⟩ ∈ gw := gw_tbl (i := 260) (by decide +kernel) rfl
theorem w_262 : Cond.static ⟨"LineDisk", "isVariable", "(I)Z"⟩ ∈ gw := gw_tbl (i := 262) (by decide +kernel) rfl
theorem w_263 : Cond.code ⟨"LineDisk", "isVariable", "(I)Z"⟩ prog_1_method_14_code 1 (some .boolean) ∈ gw := gw_tbl (i := 263) (by decide +kernel) rfl
theorem w_264 : Cond.methodLink "LineDisk$Statement" 54 ⟨"LineDisk$Statement", "variable", "()I"⟩ ∈ gw := gw_tbl (i := 264) (by decide +kernel) rfl
theorem w_266 : Cond.instanceMethod ⟨"LineDisk$Statement", "variable", "()I"⟩ ∈ gw := gw_tbl (i := 266) (by decide +kernel) rfl
theorem w_267 : Cond.code ⟨"LineDisk$Statement", "variable", "()I"⟩ prog_3_method_12_code 2 (some .int) ∈ gw := gw_tbl (i := 267) (by decide +kernel) rfl
theorem w_268 : Cond.methodLink "LineDisk$Statement" 86 ⟨"LineDisk$Statement", "peek", "()I"⟩ ∈ gw := gw_tbl (i := 268) (by decide +kernel) rfl
theorem w_270 : Cond.instanceMethod ⟨"LineDisk$Statement", "peek", "()I"⟩ ∈ gw := gw_tbl (i := 270) (by decide +kernel) rfl
theorem w_271 : Cond.code ⟨"LineDisk$Statement", "peek", "()I"⟩ prog_3_method_8_code 1 (some .int) ∈ gw := gw_tbl (i := 271) (by decide +kernel) rfl
theorem w_272 : Cond.methodLink "LineDisk$Statement" 57 ⟨"LineDisk$Statement", "expect", "(I)V"⟩ ∈ gw := gw_tbl (i := 272) (by decide +kernel) rfl
theorem w_274 : Cond.instanceMethod ⟨"LineDisk$Statement", "expect", "(I)V"⟩ ∈ gw := gw_tbl (i := 274) (by decide +kernel) rfl
theorem w_275 : Cond.code ⟨"LineDisk$Statement", "expect", "(I)V"⟩ prog_3_method_9_code 2 none ∈ gw := gw_tbl (i := 275) (by decide +kernel) rfl
theorem w_276 : Cond.methodLink "LineDisk$Statement" 61 ⟨"LineDisk$Statement", "value", "(I)I"⟩ ∈ gw := gw_tbl (i := 276) (by decide +kernel) rfl
theorem w_278 : Cond.instanceMethod ⟨"LineDisk$Statement", "value", "(I)I"⟩ ∈ gw := gw_tbl (i := 278) (by decide +kernel) rfl
theorem w_279 : Cond.code ⟨"LineDisk$Statement", "value", "(I)I"⟩ prog_3_method_5_code 6 (some .int) ∈ gw := gw_tbl (i := 279) (by decide +kernel) rfl
theorem w_280 : Cond.methodLink "LineDisk$Statement" 83 ⟨"LineDisk$Statement", "product", "(I)I"⟩ ∈ gw := gw_tbl (i := 280) (by decide +kernel) rfl
theorem w_282 : Cond.instanceMethod ⟨"LineDisk$Statement", "product", "(I)I"⟩ ∈ gw := gw_tbl (i := 282) (by decide +kernel) rfl
theorem w_283 : Cond.code ⟨"LineDisk$Statement", "product", "(I)I"⟩ prog_3_method_6_code 4 (some .int) ∈ gw := gw_tbl (i := 283) (by decide +kernel) rfl
theorem w_284 : Cond.methodLink "LineDisk$Statement" 89 ⟨"LineDisk$Statement", "piece", "(I)I"⟩ ∈ gw := gw_tbl (i := 284) (by decide +kernel) rfl
theorem w_286 : Cond.instanceMethod ⟨"LineDisk$Statement", "piece", "(I)I"⟩ ∈ gw := gw_tbl (i := 286) (by decide +kernel) rfl
theorem w_287 : Cond.code ⟨"LineDisk$Statement", "piece", "(I)I"⟩ prog_3_method_7_code 3 (some .int) ∈ gw := gw_tbl (i := 287) (by decide +kernel) rfl
theorem w_289 : Cond.methodLink "LineDisk$Statement" 95 ⟨"LineDisk$Statement", "digits", "(I)I"⟩ ∈ gw := gw_tbl (i := 289) (by decide +kernel) rfl
theorem w_291 : Cond.instanceMethod ⟨"LineDisk$Statement", "digits", "(I)I"⟩ ∈ gw := gw_tbl (i := 291) (by decide +kernel) rfl
theorem w_292 : Cond.code ⟨"LineDisk$Statement", "digits", "(I)I"⟩ prog_3_method_10_code 4 (some .int) ∈ gw := gw_tbl (i := 292) (by decide +kernel) rfl
theorem w_293 : Cond.methodLink "LineDisk$Statement" 65 ⟨"LineDisk$Statement", "sign", "()I"⟩ ∈ gw := gw_tbl (i := 293) (by decide +kernel) rfl
theorem w_295 : Cond.instanceMethod ⟨"LineDisk$Statement", "sign", "()I"⟩ ∈ gw := gw_tbl (i := 295) (by decide +kernel) rfl
theorem w_296 : Cond.code ⟨"LineDisk$Statement", "sign", "()I"⟩ prog_3_method_14_code 2 (some .int) ∈ gw := gw_tbl (i := 296) (by decide +kernel) rfl
theorem w_297 : Cond.methodLink "LineDisk$Statement" 67 ⟨"LineDisk$Statement", "lineNumber", "()I"⟩ ∈ gw := gw_tbl (i := 297) (by decide +kernel) rfl
theorem w_299 : Cond.instanceMethod ⟨"LineDisk$Statement", "lineNumber", "()I"⟩ ∈ gw := gw_tbl (i := 299) (by decide +kernel) rfl
theorem w_300 : Cond.code ⟨"LineDisk$Statement", "lineNumber", "()I"⟩ prog_3_method_11_code 2 (some .int) ∈ gw := gw_tbl (i := 300) (by decide +kernel) rfl
theorem w_301 : Cond.methodLink "LineDisk$Statement" 70 ⟨"LineDisk$Statement", "fileDigit", "()I"⟩ ∈ gw := gw_tbl (i := 301) (by decide +kernel) rfl
theorem w_303 : Cond.instanceMethod ⟨"LineDisk$Statement", "fileDigit", "()I"⟩ ∈ gw := gw_tbl (i := 303) (by decide +kernel) rfl
theorem w_304 : Cond.code ⟨"LineDisk$Statement", "fileDigit", "()I"⟩ prog_3_method_13_code 2 (some .int) ∈ gw := gw_tbl (i := 304) (by decide +kernel) rfl
theorem w_306 : Cond.static ⟨"LineDisk", "isFileDigit", "(I)Z"⟩ ∈ gw := gw_tbl (i := 306) (by decide +kernel) rfl
theorem w_307 : Cond.code ⟨"LineDisk", "isFileDigit", "(I)Z"⟩ prog_1_method_13_code 1 (some .boolean) ∈ gw := gw_tbl (i := 307) (by decide +kernel) rfl
theorem w_308 : Cond.methodLink "LineDisk" 153 ⟨"LineDisk$Workspace", "put", "(I[III)Z"⟩ ∈ gw := gw_tbl (i := 308) (by decide +kernel) rfl
theorem w_309 : Cond.instanceMethod ⟨"LineDisk$Workspace", "put", "(I[III)Z"⟩ ∈ gw := gw_tbl (i := 309) (by decide +kernel) rfl
theorem w_310 : Cond.selects "LineDisk$Workspace" ⟨"LineDisk$Workspace", "put", "(I[III)Z"⟩ ⟨"LineDisk$Workspace", "put", "(I[III)Z"⟩ ∈ gw := gw_tbl (i := 310) (by decide +kernel) rfl
theorem w_311 : Cond.code ⟨"LineDisk$Workspace", "put", "(I[III)Z"⟩ prog_5_method_9_code 6 (some .boolean) ∈ gw := gw_tbl (i := 311) (by decide +kernel) rfl
theorem w_312 : Cond.methodLink "LineDisk" 95 ⟨"LineDisk", "enterCommand", "([II)I"⟩ ∈ gw := gw_tbl (i := 312) (by decide +kernel) rfl
theorem w_314 : Cond.instanceMethod ⟨"LineDisk", "enterCommand", "([II)I"⟩ ∈ gw := gw_tbl (i := 314) (by decide +kernel) rfl
theorem w_315 : Cond.code ⟨"LineDisk", "enterCommand", "([II)I"⟩ prog_1_method_19_code 3 (some .int) ∈ gw := gw_tbl (i := 315) (by decide +kernel) rfl
theorem w_316 : Cond.methodLink "LineDisk" 157 ⟨"LineDisk", "plainCommand", "(I)I"⟩ ∈ gw := gw_tbl (i := 316) (by decide +kernel) rfl
theorem w_318 : Cond.instanceMethod ⟨"LineDisk", "plainCommand", "(I)I"⟩ ∈ gw := gw_tbl (i := 318) (by decide +kernel) rfl
theorem w_319 : Cond.code ⟨"LineDisk", "plainCommand", "(I)I"⟩ prog_1_method_20_code 2 (some .int) ∈ gw := gw_tbl (i := 319) (by decide +kernel) rfl
theorem w_320 : Cond.methodLink "LineDisk" 166 ⟨"LineDisk", "listFiles", "()I"⟩ ∈ gw := gw_tbl (i := 320) (by decide +kernel) rfl
theorem w_322 : Cond.instanceMethod ⟨"LineDisk", "listFiles", "()I"⟩ ∈ gw := gw_tbl (i := 322) (by decide +kernel) rfl
theorem w_323 : Cond.code ⟨"LineDisk", "listFiles", "()I"⟩ prog_1_method_22_code 2 (some .int) ∈ gw := gw_tbl (i := 323) (by decide +kernel) rfl
theorem w_324 : Cond.methodLink "LineDisk" 128 ⟨"LineDisk$Store", "fileCells", "(I)I"⟩ ∈ gw := gw_tbl (i := 324) (by decide +kernel) rfl
theorem w_325 : Cond.instanceMethod ⟨"LineDisk$Store", "fileCells", "(I)I"⟩ ∈ gw := gw_tbl (i := 325) (by decide +kernel) rfl
theorem w_326 : Cond.selects "LineDisk$Store" ⟨"LineDisk$Store", "fileCells", "(I)I"⟩ ⟨"LineDisk$Store", "fileCells", "(I)I"⟩ ∈ gw := gw_tbl (i := 326) (by decide +kernel) rfl
theorem w_327 : Cond.code ⟨"LineDisk$Store", "fileCells", "(I)I"⟩ prog_4_method_6_code 2 (some .int) ∈ gw := gw_tbl (i := 327) (by decide +kernel) rfl
theorem w_328 : Cond.methodLink "LineDisk$Store" 36 ⟨"LineDisk$Store", "cell", "(I)I"⟩ ∈ gw := gw_tbl (i := 328) (by decide +kernel) rfl
theorem w_329 : Cond.methodLink "LineDisk" 187 ⟨"LineDisk", "putOut", "(I)V"⟩ ∈ gw := gw_tbl (i := 329) (by decide +kernel) rfl
theorem w_331 : Cond.instanceMethod ⟨"LineDisk", "putOut", "(I)V"⟩ ∈ gw := gw_tbl (i := 331) (by decide +kernel) rfl
theorem w_332 : Cond.code ⟨"LineDisk", "putOut", "(I)V"⟩ prog_1_method_17_code 2 none ∈ gw := gw_tbl (i := 332) (by decide +kernel) rfl
theorem w_333 : Cond.methodLink "LineDisk" 169 ⟨"LineDisk$Workspace", "removeLines", "()V"⟩ ∈ gw := gw_tbl (i := 333) (by decide +kernel) rfl
theorem w_334 : Cond.instanceMethod ⟨"LineDisk$Workspace", "removeLines", "()V"⟩ ∈ gw := gw_tbl (i := 334) (by decide +kernel) rfl
theorem w_335 : Cond.selects "LineDisk$Workspace" ⟨"LineDisk$Workspace", "removeLines", "()V"⟩ ⟨"LineDisk$Workspace", "removeLines", "()V"⟩ ∈ gw := gw_tbl (i := 335) (by decide +kernel) rfl
theorem w_336 : Cond.code ⟨"LineDisk$Workspace", "removeLines", "()V"⟩ prog_5_method_4_code 1 none ∈ gw := gw_tbl (i := 336) (by decide +kernel) rfl
theorem w_337 : Cond.methodLink "LineDisk" 172 ⟨"LineDisk$Workspace", "clearVariables", "()V"⟩ ∈ gw := gw_tbl (i := 337) (by decide +kernel) rfl
theorem w_338 : Cond.instanceMethod ⟨"LineDisk$Workspace", "clearVariables", "()V"⟩ ∈ gw := gw_tbl (i := 338) (by decide +kernel) rfl
theorem w_339 : Cond.selects "LineDisk$Workspace" ⟨"LineDisk$Workspace", "clearVariables", "()V"⟩ ⟨"LineDisk$Workspace", "clearVariables", "()V"⟩ ∈ gw := gw_tbl (i := 339) (by decide +kernel) rfl
theorem w_340 : Cond.code ⟨"LineDisk$Workspace", "clearVariables", "()V"⟩ prog_5_method_5_code 1 none ∈ gw := gw_tbl (i := 340) (by decide +kernel) rfl
theorem w_341 : Cond.methodLink "LineDisk" 160 ⟨"LineDisk", "isFileDigit", "(I)Z"⟩ ∈ gw := gw_tbl (i := 341) (by decide +kernel) rfl
theorem w_342 : Cond.methodLink "LineDisk" 163 ⟨"LineDisk", "fileCommand", "(II)I"⟩ ∈ gw := gw_tbl (i := 342) (by decide +kernel) rfl
theorem w_344 : Cond.instanceMethod ⟨"LineDisk", "fileCommand", "(II)I"⟩ ∈ gw := gw_tbl (i := 344) (by decide +kernel) rfl
theorem w_345 : Cond.code ⟨"LineDisk", "fileCommand", "(II)I"⟩ prog_1_method_21_code 3 (some .int) ∈ gw := gw_tbl (i := 345) (by decide +kernel) rfl
theorem w_346 : Cond.methodLink "LineDisk" 178 ⟨"LineDisk", "saveLines", "(I)I"⟩ ∈ gw := gw_tbl (i := 346) (by decide +kernel) rfl
theorem w_348 : Cond.instanceMethod ⟨"LineDisk", "saveLines", "(I)I"⟩ ∈ gw := gw_tbl (i := 348) (by decide +kernel) rfl
theorem w_349 : Cond.code ⟨"LineDisk", "saveLines", "(I)I"⟩ prog_1_method_23_code 7 (some .int) ∈ gw := gw_tbl (i := 349) (by decide +kernel) rfl
theorem w_350 : Cond.methodLink "LineDisk" 190 ⟨"LineDisk", "blocksFor", "(I)I"⟩ ∈ gw := gw_tbl (i := 350) (by decide +kernel) rfl
theorem w_351 : Cond.static ⟨"LineDisk", "blocksFor", "(I)I"⟩ ∈ gw := gw_tbl (i := 351) (by decide +kernel) rfl
theorem w_352 : Cond.code ⟨"LineDisk", "blocksFor", "(I)I"⟩ prog_1_method_15_code 1 (some .int) ∈ gw := gw_tbl (i := 352) (by decide +kernel) rfl
theorem w_353 : Cond.methodLink "LineDisk" 193 ⟨"LineDisk$Store", "room", "(II)I"⟩ ∈ gw := gw_tbl (i := 353) (by decide +kernel) rfl
theorem w_354 : Cond.instanceMethod ⟨"LineDisk$Store", "room", "(II)I"⟩ ∈ gw := gw_tbl (i := 354) (by decide +kernel) rfl
theorem w_355 : Cond.selects "LineDisk$Store" ⟨"LineDisk$Store", "room", "(II)I"⟩ ⟨"LineDisk$Store", "room", "(II)I"⟩ ∈ gw := gw_tbl (i := 355) (by decide +kernel) rfl
theorem w_356 : Cond.code ⟨"LineDisk$Store", "room", "(II)I"⟩ prog_4_method_8_code 4 (some .int) ∈ gw := gw_tbl (i := 356) (by decide +kernel) rfl
theorem w_357 : Cond.methodLink "LineDisk$Store" 40 ⟨"LineDisk$Store", "isFreeFor", "(III)Z"⟩ ∈ gw := gw_tbl (i := 357) (by decide +kernel) rfl
theorem w_359 : Cond.instanceMethod ⟨"LineDisk$Store", "isFreeFor", "(III)Z"⟩ ∈ gw := gw_tbl (i := 359) (by decide +kernel) rfl
theorem w_360 : Cond.code ⟨"LineDisk$Store", "isFreeFor", "(III)Z"⟩ prog_4_method_9_code 7 (some .boolean) ∈ gw := gw_tbl (i := 360) (by decide +kernel) rfl
theorem w_361 : Cond.methodLink "LineDisk$Store" 44 ⟨"LineDisk$Store", "fileStart", "(I)I"⟩ ∈ gw := gw_tbl (i := 361) (by decide +kernel) rfl
theorem w_362 : Cond.instanceMethod ⟨"LineDisk$Store", "fileStart", "(I)I"⟩ ∈ gw := gw_tbl (i := 362) (by decide +kernel) rfl
theorem w_363 : Cond.selects "LineDisk$Store" ⟨"LineDisk$Store", "fileStart", "(I)I"⟩ ⟨"LineDisk$Store", "fileStart", "(I)I"⟩ ∈ gw := gw_tbl (i := 363) (by decide +kernel) rfl
theorem w_364 : Cond.code ⟨"LineDisk$Store", "fileStart", "(I)I"⟩ prog_4_method_7_code 2 (some .int) ∈ gw := gw_tbl (i := 364) (by decide +kernel) rfl
theorem w_365 : Cond.methodLink "LineDisk$Store" 47 ⟨"LineDisk$Store", "fileCells", "(I)I"⟩ ∈ gw := gw_tbl (i := 365) (by decide +kernel) rfl
theorem w_367 : Cond.methodLink "LineDisk" 196 ⟨"LineDisk", "beginFile", "(III)V"⟩ ∈ gw := gw_tbl (i := 367) (by decide +kernel) rfl
theorem w_369 : Cond.instanceMethod ⟨"LineDisk", "beginFile", "(III)V"⟩ ∈ gw := gw_tbl (i := 369) (by decide +kernel) rfl
theorem w_370 : Cond.code ⟨"LineDisk", "beginFile", "(III)V"⟩ prog_1_method_26_code 6 none ∈ gw := gw_tbl (i := 370) (by decide +kernel) rfl
theorem w_371 : Cond.methodLink "LineDisk" 219 ⟨"LineDisk$Journal", "begin", "()V"⟩ ∈ gw := gw_tbl (i := 371) (by decide +kernel) rfl
theorem w_372 : Cond.instanceMethod ⟨"LineDisk$Journal", "begin", "()V"⟩ ∈ gw := gw_tbl (i := 372) (by decide +kernel) rfl
theorem w_373 : Cond.selects "LineDisk$Journal" ⟨"LineDisk$Journal", "begin", "()V"⟩ ⟨"LineDisk$Journal", "begin", "()V"⟩ ∈ gw := gw_tbl (i := 373) (by decide +kernel) rfl
theorem w_374 : Cond.code ⟨"LineDisk$Journal", "begin", "()V"⟩ prog_2_method_2_code 1 none ∈ gw := gw_tbl (i := 374) (by decide +kernel) rfl
theorem w_375 : Cond.methodLink "LineDisk$Journal" 22 ⟨"java/util/Arrays", "fill", "([II)V"⟩ ∈ gw := gw_tbl (i := 375) (by decide +kernel) rfl
theorem w_376 : Cond.methodLink "LineDisk" 222 ⟨"LineDisk$Journal", "takeAsItIs", "(LLineDisk$Store;I)V"⟩ ∈ gw := gw_tbl (i := 376) (by decide +kernel) rfl
theorem w_377 : Cond.instanceMethod ⟨"LineDisk$Journal", "takeAsItIs", "(LLineDisk$Store;I)V"⟩ ∈ gw := gw_tbl (i := 377) (by decide +kernel) rfl
theorem w_378 : Cond.selects "LineDisk$Journal" ⟨"LineDisk$Journal", "takeAsItIs", "(LLineDisk$Store;I)V"⟩ ⟨"LineDisk$Journal", "takeAsItIs", "(LLineDisk$Store;I)V"⟩ ∈ gw := gw_tbl (i := 378) (by decide +kernel) rfl
theorem w_379 : Cond.code ⟨"LineDisk$Journal", "takeAsItIs", "(LLineDisk$Store;I)V"⟩ prog_2_method_4_code 5 none ∈ gw := gw_tbl (i := 379) (by decide +kernel) rfl
theorem w_380 : Cond.methodLink "LineDisk$Journal" 28 ⟨"LineDisk$Journal", "takeEmpty", "(I)V"⟩ ∈ gw := gw_tbl (i := 380) (by decide +kernel) rfl
theorem w_381 : Cond.instanceMethod ⟨"LineDisk$Journal", "takeEmpty", "(I)V"⟩ ∈ gw := gw_tbl (i := 381) (by decide +kernel) rfl
theorem w_382 : Cond.selects "LineDisk$Journal" ⟨"LineDisk$Journal", "takeEmpty", "(I)V"⟩ ⟨"LineDisk$Journal", "takeEmpty", "(I)V"⟩ ∈ gw := gw_tbl (i := 382) (by decide +kernel) rfl
theorem w_383 : Cond.code ⟨"LineDisk$Journal", "takeEmpty", "(I)V"⟩ prog_2_method_3_code 2 none ∈ gw := gw_tbl (i := 383) (by decide +kernel) rfl
theorem w_384 : Cond.methodLink "LineDisk$Journal" 38 ⟨"LineDisk$Journal", "put", "(II)V"⟩ ∈ gw := gw_tbl (i := 384) (by decide +kernel) rfl
theorem w_385 : Cond.instanceMethod ⟨"LineDisk$Journal", "put", "(II)V"⟩ ∈ gw := gw_tbl (i := 385) (by decide +kernel) rfl
theorem w_386 : Cond.selects "LineDisk$Journal" ⟨"LineDisk$Journal", "put", "(II)V"⟩ ⟨"LineDisk$Journal", "put", "(II)V"⟩ ∈ gw := gw_tbl (i := 386) (by decide +kernel) rfl
theorem w_387 : Cond.code ⟨"LineDisk$Journal", "put", "(II)V"⟩ prog_2_method_5_code 3 none ∈ gw := gw_tbl (i := 387) (by decide +kernel) rfl
theorem w_388 : Cond.methodLink "LineDisk" 200 ⟨"LineDisk$Journal", "put", "(II)V"⟩ ∈ gw := gw_tbl (i := 388) (by decide +kernel) rfl
theorem w_389 : Cond.methodLink "LineDisk" 226 ⟨"LineDisk$Journal", "takeEmpty", "(I)V"⟩ ∈ gw := gw_tbl (i := 389) (by decide +kernel) rfl
theorem w_390 : Cond.methodLink "LineDisk" 203 ⟨"LineDisk$Workspace", "tag", "(I)I"⟩ ∈ gw := gw_tbl (i := 390) (by decide +kernel) rfl
theorem w_391 : Cond.instanceMethod ⟨"LineDisk$Workspace", "tag", "(I)I"⟩ ∈ gw := gw_tbl (i := 391) (by decide +kernel) rfl
theorem w_392 : Cond.selects "LineDisk$Workspace" ⟨"LineDisk$Workspace", "tag", "(I)I"⟩ ⟨"LineDisk$Workspace", "tag", "(I)I"⟩ ∈ gw := gw_tbl (i := 392) (by decide +kernel) rfl
theorem w_393 : Cond.code ⟨"LineDisk$Workspace", "tag", "(I)I"⟩ prog_5_method_10_code 2 (some .int) ∈ gw := gw_tbl (i := 393) (by decide +kernel) rfl
theorem w_394 : Cond.methodLink "LineDisk" 206 ⟨"LineDisk$Workspace", "packed", "(II)I"⟩ ∈ gw := gw_tbl (i := 394) (by decide +kernel) rfl
theorem w_395 : Cond.instanceMethod ⟨"LineDisk$Workspace", "packed", "(II)I"⟩ ∈ gw := gw_tbl (i := 395) (by decide +kernel) rfl
theorem w_396 : Cond.selects "LineDisk$Workspace" ⟨"LineDisk$Workspace", "packed", "(II)I"⟩ ⟨"LineDisk$Workspace", "packed", "(II)I"⟩ ∈ gw := gw_tbl (i := 396) (by decide +kernel) rfl
theorem w_397 : Cond.code ⟨"LineDisk$Workspace", "packed", "(II)I"⟩ prog_5_method_11_code 6 (some .int) ∈ gw := gw_tbl (i := 397) (by decide +kernel) rfl
theorem w_398 : Cond.methodLink "LineDisk" 209 ⟨"LineDisk", "commit", "()I"⟩ ∈ gw := gw_tbl (i := 398) (by decide +kernel) rfl
theorem w_400 : Cond.instanceMethod ⟨"LineDisk", "commit", "()I"⟩ ∈ gw := gw_tbl (i := 400) (by decide +kernel) rfl
theorem w_401 : Cond.code ⟨"LineDisk", "commit", "()I"⟩ prog_1_method_27_code 1 (some .int) ∈ gw := gw_tbl (i := 401) (by decide +kernel) rfl
theorem w_402 : Cond.methodLink "LineDisk" 229 ⟨"LineDisk$Journal", "commit", "(LLineDisk$Store;)Z"⟩ ∈ gw := gw_tbl (i := 402) (by decide +kernel) rfl
theorem w_403 : Cond.instanceMethod ⟨"LineDisk$Journal", "commit", "(LLineDisk$Store;)Z"⟩ ∈ gw := gw_tbl (i := 403) (by decide +kernel) rfl
theorem w_404 : Cond.selects "LineDisk$Journal" ⟨"LineDisk$Journal", "commit", "(LLineDisk$Store;)Z"⟩ ⟨"LineDisk$Journal", "commit", "(LLineDisk$Store;)Z"⟩ ∈ gw := gw_tbl (i := 404) (by decide +kernel) rfl
theorem w_405 : Cond.code ⟨"LineDisk$Journal", "commit", "(LLineDisk$Store;)Z"⟩ prog_2_method_6_code 4 (some .boolean) ∈ gw := gw_tbl (i := 405) (by decide +kernel) rfl
theorem w_406 : Cond.methodLink "LineDisk" 181 ⟨"LineDisk", "loadLines", "(I)I"⟩ ∈ gw := gw_tbl (i := 406) (by decide +kernel) rfl
theorem w_408 : Cond.instanceMethod ⟨"LineDisk", "loadLines", "(I)I"⟩ ∈ gw := gw_tbl (i := 408) (by decide +kernel) rfl
theorem w_409 : Cond.code ⟨"LineDisk", "loadLines", "(I)I"⟩ prog_1_method_24_code 6 (some .int) ∈ gw := gw_tbl (i := 409) (by decide +kernel) rfl
theorem w_410 : Cond.methodLink "LineDisk" 212 ⟨"LineDisk$Store", "fileStart", "(I)I"⟩ ∈ gw := gw_tbl (i := 410) (by decide +kernel) rfl
theorem w_411 : Cond.methodLink "LineDisk" 124 ⟨"LineDisk$Store", "cell", "(I)I"⟩ ∈ gw := gw_tbl (i := 411) (by decide +kernel) rfl
theorem w_412 : Cond.methodLink "LineDisk" 215 ⟨"LineDisk$Workspace", "putPacked", "(IIII)V"⟩ ∈ gw := gw_tbl (i := 412) (by decide +kernel) rfl
theorem w_413 : Cond.instanceMethod ⟨"LineDisk$Workspace", "putPacked", "(IIII)V"⟩ ∈ gw := gw_tbl (i := 413) (by decide +kernel) rfl
theorem w_414 : Cond.selects "LineDisk$Workspace" ⟨"LineDisk$Workspace", "putPacked", "(IIII)V"⟩ ⟨"LineDisk$Workspace", "putPacked", "(IIII)V"⟩ ∈ gw := gw_tbl (i := 414) (by decide +kernel) rfl
theorem w_415 : Cond.code ⟨"LineDisk$Workspace", "putPacked", "(IIII)V"⟩ prog_5_method_12_code 5 none ∈ gw := gw_tbl (i := 415) (by decide +kernel) rfl
theorem w_416 : Cond.methodLink "LineDisk$Workspace" 63 ⟨"LineDisk$Workspace", "unpack", "(II)V"⟩ ∈ gw := gw_tbl (i := 416) (by decide +kernel) rfl
theorem w_418 : Cond.instanceMethod ⟨"LineDisk$Workspace", "unpack", "(II)V"⟩ ∈ gw := gw_tbl (i := 418) (by decide +kernel) rfl
theorem w_419 : Cond.code ⟨"LineDisk$Workspace", "unpack", "(II)V"⟩ prog_5_method_13_code 4 none ∈ gw := gw_tbl (i := 419) (by decide +kernel) rfl
theorem w_420 : Cond.methodLink "LineDisk$Workspace" 66 ⟨"LineDisk$Workspace", "put", "(I[III)Z"⟩ ∈ gw := gw_tbl (i := 420) (by decide +kernel) rfl
theorem w_421 : Cond.methodLink "LineDisk" 184 ⟨"LineDisk", "deleteFile", "(I)I"⟩ ∈ gw := gw_tbl (i := 421) (by decide +kernel) rfl
theorem w_423 : Cond.instanceMethod ⟨"LineDisk", "deleteFile", "(I)I"⟩ ∈ gw := gw_tbl (i := 423) (by decide +kernel) rfl
theorem w_424 : Cond.code ⟨"LineDisk", "deleteFile", "(I)I"⟩ prog_1_method_25_code 2 (some .int) ∈ gw := gw_tbl (i := 424) (by decide +kernel) rfl
theorem w_425 : Cond.methodLink "LineDiskLaw" 41 ⟨"LineDisk", "step", "(I)I"⟩ ∈ gw := gw_tbl (i := 425) (by decide +kernel) rfl
theorem w_426 : Cond.instanceMethod ⟨"LineDisk", "step", "(I)I"⟩ ∈ gw := gw_tbl (i := 426) (by decide +kernel) rfl
theorem w_427 : Cond.selects "LineDisk" ⟨"LineDisk", "step", "(I)I"⟩ ⟨"LineDisk", "step", "(I)I"⟩ ∈ gw := gw_tbl (i := 427) (by decide +kernel) rfl
theorem w_428 : Cond.code ⟨"LineDisk", "step", "(I)I"⟩ prog_1_method_5_code 5 (some .int) ∈ gw := gw_tbl (i := 428) (by decide +kernel) rfl
theorem w_429 : Cond.methodLink "LineDisk" 98 ⟨"java/lang/Math", "min", "(II)I"⟩ ∈ gw := gw_tbl (i := 429) (by decide +kernel) rfl
end
section
theorem w_430 : Cond.static ⟨"java/lang/Math", "min", "(II)I"⟩ ∈ gw := gw_tbl (i := 430) (by decide +kernel) rfl
theorem w_431 : Cond.code ⟨"java/lang/Math", "min", "(II)I"⟩ prog_11_method_69_code 2 (some .int) ∈ gw := gw_tbl (i := 431) (by decide +kernel) rfl
theorem w_432 : Cond.methodLink "LineDisk" 104 ⟨"java/lang/Math", "max", "(II)I"⟩ ∈ gw := gw_tbl (i := 432) (by decide +kernel) rfl
theorem w_433 : Cond.static ⟨"java/lang/Math", "max", "(II)I"⟩ ∈ gw := gw_tbl (i := 433) (by decide +kernel) rfl
theorem w_434 : Cond.code ⟨"java/lang/Math", "max", "(II)I"⟩ prog_11_method_65_code 2 (some .int) ∈ gw := gw_tbl (i := 434) (by decide +kernel) rfl
theorem w_435 : Cond.methodLink "LineDisk" 107 ⟨"LineDisk", "oneStep", "()I"⟩ ∈ gw := gw_tbl (i := 435) (by decide +kernel) rfl
theorem w_437 : Cond.instanceMethod ⟨"LineDisk", "oneStep", "()I"⟩ ∈ gw := gw_tbl (i := 437) (by decide +kernel) rfl
theorem w_438 : Cond.code ⟨"LineDisk", "oneStep", "()I"⟩ prog_1_method_28_code 4 (some .int) ∈ gw := gw_tbl (i := 438) (by decide +kernel) rfl
theorem w_439 : Cond.methodLink "LineDisk" 140 ⟨"LineDisk$Workspace", "nextLine", "()I"⟩ ∈ gw := gw_tbl (i := 439) (by decide +kernel) rfl
theorem w_440 : Cond.instanceMethod ⟨"LineDisk$Workspace", "nextLine", "()I"⟩ ∈ gw := gw_tbl (i := 440) (by decide +kernel) rfl
theorem w_441 : Cond.selects "LineDisk$Workspace" ⟨"LineDisk$Workspace", "nextLine", "()I"⟩ ⟨"LineDisk$Workspace", "nextLine", "()I"⟩ ∈ gw := gw_tbl (i := 441) (by decide +kernel) rfl
theorem w_442 : Cond.code ⟨"LineDisk$Workspace", "nextLine", "()I"⟩ prog_5_method_6_code 2 (some .int) ∈ gw := gw_tbl (i := 442) (by decide +kernel) rfl
theorem w_443 : Cond.methodLink "LineDisk" 240 ⟨"LineDisk", "perform", "()I"⟩ ∈ gw := gw_tbl (i := 443) (by decide +kernel) rfl
theorem w_445 : Cond.instanceMethod ⟨"LineDisk", "perform", "()I"⟩ ∈ gw := gw_tbl (i := 445) (by decide +kernel) rfl
theorem w_446 : Cond.code ⟨"LineDisk", "perform", "()I"⟩ prog_1_method_29_code 1 (some .int) ∈ gw := gw_tbl (i := 446) (by decide +kernel) rfl
theorem w_447 : Cond.methodLink "LineDisk" 261 ⟨"LineDisk", "writeRecord", "(III)I"⟩ ∈ gw := gw_tbl (i := 447) (by decide +kernel) rfl
theorem w_449 : Cond.instanceMethod ⟨"LineDisk", "writeRecord", "(III)I"⟩ ∈ gw := gw_tbl (i := 449) (by decide +kernel) rfl
theorem w_450 : Cond.code ⟨"LineDisk", "writeRecord", "(III)I"⟩ prog_1_method_30_code 6 (some .int) ∈ gw := gw_tbl (i := 450) (by decide +kernel) rfl
theorem w_451 : Cond.methodLink "LineDisk" 268 ⟨"LineDisk", "recordFault", "(II)I"⟩ ∈ gw := gw_tbl (i := 451) (by decide +kernel) rfl
theorem w_453 : Cond.instanceMethod ⟨"LineDisk", "recordFault", "(II)I"⟩ ∈ gw := gw_tbl (i := 453) (by decide +kernel) rfl
theorem w_454 : Cond.code ⟨"LineDisk", "recordFault", "(II)I"⟩ prog_1_method_32_code 4 (some .int) ∈ gw := gw_tbl (i := 454) (by decide +kernel) rfl
theorem w_455 : Cond.methodLink "LineDisk" 265 ⟨"LineDisk", "readRecord", "(III)I"⟩ ∈ gw := gw_tbl (i := 455) (by decide +kernel) rfl
theorem w_457 : Cond.instanceMethod ⟨"LineDisk", "readRecord", "(III)I"⟩ ∈ gw := gw_tbl (i := 457) (by decide +kernel) rfl
theorem w_458 : Cond.code ⟨"LineDisk", "readRecord", "(III)I"⟩ prog_1_method_31_code 5 (some .int) ∈ gw := gw_tbl (i := 458) (by decide +kernel) rfl
theorem w_459 : Cond.methodLink "LineDisk" 243 ⟨"LineDisk$Statement", "jumps", "()Z"⟩ ∈ gw := gw_tbl (i := 459) (by decide +kernel) rfl
theorem w_460 : Cond.instanceMethod ⟨"LineDisk$Statement", "jumps", "()Z"⟩ ∈ gw := gw_tbl (i := 460) (by decide +kernel) rfl
theorem w_461 : Cond.selects "LineDisk$Statement" ⟨"LineDisk$Statement", "jumps", "()Z"⟩ ⟨"LineDisk$Statement", "jumps", "()Z"⟩ ∈ gw := gw_tbl (i := 461) (by decide +kernel) rfl
theorem w_462 : Cond.code ⟨"LineDisk$Statement", "jumps", "()Z"⟩ prog_3_method_3_code 1 (some .boolean) ∈ gw := gw_tbl (i := 462) (by decide +kernel) rfl
theorem w_463 : Cond.methodLink "LineDisk" 143 ⟨"LineDisk$Workspace", "numberOf", "(I)I"⟩ ∈ gw := gw_tbl (i := 463) (by decide +kernel) rfl
theorem w_464 : Cond.methodLink "LineDiskLaw" 57 ⟨"LineDisk", "outs", "()I"⟩ ∈ gw := gw_tbl (i := 464) (by decide +kernel) rfl
theorem w_465 : Cond.instanceMethod ⟨"LineDisk", "outs", "()I"⟩ ∈ gw := gw_tbl (i := 465) (by decide +kernel) rfl
theorem w_466 : Cond.selects "LineDisk" ⟨"LineDisk", "outs", "()I"⟩ ⟨"LineDisk", "outs", "()I"⟩ ∈ gw := gw_tbl (i := 466) (by decide +kernel) rfl
theorem w_467 : Cond.code ⟨"LineDisk", "outs", "()I"⟩ prog_1_method_8_code 1 (some .int) ∈ gw := gw_tbl (i := 467) (by decide +kernel) rfl
theorem w_468 : Cond.methodLink "LineDiskLaw" 64 ⟨"LineDisk", "files", "()I"⟩ ∈ gw := gw_tbl (i := 468) (by decide +kernel) rfl
theorem w_469 : Cond.instanceMethod ⟨"LineDisk", "files", "()I"⟩ ∈ gw := gw_tbl (i := 469) (by decide +kernel) rfl
theorem w_470 : Cond.selects "LineDisk" ⟨"LineDisk", "files", "()I"⟩ ⟨"LineDisk", "files", "()I"⟩ ∈ gw := gw_tbl (i := 470) (by decide +kernel) rfl
theorem w_471 : Cond.code ⟨"LineDisk", "files", "()I"⟩ prog_1_method_10_code 3 (some .int) ∈ gw := gw_tbl (i := 471) (by decide +kernel) rfl
theorem w_472 : Cond.methodLink "LineDiskLaw" 68 ⟨"LineDisk", "about", "(I)I"⟩ ∈ gw := gw_tbl (i := 472) (by decide +kernel) rfl
theorem w_473 : Cond.instanceMethod ⟨"LineDisk", "about", "(I)I"⟩ ∈ gw := gw_tbl (i := 473) (by decide +kernel) rfl
theorem w_474 : Cond.selects "LineDisk" ⟨"LineDisk", "about", "(I)I"⟩ ⟨"LineDisk", "about", "(I)I"⟩ ∈ gw := gw_tbl (i := 474) (by decide +kernel) rfl
theorem w_475 : Cond.code ⟨"LineDisk", "about", "(I)I"⟩ prog_1_method_11_code 2 (some .int) ∈ gw := gw_tbl (i := 475) (by decide +kernel) rfl
theorem w_476 : Cond.methodLink "LineDiskLaw" 45 ⟨"LineDiskLaw", "arm", "(LLineDisk;I[J)I"⟩ ∈ gw := gw_tbl (i := 476) (by decide +kernel) rfl
theorem w_477 : Cond.static ⟨"LineDiskLaw", "arm", "(LLineDisk;I[J)I"⟩ ∈ gw := gw_tbl (i := 477) (by decide +kernel) rfl
theorem w_478 : Cond.codeWith ⟨"LineDiskLaw", "arm", "(LLineDisk;I[J)I"⟩ method_3_code 4 (some .int) [(0, 16, 19, 13)] ∈ gw := gw_tbl (i := 478) (by decide +kernel) rfl
theorem w_479 : Cond.classLink "LineDiskLaw" 13 "java/lang/IllegalArgumentException" ∈ gw := gw_tbl (i := 479) (by decide +kernel) rfl
theorem w_480 : Cond.methodLink "LineDiskLaw" 7 ⟨"LineDisk", "arm", "(I)Z"⟩ ∈ gw := gw_tbl (i := 480) (by decide +kernel) rfl
theorem w_481 : Cond.instanceMethod ⟨"LineDisk", "arm", "(I)Z"⟩ ∈ gw := gw_tbl (i := 481) (by decide +kernel) rfl
theorem w_482 : Cond.selects "LineDisk" ⟨"LineDisk", "arm", "(I)Z"⟩ ⟨"LineDisk", "arm", "(I)Z"⟩ ∈ gw := gw_tbl (i := 482) (by decide +kernel) rfl
theorem w_483 : Cond.code ⟨"LineDisk", "arm", "(I)Z"⟩ prog_1_method_6_code 2 (some .boolean) ∈ gw := gw_tbl (i := 483) (by decide +kernel) rfl
theorem w_484 : Cond.classLink "LineDisk" 110 "java/lang/IllegalArgumentException" ∈ gw := gw_tbl (i := 484) (by decide +kernel) rfl
theorem w_485 : Cond.instantiable "java/lang/IllegalArgumentException" 6 ∈ gw := gw_tbl (i := 485) (by decide +kernel) rfl
theorem w_493 : Cond.selects "java/lang/IllegalArgumentException" ⟨"java/lang/Throwable", "fillInStackTrace", "(I)Ljava/lang/Throwable;"⟩ ⟨"java/lang/Throwable", "fillInStackTrace", "(I)Ljava/lang/Throwable;"⟩ ∈ gw := gw_tbl (i := 493) (by decide +kernel) rfl
theorem w_494 : Cond.selects "java/lang/IllegalArgumentException" ⟨"java/lang/Throwable", "fillInStackTrace", "()Ljava/lang/Throwable;"⟩ ⟨"java/lang/Throwable", "fillInStackTrace", "()Ljava/lang/Throwable;"⟩ ∈ gw := gw_tbl (i := 494) (by decide +kernel) rfl
theorem w_495 : Cond.lays "java/lang/IllegalArgumentException" "java/lang/Throwable" "cause" "Ljava/lang/Throwable;" ∈ gw := gw_tbl (i := 495) (by decide +kernel) rfl
theorem w_496 : Cond.lays "java/lang/Throwable" "java/lang/Throwable" "cause" "Ljava/lang/Throwable;" ∈ gw := gw_tbl (i := 496) (by decide +kernel) rfl
theorem w_497 : Cond.lays "java/lang/IllegalArgumentException" "java/lang/Throwable" "stackTrace" "[Ljava/lang/StackTraceElement;" ∈ gw := gw_tbl (i := 497) (by decide +kernel) rfl
theorem w_498 : Cond.lays "java/lang/Throwable" "java/lang/Throwable" "stackTrace" "[Ljava/lang/StackTraceElement;" ∈ gw := gw_tbl (i := 498) (by decide +kernel) rfl
theorem w_499 : Cond.lays "java/lang/IllegalArgumentException" "java/lang/Throwable" "suppressedExceptions" "Ljava/util/List;" ∈ gw := gw_tbl (i := 499) (by decide +kernel) rfl
theorem w_500 : Cond.lays "java/lang/Throwable" "java/lang/Throwable" "suppressedExceptions" "Ljava/util/List;" ∈ gw := gw_tbl (i := 500) (by decide +kernel) rfl
theorem w_501 : Cond.lays "java/lang/IllegalArgumentException" "java/lang/Throwable" "detailMessage" "Ljava/lang/String;" ∈ gw := gw_tbl (i := 501) (by decide +kernel) rfl
theorem w_502 : Cond.lays "java/lang/Throwable" "java/lang/Throwable" "detailMessage" "Ljava/lang/String;" ∈ gw := gw_tbl (i := 502) (by decide +kernel) rfl
theorem w_503 : Cond.lays "java/lang/IllegalArgumentException" "java/lang/Throwable" "backtrace" "Ljava/lang/Object;" ∈ gw := gw_tbl (i := 503) (by decide +kernel) rfl
theorem w_504 : Cond.lays "java/lang/Throwable" "java/lang/Throwable" "backtrace" "Ljava/lang/Object;" ∈ gw := gw_tbl (i := 504) (by decide +kernel) rfl
theorem w_505 : Cond.fieldLink "java/lang/Throwable" 198 "java/lang/Throwable" "backtrace" "Ljava/lang/Object;" ∈ gw := gw_tbl (i := 505) (by decide +kernel) rfl
theorem w_506 : Cond.superclass "java/lang/Throwable" "java/lang/Object" ∈ gw := gw_tbl (i := 506) (by decide +kernel) rfl
theorem w_507 : Cond.instanceMethod ⟨"java/lang/Throwable", "<init>", "()V"⟩ ∈ gw := gw_tbl (i := 507) (by decide +kernel) rfl
theorem w_508 : Cond.code ⟨"java/lang/Throwable", "<init>", "()V"⟩ prog_15_method_1_code 1 none ∈ gw := gw_tbl (i := 508) (by decide +kernel) rfl
theorem w_509 : Cond.methodLink "java/lang/Throwable" 1 ⟨"java/lang/Object", "<init>", "()V"⟩ ∈ gw := gw_tbl (i := 509) (by decide +kernel) rfl
theorem w_510 : Cond.fieldLink "java/lang/Throwable" 13 "java/lang/Throwable" "UNASSIGNED_STACK" "[Ljava/lang/StackTraceElement;" ∈ gw := gw_tbl (i := 510) (by decide +kernel) rfl
theorem w_512 : Cond.fieldLink "java/lang/Throwable" 20 "java/lang/Throwable" "SUPPRESSED_SENTINEL" "Ljava/util/List;" ∈ gw := gw_tbl (i := 512) (by decide +kernel) rfl
theorem w_514 : Cond.methodLink "java/lang/Throwable" 27 ⟨"java/lang/Throwable", "fillInStackTrace", "()Ljava/lang/Throwable;"⟩ ∈ gw := gw_tbl (i := 514) (by decide +kernel) rfl
theorem w_515 : Cond.instanceMethod ⟨"java/lang/Throwable", "fillInStackTrace", "()Ljava/lang/Throwable;"⟩ ∈ gw := gw_tbl (i := 515) (by decide +kernel) rfl
theorem w_517 : Cond.selects "java/lang/IndexOutOfBoundsException" ⟨"java/lang/Throwable", "fillInStackTrace", "()Ljava/lang/Throwable;"⟩ ⟨"java/lang/Throwable", "fillInStackTrace", "()Ljava/lang/Throwable;"⟩ ∈ gw := gw_tbl (i := 517) (by decide +kernel) rfl
theorem w_518 : Cond.codeSync ⟨"java/lang/Throwable", "fillInStackTrace", "()Ljava/lang/Throwable;"⟩ prog_15_method_18_code 1 (some (.object "java/lang/Throwable")) ∈ gw := gw_tbl (i := 518) (by decide +kernel) rfl
theorem w_519 : Cond.methodLink "java/lang/Throwable" 202 ⟨"java/lang/Throwable", "fillInStackTrace", "(I)Ljava/lang/Throwable;"⟩ ∈ gw := gw_tbl (i := 519) (by decide +kernel) rfl
theorem w_521 : Cond.instanceMethod ⟨"java/lang/Throwable", "fillInStackTrace", "(I)Ljava/lang/Throwable;"⟩ ∈ gw := gw_tbl (i := 521) (by decide +kernel) rfl
theorem w_522 : Cond.instantiable "java/lang/Throwable" 6 ∈ gw := gw_tbl (i := 522) (by decide +kernel) rfl
theorem w_523 : Cond.native ⟨"java/lang/Throwable", "fillInStackTrace", "(I)Ljava/lang/Throwable;"⟩ ∈ gw := gw_tbl (i := 523) (by decide +kernel) rfl
theorem w_525 : Cond.methodLink "LineDisk" 114 ⟨"java/lang/IllegalArgumentException", "<init>", "(Ljava/lang/String;)V"⟩ ∈ gw := gw_tbl (i := 525) (by decide +kernel) rfl
theorem w_526 : Cond.instanceMethod ⟨"java/lang/IllegalArgumentException", "<init>", "(Ljava/lang/String;)V"⟩ ∈ gw := gw_tbl (i := 526) (by decide +kernel) rfl
theorem w_527 : Cond.code ⟨"java/lang/IllegalArgumentException", "<init>", "(Ljava/lang/String;)V"⟩ prog_9_method_2_code 2 none ∈ gw := gw_tbl (i := 527) (by decide +kernel) rfl
theorem w_528 : Cond.methodLink "java/lang/IllegalArgumentException" 7 ⟨"java/lang/RuntimeException", "<init>", "(Ljava/lang/String;)V"⟩ ∈ gw := gw_tbl (i := 528) (by decide +kernel) rfl
theorem w_529 : Cond.instanceMethod ⟨"java/lang/RuntimeException", "<init>", "(Ljava/lang/String;)V"⟩ ∈ gw := gw_tbl (i := 529) (by decide +kernel) rfl
theorem w_530 : Cond.code ⟨"java/lang/RuntimeException", "<init>", "(Ljava/lang/String;)V"⟩ prog_12_method_2_code 2 none ∈ gw := gw_tbl (i := 530) (by decide +kernel) rfl
theorem w_531 : Cond.methodLink "java/lang/RuntimeException" 7 ⟨"java/lang/Exception", "<init>", "(Ljava/lang/String;)V"⟩ ∈ gw := gw_tbl (i := 531) (by decide +kernel) rfl
theorem w_532 : Cond.instanceMethod ⟨"java/lang/Exception", "<init>", "(Ljava/lang/String;)V"⟩ ∈ gw := gw_tbl (i := 532) (by decide +kernel) rfl
theorem w_533 : Cond.code ⟨"java/lang/Exception", "<init>", "(Ljava/lang/String;)V"⟩ prog_8_method_2_code 2 none ∈ gw := gw_tbl (i := 533) (by decide +kernel) rfl
theorem w_534 : Cond.methodLink "java/lang/Exception" 7 ⟨"java/lang/Throwable", "<init>", "(Ljava/lang/String;)V"⟩ ∈ gw := gw_tbl (i := 534) (by decide +kernel) rfl
theorem w_535 : Cond.instanceMethod ⟨"java/lang/Throwable", "<init>", "(Ljava/lang/String;)V"⟩ ∈ gw := gw_tbl (i := 535) (by decide +kernel) rfl
theorem w_536 : Cond.code ⟨"java/lang/Throwable", "<init>", "(Ljava/lang/String;)V"⟩ prog_15_method_2_code 2 none ∈ gw := gw_tbl (i := 536) (by decide +kernel) rfl
theorem w_538 : Cond.fieldLink "java/lang/Throwable" 31 "java/lang/Throwable" "detailMessage" "Ljava/lang/String;" ∈ gw := gw_tbl (i := 538) (by decide +kernel) rfl
theorem w_539 : Cond.fieldLink "java/lang/Throwable" 7 "java/lang/Throwable" "cause" "Ljava/lang/Throwable;" ∈ gw := gw_tbl (i := 539) (by decide +kernel) rfl
theorem w_540 : Cond.fieldLink "java/lang/Throwable" 17 "java/lang/Throwable" "stackTrace" "[Ljava/lang/StackTraceElement;" ∈ gw := gw_tbl (i := 540) (by decide +kernel) rfl
theorem w_541 : Cond.fieldLink "java/lang/Throwable" 24 "java/lang/Throwable" "suppressedExceptions" "Ljava/util/List;" ∈ gw := gw_tbl (i := 541) (by decide +kernel) rfl
theorem w_542 : Cond.soleField "java/lang/Throwable" "backtrace" ∈ gw := gw_tbl (i := 542) (by decide +kernel) rfl
theorem w_543 : Cond.soleField "java/lang/Throwable" "detailMessage" ∈ gw := gw_tbl (i := 543) (by decide +kernel) rfl
theorem w_544 : Cond.soleField "java/lang/Throwable" "cause" ∈ gw := gw_tbl (i := 544) (by decide +kernel) rfl
theorem w_545 : Cond.soleField "java/lang/Throwable" "stackTrace" ∈ gw := gw_tbl (i := 545) (by decide +kernel) rfl
theorem w_546 : Cond.lays "java/lang/IllegalArgumentException" "java/lang/Throwable" "depth" "I" ∈ gw := gw_tbl (i := 546) (by decide +kernel) rfl
theorem w_547 : Cond.soleField "java/lang/Throwable" "depth" ∈ gw := gw_tbl (i := 547) (by decide +kernel) rfl
theorem w_548 : Cond.soleField "java/lang/Throwable" "suppressedExceptions" ∈ gw := gw_tbl (i := 548) (by decide +kernel) rfl
theorem w_549 : Cond.superclass "java/lang/IllegalArgumentException" "java/lang/RuntimeException" ∈ gw := gw_tbl (i := 549) (by decide +kernel) rfl
theorem w_550 : Cond.arrayClass .byte ∈ gw := gw_tbl (i := 550) (by decide +kernel) rfl
theorem w_551 : Cond.methodLink "LineDiskLaw" 54 ⟨"LineDiskLaw", "out", "(LLineDisk;I[J)I"⟩ ∈ gw := gw_tbl (i := 551) (by decide +kernel) rfl
theorem w_552 : Cond.static ⟨"LineDiskLaw", "out", "(LLineDisk;I[J)I"⟩ ∈ gw := gw_tbl (i := 552) (by decide +kernel) rfl
theorem w_553 : Cond.codeWith ⟨"LineDiskLaw", "out", "(LLineDisk;I[J)I"⟩ method_4_code 4 (some .int) [(0, 9, 12, 19)] ∈ gw := gw_tbl (i := 553) (by decide +kernel) rfl
theorem w_554 : Cond.classLink "LineDiskLaw" 19 "java/lang/IndexOutOfBoundsException" ∈ gw := gw_tbl (i := 554) (by decide +kernel) rfl
theorem w_555 : Cond.methodLink "LineDiskLaw" 15 ⟨"LineDisk", "out", "(I)I"⟩ ∈ gw := gw_tbl (i := 555) (by decide +kernel) rfl
theorem w_556 : Cond.instanceMethod ⟨"LineDisk", "out", "(I)I"⟩ ∈ gw := gw_tbl (i := 556) (by decide +kernel) rfl
theorem w_557 : Cond.selects "LineDisk" ⟨"LineDisk", "out", "(I)I"⟩ ⟨"LineDisk", "out", "(I)I"⟩ ∈ gw := gw_tbl (i := 557) (by decide +kernel) rfl
theorem w_558 : Cond.code ⟨"LineDisk", "out", "(I)I"⟩ prog_1_method_7_code 2 (some .int) ∈ gw := gw_tbl (i := 558) (by decide +kernel) rfl
theorem w_559 : Cond.classLink "LineDisk" 117 "java/lang/IndexOutOfBoundsException" ∈ gw := gw_tbl (i := 559) (by decide +kernel) rfl
theorem w_560 : Cond.instantiable "java/lang/IndexOutOfBoundsException" 6 ∈ gw := gw_tbl (i := 560) (by decide +kernel) rfl
theorem w_562 : Cond.selects "java/lang/IndexOutOfBoundsException" ⟨"java/lang/Throwable", "fillInStackTrace", "(I)Ljava/lang/Throwable;"⟩ ⟨"java/lang/Throwable", "fillInStackTrace", "(I)Ljava/lang/Throwable;"⟩ ∈ gw := gw_tbl (i := 562) (by decide +kernel) rfl
theorem w_563 : Cond.lays "java/lang/IndexOutOfBoundsException" "java/lang/Throwable" "cause" "Ljava/lang/Throwable;" ∈ gw := gw_tbl (i := 563) (by decide +kernel) rfl
theorem w_564 : Cond.lays "java/lang/IndexOutOfBoundsException" "java/lang/Throwable" "stackTrace" "[Ljava/lang/StackTraceElement;" ∈ gw := gw_tbl (i := 564) (by decide +kernel) rfl
theorem w_565 : Cond.lays "java/lang/IndexOutOfBoundsException" "java/lang/Throwable" "suppressedExceptions" "Ljava/util/List;" ∈ gw := gw_tbl (i := 565) (by decide +kernel) rfl
theorem w_566 : Cond.lays "java/lang/IndexOutOfBoundsException" "java/lang/Throwable" "detailMessage" "Ljava/lang/String;" ∈ gw := gw_tbl (i := 566) (by decide +kernel) rfl
theorem w_567 : Cond.lays "java/lang/IndexOutOfBoundsException" "java/lang/Throwable" "backtrace" "Ljava/lang/Object;" ∈ gw := gw_tbl (i := 567) (by decide +kernel) rfl
theorem w_569 : Cond.methodLink "LineDisk" 121 ⟨"java/lang/IndexOutOfBoundsException", "<init>", "(Ljava/lang/String;)V"⟩ ∈ gw := gw_tbl (i := 569) (by decide +kernel) rfl
theorem w_570 : Cond.instanceMethod ⟨"java/lang/IndexOutOfBoundsException", "<init>", "(Ljava/lang/String;)V"⟩ ∈ gw := gw_tbl (i := 570) (by decide +kernel) rfl
theorem w_571 : Cond.code ⟨"java/lang/IndexOutOfBoundsException", "<init>", "(Ljava/lang/String;)V"⟩ prog_10_method_2_code 2 none ∈ gw := gw_tbl (i := 571) (by decide +kernel) rfl
theorem w_572 : Cond.methodLink "java/lang/IndexOutOfBoundsException" 7 ⟨"java/lang/RuntimeException", "<init>", "(Ljava/lang/String;)V"⟩ ∈ gw := gw_tbl (i := 572) (by decide +kernel) rfl
theorem w_573 : Cond.lays "java/lang/IndexOutOfBoundsException" "java/lang/Throwable" "depth" "I" ∈ gw := gw_tbl (i := 573) (by decide +kernel) rfl
theorem w_574 : Cond.superclass "java/lang/IndexOutOfBoundsException" "java/lang/RuntimeException" ∈ gw := gw_tbl (i := 574) (by decide +kernel) rfl
theorem w_575 : Cond.methodLink "LineDiskLaw" 61 ⟨"LineDiskLaw", "disk", "(LLineDisk;I[J)I"⟩ ∈ gw := gw_tbl (i := 575) (by decide +kernel) rfl
theorem w_576 : Cond.static ⟨"LineDiskLaw", "disk", "(LLineDisk;I[J)I"⟩ ∈ gw := gw_tbl (i := 576) (by decide +kernel) rfl
theorem w_577 : Cond.codeWith ⟨"LineDiskLaw", "disk", "(LLineDisk;I[J)I"⟩ method_5_code 4 (some .int) [(0, 9, 12, 19)] ∈ gw := gw_tbl (i := 577) (by decide +kernel) rfl
theorem w_578 : Cond.methodLink "LineDiskLaw" 21 ⟨"LineDisk", "disk", "(I)I"⟩ ∈ gw := gw_tbl (i := 578) (by decide +kernel) rfl
theorem w_579 : Cond.instanceMethod ⟨"LineDisk", "disk", "(I)I"⟩ ∈ gw := gw_tbl (i := 579) (by decide +kernel) rfl
theorem w_580 : Cond.selects "LineDisk" ⟨"LineDisk", "disk", "(I)I"⟩ ⟨"LineDisk", "disk", "(I)I"⟩ ∈ gw := gw_tbl (i := 580) (by decide +kernel) rfl
theorem w_581 : Cond.code ⟨"LineDisk", "disk", "(I)I"⟩ prog_1_method_9_code 2 (some .int) ∈ gw := gw_tbl (i := 581) (by decide +kernel) rfl
theorem w_583 : Cond.classLink "LineDiskLaw" 25 "LineDiskModel" ∈ gw := gw_tbl (i := 583) (by decide +kernel) rfl
theorem w_584 : Cond.instantiable "LineDiskModel" 25 ∈ gw := gw_tbl (i := 584) (by decide +kernel) rfl
theorem w_585 : Cond.methodLink "LineDiskLaw" 27 ⟨"LineDiskModel", "<init>", "()V"⟩ ∈ gw := gw_tbl (i := 585) (by decide +kernel) rfl
theorem w_586 : Cond.instanceMethod ⟨"LineDiskModel", "<init>", "()V"⟩ ∈ gw := gw_tbl (i := 586) (by decide +kernel) rfl
theorem w_587 : Cond.code ⟨"LineDiskModel", "<init>", "()V"⟩ prog_7_method_1_code 1 none ∈ gw := gw_tbl (i := 587) (by decide +kernel) rfl
theorem w_588 : Cond.methodLink "LineDiskModel" 1 ⟨"java/lang/Object", "<init>", "()V"⟩ ∈ gw := gw_tbl (i := 588) (by decide +kernel) rfl
theorem w_589 : Cond.methodLink "LineDiskModel" 44 ⟨"LineDiskModel", "nothing", "()V"⟩ ∈ gw := gw_tbl (i := 589) (by decide +kernel) rfl
theorem w_591 : Cond.instanceMethod ⟨"LineDiskModel", "nothing", "()V"⟩ ∈ gw := gw_tbl (i := 591) (by decide +kernel) rfl
theorem w_592 : Cond.code ⟨"LineDiskModel", "nothing", "()V"⟩ prog_7_method_3_code 2 none ∈ gw := gw_tbl (i := 592) (by decide +kernel) rfl
theorem w_593 : Cond.fieldLink "LineDiskModel" 47 "LineDiskModel" "threw" "I" ∈ gw := gw_tbl (i := 593) (by decide +kernel) rfl
theorem w_594 : Cond.fieldLink "LineDiskModel" 7 "LineDiskModel" "disk" "[I" ∈ gw := gw_tbl (i := 594) (by decide +kernel) rfl
theorem w_595 : Cond.fieldLink "LineDiskModel" 13 "LineDiskModel" "armed" "I" ∈ gw := gw_tbl (i := 595) (by decide +kernel) rfl
theorem w_596 : Cond.fieldLink "LineDiskModel" 56 "LineDiskModel" "dead" "Z" ∈ gw := gw_tbl (i := 596) (by decide +kernel) rfl
theorem w_597 : Cond.fieldLink "LineDiskModel" 63 "LineDiskModel" "writes" "I" ∈ gw := gw_tbl (i := 597) (by decide +kernel) rfl
theorem w_598 : Cond.fieldLink "LineDiskModel" 17 "LineDiskModel" "length" "[I" ∈ gw := gw_tbl (i := 598) (by decide +kernel) rfl
theorem w_599 : Cond.fieldLink "LineDiskModel" 20 "LineDiskModel" "chars" "[I" ∈ gw := gw_tbl (i := 599) (by decide +kernel) rfl
theorem w_600 : Cond.fieldLink "LineDiskModel" 23 "LineDiskModel" "variables" "[I" ∈ gw := gw_tbl (i := 600) (by decide +kernel) rfl
theorem w_601 : Cond.fieldLink "LineDiskModel" 50 "LineDiskModel" "next" "I" ∈ gw := gw_tbl (i := 601) (by decide +kernel) rfl
theorem w_602 : Cond.fieldLink "LineDiskModel" 109 "LineDiskModel" "outs" "I" ∈ gw := gw_tbl (i := 602) (by decide +kernel) rfl
theorem w_603 : Cond.fieldLink "LineDiskModel" 26 "LineDiskModel" "out" "[I" ∈ gw := gw_tbl (i := 603) (by decide +kernel) rfl
theorem w_604 : Cond.fieldLink "LineDiskModel" 53 "LineDiskModel" "typed" "I" ∈ gw := gw_tbl (i := 604) (by decide +kernel) rfl
theorem w_605 : Cond.fieldLink "LineDiskModel" 29 "LineDiskModel" "text" "[I" ∈ gw := gw_tbl (i := 605) (by decide +kernel) rfl
theorem w_606 : Cond.fieldLink "LineDiskModel" 118 "LineDiskModel" "ofLine" "Z" ∈ gw := gw_tbl (i := 606) (by decide +kernel) rfl
theorem w_607 : Cond.fieldLink "LineDiskModel" 121 "LineDiskModel" "from" "I" ∈ gw := gw_tbl (i := 607) (by decide +kernel) rfl
theorem w_608 : Cond.fieldLink "LineDiskModel" 112 "LineDiskModel" "at" "I" ∈ gw := gw_tbl (i := 608) (by decide +kernel) rfl
theorem w_609 : Cond.fieldLink "LineDiskModel" 115 "LineDiskModel" "end" "I" ∈ gw := gw_tbl (i := 609) (by decide +kernel) rfl
theorem w_610 : Cond.fieldLink "LineDiskModel" 131 "LineDiskModel" "good" "Z" ∈ gw := gw_tbl (i := 610) (by decide +kernel) rfl
theorem w_611 : Cond.fieldLink "LineDiskModel" 140 "LineDiskModel" "numbers" "I" ∈ gw := gw_tbl (i := 611) (by decide +kernel) rfl
theorem w_612 : Cond.fieldLink "LineDiskModel" 32 "LineDiskModel" "number" "[I" ∈ gw := gw_tbl (i := 612) (by decide +kernel) rfl
theorem w_613 : Cond.fieldLink "LineDiskModel" 137 "LineDiskModel" "signs" "I" ∈ gw := gw_tbl (i := 613) (by decide +kernel) rfl
theorem w_614 : Cond.fieldLink "LineDiskModel" 35 "LineDiskModel" "sign" "[I" ∈ gw := gw_tbl (i := 614) (by decide +kernel) rfl
theorem w_615 : Cond.fieldLink "LineDiskModel" 70 "LineDiskModel" "many" "I" ∈ gw := gw_tbl (i := 615) (by decide +kernel) rfl
theorem w_616 : Cond.fieldLink "LineDiskModel" 38 "LineDiskModel" "which" "[I" ∈ gw := gw_tbl (i := 616) (by decide +kernel) rfl
theorem w_617 : Cond.fieldLink "LineDiskModel" 41 "LineDiskModel" "cells" "[I" ∈ gw := gw_tbl (i := 617) (by decide +kernel) rfl
theorem w_618 : Cond.lays "LineDiskModel" "LineDiskModel" "threw" "I" ∈ gw := gw_tbl (i := 618) (by decide +kernel) rfl
theorem w_619 : Cond.soleField "LineDiskModel" "threw" ∈ gw := gw_tbl (i := 619) (by decide +kernel) rfl
theorem w_620 : Cond.laysFinal "LineDiskModel" "LineDiskModel" "disk" "[I" ∈ gw := gw_tbl (i := 620) (by decide +kernel) rfl
theorem w_621 : Cond.soleField "LineDiskModel" "disk" ∈ gw := gw_tbl (i := 621) (by decide +kernel) rfl
theorem w_622 : Cond.lays "LineDiskModel" "LineDiskModel" "armed" "I" ∈ gw := gw_tbl (i := 622) (by decide +kernel) rfl
theorem w_623 : Cond.soleField "LineDiskModel" "armed" ∈ gw := gw_tbl (i := 623) (by decide +kernel) rfl
theorem w_624 : Cond.lays "LineDiskModel" "LineDiskModel" "dead" "Z" ∈ gw := gw_tbl (i := 624) (by decide +kernel) rfl
theorem w_625 : Cond.soleField "LineDiskModel" "dead" ∈ gw := gw_tbl (i := 625) (by decide +kernel) rfl
theorem w_626 : Cond.lays "LineDiskModel" "LineDiskModel" "writes" "I" ∈ gw := gw_tbl (i := 626) (by decide +kernel) rfl
theorem w_627 : Cond.soleField "LineDiskModel" "writes" ∈ gw := gw_tbl (i := 627) (by decide +kernel) rfl
theorem w_628 : Cond.laysFinal "LineDiskModel" "LineDiskModel" "length" "[I" ∈ gw := gw_tbl (i := 628) (by decide +kernel) rfl
theorem w_629 : Cond.soleField "LineDiskModel" "length" ∈ gw := gw_tbl (i := 629) (by decide +kernel) rfl
theorem w_630 : Cond.laysFinal "LineDiskModel" "LineDiskModel" "chars" "[I" ∈ gw := gw_tbl (i := 630) (by decide +kernel) rfl
theorem w_631 : Cond.soleField "LineDiskModel" "chars" ∈ gw := gw_tbl (i := 631) (by decide +kernel) rfl
theorem w_632 : Cond.laysFinal "LineDiskModel" "LineDiskModel" "variables" "[I" ∈ gw := gw_tbl (i := 632) (by decide +kernel) rfl
theorem w_633 : Cond.soleField "LineDiskModel" "variables" ∈ gw := gw_tbl (i := 633) (by decide +kernel) rfl
theorem w_634 : Cond.lays "LineDiskModel" "LineDiskModel" "next" "I" ∈ gw := gw_tbl (i := 634) (by decide +kernel) rfl
theorem w_635 : Cond.soleField "LineDiskModel" "next" ∈ gw := gw_tbl (i := 635) (by decide +kernel) rfl
theorem w_636 : Cond.lays "LineDiskModel" "LineDiskModel" "outs" "I" ∈ gw := gw_tbl (i := 636) (by decide +kernel) rfl
theorem w_637 : Cond.soleField "LineDiskModel" "outs" ∈ gw := gw_tbl (i := 637) (by decide +kernel) rfl
theorem w_638 : Cond.laysFinal "LineDiskModel" "LineDiskModel" "out" "[I" ∈ gw := gw_tbl (i := 638) (by decide +kernel) rfl
theorem w_639 : Cond.soleField "LineDiskModel" "out" ∈ gw := gw_tbl (i := 639) (by decide +kernel) rfl
theorem w_640 : Cond.lays "LineDiskModel" "LineDiskModel" "typed" "I" ∈ gw := gw_tbl (i := 640) (by decide +kernel) rfl
theorem w_641 : Cond.soleField "LineDiskModel" "typed" ∈ gw := gw_tbl (i := 641) (by decide +kernel) rfl
theorem w_642 : Cond.laysFinal "LineDiskModel" "LineDiskModel" "text" "[I" ∈ gw := gw_tbl (i := 642) (by decide +kernel) rfl
theorem w_643 : Cond.soleField "LineDiskModel" "text" ∈ gw := gw_tbl (i := 643) (by decide +kernel) rfl
theorem w_644 : Cond.lays "LineDiskModel" "LineDiskModel" "ofLine" "Z" ∈ gw := gw_tbl (i := 644) (by decide +kernel) rfl
theorem w_645 : Cond.soleField "LineDiskModel" "ofLine" ∈ gw := gw_tbl (i := 645) (by decide +kernel) rfl
theorem w_646 : Cond.lays "LineDiskModel" "LineDiskModel" "from" "I" ∈ gw := gw_tbl (i := 646) (by decide +kernel) rfl
theorem w_647 : Cond.soleField "LineDiskModel" "from" ∈ gw := gw_tbl (i := 647) (by decide +kernel) rfl
theorem w_648 : Cond.lays "LineDiskModel" "LineDiskModel" "at" "I" ∈ gw := gw_tbl (i := 648) (by decide +kernel) rfl
theorem w_649 : Cond.soleField "LineDiskModel" "at" ∈ gw := gw_tbl (i := 649) (by decide +kernel) rfl
theorem w_650 : Cond.lays "LineDiskModel" "LineDiskModel" "end" "I" ∈ gw := gw_tbl (i := 650) (by decide +kernel) rfl
theorem w_651 : Cond.soleField "LineDiskModel" "end" ∈ gw := gw_tbl (i := 651) (by decide +kernel) rfl
theorem w_652 : Cond.lays "LineDiskModel" "LineDiskModel" "good" "Z" ∈ gw := gw_tbl (i := 652) (by decide +kernel) rfl
theorem w_653 : Cond.soleField "LineDiskModel" "good" ∈ gw := gw_tbl (i := 653) (by decide +kernel) rfl
theorem w_654 : Cond.lays "LineDiskModel" "LineDiskModel" "numbers" "I" ∈ gw := gw_tbl (i := 654) (by decide +kernel) rfl
theorem w_655 : Cond.soleField "LineDiskModel" "numbers" ∈ gw := gw_tbl (i := 655) (by decide +kernel) rfl
theorem w_656 : Cond.laysFinal "LineDiskModel" "LineDiskModel" "number" "[I" ∈ gw := gw_tbl (i := 656) (by decide +kernel) rfl
theorem w_657 : Cond.soleField "LineDiskModel" "number" ∈ gw := gw_tbl (i := 657) (by decide +kernel) rfl
theorem w_658 : Cond.lays "LineDiskModel" "LineDiskModel" "signs" "I" ∈ gw := gw_tbl (i := 658) (by decide +kernel) rfl
theorem w_659 : Cond.soleField "LineDiskModel" "signs" ∈ gw := gw_tbl (i := 659) (by decide +kernel) rfl
theorem w_660 : Cond.laysFinal "LineDiskModel" "LineDiskModel" "sign" "[I" ∈ gw := gw_tbl (i := 660) (by decide +kernel) rfl
theorem w_661 : Cond.soleField "LineDiskModel" "sign" ∈ gw := gw_tbl (i := 661) (by decide +kernel) rfl
theorem w_662 : Cond.lays "LineDiskModel" "LineDiskModel" "many" "I" ∈ gw := gw_tbl (i := 662) (by decide +kernel) rfl
theorem w_663 : Cond.soleField "LineDiskModel" "many" ∈ gw := gw_tbl (i := 663) (by decide +kernel) rfl
theorem w_664 : Cond.laysFinal "LineDiskModel" "LineDiskModel" "which" "[I" ∈ gw := gw_tbl (i := 664) (by decide +kernel) rfl
theorem w_665 : Cond.soleField "LineDiskModel" "which" ∈ gw := gw_tbl (i := 665) (by decide +kernel) rfl
theorem w_666 : Cond.laysFinal "LineDiskModel" "LineDiskModel" "cells" "[I" ∈ gw := gw_tbl (i := 666) (by decide +kernel) rfl
theorem w_667 : Cond.soleField "LineDiskModel" "cells" ∈ gw := gw_tbl (i := 667) (by decide +kernel) rfl
theorem w_668 : Cond.superclass "LineDiskModel" "java/lang/Object" ∈ gw := gw_tbl (i := 668) (by decide +kernel) rfl
theorem w_669 : Cond.methodLink "LineDiskLaw" 51 ⟨"LineDiskModel", "thrown", "()I"⟩ ∈ gw := gw_tbl (i := 669) (by decide +kernel) rfl
theorem w_670 : Cond.instanceMethod ⟨"LineDiskModel", "thrown", "()I"⟩ ∈ gw := gw_tbl (i := 670) (by decide +kernel) rfl
theorem w_671 : Cond.selects "LineDiskModel" ⟨"LineDiskModel", "thrown", "()I"⟩ ⟨"LineDiskModel", "thrown", "()I"⟩ ∈ gw := gw_tbl (i := 671) (by decide +kernel) rfl
theorem w_672 : Cond.code ⟨"LineDiskModel", "thrown", "()I"⟩ prog_7_method_2_code 1 (some .int) ∈ gw := gw_tbl (i := 672) (by decide +kernel) rfl
theorem w_673 : Cond.methodLink "LineDiskLaw" 32 ⟨"LineDiskModel", "format", "()I"⟩ ∈ gw := gw_tbl (i := 673) (by decide +kernel) rfl
theorem w_674 : Cond.instanceMethod ⟨"LineDiskModel", "format", "()I"⟩ ∈ gw := gw_tbl (i := 674) (by decide +kernel) rfl
theorem w_675 : Cond.selects "LineDiskModel" ⟨"LineDiskModel", "format", "()I"⟩ ⟨"LineDiskModel", "format", "()I"⟩ ∈ gw := gw_tbl (i := 675) (by decide +kernel) rfl
theorem w_676 : Cond.code ⟨"LineDiskModel", "format", "()I"⟩ prog_7_method_7_code 2 (some .int) ∈ gw := gw_tbl (i := 676) (by decide +kernel) rfl
theorem w_677 : Cond.methodLink "LineDiskModel" 66 ⟨"LineDiskModel", "write", "(II)V"⟩ ∈ gw := gw_tbl (i := 677) (by decide +kernel) rfl
theorem w_679 : Cond.instanceMethod ⟨"LineDiskModel", "write", "(II)V"⟩ ∈ gw := gw_tbl (i := 679) (by decide +kernel) rfl
theorem w_680 : Cond.code ⟨"LineDiskModel", "write", "(II)V"⟩ prog_7_method_5_code 4 none ∈ gw := gw_tbl (i := 680) (by decide +kernel) rfl
theorem w_681 : Cond.methodLink "LineDiskModel" 60 ⟨"LineDiskModel", "dies", "()V"⟩ ∈ gw := gw_tbl (i := 681) (by decide +kernel) rfl
theorem w_683 : Cond.instanceMethod ⟨"LineDiskModel", "dies", "()V"⟩ ∈ gw := gw_tbl (i := 683) (by decide +kernel) rfl
theorem w_684 : Cond.code ⟨"LineDiskModel", "dies", "()V"⟩ prog_7_method_4_code 1 none ∈ gw := gw_tbl (i := 684) (by decide +kernel) rfl
theorem w_685 : Cond.methodLink "LineDiskLaw" 36 ⟨"LineDiskModel", "recover", "()I"⟩ ∈ gw := gw_tbl (i := 685) (by decide +kernel) rfl
theorem w_686 : Cond.instanceMethod ⟨"LineDiskModel", "recover", "()I"⟩ ∈ gw := gw_tbl (i := 686) (by decide +kernel) rfl
theorem w_687 : Cond.selects "LineDiskModel" ⟨"LineDiskModel", "recover", "()I"⟩ ⟨"LineDiskModel", "recover", "()I"⟩ ∈ gw := gw_tbl (i := 687) (by decide +kernel) rfl
theorem w_688 : Cond.code ⟨"LineDiskModel", "recover", "()I"⟩ prog_7_method_10_code 6 (some .int) ∈ gw := gw_tbl (i := 688) (by decide +kernel) rfl
theorem w_689 : Cond.methodLink "LineDiskModel" 76 ⟨"LineDiskModel", "formatted", "()Z"⟩ ∈ gw := gw_tbl (i := 689) (by decide +kernel) rfl
theorem w_691 : Cond.instanceMethod ⟨"LineDiskModel", "formatted", "()Z"⟩ ∈ gw := gw_tbl (i := 691) (by decide +kernel) rfl
theorem w_692 : Cond.code ⟨"LineDiskModel", "formatted", "()Z"⟩ prog_7_method_6_code 1 (some .boolean) ∈ gw := gw_tbl (i := 692) (by decide +kernel) rfl
theorem w_693 : Cond.methodLink "LineDiskLaw" 44 ⟨"LineDiskModel", "step", "(I)I"⟩ ∈ gw := gw_tbl (i := 693) (by decide +kernel) rfl
theorem w_694 : Cond.instanceMethod ⟨"LineDiskModel", "step", "(I)I"⟩ ∈ gw := gw_tbl (i := 694) (by decide +kernel) rfl
theorem w_695 : Cond.selects "LineDiskModel" ⟨"LineDiskModel", "step", "(I)I"⟩ ⟨"LineDiskModel", "step", "(I)I"⟩ ∈ gw := gw_tbl (i := 695) (by decide +kernel) rfl
theorem w_696 : Cond.code ⟨"LineDiskModel", "step", "(I)I"⟩ prog_7_method_38_code 6 (some .int) ∈ gw := gw_tbl (i := 696) (by decide +kernel) rfl
theorem w_697 : Cond.methodLink "LineDiskModel" 178 ⟨"LineDiskModel", "nextLine", "()I"⟩ ∈ gw := gw_tbl (i := 697) (by decide +kernel) rfl
theorem w_699 : Cond.instanceMethod ⟨"LineDiskModel", "nextLine", "()I"⟩ ∈ gw := gw_tbl (i := 699) (by decide +kernel) rfl
theorem w_700 : Cond.code ⟨"LineDiskModel", "nextLine", "()I"⟩ prog_7_method_36_code 2 (some .int) ∈ gw := gw_tbl (i := 700) (by decide +kernel) rfl
theorem w_701 : Cond.methodLink "LineDiskModel" 181 ⟨"LineDiskModel", "goThrough", "(ZII)V"⟩ ∈ gw := gw_tbl (i := 701) (by decide +kernel) rfl
theorem w_703 : Cond.instanceMethod ⟨"LineDiskModel", "goThrough", "(ZII)V"⟩ ∈ gw := gw_tbl (i := 703) (by decide +kernel) rfl
theorem w_704 : Cond.code ⟨"LineDiskModel", "goThrough", "(ZII)V"⟩ prog_7_method_37_code 4 none ∈ gw := gw_tbl (i := 704) (by decide +kernel) rfl
theorem w_705 : Cond.methodLink "LineDiskModel" 185 ⟨"LineDiskModel", "statement", "(ZI)I"⟩ ∈ gw := gw_tbl (i := 705) (by decide +kernel) rfl
theorem w_707 : Cond.instanceMethod ⟨"LineDiskModel", "statement", "(ZI)I"⟩ ∈ gw := gw_tbl (i := 707) (by decide +kernel) rfl
theorem w_708 : Cond.code ⟨"LineDiskModel", "statement", "(ZI)I"⟩ prog_7_method_35_code 12 (some .int) ∈ gw := gw_tbl (i := 708) (by decide +kernel) rfl
theorem w_709 : Cond.methodLink "LineDiskModel" 124 ⟨"LineDiskModel", "here", "()I"⟩ ∈ gw := gw_tbl (i := 709) (by decide +kernel) rfl
theorem w_711 : Cond.instanceMethod ⟨"LineDiskModel", "here", "()I"⟩ ∈ gw := gw_tbl (i := 711) (by decide +kernel) rfl
theorem w_712 : Cond.code ⟨"LineDiskModel", "here", "()I"⟩ prog_7_method_22_code 1 (some .int) ∈ gw := gw_tbl (i := 712) (by decide +kernel) rfl
theorem w_713 : Cond.methodLink "LineDiskModel" 143 ⟨"LineDiskModel", "isVariable", "(I)Z"⟩ ∈ gw := gw_tbl (i := 713) (by decide +kernel) rfl
theorem w_714 : Cond.static ⟨"LineDiskModel", "isVariable", "(I)Z"⟩ ∈ gw := gw_tbl (i := 714) (by decide +kernel) rfl
theorem w_715 : Cond.code ⟨"LineDiskModel", "isVariable", "(I)Z"⟩ prog_7_method_26_code 1 (some .boolean) ∈ gw := gw_tbl (i := 715) (by decide +kernel) rfl
theorem w_716 : Cond.methodLink "LineDiskModel" 155 ⟨"LineDiskModel", "must", "(I)V"⟩ ∈ gw := gw_tbl (i := 716) (by decide +kernel) rfl
theorem w_718 : Cond.instanceMethod ⟨"LineDiskModel", "must", "(I)V"⟩ ∈ gw := gw_tbl (i := 718) (by decide +kernel) rfl
theorem w_719 : Cond.code ⟨"LineDiskModel", "must", "(I)V"⟩ prog_7_method_24_code 3 none ∈ gw := gw_tbl (i := 719) (by decide +kernel) rfl
theorem w_720 : Cond.methodLink "LineDiskModel" 127 ⟨"LineDiskModel", "takes", "(I)Z"⟩ ∈ gw := gw_tbl (i := 720) (by decide +kernel) rfl
theorem w_722 : Cond.instanceMethod ⟨"LineDiskModel", "takes", "(I)Z"⟩ ∈ gw := gw_tbl (i := 722) (by decide +kernel) rfl
theorem w_723 : Cond.code ⟨"LineDiskModel", "takes", "(I)Z"⟩ prog_7_method_23_code 2 (some .boolean) ∈ gw := gw_tbl (i := 723) (by decide +kernel) rfl
theorem w_724 : Cond.methodLink "LineDiskModel" 159 ⟨"LineDiskModel", "value", "()I"⟩ ∈ gw := gw_tbl (i := 724) (by decide +kernel) rfl
theorem w_726 : Cond.instanceMethod ⟨"LineDiskModel", "value", "()I"⟩ ∈ gw := gw_tbl (i := 726) (by decide +kernel) rfl
theorem w_727 : Cond.code ⟨"LineDiskModel", "value", "()I"⟩ prog_7_method_32_code 6 (some .int) ∈ gw := gw_tbl (i := 727) (by decide +kernel) rfl
theorem w_728 : Cond.methodLink "LineDiskModel" 146 ⟨"LineDiskModel", "piece", "()Z"⟩ ∈ gw := gw_tbl (i := 728) (by decide +kernel) rfl
theorem w_730 : Cond.instanceMethod ⟨"LineDiskModel", "piece", "()Z"⟩ ∈ gw := gw_tbl (i := 730) (by decide +kernel) rfl
theorem w_731 : Cond.code ⟨"LineDiskModel", "piece", "()Z"⟩ prog_7_method_31_code 4 (some .boolean) ∈ gw := gw_tbl (i := 731) (by decide +kernel) rfl
theorem w_732 : Cond.methodLink "LineDiskModel" 134 ⟨"LineDiskModel", "isDigit", "(I)Z"⟩ ∈ gw := gw_tbl (i := 732) (by decide +kernel) rfl
theorem w_733 : Cond.static ⟨"LineDiskModel", "isDigit", "(I)Z"⟩ ∈ gw := gw_tbl (i := 733) (by decide +kernel) rfl
theorem w_734 : Cond.code ⟨"LineDiskModel", "isDigit", "(I)Z"⟩ prog_7_method_25_code 1 (some .boolean) ∈ gw := gw_tbl (i := 734) (by decide +kernel) rfl
theorem w_735 : Cond.methodLink "LineDiskModel" 149 ⟨"LineDiskModel", "level", "(I)I"⟩ ∈ gw := gw_tbl (i := 735) (by decide +kernel) rfl
theorem w_736 : Cond.static ⟨"LineDiskModel", "level", "(I)I"⟩ ∈ gw := gw_tbl (i := 736) (by decide +kernel) rfl
theorem w_737 : Cond.code ⟨"LineDiskModel", "level", "(I)I"⟩ prog_7_method_30_code 1 (some .int) ∈ gw := gw_tbl (i := 737) (by decide +kernel) rfl
theorem w_738 : Cond.methodLink "LineDiskModel" 152 ⟨"LineDiskModel", "reduce", "()V"⟩ ∈ gw := gw_tbl (i := 738) (by decide +kernel) rfl
theorem w_740 : Cond.instanceMethod ⟨"LineDiskModel", "reduce", "()V"⟩ ∈ gw := gw_tbl (i := 740) (by decide +kernel) rfl
theorem w_741 : Cond.code ⟨"LineDiskModel", "reduce", "()V"⟩ prog_7_method_29_code 3 none ∈ gw := gw_tbl (i := 741) (by decide +kernel) rfl
theorem w_742 : Cond.methodLink "LineDiskModel" 162 ⟨"LineDiskModel", "comesOut", "(I)V"⟩ ∈ gw := gw_tbl (i := 742) (by decide +kernel) rfl
theorem w_744 : Cond.instanceMethod ⟨"LineDiskModel", "comesOut", "(I)V"⟩ ∈ gw := gw_tbl (i := 744) (by decide +kernel) rfl
theorem w_745 : Cond.code ⟨"LineDiskModel", "comesOut", "(I)V"⟩ prog_7_method_21_code 2 none ∈ gw := gw_tbl (i := 745) (by decide +kernel) rfl
theorem w_746 : Cond.methodLink "LineDiskModel" 165 ⟨"LineDiskModel", "lineNumber", "()I"⟩ ∈ gw := gw_tbl (i := 746) (by decide +kernel) rfl
theorem w_748 : Cond.instanceMethod ⟨"LineDiskModel", "lineNumber", "()I"⟩ ∈ gw := gw_tbl (i := 748) (by decide +kernel) rfl
theorem w_749 : Cond.code ⟨"LineDiskModel", "lineNumber", "()I"⟩ prog_7_method_28_code 3 (some .int) ∈ gw := gw_tbl (i := 749) (by decide +kernel) rfl
theorem w_750 : Cond.methodLink "LineDiskModel" 168 ⟨"LineDiskModel", "digit", "()I"⟩ ∈ gw := gw_tbl (i := 750) (by decide +kernel) rfl
theorem w_752 : Cond.instanceMethod ⟨"LineDiskModel", "digit", "()I"⟩ ∈ gw := gw_tbl (i := 752) (by decide +kernel) rfl
theorem w_753 : Cond.code ⟨"LineDiskModel", "digit", "()I"⟩ prog_7_method_27_code 2 (some .int) ∈ gw := gw_tbl (i := 753) (by decide +kernel) rfl
theorem w_754 : Cond.methodLink "LineDiskModel" 171 ⟨"LineDiskModel", "recordStep", "(IIII)I"⟩ ∈ gw := gw_tbl (i := 754) (by decide +kernel) rfl
theorem w_756 : Cond.instanceMethod ⟨"LineDiskModel", "recordStep", "(IIII)I"⟩ ∈ gw := gw_tbl (i := 756) (by decide +kernel) rfl
theorem w_757 : Cond.code ⟨"LineDiskModel", "recordStep", "(IIII)I"⟩ prog_7_method_34_code 8 (some .int) ∈ gw := gw_tbl (i := 757) (by decide +kernel) rfl
theorem w_758 : Cond.methodLink "LineDiskModel" 84 ⟨"LineDiskModel", "sizeOf", "(I)I"⟩ ∈ gw := gw_tbl (i := 758) (by decide +kernel) rfl
theorem w_760 : Cond.instanceMethod ⟨"LineDiskModel", "sizeOf", "(I)I"⟩ ∈ gw := gw_tbl (i := 760) (by decide +kernel) rfl
theorem w_761 : Cond.code ⟨"LineDiskModel", "sizeOf", "(I)I"⟩ prog_7_method_11_code 2 (some .int) ∈ gw := gw_tbl (i := 761) (by decide +kernel) rfl
theorem w_762 : Cond.methodLink "LineDiskModel" 80 ⟨"LineDiskModel", "firstOf", "(I)I"⟩ ∈ gw := gw_tbl (i := 762) (by decide +kernel) rfl
theorem w_764 : Cond.instanceMethod ⟨"LineDiskModel", "firstOf", "(I)I"⟩ ∈ gw := gw_tbl (i := 764) (by decide +kernel) rfl
theorem w_765 : Cond.code ⟨"LineDiskModel", "firstOf", "(I)I"⟩ prog_7_method_12_code 2 (some .int) ∈ gw := gw_tbl (i := 765) (by decide +kernel) rfl
theorem w_766 : Cond.methodLink "LineDiskModel" 98 ⟨"LineDiskModel", "room", "(II)I"⟩ ∈ gw := gw_tbl (i := 766) (by decide +kernel) rfl
theorem w_768 : Cond.instanceMethod ⟨"LineDiskModel", "room", "(II)I"⟩ ∈ gw := gw_tbl (i := 768) (by decide +kernel) rfl
theorem w_769 : Cond.code ⟨"LineDiskModel", "room", "(II)I"⟩ prog_7_method_15_code 6 (some .int) ∈ gw := gw_tbl (i := 769) (by decide +kernel) rfl
theorem w_770 : Cond.methodLink "LineDiskModel" 90 ⟨"LineDiskModel", "used", "(II)Z"⟩ ∈ gw := gw_tbl (i := 770) (by decide +kernel) rfl
theorem w_772 : Cond.instanceMethod ⟨"LineDiskModel", "used", "(II)Z"⟩ ∈ gw := gw_tbl (i := 772) (by decide +kernel) rfl
theorem w_773 : Cond.code ⟨"LineDiskModel", "used", "(II)Z"⟩ prog_7_method_14_code 5 (some .boolean) ∈ gw := gw_tbl (i := 773) (by decide +kernel) rfl
theorem w_774 : Cond.methodLink "LineDiskModel" 87 ⟨"LineDiskModel", "blocksOf", "(I)I"⟩ ∈ gw := gw_tbl (i := 774) (by decide +kernel) rfl
theorem w_775 : Cond.static ⟨"LineDiskModel", "blocksOf", "(I)I"⟩ ∈ gw := gw_tbl (i := 775) (by decide +kernel) rfl
theorem w_776 : Cond.code ⟨"LineDiskModel", "blocksOf", "(I)I"⟩ prog_7_method_13_code 1 (some .int) ∈ gw := gw_tbl (i := 776) (by decide +kernel) rfl
theorem w_777 : Cond.methodLink "LineDiskModel" 102 ⟨"LineDiskModel", "directory", "(III)V"⟩ ∈ gw := gw_tbl (i := 777) (by decide +kernel) rfl
theorem w_779 : Cond.instanceMethod ⟨"LineDiskModel", "directory", "(III)V"⟩ ∈ gw := gw_tbl (i := 779) (by decide +kernel) rfl
theorem w_780 : Cond.code ⟨"LineDiskModel", "directory", "(III)V"⟩ prog_7_method_16_code 5 none ∈ gw := gw_tbl (i := 780) (by decide +kernel) rfl
theorem w_781 : Cond.methodLink "LineDiskModel" 106 ⟨"LineDiskModel", "commits", "()Z"⟩ ∈ gw := gw_tbl (i := 781) (by decide +kernel) rfl
theorem w_783 : Cond.instanceMethod ⟨"LineDiskModel", "commits", "()Z"⟩ ∈ gw := gw_tbl (i := 783) (by decide +kernel) rfl
theorem w_784 : Cond.code ⟨"LineDiskModel", "commits", "()Z"⟩ prog_7_method_9_code 2 (some .boolean) ∈ gw := gw_tbl (i := 784) (by decide +kernel) rfl
theorem w_785 : Cond.methodLink "LineDiskModel" 73 ⟨"LineDiskModel", "head", "()V"⟩ ∈ gw := gw_tbl (i := 785) (by decide +kernel) rfl
theorem w_787 : Cond.instanceMethod ⟨"LineDiskModel", "head", "()V"⟩ ∈ gw := gw_tbl (i := 787) (by decide +kernel) rfl
theorem w_788 : Cond.code ⟨"LineDiskModel", "head", "()V"⟩ prog_7_method_8_code 2 none ∈ gw := gw_tbl (i := 788) (by decide +kernel) rfl
theorem w_789 : Cond.methodLink "LineDiskModel" 175 ⟨"LineDiskModel", "last", "()I"⟩ ∈ gw := gw_tbl (i := 789) (by decide +kernel) rfl
theorem w_791 : Cond.instanceMethod ⟨"LineDiskModel", "last", "()I"⟩ ∈ gw := gw_tbl (i := 791) (by decide +kernel) rfl
theorem w_792 : Cond.code ⟨"LineDiskModel", "last", "()I"⟩ prog_7_method_33_code 1 (some .int) ∈ gw := gw_tbl (i := 792) (by decide +kernel) rfl
theorem w_793 : Cond.methodLink "LineDiskLaw" 40 ⟨"LineDiskModel", "feed", "(I)I"⟩ ∈ gw := gw_tbl (i := 793) (by decide +kernel) rfl
theorem w_794 : Cond.instanceMethod ⟨"LineDiskModel", "feed", "(I)I"⟩ ∈ gw := gw_tbl (i := 794) (by decide +kernel) rfl
theorem w_795 : Cond.selects "LineDiskModel" ⟨"LineDiskModel", "feed", "(I)I"⟩ ⟨"LineDiskModel", "feed", "(I)I"⟩ ∈ gw := gw_tbl (i := 795) (by decide +kernel) rfl
theorem w_796 : Cond.code ⟨"LineDiskModel", "feed", "(I)I"⟩ prog_7_method_41_code 3 (some .int) ∈ gw := gw_tbl (i := 796) (by decide +kernel) rfl
theorem w_797 : Cond.methodLink "LineDiskModel" 198 ⟨"LineDiskModel", "line", "()I"⟩ ∈ gw := gw_tbl (i := 797) (by decide +kernel) rfl
theorem w_799 : Cond.instanceMethod ⟨"LineDiskModel", "line", "()I"⟩ ∈ gw := gw_tbl (i := 799) (by decide +kernel) rfl
theorem w_800 : Cond.code ⟨"LineDiskModel", "line", "()I"⟩ prog_7_method_40_code 6 (some .int) ∈ gw := gw_tbl (i := 800) (by decide +kernel) rfl
theorem w_801 : Cond.methodLink "LineDiskModel" 94 ⟨"LineDiskModel", "lines", "()I"⟩ ∈ gw := gw_tbl (i := 801) (by decide +kernel) rfl
theorem w_803 : Cond.instanceMethod ⟨"LineDiskModel", "lines", "()I"⟩ ∈ gw := gw_tbl (i := 803) (by decide +kernel) rfl
theorem w_804 : Cond.code ⟨"LineDiskModel", "lines", "()I"⟩ prog_7_method_17_code 3 (some .int) ∈ gw := gw_tbl (i := 804) (by decide +kernel) rfl
theorem w_805 : Cond.methodLink "LineDiskModel" 201 ⟨"LineDiskModel", "command", "()I"⟩ ∈ gw := gw_tbl (i := 805) (by decide +kernel) rfl
theorem w_807 : Cond.instanceMethod ⟨"LineDiskModel", "command", "()I"⟩ ∈ gw := gw_tbl (i := 807) (by decide +kernel) rfl
theorem w_808 : Cond.code ⟨"LineDiskModel", "command", "()I"⟩ prog_7_method_39_code 6 (some .int) ∈ gw := gw_tbl (i := 808) (by decide +kernel) rfl
theorem w_809 : Cond.methodLink "LineDiskModel" 189 ⟨"LineDiskModel", "saves", "(I)I"⟩ ∈ gw := gw_tbl (i := 809) (by decide +kernel) rfl
theorem w_811 : Cond.instanceMethod ⟨"LineDiskModel", "saves", "(I)I"⟩ ∈ gw := gw_tbl (i := 811) (by decide +kernel) rfl
theorem w_812 : Cond.code ⟨"LineDiskModel", "saves", "(I)I"⟩ prog_7_method_18_code 9 (some .int) ∈ gw := gw_tbl (i := 812) (by decide +kernel) rfl
theorem w_813 : Cond.methodLink "LineDiskModel" 192 ⟨"LineDiskModel", "loads", "(I)I"⟩ ∈ gw := gw_tbl (i := 813) (by decide +kernel) rfl
theorem w_815 : Cond.instanceMethod ⟨"LineDiskModel", "loads", "(I)I"⟩ ∈ gw := gw_tbl (i := 815) (by decide +kernel) rfl
theorem w_816 : Cond.code ⟨"LineDiskModel", "loads", "(I)I"⟩ prog_7_method_19_code 7 (some .int) ∈ gw := gw_tbl (i := 816) (by decide +kernel) rfl
theorem w_817 : Cond.methodLink "LineDiskModel" 195 ⟨"LineDiskModel", "drops", "(I)I"⟩ ∈ gw := gw_tbl (i := 817) (by decide +kernel) rfl
theorem w_819 : Cond.instanceMethod ⟨"LineDiskModel", "drops", "(I)I"⟩ ∈ gw := gw_tbl (i := 819) (by decide +kernel) rfl
theorem w_820 : Cond.code ⟨"LineDiskModel", "drops", "(I)I"⟩ prog_7_method_20_code 3 (some .int) ∈ gw := gw_tbl (i := 820) (by decide +kernel) rfl
theorem w_821 : Cond.methodLink "LineDiskLaw" 50 ⟨"LineDiskModel", "arm", "(I)Z"⟩ ∈ gw := gw_tbl (i := 821) (by decide +kernel) rfl
theorem w_822 : Cond.instanceMethod ⟨"LineDiskModel", "arm", "(I)Z"⟩ ∈ gw := gw_tbl (i := 822) (by decide +kernel) rfl
theorem w_823 : Cond.selects "LineDiskModel" ⟨"LineDiskModel", "arm", "(I)Z"⟩ ⟨"LineDiskModel", "arm", "(I)Z"⟩ ∈ gw := gw_tbl (i := 823) (by decide +kernel) rfl
theorem w_824 : Cond.code ⟨"LineDiskModel", "arm", "(I)Z"⟩ prog_7_method_42_code 2 (some .boolean) ∈ gw := gw_tbl (i := 824) (by decide +kernel) rfl
theorem w_825 : Cond.methodLink "LineDiskLaw" 56 ⟨"LineDiskModel", "out", "(I)I"⟩ ∈ gw := gw_tbl (i := 825) (by decide +kernel) rfl
theorem w_826 : Cond.instanceMethod ⟨"LineDiskModel", "out", "(I)I"⟩ ∈ gw := gw_tbl (i := 826) (by decide +kernel) rfl
theorem w_827 : Cond.selects "LineDiskModel" ⟨"LineDiskModel", "out", "(I)I"⟩ ⟨"LineDiskModel", "out", "(I)I"⟩ ∈ gw := gw_tbl (i := 827) (by decide +kernel) rfl
theorem w_828 : Cond.code ⟨"LineDiskModel", "out", "(I)I"⟩ prog_7_method_43_code 2 (some .int) ∈ gw := gw_tbl (i := 828) (by decide +kernel) rfl
theorem w_829 : Cond.methodLink "LineDiskLaw" 60 ⟨"LineDiskModel", "outs", "()I"⟩ ∈ gw := gw_tbl (i := 829) (by decide +kernel) rfl
theorem w_830 : Cond.instanceMethod ⟨"LineDiskModel", "outs", "()I"⟩ ∈ gw := gw_tbl (i := 830) (by decide +kernel) rfl
theorem w_831 : Cond.selects "LineDiskModel" ⟨"LineDiskModel", "outs", "()I"⟩ ⟨"LineDiskModel", "outs", "()I"⟩ ∈ gw := gw_tbl (i := 831) (by decide +kernel) rfl
theorem w_832 : Cond.code ⟨"LineDiskModel", "outs", "()I"⟩ prog_7_method_44_code 1 (some .int) ∈ gw := gw_tbl (i := 832) (by decide +kernel) rfl
theorem w_833 : Cond.methodLink "LineDiskLaw" 63 ⟨"LineDiskModel", "disk", "(I)I"⟩ ∈ gw := gw_tbl (i := 833) (by decide +kernel) rfl
theorem w_834 : Cond.instanceMethod ⟨"LineDiskModel", "disk", "(I)I"⟩ ∈ gw := gw_tbl (i := 834) (by decide +kernel) rfl
theorem w_835 : Cond.selects "LineDiskModel" ⟨"LineDiskModel", "disk", "(I)I"⟩ ⟨"LineDiskModel", "disk", "(I)I"⟩ ∈ gw := gw_tbl (i := 835) (by decide +kernel) rfl
theorem w_836 : Cond.code ⟨"LineDiskModel", "disk", "(I)I"⟩ prog_7_method_45_code 2 (some .int) ∈ gw := gw_tbl (i := 836) (by decide +kernel) rfl
theorem w_837 : Cond.methodLink "LineDiskLaw" 67 ⟨"LineDiskModel", "files", "()I"⟩ ∈ gw := gw_tbl (i := 837) (by decide +kernel) rfl
theorem w_838 : Cond.instanceMethod ⟨"LineDiskModel", "files", "()I"⟩ ∈ gw := gw_tbl (i := 838) (by decide +kernel) rfl
theorem w_839 : Cond.selects "LineDiskModel" ⟨"LineDiskModel", "files", "()I"⟩ ⟨"LineDiskModel", "files", "()I"⟩ ∈ gw := gw_tbl (i := 839) (by decide +kernel) rfl
theorem w_840 : Cond.code ⟨"LineDiskModel", "files", "()I"⟩ prog_7_method_46_code 3 (some .int) ∈ gw := gw_tbl (i := 840) (by decide +kernel) rfl
theorem w_841 : Cond.methodLink "LineDiskLaw" 71 ⟨"LineDiskModel", "about", "(I)I"⟩ ∈ gw := gw_tbl (i := 841) (by decide +kernel) rfl
theorem w_842 : Cond.instanceMethod ⟨"LineDiskModel", "about", "(I)I"⟩ ∈ gw := gw_tbl (i := 842) (by decide +kernel) rfl
theorem w_843 : Cond.selects "LineDiskModel" ⟨"LineDiskModel", "about", "(I)I"⟩ ⟨"LineDiskModel", "about", "(I)I"⟩ ∈ gw := gw_tbl (i := 843) (by decide +kernel) rfl
theorem w_844 : Cond.code ⟨"LineDiskModel", "about", "(I)I"⟩ prog_7_method_47_code 3 (some .int) ∈ gw := gw_tbl (i := 844) (by decide +kernel) rfl
theorem w_845 : Cond.arrayClass .long ∈ gw := gw_tbl (i := 845) (by decide +kernel) rfl
theorem ws_0 : Cond.selects "LineDisk" ⟨"LineDisk", "died", "()I"⟩ ⟨"LineDisk", "died", "()I"⟩ ∈ gw := gw_sel (q := (⟨"LineDisk", "died", "()I"⟩, 6)) (i := 0) (by decide +kernel)
theorem ws_1 : Cond.selects "LineDisk" ⟨"LineDisk", "enterLine", "([II)I"⟩ ⟨"LineDisk", "enterLine", "([II)I"⟩ ∈ gw := gw_sel (q := (⟨"LineDisk", "enterLine", "([II)I"⟩, 6)) (i := 1) (by decide +kernel)
theorem ws_2 : Cond.selects "LineDisk$Workspace" ⟨"LineDisk$Workspace", "placeOf", "(I)I"⟩ ⟨"LineDisk$Workspace", "placeOf", "(I)I"⟩ ∈ gw := gw_sel (q := (⟨"LineDisk$Workspace", "placeOf", "(I)I"⟩, 9)) (i := 2) (by decide +kernel)
theorem ws_3 : Cond.selects "LineDisk$Workspace" ⟨"LineDisk$Workspace", "moveLines", "(II)V"⟩ ⟨"LineDisk$Workspace", "moveLines", "(II)V"⟩ ∈ gw := gw_sel (q := (⟨"LineDisk$Workspace", "moveLines", "(II)V"⟩, 9)) (i := 3) (by decide +kernel)
theorem ws_4 : Cond.selects "LineDisk$Statement" ⟨"LineDisk$Statement", "take", "([III[I)Z"⟩ ⟨"LineDisk$Statement", "take", "([III[I)Z"⟩ ∈ gw := gw_sel (q := (⟨"LineDisk$Statement", "take", "([III[I)Z"⟩, 12)) (i := 4) (by decide +kernel)
theorem ws_5 : Cond.selects "LineDisk$Statement" ⟨"LineDisk$Statement", "variable", "()I"⟩ ⟨"LineDisk$Statement", "variable", "()I"⟩ ∈ gw := gw_sel (q := (⟨"LineDisk$Statement", "variable", "()I"⟩, 12)) (i := 5) (by decide +kernel)
theorem ws_6 : Cond.selects "LineDisk$Statement" ⟨"LineDisk$Statement", "peek", "()I"⟩ ⟨"LineDisk$Statement", "peek", "()I"⟩ ∈ gw := gw_sel (q := (⟨"LineDisk$Statement", "peek", "()I"⟩, 12)) (i := 6) (by decide +kernel)
theorem ws_7 : Cond.selects "LineDisk$Statement" ⟨"LineDisk$Statement", "expect", "(I)V"⟩ ⟨"LineDisk$Statement", "expect", "(I)V"⟩ ∈ gw := gw_sel (q := (⟨"LineDisk$Statement", "expect", "(I)V"⟩, 12)) (i := 7) (by decide +kernel)
theorem ws_8 : Cond.selects "LineDisk$Statement" ⟨"LineDisk$Statement", "value", "(I)I"⟩ ⟨"LineDisk$Statement", "value", "(I)I"⟩ ∈ gw := gw_sel (q := (⟨"LineDisk$Statement", "value", "(I)I"⟩, 12)) (i := 8) (by decide +kernel)
theorem ws_9 : Cond.selects "LineDisk$Statement" ⟨"LineDisk$Statement", "product", "(I)I"⟩ ⟨"LineDisk$Statement", "product", "(I)I"⟩ ∈ gw := gw_sel (q := (⟨"LineDisk$Statement", "product", "(I)I"⟩, 12)) (i := 9) (by decide +kernel)
theorem ws_10 : Cond.selects "LineDisk$Statement" ⟨"LineDisk$Statement", "piece", "(I)I"⟩ ⟨"LineDisk$Statement", "piece", "(I)I"⟩ ∈ gw := gw_sel (q := (⟨"LineDisk$Statement", "piece", "(I)I"⟩, 12)) (i := 10) (by decide +kernel)
theorem ws_11 : Cond.selects "LineDisk$Statement" ⟨"LineDisk$Statement", "digits", "(I)I"⟩ ⟨"LineDisk$Statement", "digits", "(I)I"⟩ ∈ gw := gw_sel (q := (⟨"LineDisk$Statement", "digits", "(I)I"⟩, 12)) (i := 11) (by decide +kernel)
theorem ws_12 : Cond.selects "LineDisk$Statement" ⟨"LineDisk$Statement", "sign", "()I"⟩ ⟨"LineDisk$Statement", "sign", "()I"⟩ ∈ gw := gw_sel (q := (⟨"LineDisk$Statement", "sign", "()I"⟩, 12)) (i := 12) (by decide +kernel)
theorem ws_13 : Cond.selects "LineDisk$Statement" ⟨"LineDisk$Statement", "lineNumber", "()I"⟩ ⟨"LineDisk$Statement", "lineNumber", "()I"⟩ ∈ gw := gw_sel (q := (⟨"LineDisk$Statement", "lineNumber", "()I"⟩, 12)) (i := 13) (by decide +kernel)
theorem ws_14 : Cond.selects "LineDisk$Statement" ⟨"LineDisk$Statement", "fileDigit", "()I"⟩ ⟨"LineDisk$Statement", "fileDigit", "()I"⟩ ∈ gw := gw_sel (q := (⟨"LineDisk$Statement", "fileDigit", "()I"⟩, 12)) (i := 14) (by decide +kernel)
theorem ws_15 : Cond.selects "LineDisk" ⟨"LineDisk", "enterCommand", "([II)I"⟩ ⟨"LineDisk", "enterCommand", "([II)I"⟩ ∈ gw := gw_sel (q := (⟨"LineDisk", "enterCommand", "([II)I"⟩, 6)) (i := 15) (by decide +kernel)
theorem ws_16 : Cond.selects "LineDisk" ⟨"LineDisk", "plainCommand", "(I)I"⟩ ⟨"LineDisk", "plainCommand", "(I)I"⟩ ∈ gw := gw_sel (q := (⟨"LineDisk", "plainCommand", "(I)I"⟩, 6)) (i := 16) (by decide +kernel)
theorem ws_17 : Cond.selects "LineDisk" ⟨"LineDisk", "listFiles", "()I"⟩ ⟨"LineDisk", "listFiles", "()I"⟩ ∈ gw := gw_sel (q := (⟨"LineDisk", "listFiles", "()I"⟩, 6)) (i := 17) (by decide +kernel)
theorem ws_18 : Cond.selects "LineDisk" ⟨"LineDisk", "putOut", "(I)V"⟩ ⟨"LineDisk", "putOut", "(I)V"⟩ ∈ gw := gw_sel (q := (⟨"LineDisk", "putOut", "(I)V"⟩, 6)) (i := 18) (by decide +kernel)
theorem ws_19 : Cond.selects "LineDisk" ⟨"LineDisk", "fileCommand", "(II)I"⟩ ⟨"LineDisk", "fileCommand", "(II)I"⟩ ∈ gw := gw_sel (q := (⟨"LineDisk", "fileCommand", "(II)I"⟩, 6)) (i := 19) (by decide +kernel)
theorem ws_20 : Cond.selects "LineDisk" ⟨"LineDisk", "saveLines", "(I)I"⟩ ⟨"LineDisk", "saveLines", "(I)I"⟩ ∈ gw := gw_sel (q := (⟨"LineDisk", "saveLines", "(I)I"⟩, 6)) (i := 20) (by decide +kernel)
theorem ws_21 : Cond.selects "LineDisk$Store" ⟨"LineDisk$Store", "isFreeFor", "(III)Z"⟩ ⟨"LineDisk$Store", "isFreeFor", "(III)Z"⟩ ∈ gw := gw_sel (q := (⟨"LineDisk$Store", "isFreeFor", "(III)Z"⟩, 4)) (i := 21) (by decide +kernel)
theorem ws_22 : Cond.selects "LineDisk" ⟨"LineDisk", "beginFile", "(III)V"⟩ ⟨"LineDisk", "beginFile", "(III)V"⟩ ∈ gw := gw_sel (q := (⟨"LineDisk", "beginFile", "(III)V"⟩, 6)) (i := 22) (by decide +kernel)
theorem ws_23 : Cond.selects "LineDisk" ⟨"LineDisk", "commit", "()I"⟩ ⟨"LineDisk", "commit", "()I"⟩ ∈ gw := gw_sel (q := (⟨"LineDisk", "commit", "()I"⟩, 6)) (i := 23) (by decide +kernel)
theorem ws_24 : Cond.selects "LineDisk" ⟨"LineDisk", "loadLines", "(I)I"⟩ ⟨"LineDisk", "loadLines", "(I)I"⟩ ∈ gw := gw_sel (q := (⟨"LineDisk", "loadLines", "(I)I"⟩, 6)) (i := 24) (by decide +kernel)
theorem ws_25 : Cond.selects "LineDisk$Workspace" ⟨"LineDisk$Workspace", "unpack", "(II)V"⟩ ⟨"LineDisk$Workspace", "unpack", "(II)V"⟩ ∈ gw := gw_sel (q := (⟨"LineDisk$Workspace", "unpack", "(II)V"⟩, 9)) (i := 25) (by decide +kernel)
theorem ws_26 : Cond.selects "LineDisk" ⟨"LineDisk", "deleteFile", "(I)I"⟩ ⟨"LineDisk", "deleteFile", "(I)I"⟩ ∈ gw := gw_sel (q := (⟨"LineDisk", "deleteFile", "(I)I"⟩, 6)) (i := 26) (by decide +kernel)
theorem ws_27 : Cond.selects "LineDisk" ⟨"LineDisk", "oneStep", "()I"⟩ ⟨"LineDisk", "oneStep", "()I"⟩ ∈ gw := gw_sel (q := (⟨"LineDisk", "oneStep", "()I"⟩, 6)) (i := 27) (by decide +kernel)
theorem ws_28 : Cond.selects "LineDisk" ⟨"LineDisk", "perform", "()I"⟩ ⟨"LineDisk", "perform", "()I"⟩ ∈ gw := gw_sel (q := (⟨"LineDisk", "perform", "()I"⟩, 6)) (i := 28) (by decide +kernel)
theorem ws_29 : Cond.selects "LineDisk" ⟨"LineDisk", "writeRecord", "(III)I"⟩ ⟨"LineDisk", "writeRecord", "(III)I"⟩ ∈ gw := gw_sel (q := (⟨"LineDisk", "writeRecord", "(III)I"⟩, 6)) (i := 29) (by decide +kernel)
theorem ws_30 : Cond.selects "LineDisk" ⟨"LineDisk", "recordFault", "(II)I"⟩ ⟨"LineDisk", "recordFault", "(II)I"⟩ ∈ gw := gw_sel (q := (⟨"LineDisk", "recordFault", "(II)I"⟩, 6)) (i := 30) (by decide +kernel)
theorem ws_31 : Cond.selects "LineDisk" ⟨"LineDisk", "readRecord", "(III)I"⟩ ⟨"LineDisk", "readRecord", "(III)I"⟩ ∈ gw := gw_sel (q := (⟨"LineDisk", "readRecord", "(III)I"⟩, 6)) (i := 31) (by decide +kernel)
theorem ws_32 : Cond.selects "java/lang/Throwable" ⟨"java/lang/Throwable", "fillInStackTrace", "(I)Ljava/lang/Throwable;"⟩ ⟨"java/lang/Throwable", "fillInStackTrace", "(I)Ljava/lang/Throwable;"⟩ ∈ gw := gw_sel (q := (⟨"java/lang/Throwable", "fillInStackTrace", "(I)Ljava/lang/Throwable;"⟩, 6)) (i := 32) (by decide +kernel)
theorem ws_33 : Cond.selects "LineDiskModel" ⟨"LineDiskModel", "nothing", "()V"⟩ ⟨"LineDiskModel", "nothing", "()V"⟩ ∈ gw := gw_sel (q := (⟨"LineDiskModel", "nothing", "()V"⟩, 25)) (i := 33) (by decide +kernel)
theorem ws_34 : Cond.selects "LineDiskModel" ⟨"LineDiskModel", "write", "(II)V"⟩ ⟨"LineDiskModel", "write", "(II)V"⟩ ∈ gw := gw_sel (q := (⟨"LineDiskModel", "write", "(II)V"⟩, 25)) (i := 34) (by decide +kernel)
theorem ws_35 : Cond.selects "LineDiskModel" ⟨"LineDiskModel", "dies", "()V"⟩ ⟨"LineDiskModel", "dies", "()V"⟩ ∈ gw := gw_sel (q := (⟨"LineDiskModel", "dies", "()V"⟩, 25)) (i := 35) (by decide +kernel)
theorem ws_36 : Cond.selects "LineDiskModel" ⟨"LineDiskModel", "formatted", "()Z"⟩ ⟨"LineDiskModel", "formatted", "()Z"⟩ ∈ gw := gw_sel (q := (⟨"LineDiskModel", "formatted", "()Z"⟩, 25)) (i := 36) (by decide +kernel)
theorem ws_37 : Cond.selects "LineDiskModel" ⟨"LineDiskModel", "nextLine", "()I"⟩ ⟨"LineDiskModel", "nextLine", "()I"⟩ ∈ gw := gw_sel (q := (⟨"LineDiskModel", "nextLine", "()I"⟩, 25)) (i := 37) (by decide +kernel)
theorem ws_38 : Cond.selects "LineDiskModel" ⟨"LineDiskModel", "goThrough", "(ZII)V"⟩ ⟨"LineDiskModel", "goThrough", "(ZII)V"⟩ ∈ gw := gw_sel (q := (⟨"LineDiskModel", "goThrough", "(ZII)V"⟩, 25)) (i := 38) (by decide +kernel)
theorem ws_39 : Cond.selects "LineDiskModel" ⟨"LineDiskModel", "statement", "(ZI)I"⟩ ⟨"LineDiskModel", "statement", "(ZI)I"⟩ ∈ gw := gw_sel (q := (⟨"LineDiskModel", "statement", "(ZI)I"⟩, 25)) (i := 39) (by decide +kernel)
theorem ws_40 : Cond.selects "LineDiskModel" ⟨"LineDiskModel", "here", "()I"⟩ ⟨"LineDiskModel", "here", "()I"⟩ ∈ gw := gw_sel (q := (⟨"LineDiskModel", "here", "()I"⟩, 25)) (i := 40) (by decide +kernel)
theorem ws_41 : Cond.selects "LineDiskModel" ⟨"LineDiskModel", "must", "(I)V"⟩ ⟨"LineDiskModel", "must", "(I)V"⟩ ∈ gw := gw_sel (q := (⟨"LineDiskModel", "must", "(I)V"⟩, 25)) (i := 41) (by decide +kernel)
theorem ws_42 : Cond.selects "LineDiskModel" ⟨"LineDiskModel", "takes", "(I)Z"⟩ ⟨"LineDiskModel", "takes", "(I)Z"⟩ ∈ gw := gw_sel (q := (⟨"LineDiskModel", "takes", "(I)Z"⟩, 25)) (i := 42) (by decide +kernel)
theorem ws_43 : Cond.selects "LineDiskModel" ⟨"LineDiskModel", "value", "()I"⟩ ⟨"LineDiskModel", "value", "()I"⟩ ∈ gw := gw_sel (q := (⟨"LineDiskModel", "value", "()I"⟩, 25)) (i := 43) (by decide +kernel)
theorem ws_44 : Cond.selects "LineDiskModel" ⟨"LineDiskModel", "piece", "()Z"⟩ ⟨"LineDiskModel", "piece", "()Z"⟩ ∈ gw := gw_sel (q := (⟨"LineDiskModel", "piece", "()Z"⟩, 25)) (i := 44) (by decide +kernel)
theorem ws_45 : Cond.selects "LineDiskModel" ⟨"LineDiskModel", "reduce", "()V"⟩ ⟨"LineDiskModel", "reduce", "()V"⟩ ∈ gw := gw_sel (q := (⟨"LineDiskModel", "reduce", "()V"⟩, 25)) (i := 45) (by decide +kernel)
theorem ws_46 : Cond.selects "LineDiskModel" ⟨"LineDiskModel", "comesOut", "(I)V"⟩ ⟨"LineDiskModel", "comesOut", "(I)V"⟩ ∈ gw := gw_sel (q := (⟨"LineDiskModel", "comesOut", "(I)V"⟩, 25)) (i := 46) (by decide +kernel)
theorem ws_47 : Cond.selects "LineDiskModel" ⟨"LineDiskModel", "lineNumber", "()I"⟩ ⟨"LineDiskModel", "lineNumber", "()I"⟩ ∈ gw := gw_sel (q := (⟨"LineDiskModel", "lineNumber", "()I"⟩, 25)) (i := 47) (by decide +kernel)
theorem ws_48 : Cond.selects "LineDiskModel" ⟨"LineDiskModel", "digit", "()I"⟩ ⟨"LineDiskModel", "digit", "()I"⟩ ∈ gw := gw_sel (q := (⟨"LineDiskModel", "digit", "()I"⟩, 25)) (i := 48) (by decide +kernel)
theorem ws_49 : Cond.selects "LineDiskModel" ⟨"LineDiskModel", "recordStep", "(IIII)I"⟩ ⟨"LineDiskModel", "recordStep", "(IIII)I"⟩ ∈ gw := gw_sel (q := (⟨"LineDiskModel", "recordStep", "(IIII)I"⟩, 25)) (i := 49) (by decide +kernel)
theorem ws_50 : Cond.selects "LineDiskModel" ⟨"LineDiskModel", "sizeOf", "(I)I"⟩ ⟨"LineDiskModel", "sizeOf", "(I)I"⟩ ∈ gw := gw_sel (q := (⟨"LineDiskModel", "sizeOf", "(I)I"⟩, 25)) (i := 50) (by decide +kernel)
theorem ws_51 : Cond.selects "LineDiskModel" ⟨"LineDiskModel", "firstOf", "(I)I"⟩ ⟨"LineDiskModel", "firstOf", "(I)I"⟩ ∈ gw := gw_sel (q := (⟨"LineDiskModel", "firstOf", "(I)I"⟩, 25)) (i := 51) (by decide +kernel)
theorem ws_52 : Cond.selects "LineDiskModel" ⟨"LineDiskModel", "room", "(II)I"⟩ ⟨"LineDiskModel", "room", "(II)I"⟩ ∈ gw := gw_sel (q := (⟨"LineDiskModel", "room", "(II)I"⟩, 25)) (i := 52) (by decide +kernel)
theorem ws_53 : Cond.selects "LineDiskModel" ⟨"LineDiskModel", "used", "(II)Z"⟩ ⟨"LineDiskModel", "used", "(II)Z"⟩ ∈ gw := gw_sel (q := (⟨"LineDiskModel", "used", "(II)Z"⟩, 25)) (i := 53) (by decide +kernel)
theorem ws_54 : Cond.selects "LineDiskModel" ⟨"LineDiskModel", "directory", "(III)V"⟩ ⟨"LineDiskModel", "directory", "(III)V"⟩ ∈ gw := gw_sel (q := (⟨"LineDiskModel", "directory", "(III)V"⟩, 25)) (i := 54) (by decide +kernel)
theorem ws_55 : Cond.selects "LineDiskModel" ⟨"LineDiskModel", "commits", "()Z"⟩ ⟨"LineDiskModel", "commits", "()Z"⟩ ∈ gw := gw_sel (q := (⟨"LineDiskModel", "commits", "()Z"⟩, 25)) (i := 55) (by decide +kernel)
theorem ws_56 : Cond.selects "LineDiskModel" ⟨"LineDiskModel", "head", "()V"⟩ ⟨"LineDiskModel", "head", "()V"⟩ ∈ gw := gw_sel (q := (⟨"LineDiskModel", "head", "()V"⟩, 25)) (i := 56) (by decide +kernel)
theorem ws_57 : Cond.selects "LineDiskModel" ⟨"LineDiskModel", "last", "()I"⟩ ⟨"LineDiskModel", "last", "()I"⟩ ∈ gw := gw_sel (q := (⟨"LineDiskModel", "last", "()I"⟩, 25)) (i := 57) (by decide +kernel)
theorem ws_58 : Cond.selects "LineDiskModel" ⟨"LineDiskModel", "line", "()I"⟩ ⟨"LineDiskModel", "line", "()I"⟩ ∈ gw := gw_sel (q := (⟨"LineDiskModel", "line", "()I"⟩, 25)) (i := 58) (by decide +kernel)
theorem ws_59 : Cond.selects "LineDiskModel" ⟨"LineDiskModel", "lines", "()I"⟩ ⟨"LineDiskModel", "lines", "()I"⟩ ∈ gw := gw_sel (q := (⟨"LineDiskModel", "lines", "()I"⟩, 25)) (i := 59) (by decide +kernel)
theorem ws_60 : Cond.selects "LineDiskModel" ⟨"LineDiskModel", "command", "()I"⟩ ⟨"LineDiskModel", "command", "()I"⟩ ∈ gw := gw_sel (q := (⟨"LineDiskModel", "command", "()I"⟩, 25)) (i := 60) (by decide +kernel)
theorem ws_61 : Cond.selects "LineDiskModel" ⟨"LineDiskModel", "saves", "(I)I"⟩ ⟨"LineDiskModel", "saves", "(I)I"⟩ ∈ gw := gw_sel (q := (⟨"LineDiskModel", "saves", "(I)I"⟩, 25)) (i := 61) (by decide +kernel)
theorem ws_62 : Cond.selects "LineDiskModel" ⟨"LineDiskModel", "loads", "(I)I"⟩ ⟨"LineDiskModel", "loads", "(I)I"⟩ ∈ gw := gw_sel (q := (⟨"LineDiskModel", "loads", "(I)I"⟩, 25)) (i := 62) (by decide +kernel)
theorem ws_63 : Cond.selects "LineDiskModel" ⟨"LineDiskModel", "drops", "(I)I"⟩ ⟨"LineDiskModel", "drops", "(I)I"⟩ ∈ gw := gw_sel (q := (⟨"LineDiskModel", "drops", "(I)I"⟩, 25)) (i := 63) (by decide +kernel)
end
section
def R_Ld : String := "LineDisk"
def F_Ld : u_T := fun k => match k with
  | 0 => ("LineDisk", "store", "LLineDisk$Store;", true)
  | 1 => ("LineDisk", "journal", "LLineDisk$Journal;", true)
  | 2 => ("LineDisk", "workspace", "LLineDisk$Workspace;", true)
  | 3 => ("LineDisk", "statement", "LLineDisk$Statement;", true)
  | 4 => ("LineDisk", "kept", "[I", true)
  | _ => ("LineDisk", "outCount", "I", false)
def t_Ld : Nat → FieldType := fun k => match k with
  | 0 => .object "LineDisk$Store"
  | 1 => .object "LineDisk$Journal"
  | 2 => .object "LineDisk$Workspace"
  | 3 => .object "LineDisk$Statement"
  | 4 => .array .int
  | _ => .int
theorem n_Ld : ∀ a, a < 6 → ∀ b, b < 6 → a ≠ b → (F_Ld a).2.1 ≠ (F_Ld b).2.1 := by decide +kernel
theorem t_Ld_ok : ∀ k, k < 6 → parseFieldDescriptor (F_Ld k).2.2.1 = some (t_Ld k) := by decide +kernel
theorem in_Ld : ∀ w ∈ u_ws R_Ld F_Ld 6, w ∈ gw := by
  intro w hw
  obtain ⟨k, hk, rfl⟩ := List.mem_map.mp hw
  have hk := List.mem_range.mp hk
  match k, hk with
  | 0, _ => exact w_158
  | 1, _ => exact w_160
  | 2, _ => exact w_162
  | 3, _ => exact w_164
  | 4, _ => exact w_166
  | 5, _ => exact w_168
  | n + 6, h => exact absurd h (by omega)
def R_St : String := "LineDisk$Store"
def F_St : u_T := fun k => match k with
  | 0 => ("LineDisk$Store", "cells", "[I", true)
  | 1 => ("LineDisk$Store", "armed", "I", false)
  | 2 => ("LineDisk$Store", "dead", "Z", false)
  | _ => ("LineDisk$Store", "writes", "I", false)
def t_St : Nat → FieldType := fun k => match k with
  | 0 => .array .int
  | 1 => .int
  | 2 => .boolean
  | _ => .int
theorem n_St : ∀ a, a < 4 → ∀ b, b < 4 → a ≠ b → (F_St a).2.1 ≠ (F_St b).2.1 := by decide +kernel
theorem t_St_ok : ∀ k, k < 4 → parseFieldDescriptor (F_St k).2.2.1 = some (t_St k) := by decide +kernel
theorem in_St : ∀ w ∈ u_ws R_St F_St 4, w ∈ gw := by
  intro w hw
  obtain ⟨k, hk, rfl⟩ := List.mem_map.mp hw
  have hk := List.mem_range.mp hk
  match k, hk with
  | 0, _ => exact w_36
  | 1, _ => exact w_38
  | 2, _ => exact w_40
  | 3, _ => exact w_42
  | n + 4, h => exact absurd h (by omega)
def R_Jo : String := "LineDisk$Journal"
def F_Jo : u_T := fun k => match k with
  | 0 => ("LineDisk$Journal", "rows", "[I", true)
  | 1 => ("LineDisk$Journal", "head", "[I", true)
  | _ => ("LineDisk$Journal", "count", "I", false)
def t_Jo : Nat → FieldType := fun k => match k with
  | 0 => .array .int
  | 1 => .array .int
  | _ => .int
theorem n_Jo : ∀ a, a < 3 → ∀ b, b < 3 → a ≠ b → (F_Jo a).2.1 ≠ (F_Jo b).2.1 := by decide +kernel
theorem t_Jo_ok : ∀ k, k < 3 → parseFieldDescriptor (F_Jo k).2.2.1 = some (t_Jo k) := by decide +kernel
theorem in_Jo : ∀ w ∈ u_ws R_Jo F_Jo 3, w ∈ gw := by
  intro w hw
  obtain ⟨k, hk, rfl⟩ := List.mem_map.mp hw
  have hk := List.mem_range.mp hk
  match k, hk with
  | 0, _ => exact w_55
  | 1, _ => exact w_57
  | 2, _ => exact w_59
  | n + 3, h => exact absurd h (by omega)
def R_Wo : String := "LineDisk$Workspace"
def F_Wo : u_T := fun k => match k with
  | 0 => ("LineDisk$Workspace", "numbers", "[I", true)
  | 1 => ("LineDisk$Workspace", "lengths", "[I", true)
  | 2 => ("LineDisk$Workspace", "texts", "[I", true)
  | 3 => ("LineDisk$Workspace", "unpacked", "[I", true)
  | 4 => ("LineDisk$Workspace", "variables", "[I", true)
  | 5 => ("LineDisk$Workspace", "typed", "[I", true)
  | 6 => ("LineDisk$Workspace", "lines", "I", false)
  | 7 => ("LineDisk$Workspace", "next", "I", false)
  | _ => ("LineDisk$Workspace", "typedCount", "I", false)
def t_Wo : Nat → FieldType := fun k => match k with
  | 0 => .array .int
  | 1 => .array .int
  | 2 => .array .int
  | 3 => .array .int
  | 4 => .array .int
  | 5 => .array .int
  | 6 => .int
  | 7 => .int
  | _ => .int
theorem n_Wo : ∀ a, a < 9 → ∀ b, b < 9 → a ≠ b → (F_Wo a).2.1 ≠ (F_Wo b).2.1 := by decide +kernel
theorem t_Wo_ok : ∀ k, k < 9 → parseFieldDescriptor (F_Wo k).2.2.1 = some (t_Wo k) := by decide +kernel
theorem in_Wo : ∀ w ∈ u_ws R_Wo F_Wo 9, w ∈ gw := by
  intro w hw
  obtain ⟨k, hk, rfl⟩ := List.mem_map.mp hw
  have hk := List.mem_range.mp hk
  match k, hk with
  | 0, _ => exact w_84
  | 1, _ => exact w_86
  | 2, _ => exact w_88
  | 3, _ => exact w_90
  | 4, _ => exact w_92
  | 5, _ => exact w_94
  | 6, _ => exact w_96
  | 7, _ => exact w_98
  | 8, _ => exact w_100
  | n + 9, h => exact absurd h (by omega)
def R_Sm : String := "LineDisk$Statement"
def F_Sm : u_T := fun k => match k with
  | 0 => ("LineDisk$Statement", "text", "[I", true)
  | 1 => ("LineDisk$Statement", "variables", "[I", true)
  | 2 => ("LineDisk$Statement", "end", "I", false)
  | 3 => ("LineDisk$Statement", "at", "I", false)
  | 4 => ("LineDisk$Statement", "good", "Z", false)
  | 5 => ("LineDisk$Statement", "kind", "I", false)
  | 6 => ("LineDisk$Statement", "variable", "I", false)
  | 7 => ("LineDisk$Statement", "file", "I", false)
  | 8 => ("LineDisk$Statement", "left", "I", false)
  | 9 => ("LineDisk$Statement", "sign", "I", false)
  | 10 => ("LineDisk$Statement", "right", "I", false)
  | _ => ("LineDisk$Statement", "target", "I", false)
def t_Sm : Nat → FieldType := fun k => match k with
  | 0 => .array .int
  | 1 => .array .int
  | 2 => .int
  | 3 => .int
  | 4 => .boolean
  | 5 => .int
  | 6 => .int
  | 7 => .int
  | 8 => .int
  | 9 => .int
  | 10 => .int
  | _ => .int
theorem n_Sm : ∀ a, a < 12 → ∀ b, b < 12 → a ≠ b → (F_Sm a).2.1 ≠ (F_Sm b).2.1 := by decide +kernel
theorem t_Sm_ok : ∀ k, k < 12 → parseFieldDescriptor (F_Sm k).2.2.1 = some (t_Sm k) := by decide +kernel
theorem in_Sm : ∀ w ∈ u_ws R_Sm F_Sm 12, w ∈ gw := by
  intro w hw
  obtain ⟨k, hk, rfl⟩ := List.mem_map.mp hw
  have hk := List.mem_range.mp hk
  match k, hk with
  | 0, _ => exact w_127
  | 1, _ => exact w_129
  | 2, _ => exact w_131
  | 3, _ => exact w_133
  | 4, _ => exact w_135
  | 5, _ => exact w_137
  | 6, _ => exact w_139
  | 7, _ => exact w_141
  | 8, _ => exact w_143
  | 9, _ => exact w_145
  | 10, _ => exact w_147
  | 11, _ => exact w_149
  | n + 12, h => exact absurd h (by omega)
def R_Mo : String := "LineDiskModel"
def F_Mo : u_T := fun k => match k with
  | 0 => ("LineDiskModel", "threw", "I", false)
  | 1 => ("LineDiskModel", "disk", "[I", true)
  | 2 => ("LineDiskModel", "armed", "I", false)
  | 3 => ("LineDiskModel", "dead", "Z", false)
  | 4 => ("LineDiskModel", "writes", "I", false)
  | 5 => ("LineDiskModel", "length", "[I", true)
  | 6 => ("LineDiskModel", "chars", "[I", true)
  | 7 => ("LineDiskModel", "variables", "[I", true)
  | 8 => ("LineDiskModel", "next", "I", false)
  | 9 => ("LineDiskModel", "outs", "I", false)
  | 10 => ("LineDiskModel", "out", "[I", true)
  | 11 => ("LineDiskModel", "typed", "I", false)
  | 12 => ("LineDiskModel", "text", "[I", true)
  | 13 => ("LineDiskModel", "ofLine", "Z", false)
  | 14 => ("LineDiskModel", "from", "I", false)
  | 15 => ("LineDiskModel", "at", "I", false)
  | 16 => ("LineDiskModel", "end", "I", false)
  | 17 => ("LineDiskModel", "good", "Z", false)
  | 18 => ("LineDiskModel", "numbers", "I", false)
  | 19 => ("LineDiskModel", "number", "[I", true)
  | 20 => ("LineDiskModel", "signs", "I", false)
  | 21 => ("LineDiskModel", "sign", "[I", true)
  | 22 => ("LineDiskModel", "many", "I", false)
  | 23 => ("LineDiskModel", "which", "[I", true)
  | _ => ("LineDiskModel", "cells", "[I", true)
def t_Mo : Nat → FieldType := fun k => match k with
  | 0 => .int
  | 1 => .array .int
  | 2 => .int
  | 3 => .boolean
  | 4 => .int
  | 5 => .array .int
  | 6 => .array .int
  | 7 => .array .int
  | 8 => .int
  | 9 => .int
  | 10 => .array .int
  | 11 => .int
  | 12 => .array .int
  | 13 => .boolean
  | 14 => .int
  | 15 => .int
  | 16 => .int
  | 17 => .boolean
  | 18 => .int
  | 19 => .array .int
  | 20 => .int
  | 21 => .array .int
  | 22 => .int
  | 23 => .array .int
  | _ => .array .int
theorem n_Mo : ∀ a, a < 25 → ∀ b, b < 25 → a ≠ b → (F_Mo a).2.1 ≠ (F_Mo b).2.1 := by decide +kernel
theorem t_Mo_ok : ∀ k, k < 25 → parseFieldDescriptor (F_Mo k).2.2.1 = some (t_Mo k) := by decide +kernel
theorem in_Mo : ∀ w ∈ u_ws R_Mo F_Mo 25, w ∈ gw := by
  intro w hw
  obtain ⟨k, hk, rfl⟩ := List.mem_map.mp hw
  have hk := List.mem_range.mp hk
  match k, hk with
  | 0, _ => exact w_618
  | 1, _ => exact w_620
  | 2, _ => exact w_622
  | 3, _ => exact w_624
  | 4, _ => exact w_626
  | 5, _ => exact w_628
  | 6, _ => exact w_630
  | 7, _ => exact w_632
  | 8, _ => exact w_634
  | 9, _ => exact w_636
  | 10, _ => exact w_638
  | 11, _ => exact w_640
  | 12, _ => exact w_642
  | 13, _ => exact w_644
  | 14, _ => exact w_646
  | 15, _ => exact w_648
  | 16, _ => exact w_650
  | 17, _ => exact w_652
  | 18, _ => exact w_654
  | 19, _ => exact w_656
  | 20, _ => exact w_658
  | 21, _ => exact w_660
  | 22, _ => exact w_662
  | 23, _ => exact w_664
  | 24, _ => exact w_666
  | n + 25, h => exact absurd h (by omega)
def R_La : String := "LineDiskLaw"
def R_Ar : String := "java/util/Arrays"
abbrev cls : List vw_C := [(R_Ld, F_Ld, 6), (R_St, F_St, 4), (R_Jo, F_Jo, 3), (R_Wo, F_Wo, 9), (R_Sm, F_Sm, 12), (R_Mo, F_Mo, 25)]
abbrev b_Ld_init : ByteArray := prog_1_method_1_code
abbrev y_Ld_init : MethodName := ⟨"LineDisk", "<init>", "()V"⟩
abbrev b_Ld_format : ByteArray := prog_1_method_2_code
abbrev y_Ld_format : MethodName := ⟨"LineDisk", "format", "()I"⟩
abbrev b_Ld_recover : ByteArray := prog_1_method_3_code
abbrev y_Ld_recover : MethodName := ⟨"LineDisk", "recover", "()I"⟩
abbrev b_Ld_feed : ByteArray := prog_1_method_4_code
abbrev y_Ld_feed : MethodName := ⟨"LineDisk", "feed", "(I)I"⟩
abbrev b_Ld_step : ByteArray := prog_1_method_5_code
abbrev y_Ld_step : MethodName := ⟨"LineDisk", "step", "(I)I"⟩
abbrev b_Ld_arm : ByteArray := prog_1_method_6_code
abbrev y_Ld_arm : MethodName := ⟨"LineDisk", "arm", "(I)Z"⟩
abbrev b_Ld_out : ByteArray := prog_1_method_7_code
abbrev y_Ld_out : MethodName := ⟨"LineDisk", "out", "(I)I"⟩
abbrev b_Ld_outs : ByteArray := prog_1_method_8_code
abbrev y_Ld_outs : MethodName := ⟨"LineDisk", "outs", "()I"⟩
abbrev b_Ld_disk : ByteArray := prog_1_method_9_code
abbrev y_Ld_disk : MethodName := ⟨"LineDisk", "disk", "(I)I"⟩
abbrev b_Ld_files : ByteArray := prog_1_method_10_code
abbrev y_Ld_files : MethodName := ⟨"LineDisk", "files", "()I"⟩
abbrev b_Ld_about : ByteArray := prog_1_method_11_code
abbrev y_Ld_about : MethodName := ⟨"LineDisk", "about", "(I)I"⟩
abbrev b_Ld_oneStep : ByteArray := prog_1_method_28_code
abbrev y_Ld_oneStep : MethodName := ⟨"LineDisk", "oneStep", "()I"⟩
abbrev b_St_init : ByteArray := prog_4_method_1_code
abbrev y_St_init : MethodName := ⟨"LineDisk$Store", "<init>", "()V"⟩
abbrev b_St_cell : ByteArray := prog_4_method_2_code
abbrev y_St_cell : MethodName := ⟨"LineDisk$Store", "cell", "(I)I"⟩
abbrev b_St_isFormatted : ByteArray := prog_4_method_3_code
abbrev y_St_isFormatted : MethodName := ⟨"LineDisk$Store", "isFormatted", "()Z"⟩
abbrev b_St_write : ByteArray := prog_4_method_4_code
abbrev y_St_write : MethodName := ⟨"LineDisk$Store", "write", "(I[II)Z"⟩
abbrev b_Jo_init : ByteArray := prog_2_method_1_code
abbrev y_Jo_init : MethodName := ⟨"LineDisk$Journal", "<init>", "()V"⟩
abbrev b_Wo_init : ByteArray := prog_5_method_1_code
abbrev y_Wo_init : MethodName := ⟨"LineDisk$Workspace", "<init>", "()V"⟩
abbrev b_Wo_empty : ByteArray := prog_5_method_2_code
abbrev y_Wo_empty : MethodName := ⟨"LineDisk$Workspace", "empty", "()V"⟩
abbrev b_Wo_keepTyped : ByteArray := prog_5_method_3_code
abbrev y_Wo_keepTyped : MethodName := ⟨"LineDisk$Workspace", "keepTyped", "(I)V"⟩
abbrev b_Wo_nextLine : ByteArray := prog_5_method_6_code
abbrev y_Wo_nextLine : MethodName := ⟨"LineDisk$Workspace", "nextLine", "()I"⟩
abbrev b_Wo_placeOf : ByteArray := prog_5_method_14_code
abbrev y_Wo_placeOf : MethodName := ⟨"LineDisk$Workspace", "placeOf", "(I)I"⟩
abbrev b_Wo_numberOf : ByteArray := prog_5_method_7_code
abbrev y_Wo_numberOf : MethodName := ⟨"LineDisk$Workspace", "numberOf", "(I)I"⟩
abbrev b_Sm_init : ByteArray := prog_3_method_1_code
abbrev y_Sm_init : MethodName := ⟨"LineDisk$Statement", "<init>", "()V"⟩
abbrev b_Mo_init : ByteArray := prog_7_method_1_code
abbrev y_Mo_init : MethodName := ⟨"LineDiskModel", "<init>", "()V"⟩
abbrev b_Mo_nothing : ByteArray := prog_7_method_3_code
abbrev y_Mo_nothing : MethodName := ⟨"LineDiskModel", "nothing", "()V"⟩
abbrev b_Mo_write : ByteArray := prog_7_method_5_code
abbrev y_Mo_write : MethodName := ⟨"LineDiskModel", "write", "(II)V"⟩
abbrev b_Mo_formatted : ByteArray := prog_7_method_6_code
abbrev y_Mo_formatted : MethodName := ⟨"LineDiskModel", "formatted", "()Z"⟩
abbrev b_Mo_format : ByteArray := prog_7_method_7_code
abbrev y_Mo_format : MethodName := ⟨"LineDiskModel", "format", "()I"⟩
abbrev b_Mo_recover : ByteArray := prog_7_method_10_code
abbrev y_Mo_recover : MethodName := ⟨"LineDiskModel", "recover", "()I"⟩
abbrev b_Mo_sizeOf : ByteArray := prog_7_method_11_code
abbrev y_Mo_sizeOf : MethodName := ⟨"LineDiskModel", "sizeOf", "(I)I"⟩
abbrev b_Mo_lines : ByteArray := prog_7_method_17_code
abbrev y_Mo_lines : MethodName := ⟨"LineDiskModel", "lines", "()I"⟩
abbrev b_Mo_nextLine : ByteArray := prog_7_method_36_code
abbrev y_Mo_nextLine : MethodName := ⟨"LineDiskModel", "nextLine", "()I"⟩
abbrev b_Mo_step : ByteArray := prog_7_method_38_code
abbrev y_Mo_step : MethodName := ⟨"LineDiskModel", "step", "(I)I"⟩
abbrev b_Mo_feed : ByteArray := prog_7_method_41_code
abbrev y_Mo_feed : MethodName := ⟨"LineDiskModel", "feed", "(I)I"⟩
abbrev b_Mo_arm : ByteArray := prog_7_method_42_code
abbrev y_Mo_arm : MethodName := ⟨"LineDiskModel", "arm", "(I)Z"⟩
abbrev b_Mo_out : ByteArray := prog_7_method_43_code
abbrev y_Mo_out : MethodName := ⟨"LineDiskModel", "out", "(I)I"⟩
abbrev b_Mo_outs : ByteArray := prog_7_method_44_code
abbrev y_Mo_outs : MethodName := ⟨"LineDiskModel", "outs", "()I"⟩
abbrev b_Mo_disk : ByteArray := prog_7_method_45_code
abbrev y_Mo_disk : MethodName := ⟨"LineDiskModel", "disk", "(I)I"⟩
abbrev b_Mo_files : ByteArray := prog_7_method_46_code
abbrev y_Mo_files : MethodName := ⟨"LineDiskModel", "files", "()I"⟩
abbrev b_Mo_about : ByteArray := prog_7_method_47_code
abbrev y_Mo_about : MethodName := ⟨"LineDiskModel", "about", "(I)I"⟩
abbrev b_Mo_thrown : ByteArray := prog_7_method_2_code
abbrev y_Mo_thrown : MethodName := ⟨"LineDiskModel", "thrown", "()I"⟩
abbrev b_La_arm : ByteArray := method_3_code
abbrev y_La_arm : MethodName := ⟨"LineDiskLaw", "arm", "(LLineDisk;I[J)I"⟩
abbrev b_La_out : ByteArray := method_4_code
abbrev y_La_out : MethodName := ⟨"LineDiskLaw", "out", "(LLineDisk;I[J)I"⟩
abbrev b_La_disk : ByteArray := method_5_code
abbrev y_La_disk : MethodName := ⟨"LineDiskLaw", "disk", "(LLineDisk;I[J)I"⟩
abbrev b_La_law : ByteArray := code
abbrev b_Ar_fill : ByteArray := prog_16_method_103_code
abbrev y_Ar_fill : MethodName := ⟨"java/util/Arrays", "fill", "([II)V"⟩
end
section
theorem d_Ld_init_0 : decode b_Ld_init 0 = .ok (.aload_n 0, 1) := by decide +kernel
theorem d_Ld_init_1 : decode b_Ld_init 1 = .ok (.invokespecial 1, 3) := by decide +kernel
theorem d_Ld_init_4 : decode b_Ld_init 4 = .ok (.aload_n 0, 1) := by decide +kernel
theorem d_Ld_init_5 : decode b_Ld_init 5 = .ok (.new 7, 3) := by decide +kernel
theorem d_Ld_init_8 : decode b_Ld_init 8 = .ok (.dup, 1) := by decide +kernel
theorem d_Ld_init_9 : decode b_Ld_init 9 = .ok (.invokespecial 9, 3) := by decide +kernel
theorem d_Ld_init_12 : decode b_Ld_init 12 = .ok (.putfield 10, 3) := by decide +kernel
theorem d_Ld_init_15 : decode b_Ld_init 15 = .ok (.aload_n 0, 1) := by decide +kernel
theorem d_Ld_init_16 : decode b_Ld_init 16 = .ok (.new 16, 3) := by decide +kernel
theorem d_Ld_init_19 : decode b_Ld_init 19 = .ok (.dup, 1) := by decide +kernel
theorem d_Ld_init_20 : decode b_Ld_init 20 = .ok (.invokespecial 18, 3) := by decide +kernel
theorem d_Ld_init_23 : decode b_Ld_init 23 = .ok (.putfield 19, 3) := by decide +kernel
theorem d_Ld_init_26 : decode b_Ld_init 26 = .ok (.aload_n 0, 1) := by decide +kernel
theorem d_Ld_init_27 : decode b_Ld_init 27 = .ok (.new 23, 3) := by decide +kernel
theorem d_Ld_init_30 : decode b_Ld_init 30 = .ok (.dup, 1) := by decide +kernel
theorem d_Ld_init_31 : decode b_Ld_init 31 = .ok (.invokespecial 25, 3) := by decide +kernel
theorem d_Ld_init_34 : decode b_Ld_init 34 = .ok (.putfield 26, 3) := by decide +kernel
theorem d_Ld_init_37 : decode b_Ld_init 37 = .ok (.aload_n 0, 1) := by decide +kernel
theorem d_Ld_init_38 : decode b_Ld_init 38 = .ok (.new 30, 3) := by decide +kernel
theorem d_Ld_init_41 : decode b_Ld_init 41 = .ok (.dup, 1) := by decide +kernel
theorem d_Ld_init_42 : decode b_Ld_init 42 = .ok (.invokespecial 32, 3) := by decide +kernel
theorem d_Ld_init_45 : decode b_Ld_init 45 = .ok (.putfield 33, 3) := by decide +kernel
theorem d_Ld_init_48 : decode b_Ld_init 48 = .ok (.aload_n 0, 1) := by decide +kernel
theorem d_Ld_init_49 : decode b_Ld_init 49 = .ok (.bipush 60, 2) := by decide +kernel
theorem d_Ld_init_51 : decode b_Ld_init 51 = .ok (.newarray .int, 2) := by decide +kernel
theorem d_Ld_init_53 : decode b_Ld_init 53 = .ok (.putfield 37, 3) := by decide +kernel
theorem d_Ld_init_56 : decode b_Ld_init 56 = .ok (.aload_n 0, 1) := by decide +kernel
theorem d_Ld_init_57 : decode b_Ld_init 57 = .ok (.iconst 0, 1) := by decide +kernel
theorem d_Ld_init_58 : decode b_Ld_init 58 = .ok (.putfield 41, 3) := by decide +kernel
theorem d_Ld_init_61 : decode b_Ld_init 61 = .ok (.return_, 1) := by decide +kernel
theorem d_Ld_format_0 : decode b_Ld_format 0 = .ok (.aload_n 0, 1) := by decide +kernel
theorem d_Ld_format_1 : decode b_Ld_format 1 = .ok (.getfield 10, 3) := by decide +kernel
theorem d_Ld_format_4 : decode b_Ld_format 4 = .ok (.getfield 45, 3) := by decide +kernel
theorem d_Ld_format_7 : decode b_Ld_format 7 = .ok (.ifCond .eq 6, 3) := by decide +kernel
theorem d_Ld_format_10 : decode b_Ld_format 10 = .ok (.bipush 7, 2) := by decide +kernel
theorem d_Ld_format_12 : decode b_Ld_format 12 = .ok (.ireturn, 1) := by decide +kernel
theorem d_Ld_format_13 : decode b_Ld_format 13 = .ok (.aload_n 0, 1) := by decide +kernel
theorem d_Ld_format_14 : decode b_Ld_format 14 = .ok (.getfield 10, 3) := by decide +kernel
theorem d_Ld_format_17 : decode b_Ld_format 17 = .ok (.iconst 2, 1) := by decide +kernel
theorem d_Ld_format_18 : decode b_Ld_format 18 = .ok (.getstatic 49, 3) := by decide +kernel
theorem d_Ld_format_21 : decode b_Ld_format 21 = .ok (.iconst 0, 1) := by decide +kernel
theorem d_Ld_format_22 : decode b_Ld_format 22 = .ok (.invokevirtual 52, 3) := by decide +kernel
theorem d_Ld_format_25 : decode b_Ld_format 25 = .ok (.ifCond .eq 37, 3) := by decide +kernel
theorem d_Ld_format_28 : decode b_Ld_format 28 = .ok (.aload_n 0, 1) := by decide +kernel
theorem d_Ld_format_29 : decode b_Ld_format 29 = .ok (.getfield 10, 3) := by decide +kernel
theorem d_Ld_format_32 : decode b_Ld_format 32 = .ok (.iconst 1, 1) := by decide +kernel
theorem d_Ld_format_33 : decode b_Ld_format 33 = .ok (.getstatic 49, 3) := by decide +kernel
theorem d_Ld_format_36 : decode b_Ld_format 36 = .ok (.iconst 0, 1) := by decide +kernel
theorem d_Ld_format_37 : decode b_Ld_format 37 = .ok (.invokevirtual 52, 3) := by decide +kernel
theorem d_Ld_format_40 : decode b_Ld_format 40 = .ok (.ifCond .eq 22, 3) := by decide +kernel
theorem d_Ld_format_43 : decode b_Ld_format 43 = .ok (.aload_n 0, 1) := by decide +kernel
theorem d_Ld_format_44 : decode b_Ld_format 44 = .ok (.getfield 10, 3) := by decide +kernel
theorem d_Ld_format_47 : decode b_Ld_format 47 = .ok (.iconst 0, 1) := by decide +kernel
theorem d_Ld_format_48 : decode b_Ld_format 48 = .ok (.getstatic 56, 3) := by decide +kernel
theorem d_Ld_format_51 : decode b_Ld_format 51 = .ok (.iconst 0, 1) := by decide +kernel
theorem d_Ld_format_52 : decode b_Ld_format 52 = .ok (.invokevirtual 52, 3) := by decide +kernel
theorem d_Ld_format_55 : decode b_Ld_format 55 = .ok (.ifCond .eq 7, 3) := by decide +kernel
theorem d_Ld_format_58 : decode b_Ld_format 58 = .ok (.iconst 1, 1) := by decide +kernel
theorem d_Ld_format_59 : decode b_Ld_format 59 = .ok (.goto 4, 3) := by decide +kernel
theorem d_Ld_format_62 : decode b_Ld_format 62 = .ok (.iconst 0, 1) := by decide +kernel
theorem d_Ld_format_63 : decode b_Ld_format 63 = .ok (.istore_n 1, 1) := by decide +kernel
theorem d_Ld_format_64 : decode b_Ld_format 64 = .ok (.iload_n 1, 1) := by decide +kernel
theorem d_Ld_format_65 : decode b_Ld_format 65 = .ok (.ifCond .eq 7, 3) := by decide +kernel
theorem d_Ld_format_68 : decode b_Ld_format 68 = .ok (.iconst 0, 1) := by decide +kernel
theorem d_Ld_format_69 : decode b_Ld_format 69 = .ok (.goto 7, 3) := by decide +kernel
theorem d_Ld_format_72 : decode b_Ld_format 72 = .ok (.aload_n 0, 1) := by decide +kernel
theorem d_Ld_format_73 : decode b_Ld_format 73 = .ok (.invokevirtual 59, 3) := by decide +kernel
theorem d_Ld_format_76 : decode b_Ld_format 76 = .ok (.ireturn, 1) := by decide +kernel
theorem d_Ld_recover_0 : decode b_Ld_recover 0 = .ok (.aload_n 0, 1) := by decide +kernel
theorem d_Ld_recover_1 : decode b_Ld_recover 1 = .ok (.getfield 10, 3) := by decide +kernel
theorem d_Ld_recover_4 : decode b_Ld_recover 4 = .ok (.iconst 0, 1) := by decide +kernel
theorem d_Ld_recover_5 : decode b_Ld_recover 5 = .ok (.putfield 45, 3) := by decide +kernel
theorem d_Ld_recover_8 : decode b_Ld_recover 8 = .ok (.aload_n 0, 1) := by decide +kernel
theorem d_Ld_recover_9 : decode b_Ld_recover 9 = .ok (.getfield 26, 3) := by decide +kernel
theorem d_Ld_recover_12 : decode b_Ld_recover 12 = .ok (.invokevirtual 63, 3) := by decide +kernel
theorem d_Ld_recover_15 : decode b_Ld_recover 15 = .ok (.bipush 8, 2) := by decide +kernel
theorem d_Ld_recover_17 : decode b_Ld_recover 17 = .ok (.istore_n 1, 1) := by decide +kernel
theorem d_Ld_recover_18 : decode b_Ld_recover 18 = .ok (.aload_n 0, 1) := by decide +kernel
theorem d_Ld_recover_19 : decode b_Ld_recover 19 = .ok (.getfield 10, 3) := by decide +kernel
theorem d_Ld_recover_22 : decode b_Ld_recover 22 = .ok (.invokevirtual 66, 3) := by decide +kernel
theorem d_Ld_recover_25 : decode b_Ld_recover 25 = .ok (.ifCond .eq 26, 3) := by decide +kernel
theorem d_Ld_recover_28 : decode b_Ld_recover 28 = .ok (.aload_n 0, 1) := by decide +kernel
theorem d_Ld_recover_29 : decode b_Ld_recover 29 = .ok (.getfield 19, 3) := by decide +kernel
theorem d_Ld_recover_32 : decode b_Ld_recover 32 = .ok (.aload_n 0, 1) := by decide +kernel
theorem d_Ld_recover_33 : decode b_Ld_recover 33 = .ok (.getfield 10, 3) := by decide +kernel
theorem d_Ld_recover_36 : decode b_Ld_recover 36 = .ok (.invokevirtual 70, 3) := by decide +kernel
theorem d_Ld_recover_39 : decode b_Ld_recover 39 = .ok (.ifCond .eq 7, 3) := by decide +kernel
theorem d_Ld_recover_42 : decode b_Ld_recover 42 = .ok (.iconst 0, 1) := by decide +kernel
theorem d_Ld_recover_43 : decode b_Ld_recover 43 = .ok (.goto 7, 3) := by decide +kernel
theorem d_Ld_recover_46 : decode b_Ld_recover 46 = .ok (.aload_n 0, 1) := by decide +kernel
theorem d_Ld_recover_47 : decode b_Ld_recover 47 = .ok (.invokevirtual 59, 3) := by decide +kernel
theorem d_Ld_recover_50 : decode b_Ld_recover 50 = .ok (.istore_n 1, 1) := by decide +kernel
theorem d_Ld_recover_51 : decode b_Ld_recover 51 = .ok (.aload_n 0, 1) := by decide +kernel
theorem d_Ld_recover_52 : decode b_Ld_recover 52 = .ok (.getfield 10, 3) := by decide +kernel
theorem d_Ld_recover_55 : decode b_Ld_recover 55 = .ok (.iconst (-1), 1) := by decide +kernel
theorem d_Ld_recover_56 : decode b_Ld_recover 56 = .ok (.putfield 74, 3) := by decide +kernel
theorem d_Ld_recover_59 : decode b_Ld_recover 59 = .ok (.iload_n 1, 1) := by decide +kernel
theorem d_Ld_recover_60 : decode b_Ld_recover 60 = .ok (.ireturn, 1) := by decide +kernel
theorem d_Ld_feed_0 : decode b_Ld_feed 0 = .ok (.aload_n 0, 1) := by decide +kernel
theorem d_Ld_feed_1 : decode b_Ld_feed 1 = .ok (.getfield 10, 3) := by decide +kernel
theorem d_Ld_feed_4 : decode b_Ld_feed 4 = .ok (.getfield 45, 3) := by decide +kernel
theorem d_Ld_feed_7 : decode b_Ld_feed 7 = .ok (.ifCond .eq 6, 3) := by decide +kernel
theorem d_Ld_feed_10 : decode b_Ld_feed 10 = .ok (.bipush 7, 2) := by decide +kernel
theorem d_Ld_feed_12 : decode b_Ld_feed 12 = .ok (.ireturn, 1) := by decide +kernel
theorem d_Ld_feed_13 : decode b_Ld_feed 13 = .ok (.iload_n 1, 1) := by decide +kernel
theorem d_Ld_feed_14 : decode b_Ld_feed 14 = .ok (.bipush 10, 2) := by decide +kernel
theorem d_Ld_feed_16 : decode b_Ld_feed 16 = .ok (.if_icmp .eq 13, 3) := by decide +kernel
theorem d_Ld_feed_19 : decode b_Ld_feed 19 = .ok (.aload_n 0, 1) := by decide +kernel
theorem d_Ld_feed_20 : decode b_Ld_feed 20 = .ok (.getfield 26, 3) := by decide +kernel
theorem d_Ld_feed_23 : decode b_Ld_feed 23 = .ok (.iload_n 1, 1) := by decide +kernel
theorem d_Ld_feed_24 : decode b_Ld_feed 24 = .ok (.invokevirtual 77, 3) := by decide +kernel
theorem d_Ld_feed_27 : decode b_Ld_feed 27 = .ok (.iconst 0, 1) := by decide +kernel
theorem d_Ld_feed_28 : decode b_Ld_feed 28 = .ok (.ireturn, 1) := by decide +kernel
theorem d_Ld_feed_29 : decode b_Ld_feed 29 = .ok (.aload_n 0, 1) := by decide +kernel
theorem d_Ld_feed_30 : decode b_Ld_feed 30 = .ok (.getfield 26, 3) := by decide +kernel
theorem d_Ld_feed_33 : decode b_Ld_feed 33 = .ok (.getfield 81, 3) := by decide +kernel
theorem d_Ld_feed_36 : decode b_Ld_feed 36 = .ok (.astore_n 2, 1) := by decide +kernel
theorem d_Ld_feed_37 : decode b_Ld_feed 37 = .ok (.aload_n 0, 1) := by decide +kernel
theorem d_Ld_feed_38 : decode b_Ld_feed 38 = .ok (.getfield 26, 3) := by decide +kernel
theorem d_Ld_feed_41 : decode b_Ld_feed 41 = .ok (.getfield 84, 3) := by decide +kernel
theorem d_Ld_feed_44 : decode b_Ld_feed 44 = .ok (.istore_n 3, 1) := by decide +kernel
theorem d_Ld_feed_45 : decode b_Ld_feed 45 = .ok (.aload_n 0, 1) := by decide +kernel
theorem d_Ld_feed_46 : decode b_Ld_feed 46 = .ok (.getfield 26, 3) := by decide +kernel
theorem d_Ld_feed_49 : decode b_Ld_feed 49 = .ok (.iconst 0, 1) := by decide +kernel
theorem d_Ld_feed_50 : decode b_Ld_feed 50 = .ok (.putfield 84, 3) := by decide +kernel
theorem d_Ld_feed_53 : decode b_Ld_feed 53 = .ok (.iload_n 3, 1) := by decide +kernel
theorem d_Ld_feed_54 : decode b_Ld_feed 54 = .ok (.ifCond .ne 5, 3) := by decide +kernel
theorem d_Ld_feed_57 : decode b_Ld_feed 57 = .ok (.iconst 0, 1) := by decide +kernel
theorem d_Ld_feed_58 : decode b_Ld_feed 58 = .ok (.ireturn, 1) := by decide +kernel
theorem d_Ld_feed_59 : decode b_Ld_feed 59 = .ok (.aload_n 2, 1) := by decide +kernel
theorem d_Ld_feed_60 : decode b_Ld_feed 60 = .ok (.iconst 0, 1) := by decide +kernel
theorem d_Ld_feed_61 : decode b_Ld_feed 61 = .ok (.iaload, 1) := by decide +kernel
theorem d_Ld_feed_62 : decode b_Ld_feed 62 = .ok (.invokestatic 87, 3) := by decide +kernel
theorem d_Ld_feed_65 : decode b_Ld_feed 65 = .ok (.ifCond .eq 12, 3) := by decide +kernel
theorem d_Ld_feed_68 : decode b_Ld_feed 68 = .ok (.aload_n 0, 1) := by decide +kernel
theorem d_Ld_feed_69 : decode b_Ld_feed 69 = .ok (.aload_n 2, 1) := by decide +kernel
theorem d_Ld_feed_70 : decode b_Ld_feed 70 = .ok (.iload_n 3, 1) := by decide +kernel
theorem d_Ld_feed_71 : decode b_Ld_feed 71 = .ok (.invokevirtual 91, 3) := by decide +kernel
theorem d_Ld_feed_74 : decode b_Ld_feed 74 = .ok (.goto 9, 3) := by decide +kernel
theorem d_Ld_feed_77 : decode b_Ld_feed 77 = .ok (.aload_n 0, 1) := by decide +kernel
theorem d_Ld_feed_78 : decode b_Ld_feed 78 = .ok (.aload_n 2, 1) := by decide +kernel
theorem d_Ld_feed_79 : decode b_Ld_feed 79 = .ok (.iload_n 3, 1) := by decide +kernel
theorem d_Ld_feed_80 : decode b_Ld_feed 80 = .ok (.invokevirtual 95, 3) := by decide +kernel
theorem d_Ld_feed_83 : decode b_Ld_feed 83 = .ok (.ireturn, 1) := by decide +kernel
theorem d_Ld_step_0 : decode b_Ld_step 0 = .ok (.aload_n 0, 1) := by decide +kernel
theorem d_Ld_step_1 : decode b_Ld_step 1 = .ok (.getfield 10, 3) := by decide +kernel
theorem d_Ld_step_4 : decode b_Ld_step 4 = .ok (.getfield 45, 3) := by decide +kernel
theorem d_Ld_step_7 : decode b_Ld_step 7 = .ok (.ifCond .eq 6, 3) := by decide +kernel
theorem d_Ld_step_10 : decode b_Ld_step 10 = .ok (.bipush 7, 2) := by decide +kernel
theorem d_Ld_step_12 : decode b_Ld_step 12 = .ok (.ireturn, 1) := by decide +kernel
theorem d_Ld_step_13 : decode b_Ld_step 13 = .ok (.iconst 1, 1) := by decide +kernel
theorem d_Ld_step_14 : decode b_Ld_step 14 = .ok (.bipush 50, 2) := by decide +kernel
theorem d_Ld_step_16 : decode b_Ld_step 16 = .ok (.iload_n 1, 1) := by decide +kernel
theorem d_Ld_step_17 : decode b_Ld_step 17 = .ok (.invokestatic 98, 3) := by decide +kernel
theorem d_Ld_step_20 : decode b_Ld_step 20 = .ok (.invokestatic 104, 3) := by decide +kernel
theorem d_Ld_step_23 : decode b_Ld_step 23 = .ok (.istore_n 2, 1) := by decide +kernel
theorem d_Ld_step_24 : decode b_Ld_step 24 = .ok (.iconst 0, 1) := by decide +kernel
theorem d_Ld_step_25 : decode b_Ld_step 25 = .ok (.istore_n 3, 1) := by decide +kernel
theorem d_Ld_step_26 : decode b_Ld_step 26 = .ok (.iload_n 3, 1) := by decide +kernel
theorem d_Ld_step_27 : decode b_Ld_step 27 = .ok (.iload_n 2, 1) := by decide +kernel
theorem d_Ld_step_28 : decode b_Ld_step 28 = .ok (.if_icmp .ge 25, 3) := by decide +kernel
theorem d_Ld_step_31 : decode b_Ld_step 31 = .ok (.aload_n 0, 1) := by decide +kernel
theorem d_Ld_step_32 : decode b_Ld_step 32 = .ok (.invokevirtual 107, 3) := by decide +kernel
theorem d_Ld_step_35 : decode b_Ld_step 35 = .ok (.istore 4, 2) := by decide +kernel
theorem d_Ld_step_37 : decode b_Ld_step 37 = .ok (.iload 4, 2) := by decide +kernel
theorem d_Ld_step_39 : decode b_Ld_step 39 = .ok (.bipush 6, 2) := by decide +kernel
theorem d_Ld_step_41 : decode b_Ld_step 41 = .ok (.if_icmp .eq 6, 3) := by decide +kernel
theorem d_Ld_step_44 : decode b_Ld_step 44 = .ok (.iload 4, 2) := by decide +kernel
theorem d_Ld_step_46 : decode b_Ld_step 46 = .ok (.ireturn, 1) := by decide +kernel
theorem d_Ld_step_47 : decode b_Ld_step 47 = .ok (.iinc 3 1, 3) := by decide +kernel
theorem d_Ld_step_50 : decode b_Ld_step 50 = .ok (.goto (-24), 3) := by decide +kernel
theorem d_Ld_step_53 : decode b_Ld_step 53 = .ok (.bipush 6, 2) := by decide +kernel
theorem d_Ld_step_55 : decode b_Ld_step 55 = .ok (.ireturn, 1) := by decide +kernel
theorem d_Ld_arm_0 : decode b_Ld_arm 0 = .ok (.iload_n 1, 1) := by decide +kernel
theorem d_Ld_arm_1 : decode b_Ld_arm 1 = .ok (.ifCond .lt 10, 3) := by decide +kernel
theorem d_Ld_arm_4 : decode b_Ld_arm 4 = .ok (.iload_n 1, 1) := by decide +kernel
theorem d_Ld_arm_5 : decode b_Ld_arm 5 = .ok (.sipush 1000, 3) := by decide +kernel
theorem d_Ld_arm_8 : decode b_Ld_arm 8 = .ok (.if_icmp .le 13, 3) := by decide +kernel
theorem d_Ld_arm_11 : decode b_Ld_arm 11 = .ok (.new 110, 3) := by decide +kernel
theorem d_Ld_arm_14 : decode b_Ld_arm 14 = .ok (.dup, 1) := by decide +kernel
theorem d_Ld_arm_15 : decode b_Ld_arm 15 = .ok (.ldc 112, 2) := by decide +kernel
theorem d_Ld_arm_17 : decode b_Ld_arm 17 = .ok (.invokespecial 114, 3) := by decide +kernel
theorem d_Ld_arm_20 : decode b_Ld_arm 20 = .ok (.athrow, 1) := by decide +kernel
theorem d_Ld_arm_21 : decode b_Ld_arm 21 = .ok (.aload_n 0, 1) := by decide +kernel
theorem d_Ld_arm_22 : decode b_Ld_arm 22 = .ok (.getfield 10, 3) := by decide +kernel
theorem d_Ld_arm_25 : decode b_Ld_arm 25 = .ok (.iload_n 1, 1) := by decide +kernel
theorem d_Ld_arm_26 : decode b_Ld_arm 26 = .ok (.putfield 74, 3) := by decide +kernel
theorem d_Ld_arm_29 : decode b_Ld_arm 29 = .ok (.iconst 1, 1) := by decide +kernel
theorem d_Ld_arm_30 : decode b_Ld_arm 30 = .ok (.ireturn, 1) := by decide +kernel
theorem d_Ld_out_0 : decode b_Ld_out 0 = .ok (.iload_n 1, 1) := by decide +kernel
theorem d_Ld_out_1 : decode b_Ld_out 1 = .ok (.ifCond .lt 17, 3) := by decide +kernel
theorem d_Ld_out_4 : decode b_Ld_out 4 = .ok (.iload_n 1, 1) := by decide +kernel
theorem d_Ld_out_5 : decode b_Ld_out 5 = .ok (.aload_n 0, 1) := by decide +kernel
theorem d_Ld_out_6 : decode b_Ld_out 6 = .ok (.getfield 41, 3) := by decide +kernel
theorem d_Ld_out_9 : decode b_Ld_out 9 = .ok (.if_icmp .ge 9, 3) := by decide +kernel
theorem d_Ld_out_12 : decode b_Ld_out 12 = .ok (.iload_n 1, 1) := by decide +kernel
theorem d_Ld_out_13 : decode b_Ld_out 13 = .ok (.bipush 60, 2) := by decide +kernel
theorem d_Ld_out_15 : decode b_Ld_out 15 = .ok (.if_icmp .lt 13, 3) := by decide +kernel
theorem d_Ld_out_18 : decode b_Ld_out 18 = .ok (.new 117, 3) := by decide +kernel
theorem d_Ld_out_21 : decode b_Ld_out 21 = .ok (.dup, 1) := by decide +kernel
theorem d_Ld_out_22 : decode b_Ld_out 22 = .ok (.ldc 119, 2) := by decide +kernel
theorem d_Ld_out_24 : decode b_Ld_out 24 = .ok (.invokespecial 121, 3) := by decide +kernel
theorem d_Ld_out_27 : decode b_Ld_out 27 = .ok (.athrow, 1) := by decide +kernel
theorem d_Ld_out_28 : decode b_Ld_out 28 = .ok (.aload_n 0, 1) := by decide +kernel
theorem d_Ld_out_29 : decode b_Ld_out 29 = .ok (.getfield 37, 3) := by decide +kernel
theorem d_Ld_out_32 : decode b_Ld_out 32 = .ok (.iload_n 1, 1) := by decide +kernel
theorem d_Ld_out_33 : decode b_Ld_out 33 = .ok (.iaload, 1) := by decide +kernel
theorem d_Ld_out_34 : decode b_Ld_out 34 = .ok (.ireturn, 1) := by decide +kernel
theorem d_Ld_outs_0 : decode b_Ld_outs 0 = .ok (.aload_n 0, 1) := by decide +kernel
theorem d_Ld_outs_1 : decode b_Ld_outs 1 = .ok (.getfield 41, 3) := by decide +kernel
theorem d_Ld_outs_4 : decode b_Ld_outs 4 = .ok (.ireturn, 1) := by decide +kernel
theorem d_Ld_disk_0 : decode b_Ld_disk 0 = .ok (.iload_n 1, 1) := by decide +kernel
theorem d_Ld_disk_1 : decode b_Ld_disk 1 = .ok (.ifCond .lt 10, 3) := by decide +kernel
theorem d_Ld_disk_4 : decode b_Ld_disk 4 = .ok (.iload_n 1, 1) := by decide +kernel
theorem d_Ld_disk_5 : decode b_Ld_disk 5 = .ok (.sipush 512, 3) := by decide +kernel
theorem d_Ld_disk_8 : decode b_Ld_disk 8 = .ok (.if_icmp .lt 13, 3) := by decide +kernel
theorem d_Ld_disk_11 : decode b_Ld_disk 11 = .ok (.new 117, 3) := by decide +kernel
theorem d_Ld_disk_14 : decode b_Ld_disk 14 = .ok (.dup, 1) := by decide +kernel
theorem d_Ld_disk_15 : decode b_Ld_disk 15 = .ok (.ldc 122, 2) := by decide +kernel
theorem d_Ld_disk_17 : decode b_Ld_disk 17 = .ok (.invokespecial 121, 3) := by decide +kernel
theorem d_Ld_disk_20 : decode b_Ld_disk 20 = .ok (.athrow, 1) := by decide +kernel
theorem d_Ld_disk_21 : decode b_Ld_disk 21 = .ok (.aload_n 0, 1) := by decide +kernel
theorem d_Ld_disk_22 : decode b_Ld_disk 22 = .ok (.getfield 10, 3) := by decide +kernel
theorem d_Ld_disk_25 : decode b_Ld_disk 25 = .ok (.iload_n 1, 1) := by decide +kernel
theorem d_Ld_disk_26 : decode b_Ld_disk 26 = .ok (.invokevirtual 124, 3) := by decide +kernel
theorem d_Ld_disk_29 : decode b_Ld_disk 29 = .ok (.ireturn, 1) := by decide +kernel
theorem d_Ld_files_0 : decode b_Ld_files 0 = .ok (.aload_n 0, 1) := by decide +kernel
theorem d_Ld_files_1 : decode b_Ld_files 1 = .ok (.getfield 10, 3) := by decide +kernel
theorem d_Ld_files_4 : decode b_Ld_files 4 = .ok (.getfield 45, 3) := by decide +kernel
theorem d_Ld_files_7 : decode b_Ld_files 7 = .ok (.ifCond .eq 6, 3) := by decide +kernel
theorem d_Ld_files_10 : decode b_Ld_files 10 = .ok (.bipush 7, 2) := by decide +kernel
theorem d_Ld_files_12 : decode b_Ld_files 12 = .ok (.ireturn, 1) := by decide +kernel
theorem d_Ld_files_13 : decode b_Ld_files 13 = .ok (.aload_n 0, 1) := by decide +kernel
theorem d_Ld_files_14 : decode b_Ld_files 14 = .ok (.getfield 10, 3) := by decide +kernel
theorem d_Ld_files_17 : decode b_Ld_files 17 = .ok (.invokevirtual 66, 3) := by decide +kernel
theorem d_Ld_files_20 : decode b_Ld_files 20 = .ok (.ifCond .ne 6, 3) := by decide +kernel
theorem d_Ld_files_23 : decode b_Ld_files 23 = .ok (.bipush 8, 2) := by decide +kernel
theorem d_Ld_files_25 : decode b_Ld_files 25 = .ok (.ireturn, 1) := by decide +kernel
theorem d_Ld_files_26 : decode b_Ld_files 26 = .ok (.iconst 0, 1) := by decide +kernel
theorem d_Ld_files_27 : decode b_Ld_files 27 = .ok (.istore_n 1, 1) := by decide +kernel
theorem d_Ld_files_28 : decode b_Ld_files 28 = .ok (.iconst 0, 1) := by decide +kernel
theorem d_Ld_files_29 : decode b_Ld_files 29 = .ok (.istore_n 2, 1) := by decide +kernel
theorem d_Ld_files_30 : decode b_Ld_files 30 = .ok (.iload_n 2, 1) := by decide +kernel
theorem d_Ld_files_31 : decode b_Ld_files 31 = .ok (.bipush 8, 2) := by decide +kernel
theorem d_Ld_files_33 : decode b_Ld_files 33 = .ok (.if_icmp .ge 23, 3) := by decide +kernel
theorem d_Ld_files_36 : decode b_Ld_files 36 = .ok (.aload_n 0, 1) := by decide +kernel
theorem d_Ld_files_37 : decode b_Ld_files 37 = .ok (.getfield 10, 3) := by decide +kernel
theorem d_Ld_files_40 : decode b_Ld_files 40 = .ok (.iload_n 2, 1) := by decide +kernel
theorem d_Ld_files_41 : decode b_Ld_files 41 = .ok (.invokevirtual 128, 3) := by decide +kernel
theorem d_Ld_files_44 : decode b_Ld_files 44 = .ok (.ifCond .eq 6, 3) := by decide +kernel
theorem d_Ld_files_47 : decode b_Ld_files 47 = .ok (.iinc 1 1, 3) := by decide +kernel
theorem d_Ld_files_50 : decode b_Ld_files 50 = .ok (.iinc 2 1, 3) := by decide +kernel
theorem d_Ld_files_53 : decode b_Ld_files 53 = .ok (.goto (-23), 3) := by decide +kernel
theorem d_Ld_files_56 : decode b_Ld_files 56 = .ok (.iload_n 1, 1) := by decide +kernel
theorem d_Ld_files_57 : decode b_Ld_files 57 = .ok (.ireturn, 1) := by decide +kernel
theorem d_Ld_about_0 : decode b_Ld_about 0 = .ok (.iload_n 1, 1) := by decide +kernel
theorem d_Ld_about_1 : decode b_Ld_about 1 = .ok (.bipush 11, 2) := by decide +kernel
theorem d_Ld_about_3 : decode b_Ld_about 3 = .ok (.if_icmp .ne 11, 3) := by decide +kernel
theorem d_Ld_about_6 : decode b_Ld_about 6 = .ok (.aload_n 0, 1) := by decide +kernel
theorem d_Ld_about_7 : decode b_Ld_about 7 = .ok (.getfield 10, 3) := by decide +kernel
theorem d_Ld_about_10 : decode b_Ld_about 10 = .ok (.getfield 131, 3) := by decide +kernel
theorem d_Ld_about_13 : decode b_Ld_about 13 = .ok (.ireturn, 1) := by decide +kernel
theorem d_Ld_about_14 : decode b_Ld_about 14 = .ok (.aload_n 0, 1) := by decide +kernel
theorem d_Ld_about_15 : decode b_Ld_about 15 = .ok (.getfield 10, 3) := by decide +kernel
theorem d_Ld_about_18 : decode b_Ld_about 18 = .ok (.getfield 45, 3) := by decide +kernel
theorem d_Ld_about_21 : decode b_Ld_about 21 = .ok (.ifCond .eq 6, 3) := by decide +kernel
theorem d_Ld_about_24 : decode b_Ld_about 24 = .ok (.bipush 7, 2) := by decide +kernel
theorem d_Ld_about_26 : decode b_Ld_about 26 = .ok (.ireturn, 1) := by decide +kernel
theorem d_Ld_about_27 : decode b_Ld_about 27 = .ok (.iload_n 1, 1) := by decide +kernel
theorem d_Ld_about_28 : decode b_Ld_about 28 = .ok (.iconst 1, 1) := by decide +kernel
theorem d_Ld_about_29 : decode b_Ld_about 29 = .ok (.if_icmp .lt 21, 3) := by decide +kernel
theorem d_Ld_about_32 : decode b_Ld_about 32 = .ok (.iload_n 1, 1) := by decide +kernel
theorem d_Ld_about_33 : decode b_Ld_about 33 = .ok (.bipush 8, 2) := by decide +kernel
theorem d_Ld_about_35 : decode b_Ld_about 35 = .ok (.if_icmp .gt 15, 3) := by decide +kernel
theorem d_Ld_about_38 : decode b_Ld_about 38 = .ok (.aload_n 0, 1) := by decide +kernel
theorem d_Ld_about_39 : decode b_Ld_about 39 = .ok (.getfield 26, 3) := by decide +kernel
theorem d_Ld_about_42 : decode b_Ld_about 42 = .ok (.getfield 134, 3) := by decide +kernel
theorem d_Ld_about_45 : decode b_Ld_about 45 = .ok (.iload_n 1, 1) := by decide +kernel
theorem d_Ld_about_46 : decode b_Ld_about 46 = .ok (.iconst 1, 1) := by decide +kernel
theorem d_Ld_about_47 : decode b_Ld_about 47 = .ok (.isub, 1) := by decide +kernel
theorem d_Ld_about_48 : decode b_Ld_about 48 = .ok (.iaload, 1) := by decide +kernel
theorem d_Ld_about_49 : decode b_Ld_about 49 = .ok (.ireturn, 1) := by decide +kernel
theorem d_Ld_about_50 : decode b_Ld_about 50 = .ok (.iload_n 1, 1) := by decide +kernel
theorem d_Ld_about_51 : decode b_Ld_about 51 = .ok (.lookupswitch 64 #[(0, 33), (9, 41), (10, 56)], 33) := by decide +kernel
theorem d_Ld_about_84 : decode b_Ld_about 84 = .ok (.aload_n 0, 1) := by decide +kernel
theorem d_Ld_about_85 : decode b_Ld_about 85 = .ok (.getfield 26, 3) := by decide +kernel
theorem d_Ld_about_88 : decode b_Ld_about 88 = .ok (.getfield 137, 3) := by decide +kernel
theorem d_Ld_about_91 : decode b_Ld_about 91 = .ok (.ireturn, 1) := by decide +kernel
theorem d_Ld_about_92 : decode b_Ld_about 92 = .ok (.aload_n 0, 1) := by decide +kernel
theorem d_Ld_about_93 : decode b_Ld_about 93 = .ok (.getfield 26, 3) := by decide +kernel
theorem d_Ld_about_96 : decode b_Ld_about 96 = .ok (.aload_n 0, 1) := by decide +kernel
theorem d_Ld_about_97 : decode b_Ld_about 97 = .ok (.getfield 26, 3) := by decide +kernel
theorem d_Ld_about_100 : decode b_Ld_about 100 = .ok (.invokevirtual 140, 3) := by decide +kernel
theorem d_Ld_about_103 : decode b_Ld_about 103 = .ok (.invokevirtual 143, 3) := by decide +kernel
theorem d_Ld_about_106 : decode b_Ld_about 106 = .ok (.ireturn, 1) := by decide +kernel
theorem d_Ld_about_107 : decode b_Ld_about 107 = .ok (.aload_n 0, 1) := by decide +kernel
theorem d_Ld_about_108 : decode b_Ld_about 108 = .ok (.getfield 26, 3) := by decide +kernel
theorem d_Ld_about_111 : decode b_Ld_about 111 = .ok (.getfield 84, 3) := by decide +kernel
theorem d_Ld_about_114 : decode b_Ld_about 114 = .ok (.ireturn, 1) := by decide +kernel
theorem d_Ld_about_115 : decode b_Ld_about 115 = .ok (.iconst (-1), 1) := by decide +kernel
theorem d_Ld_about_116 : decode b_Ld_about 116 = .ok (.ireturn, 1) := by decide +kernel
theorem d_Ld_oneStep_0 : decode b_Ld_oneStep 0 = .ok (.aload_n 0, 1) := by decide +kernel
theorem d_Ld_oneStep_1 : decode b_Ld_oneStep 1 = .ok (.getfield 26, 3) := by decide +kernel
theorem d_Ld_oneStep_4 : decode b_Ld_oneStep 4 = .ok (.invokevirtual 140, 3) := by decide +kernel
theorem d_Ld_oneStep_7 : decode b_Ld_oneStep 7 = .ok (.istore_n 1, 1) := by decide +kernel
theorem d_Ld_oneStep_8 : decode b_Ld_oneStep 8 = .ok (.iload_n 1, 1) := by decide +kernel
theorem d_Ld_oneStep_9 : decode b_Ld_oneStep 9 = .ok (.iconst (-1), 1) := by decide +kernel
theorem d_Ld_oneStep_10 : decode b_Ld_oneStep 10 = .ok (.if_icmp .eq 44, 3) := by decide +kernel
theorem d_Ld_oneStep_13 : decode b_Ld_oneStep 13 = .ok (.aload_n 0, 1) := by decide +kernel
theorem d_Ld_oneStep_14 : decode b_Ld_oneStep 14 = .ok (.getfield 33, 3) := by decide +kernel
theorem d_Ld_oneStep_17 : decode b_Ld_oneStep 17 = .ok (.aload_n 0, 1) := by decide +kernel
theorem d_Ld_oneStep_18 : decode b_Ld_oneStep 18 = .ok (.getfield 26, 3) := by decide +kernel
theorem d_Ld_oneStep_21 : decode b_Ld_oneStep 21 = .ok (.getfield 231, 3) := by decide +kernel
theorem d_Ld_oneStep_24 : decode b_Ld_oneStep 24 = .ok (.iload_n 1, 1) := by decide +kernel
theorem d_Ld_oneStep_25 : decode b_Ld_oneStep 25 = .ok (.bipush 12, 2) := by decide +kernel
theorem d_Ld_oneStep_27 : decode b_Ld_oneStep 27 = .ok (.imul, 1) := by decide +kernel
theorem d_Ld_oneStep_28 : decode b_Ld_oneStep 28 = .ok (.aload_n 0, 1) := by decide +kernel
theorem d_Ld_oneStep_29 : decode b_Ld_oneStep 29 = .ok (.getfield 26, 3) := by decide +kernel
theorem d_Ld_oneStep_32 : decode b_Ld_oneStep 32 = .ok (.getfield 234, 3) := by decide +kernel
theorem d_Ld_oneStep_35 : decode b_Ld_oneStep 35 = .ok (.iload_n 1, 1) := by decide +kernel
theorem d_Ld_oneStep_36 : decode b_Ld_oneStep 36 = .ok (.iaload, 1) := by decide +kernel
theorem d_Ld_oneStep_37 : decode b_Ld_oneStep 37 = .ok (.aload_n 0, 1) := by decide +kernel
theorem d_Ld_oneStep_38 : decode b_Ld_oneStep 38 = .ok (.getfield 26, 3) := by decide +kernel
theorem d_Ld_oneStep_41 : decode b_Ld_oneStep 41 = .ok (.getfield 134, 3) := by decide +kernel
theorem d_Ld_oneStep_44 : decode b_Ld_oneStep 44 = .ok (.invokevirtual 149, 3) := by decide +kernel
theorem d_Ld_oneStep_47 : decode b_Ld_oneStep 47 = .ok (.ifCond .eq 7, 3) := by decide +kernel
theorem d_Ld_oneStep_50 : decode b_Ld_oneStep 50 = .ok (.iconst 1, 1) := by decide +kernel
theorem d_Ld_oneStep_51 : decode b_Ld_oneStep 51 = .ok (.goto 4, 3) := by decide +kernel
theorem d_Ld_oneStep_54 : decode b_Ld_oneStep 54 = .ok (.iconst 0, 1) := by decide +kernel
theorem d_Ld_oneStep_55 : decode b_Ld_oneStep 55 = .ok (.istore_n 2, 1) := by decide +kernel
theorem d_Ld_oneStep_56 : decode b_Ld_oneStep 56 = .ok (.iload_n 2, 1) := by decide +kernel
theorem d_Ld_oneStep_57 : decode b_Ld_oneStep 57 = .ok (.ifCond .eq 15, 3) := by decide +kernel
theorem d_Ld_oneStep_60 : decode b_Ld_oneStep 60 = .ok (.aload_n 0, 1) := by decide +kernel
theorem d_Ld_oneStep_61 : decode b_Ld_oneStep 61 = .ok (.getfield 33, 3) := by decide +kernel
theorem d_Ld_oneStep_64 : decode b_Ld_oneStep 64 = .ok (.getfield 237, 3) := by decide +kernel
theorem d_Ld_oneStep_67 : decode b_Ld_oneStep 67 = .ok (.bipush 69, 2) := by decide +kernel
theorem d_Ld_oneStep_69 : decode b_Ld_oneStep 69 = .ok (.if_icmp .ne 13, 3) := by decide +kernel
theorem d_Ld_oneStep_72 : decode b_Ld_oneStep 72 = .ok (.aload_n 0, 1) := by decide +kernel
theorem d_Ld_oneStep_73 : decode b_Ld_oneStep 73 = .ok (.getfield 26, 3) := by decide +kernel
theorem d_Ld_oneStep_76 : decode b_Ld_oneStep 76 = .ok (.iconst 0, 1) := by decide +kernel
theorem d_Ld_oneStep_77 : decode b_Ld_oneStep 77 = .ok (.putfield 175, 3) := by decide +kernel
theorem d_Ld_oneStep_80 : decode b_Ld_oneStep 80 = .ok (.iconst 0, 1) := by decide +kernel
theorem d_Ld_oneStep_81 : decode b_Ld_oneStep 81 = .ok (.ireturn, 1) := by decide +kernel
theorem d_Ld_oneStep_82 : decode b_Ld_oneStep 82 = .ok (.aload_n 0, 1) := by decide +kernel
theorem d_Ld_oneStep_83 : decode b_Ld_oneStep 83 = .ok (.invokevirtual 240, 3) := by decide +kernel
theorem d_Ld_oneStep_86 : decode b_Ld_oneStep 86 = .ok (.istore_n 3, 1) := by decide +kernel
theorem d_Ld_oneStep_87 : decode b_Ld_oneStep 87 = .ok (.iload_n 3, 1) := by decide +kernel
theorem d_Ld_oneStep_88 : decode b_Ld_oneStep 88 = .ok (.ifCond .eq 5, 3) := by decide +kernel
theorem d_Ld_oneStep_91 : decode b_Ld_oneStep 91 = .ok (.iload_n 3, 1) := by decide +kernel
theorem d_Ld_oneStep_92 : decode b_Ld_oneStep 92 = .ok (.ireturn, 1) := by decide +kernel
theorem d_Ld_oneStep_93 : decode b_Ld_oneStep 93 = .ok (.aload_n 0, 1) := by decide +kernel
theorem d_Ld_oneStep_94 : decode b_Ld_oneStep 94 = .ok (.getfield 26, 3) := by decide +kernel
theorem d_Ld_oneStep_97 : decode b_Ld_oneStep 97 = .ok (.aload_n 0, 1) := by decide +kernel
theorem d_Ld_oneStep_98 : decode b_Ld_oneStep 98 = .ok (.getfield 33, 3) := by decide +kernel
theorem d_Ld_oneStep_101 : decode b_Ld_oneStep 101 = .ok (.invokevirtual 243, 3) := by decide +kernel
theorem d_Ld_oneStep_104 : decode b_Ld_oneStep 104 = .ok (.ifCond .eq 13, 3) := by decide +kernel
theorem d_Ld_oneStep_107 : decode b_Ld_oneStep 107 = .ok (.aload_n 0, 1) := by decide +kernel
theorem d_Ld_oneStep_108 : decode b_Ld_oneStep 108 = .ok (.getfield 33, 3) := by decide +kernel
theorem d_Ld_oneStep_111 : decode b_Ld_oneStep 111 = .ok (.getfield 246, 3) := by decide +kernel
theorem d_Ld_oneStep_114 : decode b_Ld_oneStep 114 = .ok (.goto 13, 3) := by decide +kernel
theorem d_Ld_oneStep_117 : decode b_Ld_oneStep 117 = .ok (.aload_n 0, 1) := by decide +kernel
theorem d_Ld_oneStep_118 : decode b_Ld_oneStep 118 = .ok (.getfield 26, 3) := by decide +kernel
theorem d_Ld_oneStep_121 : decode b_Ld_oneStep 121 = .ok (.iload_n 1, 1) := by decide +kernel
theorem d_Ld_oneStep_122 : decode b_Ld_oneStep 122 = .ok (.invokevirtual 143, 3) := by decide +kernel
theorem d_Ld_oneStep_125 : decode b_Ld_oneStep 125 = .ok (.iconst 1, 1) := by decide +kernel
theorem d_Ld_oneStep_126 : decode b_Ld_oneStep 126 = .ok (.iadd, 1) := by decide +kernel
theorem d_Ld_oneStep_127 : decode b_Ld_oneStep 127 = .ok (.putfield 175, 3) := by decide +kernel
theorem d_Ld_oneStep_130 : decode b_Ld_oneStep 130 = .ok (.bipush 6, 2) := by decide +kernel
theorem d_Ld_oneStep_132 : decode b_Ld_oneStep 132 = .ok (.ireturn, 1) := by decide +kernel
theorem d_St_init_0 : decode b_St_init 0 = .ok (.aload_n 0, 1) := by decide +kernel
theorem d_St_init_1 : decode b_St_init 1 = .ok (.invokespecial 3, 3) := by decide +kernel
theorem d_St_init_4 : decode b_St_init 4 = .ok (.aload_n 0, 1) := by decide +kernel
theorem d_St_init_5 : decode b_St_init 5 = .ok (.sipush 512, 3) := by decide +kernel
theorem d_St_init_8 : decode b_St_init 8 = .ok (.newarray .int, 2) := by decide +kernel
theorem d_St_init_10 : decode b_St_init 10 = .ok (.putfield 9, 3) := by decide +kernel
theorem d_St_init_13 : decode b_St_init 13 = .ok (.aload_n 0, 1) := by decide +kernel
theorem d_St_init_14 : decode b_St_init 14 = .ok (.iconst (-1), 1) := by decide +kernel
theorem d_St_init_15 : decode b_St_init 15 = .ok (.putfield 15, 3) := by decide +kernel
theorem d_St_init_18 : decode b_St_init 18 = .ok (.aload_n 0, 1) := by decide +kernel
theorem d_St_init_19 : decode b_St_init 19 = .ok (.iconst 0, 1) := by decide +kernel
theorem d_St_init_20 : decode b_St_init 20 = .ok (.putfield 19, 3) := by decide +kernel
theorem d_St_init_23 : decode b_St_init 23 = .ok (.aload_n 0, 1) := by decide +kernel
theorem d_St_init_24 : decode b_St_init 24 = .ok (.iconst 0, 1) := by decide +kernel
theorem d_St_init_25 : decode b_St_init 25 = .ok (.putfield 23, 3) := by decide +kernel
theorem d_St_init_28 : decode b_St_init 28 = .ok (.return_, 1) := by decide +kernel
theorem d_St_cell_0 : decode b_St_cell 0 = .ok (.iload_n 1, 1) := by decide +kernel
theorem d_St_cell_1 : decode b_St_cell 1 = .ok (.ifCond .lt 21, 3) := by decide +kernel
theorem d_St_cell_4 : decode b_St_cell 4 = .ok (.iload_n 1, 1) := by decide +kernel
theorem d_St_cell_5 : decode b_St_cell 5 = .ok (.aload_n 0, 1) := by decide +kernel
theorem d_St_cell_6 : decode b_St_cell 6 = .ok (.getfield 9, 3) := by decide +kernel
theorem d_St_cell_9 : decode b_St_cell 9 = .ok (.arraylength, 1) := by decide +kernel
theorem d_St_cell_10 : decode b_St_cell 10 = .ok (.if_icmp .ge 12, 3) := by decide +kernel
theorem d_St_cell_13 : decode b_St_cell 13 = .ok (.aload_n 0, 1) := by decide +kernel
theorem d_St_cell_14 : decode b_St_cell 14 = .ok (.getfield 9, 3) := by decide +kernel
theorem d_St_cell_17 : decode b_St_cell 17 = .ok (.iload_n 1, 1) := by decide +kernel
theorem d_St_cell_18 : decode b_St_cell 18 = .ok (.iaload, 1) := by decide +kernel
theorem d_St_cell_19 : decode b_St_cell 19 = .ok (.goto 4, 3) := by decide +kernel
theorem d_St_cell_22 : decode b_St_cell 22 = .ok (.iconst 0, 1) := by decide +kernel
theorem d_St_cell_23 : decode b_St_cell 23 = .ok (.ireturn, 1) := by decide +kernel
theorem d_St_isFormatted_0 : decode b_St_isFormatted 0 = .ok (.aload_n 0, 1) := by decide +kernel
theorem d_St_isFormatted_1 : decode b_St_isFormatted 1 = .ok (.getfield 9, 3) := by decide +kernel
theorem d_St_isFormatted_4 : decode b_St_isFormatted 4 = .ok (.iconst 0, 1) := by decide +kernel
theorem d_St_isFormatted_5 : decode b_St_isFormatted 5 = .ok (.iaload, 1) := by decide +kernel
theorem d_St_isFormatted_6 : decode b_St_isFormatted 6 = .ok (.sipush 7077, 3) := by decide +kernel
theorem d_St_isFormatted_9 : decode b_St_isFormatted 9 = .ok (.if_icmp .ne 7, 3) := by decide +kernel
theorem d_St_isFormatted_12 : decode b_St_isFormatted 12 = .ok (.iconst 1, 1) := by decide +kernel
theorem d_St_isFormatted_13 : decode b_St_isFormatted 13 = .ok (.goto 4, 3) := by decide +kernel
theorem d_St_isFormatted_16 : decode b_St_isFormatted 16 = .ok (.iconst 0, 1) := by decide +kernel
theorem d_St_isFormatted_17 : decode b_St_isFormatted 17 = .ok (.ireturn, 1) := by decide +kernel
theorem d_St_write_0 : decode b_St_write 0 = .ok (.aload_n 0, 1) := by decide +kernel
theorem d_St_write_1 : decode b_St_write 1 = .ok (.getfield 15, 3) := by decide +kernel
theorem d_St_write_4 : decode b_St_write 4 = .ok (.ifCond .ne 15, 3) := by decide +kernel
theorem d_St_write_7 : decode b_St_write 7 = .ok (.aload_n 0, 1) := by decide +kernel
theorem d_St_write_8 : decode b_St_write 8 = .ok (.iconst (-1), 1) := by decide +kernel
theorem d_St_write_9 : decode b_St_write 9 = .ok (.putfield 15, 3) := by decide +kernel
theorem d_St_write_12 : decode b_St_write 12 = .ok (.aload_n 0, 1) := by decide +kernel
theorem d_St_write_13 : decode b_St_write 13 = .ok (.iconst 1, 1) := by decide +kernel
theorem d_St_write_14 : decode b_St_write 14 = .ok (.putfield 19, 3) := by decide +kernel
theorem d_St_write_17 : decode b_St_write 17 = .ok (.iconst 0, 1) := by decide +kernel
theorem d_St_write_18 : decode b_St_write 18 = .ok (.ireturn, 1) := by decide +kernel
theorem d_St_write_19 : decode b_St_write 19 = .ok (.aload_n 0, 1) := by decide +kernel
theorem d_St_write_20 : decode b_St_write 20 = .ok (.getfield 15, 3) := by decide +kernel
theorem d_St_write_23 : decode b_St_write 23 = .ok (.ifCond .le 13, 3) := by decide +kernel
theorem d_St_write_26 : decode b_St_write 26 = .ok (.aload_n 0, 1) := by decide +kernel
theorem d_St_write_27 : decode b_St_write 27 = .ok (.dup, 1) := by decide +kernel
theorem d_St_write_28 : decode b_St_write 28 = .ok (.getfield 15, 3) := by decide +kernel
theorem d_St_write_31 : decode b_St_write 31 = .ok (.iconst 1, 1) := by decide +kernel
theorem d_St_write_32 : decode b_St_write 32 = .ok (.isub, 1) := by decide +kernel
theorem d_St_write_33 : decode b_St_write 33 = .ok (.putfield 15, 3) := by decide +kernel
theorem d_St_write_36 : decode b_St_write 36 = .ok (.iload_n 1, 1) := by decide +kernel
theorem d_St_write_37 : decode b_St_write 37 = .ok (.ifCond .lt 47, 3) := by decide +kernel
theorem d_St_write_40 : decode b_St_write 40 = .ok (.iload_n 1, 1) := by decide +kernel
theorem d_St_write_41 : decode b_St_write 41 = .ok (.bipush 32, 2) := by decide +kernel
theorem d_St_write_43 : decode b_St_write 43 = .ok (.if_icmp .ge 41, 3) := by decide +kernel
theorem d_St_write_46 : decode b_St_write 46 = .ok (.iload_n 3, 1) := by decide +kernel
theorem d_St_write_47 : decode b_St_write 47 = .ok (.ifCond .lt 37, 3) := by decide +kernel
theorem d_St_write_50 : decode b_St_write 50 = .ok (.iload_n 3, 1) := by decide +kernel
theorem d_St_write_51 : decode b_St_write 51 = .ok (.aload_n 2, 1) := by decide +kernel
theorem d_St_write_52 : decode b_St_write 52 = .ok (.arraylength, 1) := by decide +kernel
theorem d_St_write_53 : decode b_St_write 53 = .ok (.bipush 16, 2) := by decide +kernel
theorem d_St_write_55 : decode b_St_write 55 = .ok (.isub, 1) := by decide +kernel
theorem d_St_write_56 : decode b_St_write 56 = .ok (.if_icmp .gt 28, 3) := by decide +kernel
theorem d_St_write_59 : decode b_St_write 59 = .ok (.aload_n 2, 1) := by decide +kernel
theorem d_St_write_60 : decode b_St_write 60 = .ok (.iload_n 3, 1) := by decide +kernel
theorem d_St_write_61 : decode b_St_write 61 = .ok (.aload_n 0, 1) := by decide +kernel
theorem d_St_write_62 : decode b_St_write 62 = .ok (.getfield 9, 3) := by decide +kernel
theorem d_St_write_65 : decode b_St_write 65 = .ok (.iload_n 1, 1) := by decide +kernel
theorem d_St_write_66 : decode b_St_write 66 = .ok (.bipush 16, 2) := by decide +kernel
theorem d_St_write_68 : decode b_St_write 68 = .ok (.imul, 1) := by decide +kernel
theorem d_St_write_69 : decode b_St_write 69 = .ok (.bipush 16, 2) := by decide +kernel
theorem d_St_write_71 : decode b_St_write 71 = .ok (.invokestatic 26, 3) := by decide +kernel
theorem d_St_write_74 : decode b_St_write 74 = .ok (.aload_n 0, 1) := by decide +kernel
theorem d_St_write_75 : decode b_St_write 75 = .ok (.dup, 1) := by decide +kernel
theorem d_St_write_76 : decode b_St_write 76 = .ok (.getfield 23, 3) := by decide +kernel
theorem d_St_write_79 : decode b_St_write 79 = .ok (.iconst 1, 1) := by decide +kernel
theorem d_St_write_80 : decode b_St_write 80 = .ok (.iadd, 1) := by decide +kernel
theorem d_St_write_81 : decode b_St_write 81 = .ok (.putfield 23, 3) := by decide +kernel
theorem d_St_write_84 : decode b_St_write 84 = .ok (.iconst 1, 1) := by decide +kernel
theorem d_St_write_85 : decode b_St_write 85 = .ok (.ireturn, 1) := by decide +kernel
theorem d_Jo_init_0 : decode b_Jo_init 0 = .ok (.aload_n 0, 1) := by decide +kernel
theorem d_Jo_init_1 : decode b_Jo_init 1 = .ok (.invokespecial 3, 3) := by decide +kernel
theorem d_Jo_init_4 : decode b_Jo_init 4 = .ok (.aload_n 0, 1) := by decide +kernel
theorem d_Jo_init_5 : decode b_Jo_init 5 = .ok (.bipush 96, 2) := by decide +kernel
theorem d_Jo_init_7 : decode b_Jo_init 7 = .ok (.newarray .int, 2) := by decide +kernel
theorem d_Jo_init_9 : decode b_Jo_init 9 = .ok (.putfield 9, 3) := by decide +kernel
theorem d_Jo_init_12 : decode b_Jo_init 12 = .ok (.aload_n 0, 1) := by decide +kernel
theorem d_Jo_init_13 : decode b_Jo_init 13 = .ok (.bipush 16, 2) := by decide +kernel
theorem d_Jo_init_15 : decode b_Jo_init 15 = .ok (.newarray .int, 2) := by decide +kernel
theorem d_Jo_init_17 : decode b_Jo_init 17 = .ok (.putfield 15, 3) := by decide +kernel
theorem d_Jo_init_20 : decode b_Jo_init 20 = .ok (.aload_n 0, 1) := by decide +kernel
theorem d_Jo_init_21 : decode b_Jo_init 21 = .ok (.iconst 0, 1) := by decide +kernel
theorem d_Jo_init_22 : decode b_Jo_init 22 = .ok (.putfield 18, 3) := by decide +kernel
theorem d_Jo_init_25 : decode b_Jo_init 25 = .ok (.return_, 1) := by decide +kernel
theorem d_Wo_init_0 : decode b_Wo_init 0 = .ok (.aload_n 0, 1) := by decide +kernel
theorem d_Wo_init_1 : decode b_Wo_init 1 = .ok (.invokespecial 3, 3) := by decide +kernel
theorem d_Wo_init_4 : decode b_Wo_init 4 = .ok (.aload_n 0, 1) := by decide +kernel
theorem d_Wo_init_5 : decode b_Wo_init 5 = .ok (.bipush 10, 2) := by decide +kernel
theorem d_Wo_init_7 : decode b_Wo_init 7 = .ok (.newarray .int, 2) := by decide +kernel
theorem d_Wo_init_9 : decode b_Wo_init 9 = .ok (.putfield 9, 3) := by decide +kernel
theorem d_Wo_init_12 : decode b_Wo_init 12 = .ok (.aload_n 0, 1) := by decide +kernel
theorem d_Wo_init_13 : decode b_Wo_init 13 = .ok (.bipush 10, 2) := by decide +kernel
theorem d_Wo_init_15 : decode b_Wo_init 15 = .ok (.newarray .int, 2) := by decide +kernel
theorem d_Wo_init_17 : decode b_Wo_init 17 = .ok (.putfield 15, 3) := by decide +kernel
theorem d_Wo_init_20 : decode b_Wo_init 20 = .ok (.aload_n 0, 1) := by decide +kernel
theorem d_Wo_init_21 : decode b_Wo_init 21 = .ok (.bipush 120, 2) := by decide +kernel
theorem d_Wo_init_23 : decode b_Wo_init 23 = .ok (.newarray .int, 2) := by decide +kernel
theorem d_Wo_init_25 : decode b_Wo_init 25 = .ok (.putfield 18, 3) := by decide +kernel
theorem d_Wo_init_28 : decode b_Wo_init 28 = .ok (.aload_n 0, 1) := by decide +kernel
theorem d_Wo_init_29 : decode b_Wo_init 29 = .ok (.bipush 12, 2) := by decide +kernel
theorem d_Wo_init_31 : decode b_Wo_init 31 = .ok (.newarray .int, 2) := by decide +kernel
theorem d_Wo_init_33 : decode b_Wo_init 33 = .ok (.putfield 21, 3) := by decide +kernel
theorem d_Wo_init_36 : decode b_Wo_init 36 = .ok (.aload_n 0, 1) := by decide +kernel
theorem d_Wo_init_37 : decode b_Wo_init 37 = .ok (.bipush 8, 2) := by decide +kernel
theorem d_Wo_init_39 : decode b_Wo_init 39 = .ok (.newarray .int, 2) := by decide +kernel
theorem d_Wo_init_41 : decode b_Wo_init 41 = .ok (.putfield 24, 3) := by decide +kernel
theorem d_Wo_init_44 : decode b_Wo_init 44 = .ok (.aload_n 0, 1) := by decide +kernel
theorem d_Wo_init_45 : decode b_Wo_init 45 = .ok (.bipush 15, 2) := by decide +kernel
theorem d_Wo_init_47 : decode b_Wo_init 47 = .ok (.newarray .int, 2) := by decide +kernel
theorem d_Wo_init_49 : decode b_Wo_init 49 = .ok (.putfield 27, 3) := by decide +kernel
theorem d_Wo_init_52 : decode b_Wo_init 52 = .ok (.aload_n 0, 1) := by decide +kernel
theorem d_Wo_init_53 : decode b_Wo_init 53 = .ok (.iconst 0, 1) := by decide +kernel
theorem d_Wo_init_54 : decode b_Wo_init 54 = .ok (.putfield 30, 3) := by decide +kernel
theorem d_Wo_init_57 : decode b_Wo_init 57 = .ok (.aload_n 0, 1) := by decide +kernel
theorem d_Wo_init_58 : decode b_Wo_init 58 = .ok (.iconst 0, 1) := by decide +kernel
theorem d_Wo_init_59 : decode b_Wo_init 59 = .ok (.putfield 34, 3) := by decide +kernel
theorem d_Wo_init_62 : decode b_Wo_init 62 = .ok (.aload_n 0, 1) := by decide +kernel
theorem d_Wo_init_63 : decode b_Wo_init 63 = .ok (.iconst 0, 1) := by decide +kernel
theorem d_Wo_init_64 : decode b_Wo_init 64 = .ok (.putfield 37, 3) := by decide +kernel
theorem d_Wo_init_67 : decode b_Wo_init 67 = .ok (.return_, 1) := by decide +kernel
theorem d_Wo_empty_0 : decode b_Wo_empty 0 = .ok (.aload_n 0, 1) := by decide +kernel
theorem d_Wo_empty_1 : decode b_Wo_empty 1 = .ok (.iconst 0, 1) := by decide +kernel
theorem d_Wo_empty_2 : decode b_Wo_empty 2 = .ok (.putfield 30, 3) := by decide +kernel
theorem d_Wo_empty_5 : decode b_Wo_empty 5 = .ok (.aload_n 0, 1) := by decide +kernel
theorem d_Wo_empty_6 : decode b_Wo_empty 6 = .ok (.iconst 0, 1) := by decide +kernel
theorem d_Wo_empty_7 : decode b_Wo_empty 7 = .ok (.putfield 34, 3) := by decide +kernel
theorem d_Wo_empty_10 : decode b_Wo_empty 10 = .ok (.aload_n 0, 1) := by decide +kernel
theorem d_Wo_empty_11 : decode b_Wo_empty 11 = .ok (.iconst 0, 1) := by decide +kernel
theorem d_Wo_empty_12 : decode b_Wo_empty 12 = .ok (.putfield 37, 3) := by decide +kernel
theorem d_Wo_empty_15 : decode b_Wo_empty 15 = .ok (.aload_n 0, 1) := by decide +kernel
theorem d_Wo_empty_16 : decode b_Wo_empty 16 = .ok (.getfield 24, 3) := by decide +kernel
theorem d_Wo_empty_19 : decode b_Wo_empty 19 = .ok (.iconst 0, 1) := by decide +kernel
theorem d_Wo_empty_20 : decode b_Wo_empty 20 = .ok (.invokestatic 40, 3) := by decide +kernel
theorem d_Wo_empty_23 : decode b_Wo_empty 23 = .ok (.return_, 1) := by decide +kernel
theorem d_Wo_keepTyped_0 : decode b_Wo_keepTyped 0 = .ok (.aload_n 0, 1) := by decide +kernel
theorem d_Wo_keepTyped_1 : decode b_Wo_keepTyped 1 = .ok (.getfield 37, 3) := by decide +kernel
theorem d_Wo_keepTyped_4 : decode b_Wo_keepTyped 4 = .ok (.bipush 15, 2) := by decide +kernel
theorem d_Wo_keepTyped_6 : decode b_Wo_keepTyped 6 = .ok (.if_icmp .ge 23, 3) := by decide +kernel
theorem d_Wo_keepTyped_9 : decode b_Wo_keepTyped 9 = .ok (.aload_n 0, 1) := by decide +kernel
theorem d_Wo_keepTyped_10 : decode b_Wo_keepTyped 10 = .ok (.getfield 27, 3) := by decide +kernel
theorem d_Wo_keepTyped_13 : decode b_Wo_keepTyped 13 = .ok (.aload_n 0, 1) := by decide +kernel
theorem d_Wo_keepTyped_14 : decode b_Wo_keepTyped 14 = .ok (.getfield 37, 3) := by decide +kernel
theorem d_Wo_keepTyped_17 : decode b_Wo_keepTyped 17 = .ok (.iload_n 1, 1) := by decide +kernel
theorem d_Wo_keepTyped_18 : decode b_Wo_keepTyped 18 = .ok (.iastore, 1) := by decide +kernel
theorem d_Wo_keepTyped_19 : decode b_Wo_keepTyped 19 = .ok (.aload_n 0, 1) := by decide +kernel
theorem d_Wo_keepTyped_20 : decode b_Wo_keepTyped 20 = .ok (.dup, 1) := by decide +kernel
theorem d_Wo_keepTyped_21 : decode b_Wo_keepTyped 21 = .ok (.getfield 37, 3) := by decide +kernel
theorem d_Wo_keepTyped_24 : decode b_Wo_keepTyped 24 = .ok (.iconst 1, 1) := by decide +kernel
theorem d_Wo_keepTyped_25 : decode b_Wo_keepTyped 25 = .ok (.iadd, 1) := by decide +kernel
theorem d_Wo_keepTyped_26 : decode b_Wo_keepTyped 26 = .ok (.putfield 37, 3) := by decide +kernel
theorem d_Wo_keepTyped_29 : decode b_Wo_keepTyped 29 = .ok (.return_, 1) := by decide +kernel
theorem d_Wo_nextLine_0 : decode b_Wo_nextLine 0 = .ok (.aload_n 0, 1) := by decide +kernel
theorem d_Wo_nextLine_1 : decode b_Wo_nextLine 1 = .ok (.aload_n 0, 1) := by decide +kernel
theorem d_Wo_nextLine_2 : decode b_Wo_nextLine 2 = .ok (.getfield 34, 3) := by decide +kernel
theorem d_Wo_nextLine_5 : decode b_Wo_nextLine 5 = .ok (.invokevirtual 46, 3) := by decide +kernel
theorem d_Wo_nextLine_8 : decode b_Wo_nextLine 8 = .ok (.istore_n 1, 1) := by decide +kernel
theorem d_Wo_nextLine_9 : decode b_Wo_nextLine 9 = .ok (.iload_n 1, 1) := by decide +kernel
theorem d_Wo_nextLine_10 : decode b_Wo_nextLine 10 = .ok (.aload_n 0, 1) := by decide +kernel
theorem d_Wo_nextLine_11 : decode b_Wo_nextLine 11 = .ok (.getfield 30, 3) := by decide +kernel
theorem d_Wo_nextLine_14 : decode b_Wo_nextLine 14 = .ok (.if_icmp .ge 7, 3) := by decide +kernel
theorem d_Wo_nextLine_17 : decode b_Wo_nextLine 17 = .ok (.iload_n 1, 1) := by decide +kernel
theorem d_Wo_nextLine_18 : decode b_Wo_nextLine 18 = .ok (.goto 4, 3) := by decide +kernel
theorem d_Wo_nextLine_21 : decode b_Wo_nextLine 21 = .ok (.iconst (-1), 1) := by decide +kernel
theorem d_Wo_nextLine_22 : decode b_Wo_nextLine 22 = .ok (.ireturn, 1) := by decide +kernel
theorem d_Wo_placeOf_0 : decode b_Wo_placeOf 0 = .ok (.iconst 0, 1) := by decide +kernel
theorem d_Wo_placeOf_1 : decode b_Wo_placeOf 1 = .ok (.istore_n 2, 1) := by decide +kernel
theorem d_Wo_placeOf_2 : decode b_Wo_placeOf 2 = .ok (.iload_n 2, 1) := by decide +kernel
theorem d_Wo_placeOf_3 : decode b_Wo_placeOf 3 = .ok (.aload_n 0, 1) := by decide +kernel
theorem d_Wo_placeOf_4 : decode b_Wo_placeOf 4 = .ok (.getfield 30, 3) := by decide +kernel
theorem d_Wo_placeOf_7 : decode b_Wo_placeOf 7 = .ok (.if_icmp .ge 19, 3) := by decide +kernel
theorem d_Wo_placeOf_10 : decode b_Wo_placeOf 10 = .ok (.aload_n 0, 1) := by decide +kernel
theorem d_Wo_placeOf_11 : decode b_Wo_placeOf 11 = .ok (.getfield 9, 3) := by decide +kernel
theorem d_Wo_placeOf_14 : decode b_Wo_placeOf 14 = .ok (.iload_n 2, 1) := by decide +kernel
theorem d_Wo_placeOf_15 : decode b_Wo_placeOf 15 = .ok (.iaload, 1) := by decide +kernel
theorem d_Wo_placeOf_16 : decode b_Wo_placeOf 16 = .ok (.iload_n 1, 1) := by decide +kernel
theorem d_Wo_placeOf_17 : decode b_Wo_placeOf 17 = .ok (.if_icmp .ge 9, 3) := by decide +kernel
theorem d_Wo_placeOf_20 : decode b_Wo_placeOf 20 = .ok (.iinc 2 1, 3) := by decide +kernel
theorem d_Wo_placeOf_23 : decode b_Wo_placeOf 23 = .ok (.goto (-21), 3) := by decide +kernel
theorem d_Wo_placeOf_26 : decode b_Wo_placeOf 26 = .ok (.iload_n 2, 1) := by decide +kernel
theorem d_Wo_placeOf_27 : decode b_Wo_placeOf 27 = .ok (.ireturn, 1) := by decide +kernel
theorem d_Wo_numberOf_0 : decode b_Wo_numberOf 0 = .ok (.iload_n 1, 1) := by decide +kernel
theorem d_Wo_numberOf_1 : decode b_Wo_numberOf 1 = .ok (.ifCond .lt 20, 3) := by decide +kernel
theorem d_Wo_numberOf_4 : decode b_Wo_numberOf 4 = .ok (.iload_n 1, 1) := by decide +kernel
theorem d_Wo_numberOf_5 : decode b_Wo_numberOf 5 = .ok (.aload_n 0, 1) := by decide +kernel
theorem d_Wo_numberOf_6 : decode b_Wo_numberOf 6 = .ok (.getfield 30, 3) := by decide +kernel
theorem d_Wo_numberOf_9 : decode b_Wo_numberOf 9 = .ok (.if_icmp .ge 12, 3) := by decide +kernel
theorem d_Wo_numberOf_12 : decode b_Wo_numberOf 12 = .ok (.aload_n 0, 1) := by decide +kernel
theorem d_Wo_numberOf_13 : decode b_Wo_numberOf 13 = .ok (.getfield 9, 3) := by decide +kernel
theorem d_Wo_numberOf_16 : decode b_Wo_numberOf 16 = .ok (.iload_n 1, 1) := by decide +kernel
theorem d_Wo_numberOf_17 : decode b_Wo_numberOf 17 = .ok (.iaload, 1) := by decide +kernel
theorem d_Wo_numberOf_18 : decode b_Wo_numberOf 18 = .ok (.goto 4, 3) := by decide +kernel
theorem d_Wo_numberOf_21 : decode b_Wo_numberOf 21 = .ok (.iconst 0, 1) := by decide +kernel
theorem d_Wo_numberOf_22 : decode b_Wo_numberOf 22 = .ok (.ireturn, 1) := by decide +kernel
theorem d_Sm_init_0 : decode b_Sm_init 0 = .ok (.aload_n 0, 1) := by decide +kernel
theorem d_Sm_init_1 : decode b_Sm_init 1 = .ok (.invokespecial 3, 3) := by decide +kernel
theorem d_Sm_init_4 : decode b_Sm_init 4 = .ok (.aload_n 0, 1) := by decide +kernel
theorem d_Sm_init_5 : decode b_Sm_init 5 = .ok (.bipush 12, 2) := by decide +kernel
theorem d_Sm_init_7 : decode b_Sm_init 7 = .ok (.newarray .int, 2) := by decide +kernel
theorem d_Sm_init_9 : decode b_Sm_init 9 = .ok (.putfield 9, 3) := by decide +kernel
theorem d_Sm_init_12 : decode b_Sm_init 12 = .ok (.aload_n 0, 1) := by decide +kernel
theorem d_Sm_init_13 : decode b_Sm_init 13 = .ok (.bipush 8, 2) := by decide +kernel
theorem d_Sm_init_15 : decode b_Sm_init 15 = .ok (.newarray .int, 2) := by decide +kernel
theorem d_Sm_init_17 : decode b_Sm_init 17 = .ok (.putfield 15, 3) := by decide +kernel
theorem d_Sm_init_20 : decode b_Sm_init 20 = .ok (.aload_n 0, 1) := by decide +kernel
theorem d_Sm_init_21 : decode b_Sm_init 21 = .ok (.iconst 0, 1) := by decide +kernel
theorem d_Sm_init_22 : decode b_Sm_init 22 = .ok (.putfield 18, 3) := by decide +kernel
theorem d_Sm_init_25 : decode b_Sm_init 25 = .ok (.aload_n 0, 1) := by decide +kernel
theorem d_Sm_init_26 : decode b_Sm_init 26 = .ok (.iconst 0, 1) := by decide +kernel
theorem d_Sm_init_27 : decode b_Sm_init 27 = .ok (.putfield 22, 3) := by decide +kernel
theorem d_Sm_init_30 : decode b_Sm_init 30 = .ok (.aload_n 0, 1) := by decide +kernel
theorem d_Sm_init_31 : decode b_Sm_init 31 = .ok (.iconst 0, 1) := by decide +kernel
theorem d_Sm_init_32 : decode b_Sm_init 32 = .ok (.putfield 25, 3) := by decide +kernel
theorem d_Sm_init_35 : decode b_Sm_init 35 = .ok (.aload_n 0, 1) := by decide +kernel
theorem d_Sm_init_36 : decode b_Sm_init 36 = .ok (.iconst 0, 1) := by decide +kernel
theorem d_Sm_init_37 : decode b_Sm_init 37 = .ok (.putfield 29, 3) := by decide +kernel
theorem d_Sm_init_40 : decode b_Sm_init 40 = .ok (.aload_n 0, 1) := by decide +kernel
theorem d_Sm_init_41 : decode b_Sm_init 41 = .ok (.iconst 0, 1) := by decide +kernel
theorem d_Sm_init_42 : decode b_Sm_init 42 = .ok (.putfield 32, 3) := by decide +kernel
theorem d_Sm_init_45 : decode b_Sm_init 45 = .ok (.aload_n 0, 1) := by decide +kernel
theorem d_Sm_init_46 : decode b_Sm_init 46 = .ok (.iconst 0, 1) := by decide +kernel
theorem d_Sm_init_47 : decode b_Sm_init 47 = .ok (.putfield 35, 3) := by decide +kernel
theorem d_Sm_init_50 : decode b_Sm_init 50 = .ok (.aload_n 0, 1) := by decide +kernel
theorem d_Sm_init_51 : decode b_Sm_init 51 = .ok (.iconst 0, 1) := by decide +kernel
theorem d_Sm_init_52 : decode b_Sm_init 52 = .ok (.putfield 38, 3) := by decide +kernel
theorem d_Sm_init_55 : decode b_Sm_init 55 = .ok (.aload_n 0, 1) := by decide +kernel
theorem d_Sm_init_56 : decode b_Sm_init 56 = .ok (.iconst 0, 1) := by decide +kernel
theorem d_Sm_init_57 : decode b_Sm_init 57 = .ok (.putfield 41, 3) := by decide +kernel
theorem d_Sm_init_60 : decode b_Sm_init 60 = .ok (.aload_n 0, 1) := by decide +kernel
theorem d_Sm_init_61 : decode b_Sm_init 61 = .ok (.iconst 0, 1) := by decide +kernel
theorem d_Sm_init_62 : decode b_Sm_init 62 = .ok (.putfield 44, 3) := by decide +kernel
theorem d_Sm_init_65 : decode b_Sm_init 65 = .ok (.aload_n 0, 1) := by decide +kernel
theorem d_Sm_init_66 : decode b_Sm_init 66 = .ok (.iconst 0, 1) := by decide +kernel
theorem d_Sm_init_67 : decode b_Sm_init 67 = .ok (.putfield 47, 3) := by decide +kernel
theorem d_Sm_init_70 : decode b_Sm_init 70 = .ok (.return_, 1) := by decide +kernel
theorem d_Mo_init_0 : decode b_Mo_init 0 = .ok (.aload_n 0, 1) := by decide +kernel
theorem d_Mo_init_1 : decode b_Mo_init 1 = .ok (.invokespecial 1, 3) := by decide +kernel
theorem d_Mo_init_4 : decode b_Mo_init 4 = .ok (.aload_n 0, 1) := by decide +kernel
theorem d_Mo_init_5 : decode b_Mo_init 5 = .ok (.sipush 512, 3) := by decide +kernel
theorem d_Mo_init_8 : decode b_Mo_init 8 = .ok (.newarray .int, 2) := by decide +kernel
theorem d_Mo_init_10 : decode b_Mo_init 10 = .ok (.putfield 7, 3) := by decide +kernel
theorem d_Mo_init_13 : decode b_Mo_init 13 = .ok (.aload_n 0, 1) := by decide +kernel
theorem d_Mo_init_14 : decode b_Mo_init 14 = .ok (.iconst (-1), 1) := by decide +kernel
theorem d_Mo_init_15 : decode b_Mo_init 15 = .ok (.putfield 13, 3) := by decide +kernel
theorem d_Mo_init_18 : decode b_Mo_init 18 = .ok (.aload_n 0, 1) := by decide +kernel
theorem d_Mo_init_19 : decode b_Mo_init 19 = .ok (.bipush 100, 2) := by decide +kernel
theorem d_Mo_init_21 : decode b_Mo_init 21 = .ok (.newarray .int, 2) := by decide +kernel
theorem d_Mo_init_23 : decode b_Mo_init 23 = .ok (.putfield 17, 3) := by decide +kernel
theorem d_Mo_init_26 : decode b_Mo_init 26 = .ok (.aload_n 0, 1) := by decide +kernel
theorem d_Mo_init_27 : decode b_Mo_init 27 = .ok (.sipush 1200, 3) := by decide +kernel
theorem d_Mo_init_30 : decode b_Mo_init 30 = .ok (.newarray .int, 2) := by decide +kernel
theorem d_Mo_init_32 : decode b_Mo_init 32 = .ok (.putfield 20, 3) := by decide +kernel
theorem d_Mo_init_35 : decode b_Mo_init 35 = .ok (.aload_n 0, 1) := by decide +kernel
theorem d_Mo_init_36 : decode b_Mo_init 36 = .ok (.bipush 8, 2) := by decide +kernel
theorem d_Mo_init_38 : decode b_Mo_init 38 = .ok (.newarray .int, 2) := by decide +kernel
theorem d_Mo_init_40 : decode b_Mo_init 40 = .ok (.putfield 23, 3) := by decide +kernel
theorem d_Mo_init_43 : decode b_Mo_init 43 = .ok (.aload_n 0, 1) := by decide +kernel
theorem d_Mo_init_44 : decode b_Mo_init 44 = .ok (.bipush 60, 2) := by decide +kernel
theorem d_Mo_init_46 : decode b_Mo_init 46 = .ok (.newarray .int, 2) := by decide +kernel
theorem d_Mo_init_48 : decode b_Mo_init 48 = .ok (.putfield 26, 3) := by decide +kernel
theorem d_Mo_init_51 : decode b_Mo_init 51 = .ok (.aload_n 0, 1) := by decide +kernel
theorem d_Mo_init_52 : decode b_Mo_init 52 = .ok (.bipush 15, 2) := by decide +kernel
theorem d_Mo_init_54 : decode b_Mo_init 54 = .ok (.newarray .int, 2) := by decide +kernel
theorem d_Mo_init_56 : decode b_Mo_init 56 = .ok (.putfield 29, 3) := by decide +kernel
theorem d_Mo_init_59 : decode b_Mo_init 59 = .ok (.aload_n 0, 1) := by decide +kernel
theorem d_Mo_init_60 : decode b_Mo_init 60 = .ok (.bipush 16, 2) := by decide +kernel
theorem d_Mo_init_62 : decode b_Mo_init 62 = .ok (.newarray .int, 2) := by decide +kernel
theorem d_Mo_init_64 : decode b_Mo_init 64 = .ok (.putfield 32, 3) := by decide +kernel
theorem d_Mo_init_67 : decode b_Mo_init 67 = .ok (.aload_n 0, 1) := by decide +kernel
theorem d_Mo_init_68 : decode b_Mo_init 68 = .ok (.bipush 16, 2) := by decide +kernel
theorem d_Mo_init_70 : decode b_Mo_init 70 = .ok (.newarray .int, 2) := by decide +kernel
theorem d_Mo_init_72 : decode b_Mo_init 72 = .ok (.putfield 35, 3) := by decide +kernel
theorem d_Mo_init_75 : decode b_Mo_init 75 = .ok (.aload_n 0, 1) := by decide +kernel
theorem d_Mo_init_76 : decode b_Mo_init 76 = .ok (.bipush 6, 2) := by decide +kernel
theorem d_Mo_init_78 : decode b_Mo_init 78 = .ok (.newarray .int, 2) := by decide +kernel
theorem d_Mo_init_80 : decode b_Mo_init 80 = .ok (.putfield 38, 3) := by decide +kernel
theorem d_Mo_init_83 : decode b_Mo_init 83 = .ok (.aload_n 0, 1) := by decide +kernel
theorem d_Mo_init_84 : decode b_Mo_init 84 = .ok (.bipush 96, 2) := by decide +kernel
theorem d_Mo_init_86 : decode b_Mo_init 86 = .ok (.newarray .int, 2) := by decide +kernel
theorem d_Mo_init_88 : decode b_Mo_init 88 = .ok (.putfield 41, 3) := by decide +kernel
theorem d_Mo_init_91 : decode b_Mo_init 91 = .ok (.aload_n 0, 1) := by decide +kernel
theorem d_Mo_init_92 : decode b_Mo_init 92 = .ok (.invokevirtual 44, 3) := by decide +kernel
theorem d_Mo_init_95 : decode b_Mo_init 95 = .ok (.return_, 1) := by decide +kernel
theorem d_Mo_nothing_0 : decode b_Mo_nothing 0 = .ok (.iconst 0, 1) := by decide +kernel
theorem d_Mo_nothing_1 : decode b_Mo_nothing 1 = .ok (.istore_n 1, 1) := by decide +kernel
theorem d_Mo_nothing_2 : decode b_Mo_nothing 2 = .ok (.iload_n 1, 1) := by decide +kernel
theorem d_Mo_nothing_3 : decode b_Mo_nothing 3 = .ok (.bipush 100, 2) := by decide +kernel
theorem d_Mo_nothing_5 : decode b_Mo_nothing 5 = .ok (.if_icmp .ge 16, 3) := by decide +kernel
theorem d_Mo_nothing_8 : decode b_Mo_nothing 8 = .ok (.aload_n 0, 1) := by decide +kernel
theorem d_Mo_nothing_9 : decode b_Mo_nothing 9 = .ok (.getfield 17, 3) := by decide +kernel
theorem d_Mo_nothing_12 : decode b_Mo_nothing 12 = .ok (.iload_n 1, 1) := by decide +kernel
theorem d_Mo_nothing_13 : decode b_Mo_nothing 13 = .ok (.iconst (-1), 1) := by decide +kernel
theorem d_Mo_nothing_14 : decode b_Mo_nothing 14 = .ok (.iastore, 1) := by decide +kernel
theorem d_Mo_nothing_15 : decode b_Mo_nothing 15 = .ok (.iinc 1 1, 3) := by decide +kernel
theorem d_Mo_nothing_18 : decode b_Mo_nothing 18 = .ok (.goto (-16), 3) := by decide +kernel
theorem d_Mo_nothing_21 : decode b_Mo_nothing 21 = .ok (.iconst 0, 1) := by decide +kernel
theorem d_Mo_nothing_22 : decode b_Mo_nothing 22 = .ok (.istore_n 1, 1) := by decide +kernel
theorem d_Mo_nothing_23 : decode b_Mo_nothing 23 = .ok (.iload_n 1, 1) := by decide +kernel
theorem d_Mo_nothing_24 : decode b_Mo_nothing 24 = .ok (.bipush 8, 2) := by decide +kernel
theorem d_Mo_nothing_26 : decode b_Mo_nothing 26 = .ok (.if_icmp .ge 16, 3) := by decide +kernel
theorem d_Mo_nothing_29 : decode b_Mo_nothing 29 = .ok (.aload_n 0, 1) := by decide +kernel
theorem d_Mo_nothing_30 : decode b_Mo_nothing 30 = .ok (.getfield 23, 3) := by decide +kernel
theorem d_Mo_nothing_33 : decode b_Mo_nothing 33 = .ok (.iload_n 1, 1) := by decide +kernel
theorem d_Mo_nothing_34 : decode b_Mo_nothing 34 = .ok (.iconst 0, 1) := by decide +kernel
theorem d_Mo_nothing_35 : decode b_Mo_nothing 35 = .ok (.iastore, 1) := by decide +kernel
theorem d_Mo_nothing_36 : decode b_Mo_nothing 36 = .ok (.iinc 1 1, 3) := by decide +kernel
theorem d_Mo_nothing_39 : decode b_Mo_nothing 39 = .ok (.goto (-16), 3) := by decide +kernel
theorem d_Mo_nothing_42 : decode b_Mo_nothing 42 = .ok (.aload_n 0, 1) := by decide +kernel
theorem d_Mo_nothing_43 : decode b_Mo_nothing 43 = .ok (.iconst 0, 1) := by decide +kernel
theorem d_Mo_nothing_44 : decode b_Mo_nothing 44 = .ok (.putfield 50, 3) := by decide +kernel
theorem d_Mo_nothing_47 : decode b_Mo_nothing 47 = .ok (.aload_n 0, 1) := by decide +kernel
theorem d_Mo_nothing_48 : decode b_Mo_nothing 48 = .ok (.iconst 0, 1) := by decide +kernel
theorem d_Mo_nothing_49 : decode b_Mo_nothing 49 = .ok (.putfield 53, 3) := by decide +kernel
theorem d_Mo_nothing_52 : decode b_Mo_nothing 52 = .ok (.return_, 1) := by decide +kernel
theorem d_Mo_write_0 : decode b_Mo_write 0 = .ok (.aload_n 0, 1) := by decide +kernel
theorem d_Mo_write_1 : decode b_Mo_write 1 = .ok (.getfield 56, 3) := by decide +kernel
theorem d_Mo_write_4 : decode b_Mo_write 4 = .ok (.ifCond .eq 4, 3) := by decide +kernel
theorem d_Mo_write_7 : decode b_Mo_write 7 = .ok (.return_, 1) := by decide +kernel
theorem d_Mo_write_8 : decode b_Mo_write 8 = .ok (.aload_n 0, 1) := by decide +kernel
theorem d_Mo_write_9 : decode b_Mo_write 9 = .ok (.getfield 13, 3) := by decide +kernel
theorem d_Mo_write_12 : decode b_Mo_write 12 = .ok (.ifCond .ne 8, 3) := by decide +kernel
theorem d_Mo_write_15 : decode b_Mo_write 15 = .ok (.aload_n 0, 1) := by decide +kernel
theorem d_Mo_write_16 : decode b_Mo_write 16 = .ok (.invokevirtual 60, 3) := by decide +kernel
theorem d_Mo_write_19 : decode b_Mo_write 19 = .ok (.return_, 1) := by decide +kernel
theorem d_Mo_write_20 : decode b_Mo_write 20 = .ok (.aload_n 0, 1) := by decide +kernel
theorem d_Mo_write_21 : decode b_Mo_write 21 = .ok (.dup, 1) := by decide +kernel
theorem d_Mo_write_22 : decode b_Mo_write 22 = .ok (.getfield 13, 3) := by decide +kernel
theorem d_Mo_write_25 : decode b_Mo_write 25 = .ok (.aload_n 0, 1) := by decide +kernel
theorem d_Mo_write_26 : decode b_Mo_write 26 = .ok (.getfield 13, 3) := by decide +kernel
theorem d_Mo_write_29 : decode b_Mo_write 29 = .ok (.ifCond .le 7, 3) := by decide +kernel
theorem d_Mo_write_32 : decode b_Mo_write 32 = .ok (.iconst 1, 1) := by decide +kernel
theorem d_Mo_write_33 : decode b_Mo_write 33 = .ok (.goto 4, 3) := by decide +kernel
theorem d_Mo_write_36 : decode b_Mo_write 36 = .ok (.iconst 0, 1) := by decide +kernel
theorem d_Mo_write_37 : decode b_Mo_write 37 = .ok (.isub, 1) := by decide +kernel
theorem d_Mo_write_38 : decode b_Mo_write 38 = .ok (.putfield 13, 3) := by decide +kernel
theorem d_Mo_write_41 : decode b_Mo_write 41 = .ok (.aload_n 0, 1) := by decide +kernel
theorem d_Mo_write_42 : decode b_Mo_write 42 = .ok (.dup, 1) := by decide +kernel
theorem d_Mo_write_43 : decode b_Mo_write 43 = .ok (.getfield 63, 3) := by decide +kernel
theorem d_Mo_write_46 : decode b_Mo_write 46 = .ok (.iconst 1, 1) := by decide +kernel
theorem d_Mo_write_47 : decode b_Mo_write 47 = .ok (.iadd, 1) := by decide +kernel
theorem d_Mo_write_48 : decode b_Mo_write 48 = .ok (.putfield 63, 3) := by decide +kernel
theorem d_Mo_write_51 : decode b_Mo_write 51 = .ok (.iconst 0, 1) := by decide +kernel
theorem d_Mo_write_52 : decode b_Mo_write 52 = .ok (.istore_n 3, 1) := by decide +kernel
theorem d_Mo_write_53 : decode b_Mo_write 53 = .ok (.iload_n 3, 1) := by decide +kernel
theorem d_Mo_write_54 : decode b_Mo_write 54 = .ok (.bipush 16, 2) := by decide +kernel
theorem d_Mo_write_56 : decode b_Mo_write 56 = .ok (.if_icmp .ge 37, 3) := by decide +kernel
theorem d_Mo_write_59 : decode b_Mo_write 59 = .ok (.aload_n 0, 1) := by decide +kernel
theorem d_Mo_write_60 : decode b_Mo_write 60 = .ok (.getfield 7, 3) := by decide +kernel
theorem d_Mo_write_63 : decode b_Mo_write 63 = .ok (.bipush 16, 2) := by decide +kernel
theorem d_Mo_write_65 : decode b_Mo_write 65 = .ok (.iload_n 1, 1) := by decide +kernel
theorem d_Mo_write_66 : decode b_Mo_write 66 = .ok (.imul, 1) := by decide +kernel
theorem d_Mo_write_67 : decode b_Mo_write 67 = .ok (.iload_n 3, 1) := by decide +kernel
theorem d_Mo_write_68 : decode b_Mo_write 68 = .ok (.iadd, 1) := by decide +kernel
theorem d_Mo_write_69 : decode b_Mo_write 69 = .ok (.iload_n 2, 1) := by decide +kernel
theorem d_Mo_write_70 : decode b_Mo_write 70 = .ok (.iconst (-1), 1) := by decide +kernel
theorem d_Mo_write_71 : decode b_Mo_write 71 = .ok (.if_icmp .ne 7, 3) := by decide +kernel
theorem d_Mo_write_74 : decode b_Mo_write 74 = .ok (.iconst 0, 1) := by decide +kernel
theorem d_Mo_write_75 : decode b_Mo_write 75 = .ok (.goto 11, 3) := by decide +kernel
theorem d_Mo_write_78 : decode b_Mo_write 78 = .ok (.aload_n 0, 1) := by decide +kernel
theorem d_Mo_write_79 : decode b_Mo_write 79 = .ok (.getfield 41, 3) := by decide +kernel
theorem d_Mo_write_82 : decode b_Mo_write 82 = .ok (.iload_n 2, 1) := by decide +kernel
theorem d_Mo_write_83 : decode b_Mo_write 83 = .ok (.iload_n 3, 1) := by decide +kernel
theorem d_Mo_write_84 : decode b_Mo_write 84 = .ok (.iadd, 1) := by decide +kernel
theorem d_Mo_write_85 : decode b_Mo_write 85 = .ok (.iaload, 1) := by decide +kernel
theorem d_Mo_write_86 : decode b_Mo_write 86 = .ok (.iastore, 1) := by decide +kernel
theorem d_Mo_write_87 : decode b_Mo_write 87 = .ok (.iinc 3 1, 3) := by decide +kernel
theorem d_Mo_write_90 : decode b_Mo_write 90 = .ok (.goto (-37), 3) := by decide +kernel
theorem d_Mo_write_93 : decode b_Mo_write 93 = .ok (.return_, 1) := by decide +kernel
theorem d_Mo_formatted_0 : decode b_Mo_formatted 0 = .ok (.aload_n 0, 1) := by decide +kernel
theorem d_Mo_formatted_1 : decode b_Mo_formatted 1 = .ok (.getfield 7, 3) := by decide +kernel
theorem d_Mo_formatted_4 : decode b_Mo_formatted 4 = .ok (.iconst 0, 1) := by decide +kernel
theorem d_Mo_formatted_5 : decode b_Mo_formatted 5 = .ok (.iaload, 1) := by decide +kernel
theorem d_Mo_formatted_6 : decode b_Mo_formatted 6 = .ok (.sipush 7077, 3) := by decide +kernel
theorem d_Mo_formatted_9 : decode b_Mo_formatted 9 = .ok (.if_icmp .ne 7, 3) := by decide +kernel
theorem d_Mo_formatted_12 : decode b_Mo_formatted 12 = .ok (.iconst 1, 1) := by decide +kernel
theorem d_Mo_formatted_13 : decode b_Mo_formatted 13 = .ok (.goto 4, 3) := by decide +kernel
theorem d_Mo_formatted_16 : decode b_Mo_formatted 16 = .ok (.iconst 0, 1) := by decide +kernel
theorem d_Mo_formatted_17 : decode b_Mo_formatted 17 = .ok (.ireturn, 1) := by decide +kernel
theorem d_Mo_format_0 : decode b_Mo_format 0 = .ok (.aload_n 0, 1) := by decide +kernel
theorem d_Mo_format_1 : decode b_Mo_format 1 = .ok (.iconst 0, 1) := by decide +kernel
theorem d_Mo_format_2 : decode b_Mo_format 2 = .ok (.putfield 47, 3) := by decide +kernel
theorem d_Mo_format_5 : decode b_Mo_format 5 = .ok (.aload_n 0, 1) := by decide +kernel
theorem d_Mo_format_6 : decode b_Mo_format 6 = .ok (.getfield 56, 3) := by decide +kernel
theorem d_Mo_format_9 : decode b_Mo_format 9 = .ok (.ifCond .eq 6, 3) := by decide +kernel
theorem d_Mo_format_12 : decode b_Mo_format 12 = .ok (.bipush 7, 2) := by decide +kernel
theorem d_Mo_format_14 : decode b_Mo_format 14 = .ok (.ireturn, 1) := by decide +kernel
theorem d_Mo_format_15 : decode b_Mo_format 15 = .ok (.iconst 0, 1) := by decide +kernel
theorem d_Mo_format_16 : decode b_Mo_format 16 = .ok (.istore_n 1, 1) := by decide +kernel
theorem d_Mo_format_17 : decode b_Mo_format 17 = .ok (.iload_n 1, 1) := by decide +kernel
theorem d_Mo_format_18 : decode b_Mo_format 18 = .ok (.bipush 16, 2) := by decide +kernel
theorem d_Mo_format_20 : decode b_Mo_format 20 = .ok (.if_icmp .ge 26, 3) := by decide +kernel
theorem d_Mo_format_23 : decode b_Mo_format 23 = .ok (.aload_n 0, 1) := by decide +kernel
theorem d_Mo_format_24 : decode b_Mo_format 24 = .ok (.getfield 41, 3) := by decide +kernel
theorem d_Mo_format_27 : decode b_Mo_format 27 = .ok (.iload_n 1, 1) := by decide +kernel
theorem d_Mo_format_28 : decode b_Mo_format 28 = .ok (.iload_n 1, 1) := by decide +kernel
theorem d_Mo_format_29 : decode b_Mo_format 29 = .ok (.ifCond .ne 9, 3) := by decide +kernel
theorem d_Mo_format_32 : decode b_Mo_format 32 = .ok (.sipush 7077, 3) := by decide +kernel
theorem d_Mo_format_35 : decode b_Mo_format 35 = .ok (.goto 4, 3) := by decide +kernel
theorem d_Mo_format_38 : decode b_Mo_format 38 = .ok (.iconst 0, 1) := by decide +kernel
theorem d_Mo_format_39 : decode b_Mo_format 39 = .ok (.iastore, 1) := by decide +kernel
theorem d_Mo_format_40 : decode b_Mo_format 40 = .ok (.iinc 1 1, 3) := by decide +kernel
theorem d_Mo_format_43 : decode b_Mo_format 43 = .ok (.goto (-26), 3) := by decide +kernel
theorem d_Mo_format_46 : decode b_Mo_format 46 = .ok (.aload_n 0, 1) := by decide +kernel
theorem d_Mo_format_47 : decode b_Mo_format 47 = .ok (.iconst 2, 1) := by decide +kernel
theorem d_Mo_format_48 : decode b_Mo_format 48 = .ok (.iconst (-1), 1) := by decide +kernel
theorem d_Mo_format_49 : decode b_Mo_format 49 = .ok (.invokevirtual 66, 3) := by decide +kernel
theorem d_Mo_format_52 : decode b_Mo_format 52 = .ok (.aload_n 0, 1) := by decide +kernel
theorem d_Mo_format_53 : decode b_Mo_format 53 = .ok (.iconst 1, 1) := by decide +kernel
theorem d_Mo_format_54 : decode b_Mo_format 54 = .ok (.iconst (-1), 1) := by decide +kernel
theorem d_Mo_format_55 : decode b_Mo_format 55 = .ok (.invokevirtual 66, 3) := by decide +kernel
theorem d_Mo_format_58 : decode b_Mo_format 58 = .ok (.aload_n 0, 1) := by decide +kernel
theorem d_Mo_format_59 : decode b_Mo_format 59 = .ok (.iconst 0, 1) := by decide +kernel
theorem d_Mo_format_60 : decode b_Mo_format 60 = .ok (.iconst 0, 1) := by decide +kernel
theorem d_Mo_format_61 : decode b_Mo_format 61 = .ok (.invokevirtual 66, 3) := by decide +kernel
theorem d_Mo_format_64 : decode b_Mo_format 64 = .ok (.aload_n 0, 1) := by decide +kernel
theorem d_Mo_format_65 : decode b_Mo_format 65 = .ok (.getfield 56, 3) := by decide +kernel
theorem d_Mo_format_68 : decode b_Mo_format 68 = .ok (.ifCond .eq 8, 3) := by decide +kernel
theorem d_Mo_format_71 : decode b_Mo_format 71 = .ok (.bipush 7, 2) := by decide +kernel
theorem d_Mo_format_73 : decode b_Mo_format 73 = .ok (.goto 4, 3) := by decide +kernel
theorem d_Mo_format_76 : decode b_Mo_format 76 = .ok (.iconst 0, 1) := by decide +kernel
theorem d_Mo_format_77 : decode b_Mo_format 77 = .ok (.ireturn, 1) := by decide +kernel
theorem d_Mo_recover_0 : decode b_Mo_recover 0 = .ok (.aload_n 0, 1) := by decide +kernel
theorem d_Mo_recover_1 : decode b_Mo_recover 1 = .ok (.iconst 0, 1) := by decide +kernel
theorem d_Mo_recover_2 : decode b_Mo_recover 2 = .ok (.putfield 47, 3) := by decide +kernel
theorem d_Mo_recover_5 : decode b_Mo_recover 5 = .ok (.aload_n 0, 1) := by decide +kernel
theorem d_Mo_recover_6 : decode b_Mo_recover 6 = .ok (.iconst 0, 1) := by decide +kernel
theorem d_Mo_recover_7 : decode b_Mo_recover 7 = .ok (.putfield 56, 3) := by decide +kernel
theorem d_Mo_recover_10 : decode b_Mo_recover 10 = .ok (.aload_n 0, 1) := by decide +kernel
theorem d_Mo_recover_11 : decode b_Mo_recover 11 = .ok (.invokevirtual 44, 3) := by decide +kernel
theorem d_Mo_recover_14 : decode b_Mo_recover 14 = .ok (.aload_n 0, 1) := by decide +kernel
theorem d_Mo_recover_15 : decode b_Mo_recover 15 = .ok (.invokevirtual 76, 3) := by decide +kernel
theorem d_Mo_recover_18 : decode b_Mo_recover 18 = .ok (.istore_n 1, 1) := by decide +kernel
theorem d_Mo_recover_19 : decode b_Mo_recover 19 = .ok (.iload_n 1, 1) := by decide +kernel
theorem d_Mo_recover_20 : decode b_Mo_recover 20 = .ok (.ifCond .eq 96, 3) := by decide +kernel
theorem d_Mo_recover_23 : decode b_Mo_recover 23 = .ok (.aload_n 0, 1) := by decide +kernel
theorem d_Mo_recover_24 : decode b_Mo_recover 24 = .ok (.getfield 7, 3) := by decide +kernel
theorem d_Mo_recover_27 : decode b_Mo_recover 27 = .ok (.bipush 32, 2) := by decide +kernel
theorem d_Mo_recover_29 : decode b_Mo_recover 29 = .ok (.iaload, 1) := by decide +kernel
theorem d_Mo_recover_30 : decode b_Mo_recover 30 = .ok (.ifCond .eq 86, 3) := by decide +kernel
theorem d_Mo_recover_33 : decode b_Mo_recover 33 = .ok (.aload_n 0, 1) := by decide +kernel
theorem d_Mo_recover_34 : decode b_Mo_recover 34 = .ok (.getfield 7, 3) := by decide +kernel
theorem d_Mo_recover_37 : decode b_Mo_recover 37 = .ok (.bipush 32, 2) := by decide +kernel
theorem d_Mo_recover_39 : decode b_Mo_recover 39 = .ok (.iaload, 1) := by decide +kernel
theorem d_Mo_recover_40 : decode b_Mo_recover 40 = .ok (.istore_n 2, 1) := by decide +kernel
theorem d_Mo_recover_41 : decode b_Mo_recover 41 = .ok (.iconst 0, 1) := by decide +kernel
theorem d_Mo_recover_42 : decode b_Mo_recover 42 = .ok (.istore_n 3, 1) := by decide +kernel
theorem d_Mo_recover_43 : decode b_Mo_recover 43 = .ok (.iload_n 3, 1) := by decide +kernel
theorem d_Mo_recover_44 : decode b_Mo_recover 44 = .ok (.iload_n 2, 1) := by decide +kernel
theorem d_Mo_recover_45 : decode b_Mo_recover 45 = .ok (.if_icmp .ge 65, 3) := by decide +kernel
theorem d_Mo_recover_48 : decode b_Mo_recover 48 = .ok (.aload_n 0, 1) := by decide +kernel
theorem d_Mo_recover_49 : decode b_Mo_recover 49 = .ok (.getfield 7, 3) := by decide +kernel
theorem d_Mo_recover_52 : decode b_Mo_recover 52 = .ok (.bipush 33, 2) := by decide +kernel
theorem d_Mo_recover_54 : decode b_Mo_recover 54 = .ok (.iload_n 3, 1) := by decide +kernel
theorem d_Mo_recover_55 : decode b_Mo_recover 55 = .ok (.iadd, 1) := by decide +kernel
theorem d_Mo_recover_56 : decode b_Mo_recover 56 = .ok (.iaload, 1) := by decide +kernel
theorem d_Mo_recover_57 : decode b_Mo_recover 57 = .ok (.istore 4, 2) := by decide +kernel
theorem d_Mo_recover_59 : decode b_Mo_recover 59 = .ok (.iconst 0, 1) := by decide +kernel
theorem d_Mo_recover_60 : decode b_Mo_recover 60 = .ok (.istore 5, 2) := by decide +kernel
theorem d_Mo_recover_62 : decode b_Mo_recover 62 = .ok (.iload 5, 2) := by decide +kernel
theorem d_Mo_recover_64 : decode b_Mo_recover 64 = .ok (.bipush 16, 2) := by decide +kernel
theorem d_Mo_recover_66 : decode b_Mo_recover 66 = .ok (.if_icmp .ge 31, 3) := by decide +kernel
theorem d_Mo_recover_69 : decode b_Mo_recover 69 = .ok (.aload_n 0, 1) := by decide +kernel
theorem d_Mo_recover_70 : decode b_Mo_recover 70 = .ok (.getfield 41, 3) := by decide +kernel
theorem d_Mo_recover_73 : decode b_Mo_recover 73 = .ok (.iload 5, 2) := by decide +kernel
theorem d_Mo_recover_75 : decode b_Mo_recover 75 = .ok (.aload_n 0, 1) := by decide +kernel
theorem d_Mo_recover_76 : decode b_Mo_recover 76 = .ok (.getfield 7, 3) := by decide +kernel
theorem d_Mo_recover_79 : decode b_Mo_recover 79 = .ok (.bipush 48, 2) := by decide +kernel
theorem d_Mo_recover_81 : decode b_Mo_recover 81 = .ok (.bipush 16, 2) := by decide +kernel
theorem d_Mo_recover_83 : decode b_Mo_recover 83 = .ok (.iload_n 3, 1) := by decide +kernel
theorem d_Mo_recover_84 : decode b_Mo_recover 84 = .ok (.imul, 1) := by decide +kernel
theorem d_Mo_recover_85 : decode b_Mo_recover 85 = .ok (.iadd, 1) := by decide +kernel
theorem d_Mo_recover_86 : decode b_Mo_recover 86 = .ok (.iload 5, 2) := by decide +kernel
theorem d_Mo_recover_88 : decode b_Mo_recover 88 = .ok (.iadd, 1) := by decide +kernel
theorem d_Mo_recover_89 : decode b_Mo_recover 89 = .ok (.iaload, 1) := by decide +kernel
theorem d_Mo_recover_90 : decode b_Mo_recover 90 = .ok (.iastore, 1) := by decide +kernel
theorem d_Mo_recover_91 : decode b_Mo_recover 91 = .ok (.iinc 5 1, 3) := by decide +kernel
theorem d_Mo_recover_94 : decode b_Mo_recover 94 = .ok (.goto (-32), 3) := by decide +kernel
theorem d_Mo_recover_97 : decode b_Mo_recover 97 = .ok (.aload_n 0, 1) := by decide +kernel
theorem d_Mo_recover_98 : decode b_Mo_recover 98 = .ok (.iload 4, 2) := by decide +kernel
theorem d_Mo_recover_100 : decode b_Mo_recover 100 = .ok (.iconst 0, 1) := by decide +kernel
theorem d_Mo_recover_101 : decode b_Mo_recover 101 = .ok (.invokevirtual 66, 3) := by decide +kernel
theorem d_Mo_recover_104 : decode b_Mo_recover 104 = .ok (.iinc 3 1, 3) := by decide +kernel
theorem d_Mo_recover_107 : decode b_Mo_recover 107 = .ok (.goto (-64), 3) := by decide +kernel
theorem d_Mo_recover_110 : decode b_Mo_recover 110 = .ok (.aload_n 0, 1) := by decide +kernel
theorem d_Mo_recover_111 : decode b_Mo_recover 111 = .ok (.iconst 2, 1) := by decide +kernel
theorem d_Mo_recover_112 : decode b_Mo_recover 112 = .ok (.iconst (-1), 1) := by decide +kernel
theorem d_Mo_recover_113 : decode b_Mo_recover 113 = .ok (.invokevirtual 66, 3) := by decide +kernel
theorem d_Mo_recover_116 : decode b_Mo_recover 116 = .ok (.aload_n 0, 1) := by decide +kernel
theorem d_Mo_recover_117 : decode b_Mo_recover 117 = .ok (.iconst (-1), 1) := by decide +kernel
theorem d_Mo_recover_118 : decode b_Mo_recover 118 = .ok (.putfield 13, 3) := by decide +kernel
theorem d_Mo_recover_121 : decode b_Mo_recover 121 = .ok (.aload_n 0, 1) := by decide +kernel
theorem d_Mo_recover_122 : decode b_Mo_recover 122 = .ok (.getfield 56, 3) := by decide +kernel
theorem d_Mo_recover_125 : decode b_Mo_recover 125 = .ok (.ifCond .eq 8, 3) := by decide +kernel
theorem d_Mo_recover_128 : decode b_Mo_recover 128 = .ok (.bipush 7, 2) := by decide +kernel
theorem d_Mo_recover_130 : decode b_Mo_recover 130 = .ok (.goto 13, 3) := by decide +kernel
theorem d_Mo_recover_133 : decode b_Mo_recover 133 = .ok (.iload_n 1, 1) := by decide +kernel
theorem d_Mo_recover_134 : decode b_Mo_recover 134 = .ok (.ifCond .eq 7, 3) := by decide +kernel
theorem d_Mo_recover_137 : decode b_Mo_recover 137 = .ok (.iconst 0, 1) := by decide +kernel
theorem d_Mo_recover_138 : decode b_Mo_recover 138 = .ok (.goto 5, 3) := by decide +kernel
theorem d_Mo_recover_141 : decode b_Mo_recover 141 = .ok (.bipush 8, 2) := by decide +kernel
theorem d_Mo_recover_143 : decode b_Mo_recover 143 = .ok (.ireturn, 1) := by decide +kernel
end
section
theorem d_Mo_sizeOf_0 : decode b_Mo_sizeOf 0 = .ok (.aload_n 0, 1) := by decide +kernel
theorem d_Mo_sizeOf_1 : decode b_Mo_sizeOf 1 = .ok (.getfield 7, 3) := by decide +kernel
theorem d_Mo_sizeOf_4 : decode b_Mo_sizeOf 4 = .ok (.bipush 16, 2) := by decide +kernel
theorem d_Mo_sizeOf_6 : decode b_Mo_sizeOf 6 = .ok (.iconst 2, 1) := by decide +kernel
theorem d_Mo_sizeOf_7 : decode b_Mo_sizeOf 7 = .ok (.iload_n 1, 1) := by decide +kernel
theorem d_Mo_sizeOf_8 : decode b_Mo_sizeOf 8 = .ok (.imul, 1) := by decide +kernel
theorem d_Mo_sizeOf_9 : decode b_Mo_sizeOf 9 = .ok (.iadd, 1) := by decide +kernel
theorem d_Mo_sizeOf_10 : decode b_Mo_sizeOf 10 = .ok (.iaload, 1) := by decide +kernel
theorem d_Mo_sizeOf_11 : decode b_Mo_sizeOf 11 = .ok (.ireturn, 1) := by decide +kernel
theorem d_Mo_lines_0 : decode b_Mo_lines 0 = .ok (.iconst 0, 1) := by decide +kernel
theorem d_Mo_lines_1 : decode b_Mo_lines 1 = .ok (.istore_n 1, 1) := by decide +kernel
theorem d_Mo_lines_2 : decode b_Mo_lines 2 = .ok (.iconst 1, 1) := by decide +kernel
theorem d_Mo_lines_3 : decode b_Mo_lines 3 = .ok (.istore_n 2, 1) := by decide +kernel
theorem d_Mo_lines_4 : decode b_Mo_lines 4 = .ok (.iload_n 2, 1) := by decide +kernel
theorem d_Mo_lines_5 : decode b_Mo_lines 5 = .ok (.bipush 100, 2) := by decide +kernel
theorem d_Mo_lines_7 : decode b_Mo_lines 7 = .ok (.if_icmp .ge 27, 3) := by decide +kernel
theorem d_Mo_lines_10 : decode b_Mo_lines 10 = .ok (.iload_n 1, 1) := by decide +kernel
theorem d_Mo_lines_11 : decode b_Mo_lines 11 = .ok (.aload_n 0, 1) := by decide +kernel
theorem d_Mo_lines_12 : decode b_Mo_lines 12 = .ok (.getfield 17, 3) := by decide +kernel
theorem d_Mo_lines_15 : decode b_Mo_lines 15 = .ok (.iload_n 2, 1) := by decide +kernel
theorem d_Mo_lines_16 : decode b_Mo_lines 16 = .ok (.iaload, 1) := by decide +kernel
theorem d_Mo_lines_17 : decode b_Mo_lines 17 = .ok (.iconst (-1), 1) := by decide +kernel
theorem d_Mo_lines_18 : decode b_Mo_lines 18 = .ok (.if_icmp .eq 7, 3) := by decide +kernel
theorem d_Mo_lines_21 : decode b_Mo_lines 21 = .ok (.iconst 1, 1) := by decide +kernel
theorem d_Mo_lines_22 : decode b_Mo_lines 22 = .ok (.goto 4, 3) := by decide +kernel
theorem d_Mo_lines_25 : decode b_Mo_lines 25 = .ok (.iconst 0, 1) := by decide +kernel
theorem d_Mo_lines_26 : decode b_Mo_lines 26 = .ok (.iadd, 1) := by decide +kernel
theorem d_Mo_lines_27 : decode b_Mo_lines 27 = .ok (.istore_n 1, 1) := by decide +kernel
theorem d_Mo_lines_28 : decode b_Mo_lines 28 = .ok (.iinc 2 1, 3) := by decide +kernel
theorem d_Mo_lines_31 : decode b_Mo_lines 31 = .ok (.goto (-27), 3) := by decide +kernel
theorem d_Mo_lines_34 : decode b_Mo_lines 34 = .ok (.iload_n 1, 1) := by decide +kernel
theorem d_Mo_lines_35 : decode b_Mo_lines 35 = .ok (.ireturn, 1) := by decide +kernel
theorem d_Mo_nextLine_0 : decode b_Mo_nextLine 0 = .ok (.aload_n 0, 1) := by decide +kernel
theorem d_Mo_nextLine_1 : decode b_Mo_nextLine 1 = .ok (.getfield 50, 3) := by decide +kernel
theorem d_Mo_nextLine_4 : decode b_Mo_nextLine 4 = .ok (.iconst 1, 1) := by decide +kernel
theorem d_Mo_nextLine_5 : decode b_Mo_nextLine 5 = .ok (.if_icmp .ge 7, 3) := by decide +kernel
theorem d_Mo_nextLine_8 : decode b_Mo_nextLine 8 = .ok (.iconst 1, 1) := by decide +kernel
theorem d_Mo_nextLine_9 : decode b_Mo_nextLine 9 = .ok (.goto 7, 3) := by decide +kernel
theorem d_Mo_nextLine_12 : decode b_Mo_nextLine 12 = .ok (.aload_n 0, 1) := by decide +kernel
theorem d_Mo_nextLine_13 : decode b_Mo_nextLine 13 = .ok (.getfield 50, 3) := by decide +kernel
theorem d_Mo_nextLine_16 : decode b_Mo_nextLine 16 = .ok (.istore_n 1, 1) := by decide +kernel
theorem d_Mo_nextLine_17 : decode b_Mo_nextLine 17 = .ok (.iload_n 1, 1) := by decide +kernel
theorem d_Mo_nextLine_18 : decode b_Mo_nextLine 18 = .ok (.bipush 100, 2) := by decide +kernel
theorem d_Mo_nextLine_20 : decode b_Mo_nextLine 20 = .ok (.if_icmp .ge 21, 3) := by decide +kernel
theorem d_Mo_nextLine_23 : decode b_Mo_nextLine 23 = .ok (.aload_n 0, 1) := by decide +kernel
theorem d_Mo_nextLine_24 : decode b_Mo_nextLine 24 = .ok (.getfield 17, 3) := by decide +kernel
theorem d_Mo_nextLine_27 : decode b_Mo_nextLine 27 = .ok (.iload_n 1, 1) := by decide +kernel
theorem d_Mo_nextLine_28 : decode b_Mo_nextLine 28 = .ok (.iaload, 1) := by decide +kernel
theorem d_Mo_nextLine_29 : decode b_Mo_nextLine 29 = .ok (.iconst (-1), 1) := by decide +kernel
theorem d_Mo_nextLine_30 : decode b_Mo_nextLine 30 = .ok (.if_icmp .eq 5, 3) := by decide +kernel
theorem d_Mo_nextLine_33 : decode b_Mo_nextLine 33 = .ok (.iload_n 1, 1) := by decide +kernel
theorem d_Mo_nextLine_34 : decode b_Mo_nextLine 34 = .ok (.ireturn, 1) := by decide +kernel
theorem d_Mo_nextLine_35 : decode b_Mo_nextLine 35 = .ok (.iinc 1 1, 3) := by decide +kernel
theorem d_Mo_nextLine_38 : decode b_Mo_nextLine 38 = .ok (.goto (-21), 3) := by decide +kernel
theorem d_Mo_nextLine_41 : decode b_Mo_nextLine 41 = .ok (.iconst (-1), 1) := by decide +kernel
theorem d_Mo_nextLine_42 : decode b_Mo_nextLine 42 = .ok (.ireturn, 1) := by decide +kernel
theorem d_Mo_step_0 : decode b_Mo_step 0 = .ok (.aload_n 0, 1) := by decide +kernel
theorem d_Mo_step_1 : decode b_Mo_step 1 = .ok (.iconst 0, 1) := by decide +kernel
theorem d_Mo_step_2 : decode b_Mo_step 2 = .ok (.putfield 47, 3) := by decide +kernel
theorem d_Mo_step_5 : decode b_Mo_step 5 = .ok (.aload_n 0, 1) := by decide +kernel
theorem d_Mo_step_6 : decode b_Mo_step 6 = .ok (.getfield 56, 3) := by decide +kernel
theorem d_Mo_step_9 : decode b_Mo_step 9 = .ok (.ifCond .eq 6, 3) := by decide +kernel
theorem d_Mo_step_12 : decode b_Mo_step 12 = .ok (.bipush 7, 2) := by decide +kernel
theorem d_Mo_step_14 : decode b_Mo_step 14 = .ok (.ireturn, 1) := by decide +kernel
theorem d_Mo_step_15 : decode b_Mo_step 15 = .ok (.iload_n 1, 1) := by decide +kernel
theorem d_Mo_step_16 : decode b_Mo_step 16 = .ok (.iconst 1, 1) := by decide +kernel
theorem d_Mo_step_17 : decode b_Mo_step 17 = .ok (.if_icmp .ge 7, 3) := by decide +kernel
theorem d_Mo_step_20 : decode b_Mo_step 20 = .ok (.iconst 1, 1) := by decide +kernel
theorem d_Mo_step_21 : decode b_Mo_step 21 = .ok (.goto 15, 3) := by decide +kernel
theorem d_Mo_step_24 : decode b_Mo_step 24 = .ok (.iload_n 1, 1) := by decide +kernel
theorem d_Mo_step_25 : decode b_Mo_step 25 = .ok (.bipush 50, 2) := by decide +kernel
theorem d_Mo_step_27 : decode b_Mo_step 27 = .ok (.if_icmp .le 8, 3) := by decide +kernel
theorem d_Mo_step_30 : decode b_Mo_step 30 = .ok (.bipush 50, 2) := by decide +kernel
theorem d_Mo_step_32 : decode b_Mo_step 32 = .ok (.goto 4, 3) := by decide +kernel
theorem d_Mo_step_35 : decode b_Mo_step 35 = .ok (.iload_n 1, 1) := by decide +kernel
theorem d_Mo_step_36 : decode b_Mo_step 36 = .ok (.istore_n 2, 1) := by decide +kernel
theorem d_Mo_step_37 : decode b_Mo_step 37 = .ok (.iconst 0, 1) := by decide +kernel
theorem d_Mo_step_38 : decode b_Mo_step 38 = .ok (.istore_n 3, 1) := by decide +kernel
theorem d_Mo_step_39 : decode b_Mo_step 39 = .ok (.iload_n 3, 1) := by decide +kernel
theorem d_Mo_step_40 : decode b_Mo_step 40 = .ok (.iload_n 2, 1) := by decide +kernel
theorem d_Mo_step_41 : decode b_Mo_step 41 = .ok (.if_icmp .ge 72, 3) := by decide +kernel
theorem d_Mo_step_44 : decode b_Mo_step 44 = .ok (.aload_n 0, 1) := by decide +kernel
theorem d_Mo_step_45 : decode b_Mo_step 45 = .ok (.invokevirtual 178, 3) := by decide +kernel
theorem d_Mo_step_48 : decode b_Mo_step 48 = .ok (.istore 4, 2) := by decide +kernel
theorem d_Mo_step_50 : decode b_Mo_step 50 = .ok (.iload 4, 2) := by decide +kernel
theorem d_Mo_step_52 : decode b_Mo_step 52 = .ok (.iconst (-1), 1) := by decide +kernel
theorem d_Mo_step_53 : decode b_Mo_step 53 = .ok (.if_icmp .ne 10, 3) := by decide +kernel
theorem d_Mo_step_56 : decode b_Mo_step 56 = .ok (.aload_n 0, 1) := by decide +kernel
theorem d_Mo_step_57 : decode b_Mo_step 57 = .ok (.iconst 0, 1) := by decide +kernel
theorem d_Mo_step_58 : decode b_Mo_step 58 = .ok (.putfield 50, 3) := by decide +kernel
theorem d_Mo_step_61 : decode b_Mo_step 61 = .ok (.iconst 0, 1) := by decide +kernel
theorem d_Mo_step_62 : decode b_Mo_step 62 = .ok (.ireturn, 1) := by decide +kernel
theorem d_Mo_step_63 : decode b_Mo_step 63 = .ok (.aload_n 0, 1) := by decide +kernel
theorem d_Mo_step_64 : decode b_Mo_step 64 = .ok (.iconst 1, 1) := by decide +kernel
theorem d_Mo_step_65 : decode b_Mo_step 65 = .ok (.bipush 12, 2) := by decide +kernel
theorem d_Mo_step_67 : decode b_Mo_step 67 = .ok (.iload 4, 2) := by decide +kernel
theorem d_Mo_step_69 : decode b_Mo_step 69 = .ok (.imul, 1) := by decide +kernel
theorem d_Mo_step_70 : decode b_Mo_step 70 = .ok (.aload_n 0, 1) := by decide +kernel
theorem d_Mo_step_71 : decode b_Mo_step 71 = .ok (.getfield 17, 3) := by decide +kernel
theorem d_Mo_step_74 : decode b_Mo_step 74 = .ok (.iload 4, 2) := by decide +kernel
theorem d_Mo_step_76 : decode b_Mo_step 76 = .ok (.iaload, 1) := by decide +kernel
theorem d_Mo_step_77 : decode b_Mo_step 77 = .ok (.invokevirtual 181, 3) := by decide +kernel
theorem d_Mo_step_80 : decode b_Mo_step 80 = .ok (.aload_n 0, 1) := by decide +kernel
theorem d_Mo_step_81 : decode b_Mo_step 81 = .ok (.iconst 1, 1) := by decide +kernel
theorem d_Mo_step_82 : decode b_Mo_step 82 = .ok (.iload 4, 2) := by decide +kernel
theorem d_Mo_step_84 : decode b_Mo_step 84 = .ok (.invokevirtual 185, 3) := by decide +kernel
theorem d_Mo_step_87 : decode b_Mo_step 87 = .ok (.istore 5, 2) := by decide +kernel
theorem d_Mo_step_89 : decode b_Mo_step 89 = .ok (.iload 5, 2) := by decide +kernel
theorem d_Mo_step_91 : decode b_Mo_step 91 = .ok (.ifCond .eq 16, 3) := by decide +kernel
theorem d_Mo_step_94 : decode b_Mo_step 94 = .ok (.iload 5, 2) := by decide +kernel
theorem d_Mo_step_96 : decode b_Mo_step 96 = .ok (.iconst (-1), 1) := by decide +kernel
theorem d_Mo_step_97 : decode b_Mo_step 97 = .ok (.if_icmp .ne 7, 3) := by decide +kernel
theorem d_Mo_step_100 : decode b_Mo_step 100 = .ok (.iconst 0, 1) := by decide +kernel
theorem d_Mo_step_101 : decode b_Mo_step 101 = .ok (.goto 5, 3) := by decide +kernel
theorem d_Mo_step_104 : decode b_Mo_step 104 = .ok (.iload 5, 2) := by decide +kernel
theorem d_Mo_step_106 : decode b_Mo_step 106 = .ok (.ireturn, 1) := by decide +kernel
theorem d_Mo_step_107 : decode b_Mo_step 107 = .ok (.iinc 3 1, 3) := by decide +kernel
theorem d_Mo_step_110 : decode b_Mo_step 110 = .ok (.goto (-71), 3) := by decide +kernel
theorem d_Mo_step_113 : decode b_Mo_step 113 = .ok (.bipush 6, 2) := by decide +kernel
theorem d_Mo_step_115 : decode b_Mo_step 115 = .ok (.ireturn, 1) := by decide +kernel
theorem d_Mo_feed_0 : decode b_Mo_feed 0 = .ok (.aload_n 0, 1) := by decide +kernel
theorem d_Mo_feed_1 : decode b_Mo_feed 1 = .ok (.iconst 0, 1) := by decide +kernel
theorem d_Mo_feed_2 : decode b_Mo_feed 2 = .ok (.putfield 47, 3) := by decide +kernel
theorem d_Mo_feed_5 : decode b_Mo_feed 5 = .ok (.aload_n 0, 1) := by decide +kernel
theorem d_Mo_feed_6 : decode b_Mo_feed 6 = .ok (.getfield 56, 3) := by decide +kernel
theorem d_Mo_feed_9 : decode b_Mo_feed 9 = .ok (.ifCond .eq 6, 3) := by decide +kernel
theorem d_Mo_feed_12 : decode b_Mo_feed 12 = .ok (.bipush 7, 2) := by decide +kernel
theorem d_Mo_feed_14 : decode b_Mo_feed 14 = .ok (.ireturn, 1) := by decide +kernel
theorem d_Mo_feed_15 : decode b_Mo_feed 15 = .ok (.iload_n 1, 1) := by decide +kernel
theorem d_Mo_feed_16 : decode b_Mo_feed 16 = .ok (.bipush 10, 2) := by decide +kernel
theorem d_Mo_feed_18 : decode b_Mo_feed 18 = .ok (.if_icmp .eq 34, 3) := by decide +kernel
theorem d_Mo_feed_21 : decode b_Mo_feed 21 = .ok (.aload_n 0, 1) := by decide +kernel
theorem d_Mo_feed_22 : decode b_Mo_feed 22 = .ok (.getfield 53, 3) := by decide +kernel
theorem d_Mo_feed_25 : decode b_Mo_feed 25 = .ok (.bipush 15, 2) := by decide +kernel
theorem d_Mo_feed_27 : decode b_Mo_feed 27 = .ok (.if_icmp .ge 23, 3) := by decide +kernel
theorem d_Mo_feed_30 : decode b_Mo_feed 30 = .ok (.aload_n 0, 1) := by decide +kernel
theorem d_Mo_feed_31 : decode b_Mo_feed 31 = .ok (.getfield 29, 3) := by decide +kernel
theorem d_Mo_feed_34 : decode b_Mo_feed 34 = .ok (.aload_n 0, 1) := by decide +kernel
theorem d_Mo_feed_35 : decode b_Mo_feed 35 = .ok (.getfield 53, 3) := by decide +kernel
theorem d_Mo_feed_38 : decode b_Mo_feed 38 = .ok (.iload_n 1, 1) := by decide +kernel
theorem d_Mo_feed_39 : decode b_Mo_feed 39 = .ok (.iastore, 1) := by decide +kernel
theorem d_Mo_feed_40 : decode b_Mo_feed 40 = .ok (.aload_n 0, 1) := by decide +kernel
theorem d_Mo_feed_41 : decode b_Mo_feed 41 = .ok (.dup, 1) := by decide +kernel
theorem d_Mo_feed_42 : decode b_Mo_feed 42 = .ok (.getfield 53, 3) := by decide +kernel
theorem d_Mo_feed_45 : decode b_Mo_feed 45 = .ok (.iconst 1, 1) := by decide +kernel
theorem d_Mo_feed_46 : decode b_Mo_feed 46 = .ok (.iadd, 1) := by decide +kernel
theorem d_Mo_feed_47 : decode b_Mo_feed 47 = .ok (.putfield 53, 3) := by decide +kernel
theorem d_Mo_feed_50 : decode b_Mo_feed 50 = .ok (.iconst 0, 1) := by decide +kernel
theorem d_Mo_feed_51 : decode b_Mo_feed 51 = .ok (.ireturn, 1) := by decide +kernel
theorem d_Mo_feed_52 : decode b_Mo_feed 52 = .ok (.aload_n 0, 1) := by decide +kernel
theorem d_Mo_feed_53 : decode b_Mo_feed 53 = .ok (.getfield 53, 3) := by decide +kernel
theorem d_Mo_feed_56 : decode b_Mo_feed 56 = .ok (.ifCond .ne 7, 3) := by decide +kernel
theorem d_Mo_feed_59 : decode b_Mo_feed 59 = .ok (.iconst 0, 1) := by decide +kernel
theorem d_Mo_feed_60 : decode b_Mo_feed 60 = .ok (.goto 26, 3) := by decide +kernel
theorem d_Mo_feed_63 : decode b_Mo_feed 63 = .ok (.aload_n 0, 1) := by decide +kernel
theorem d_Mo_feed_64 : decode b_Mo_feed 64 = .ok (.getfield 29, 3) := by decide +kernel
theorem d_Mo_feed_67 : decode b_Mo_feed 67 = .ok (.iconst 0, 1) := by decide +kernel
theorem d_Mo_feed_68 : decode b_Mo_feed 68 = .ok (.iaload, 1) := by decide +kernel
theorem d_Mo_feed_69 : decode b_Mo_feed 69 = .ok (.invokestatic 134, 3) := by decide +kernel
theorem d_Mo_feed_72 : decode b_Mo_feed 72 = .ok (.ifCond .eq 10, 3) := by decide +kernel
theorem d_Mo_feed_75 : decode b_Mo_feed 75 = .ok (.aload_n 0, 1) := by decide +kernel
theorem d_Mo_feed_76 : decode b_Mo_feed 76 = .ok (.invokevirtual 198, 3) := by decide +kernel
theorem d_Mo_feed_79 : decode b_Mo_feed 79 = .ok (.goto 7, 3) := by decide +kernel
theorem d_Mo_feed_82 : decode b_Mo_feed 82 = .ok (.aload_n 0, 1) := by decide +kernel
theorem d_Mo_feed_83 : decode b_Mo_feed 83 = .ok (.invokevirtual 201, 3) := by decide +kernel
theorem d_Mo_feed_86 : decode b_Mo_feed 86 = .ok (.istore_n 2, 1) := by decide +kernel
theorem d_Mo_feed_87 : decode b_Mo_feed 87 = .ok (.aload_n 0, 1) := by decide +kernel
theorem d_Mo_feed_88 : decode b_Mo_feed 88 = .ok (.iconst 0, 1) := by decide +kernel
theorem d_Mo_feed_89 : decode b_Mo_feed 89 = .ok (.putfield 53, 3) := by decide +kernel
theorem d_Mo_feed_92 : decode b_Mo_feed 92 = .ok (.iload_n 2, 1) := by decide +kernel
theorem d_Mo_feed_93 : decode b_Mo_feed 93 = .ok (.ireturn, 1) := by decide +kernel
theorem d_Mo_arm_0 : decode b_Mo_arm 0 = .ok (.aload_n 0, 1) := by decide +kernel
theorem d_Mo_arm_1 : decode b_Mo_arm 1 = .ok (.iload_n 1, 1) := by decide +kernel
theorem d_Mo_arm_2 : decode b_Mo_arm 2 = .ok (.ifCond .lt 10, 3) := by decide +kernel
theorem d_Mo_arm_5 : decode b_Mo_arm 5 = .ok (.iload_n 1, 1) := by decide +kernel
theorem d_Mo_arm_6 : decode b_Mo_arm 6 = .ok (.sipush 1000, 3) := by decide +kernel
theorem d_Mo_arm_9 : decode b_Mo_arm 9 = .ok (.if_icmp .le 7, 3) := by decide +kernel
theorem d_Mo_arm_12 : decode b_Mo_arm 12 = .ok (.iconst 1, 1) := by decide +kernel
theorem d_Mo_arm_13 : decode b_Mo_arm 13 = .ok (.goto 4, 3) := by decide +kernel
theorem d_Mo_arm_16 : decode b_Mo_arm 16 = .ok (.iconst 0, 1) := by decide +kernel
theorem d_Mo_arm_17 : decode b_Mo_arm 17 = .ok (.putfield 47, 3) := by decide +kernel
theorem d_Mo_arm_20 : decode b_Mo_arm 20 = .ok (.aload_n 0, 1) := by decide +kernel
theorem d_Mo_arm_21 : decode b_Mo_arm 21 = .ok (.getfield 47, 3) := by decide +kernel
theorem d_Mo_arm_24 : decode b_Mo_arm 24 = .ok (.ifCond .le 5, 3) := by decide +kernel
theorem d_Mo_arm_27 : decode b_Mo_arm 27 = .ok (.iconst 0, 1) := by decide +kernel
theorem d_Mo_arm_28 : decode b_Mo_arm 28 = .ok (.ireturn, 1) := by decide +kernel
theorem d_Mo_arm_29 : decode b_Mo_arm 29 = .ok (.aload_n 0, 1) := by decide +kernel
theorem d_Mo_arm_30 : decode b_Mo_arm 30 = .ok (.iload_n 1, 1) := by decide +kernel
theorem d_Mo_arm_31 : decode b_Mo_arm 31 = .ok (.putfield 13, 3) := by decide +kernel
theorem d_Mo_arm_34 : decode b_Mo_arm 34 = .ok (.iconst 1, 1) := by decide +kernel
theorem d_Mo_arm_35 : decode b_Mo_arm 35 = .ok (.ireturn, 1) := by decide +kernel
theorem d_Mo_out_0 : decode b_Mo_out 0 = .ok (.aload_n 0, 1) := by decide +kernel
theorem d_Mo_out_1 : decode b_Mo_out 1 = .ok (.iload_n 1, 1) := by decide +kernel
theorem d_Mo_out_2 : decode b_Mo_out 2 = .ok (.ifCond .lt 17, 3) := by decide +kernel
theorem d_Mo_out_5 : decode b_Mo_out 5 = .ok (.iload_n 1, 1) := by decide +kernel
theorem d_Mo_out_6 : decode b_Mo_out 6 = .ok (.aload_n 0, 1) := by decide +kernel
theorem d_Mo_out_7 : decode b_Mo_out 7 = .ok (.getfield 109, 3) := by decide +kernel
theorem d_Mo_out_10 : decode b_Mo_out 10 = .ok (.if_icmp .ge 9, 3) := by decide +kernel
theorem d_Mo_out_13 : decode b_Mo_out 13 = .ok (.iload_n 1, 1) := by decide +kernel
theorem d_Mo_out_14 : decode b_Mo_out 14 = .ok (.bipush 60, 2) := by decide +kernel
theorem d_Mo_out_16 : decode b_Mo_out 16 = .ok (.if_icmp .lt 7, 3) := by decide +kernel
theorem d_Mo_out_19 : decode b_Mo_out 19 = .ok (.iconst 1, 1) := by decide +kernel
theorem d_Mo_out_20 : decode b_Mo_out 20 = .ok (.goto 4, 3) := by decide +kernel
theorem d_Mo_out_23 : decode b_Mo_out 23 = .ok (.iconst 0, 1) := by decide +kernel
theorem d_Mo_out_24 : decode b_Mo_out 24 = .ok (.putfield 47, 3) := by decide +kernel
theorem d_Mo_out_27 : decode b_Mo_out 27 = .ok (.aload_n 0, 1) := by decide +kernel
theorem d_Mo_out_28 : decode b_Mo_out 28 = .ok (.getfield 47, 3) := by decide +kernel
theorem d_Mo_out_31 : decode b_Mo_out 31 = .ok (.ifCond .le 7, 3) := by decide +kernel
theorem d_Mo_out_34 : decode b_Mo_out 34 = .ok (.iconst 0, 1) := by decide +kernel
theorem d_Mo_out_35 : decode b_Mo_out 35 = .ok (.goto 9, 3) := by decide +kernel
theorem d_Mo_out_38 : decode b_Mo_out 38 = .ok (.aload_n 0, 1) := by decide +kernel
theorem d_Mo_out_39 : decode b_Mo_out 39 = .ok (.getfield 26, 3) := by decide +kernel
theorem d_Mo_out_42 : decode b_Mo_out 42 = .ok (.iload_n 1, 1) := by decide +kernel
theorem d_Mo_out_43 : decode b_Mo_out 43 = .ok (.iaload, 1) := by decide +kernel
theorem d_Mo_out_44 : decode b_Mo_out 44 = .ok (.ireturn, 1) := by decide +kernel
theorem d_Mo_outs_0 : decode b_Mo_outs 0 = .ok (.aload_n 0, 1) := by decide +kernel
theorem d_Mo_outs_1 : decode b_Mo_outs 1 = .ok (.iconst 0, 1) := by decide +kernel
theorem d_Mo_outs_2 : decode b_Mo_outs 2 = .ok (.putfield 47, 3) := by decide +kernel
theorem d_Mo_outs_5 : decode b_Mo_outs 5 = .ok (.aload_n 0, 1) := by decide +kernel
theorem d_Mo_outs_6 : decode b_Mo_outs 6 = .ok (.getfield 109, 3) := by decide +kernel
theorem d_Mo_outs_9 : decode b_Mo_outs 9 = .ok (.ireturn, 1) := by decide +kernel
theorem d_Mo_disk_0 : decode b_Mo_disk 0 = .ok (.aload_n 0, 1) := by decide +kernel
theorem d_Mo_disk_1 : decode b_Mo_disk 1 = .ok (.iload_n 1, 1) := by decide +kernel
theorem d_Mo_disk_2 : decode b_Mo_disk 2 = .ok (.ifCond .lt 10, 3) := by decide +kernel
theorem d_Mo_disk_5 : decode b_Mo_disk 5 = .ok (.iload_n 1, 1) := by decide +kernel
theorem d_Mo_disk_6 : decode b_Mo_disk 6 = .ok (.sipush 511, 3) := by decide +kernel
theorem d_Mo_disk_9 : decode b_Mo_disk 9 = .ok (.if_icmp .le 7, 3) := by decide +kernel
theorem d_Mo_disk_12 : decode b_Mo_disk 12 = .ok (.iconst 1, 1) := by decide +kernel
theorem d_Mo_disk_13 : decode b_Mo_disk 13 = .ok (.goto 4, 3) := by decide +kernel
theorem d_Mo_disk_16 : decode b_Mo_disk 16 = .ok (.iconst 0, 1) := by decide +kernel
theorem d_Mo_disk_17 : decode b_Mo_disk 17 = .ok (.putfield 47, 3) := by decide +kernel
theorem d_Mo_disk_20 : decode b_Mo_disk 20 = .ok (.aload_n 0, 1) := by decide +kernel
theorem d_Mo_disk_21 : decode b_Mo_disk 21 = .ok (.getfield 47, 3) := by decide +kernel
theorem d_Mo_disk_24 : decode b_Mo_disk 24 = .ok (.ifCond .le 7, 3) := by decide +kernel
theorem d_Mo_disk_27 : decode b_Mo_disk 27 = .ok (.iconst 0, 1) := by decide +kernel
theorem d_Mo_disk_28 : decode b_Mo_disk 28 = .ok (.goto 9, 3) := by decide +kernel
theorem d_Mo_disk_31 : decode b_Mo_disk 31 = .ok (.aload_n 0, 1) := by decide +kernel
theorem d_Mo_disk_32 : decode b_Mo_disk 32 = .ok (.getfield 7, 3) := by decide +kernel
theorem d_Mo_disk_35 : decode b_Mo_disk 35 = .ok (.iload_n 1, 1) := by decide +kernel
theorem d_Mo_disk_36 : decode b_Mo_disk 36 = .ok (.iaload, 1) := by decide +kernel
theorem d_Mo_disk_37 : decode b_Mo_disk 37 = .ok (.ireturn, 1) := by decide +kernel
theorem d_Mo_files_0 : decode b_Mo_files 0 = .ok (.aload_n 0, 1) := by decide +kernel
theorem d_Mo_files_1 : decode b_Mo_files 1 = .ok (.iconst 0, 1) := by decide +kernel
theorem d_Mo_files_2 : decode b_Mo_files 2 = .ok (.putfield 47, 3) := by decide +kernel
theorem d_Mo_files_5 : decode b_Mo_files 5 = .ok (.aload_n 0, 1) := by decide +kernel
theorem d_Mo_files_6 : decode b_Mo_files 6 = .ok (.getfield 56, 3) := by decide +kernel
theorem d_Mo_files_9 : decode b_Mo_files 9 = .ok (.ifCond .eq 6, 3) := by decide +kernel
theorem d_Mo_files_12 : decode b_Mo_files 12 = .ok (.bipush 7, 2) := by decide +kernel
theorem d_Mo_files_14 : decode b_Mo_files 14 = .ok (.ireturn, 1) := by decide +kernel
theorem d_Mo_files_15 : decode b_Mo_files 15 = .ok (.iconst 0, 1) := by decide +kernel
theorem d_Mo_files_16 : decode b_Mo_files 16 = .ok (.istore_n 1, 1) := by decide +kernel
theorem d_Mo_files_17 : decode b_Mo_files 17 = .ok (.iconst 0, 1) := by decide +kernel
theorem d_Mo_files_18 : decode b_Mo_files 18 = .ok (.istore_n 2, 1) := by decide +kernel
theorem d_Mo_files_19 : decode b_Mo_files 19 = .ok (.iload_n 2, 1) := by decide +kernel
theorem d_Mo_files_20 : decode b_Mo_files 20 = .ok (.bipush 8, 2) := by decide +kernel
theorem d_Mo_files_22 : decode b_Mo_files 22 = .ok (.if_icmp .ge 25, 3) := by decide +kernel
theorem d_Mo_files_25 : decode b_Mo_files 25 = .ok (.iload_n 1, 1) := by decide +kernel
theorem d_Mo_files_26 : decode b_Mo_files 26 = .ok (.aload_n 0, 1) := by decide +kernel
theorem d_Mo_files_27 : decode b_Mo_files 27 = .ok (.iload_n 2, 1) := by decide +kernel
theorem d_Mo_files_28 : decode b_Mo_files 28 = .ok (.invokevirtual 84, 3) := by decide +kernel
theorem d_Mo_files_31 : decode b_Mo_files 31 = .ok (.ifCond .eq 7, 3) := by decide +kernel
theorem d_Mo_files_34 : decode b_Mo_files 34 = .ok (.iconst 1, 1) := by decide +kernel
theorem d_Mo_files_35 : decode b_Mo_files 35 = .ok (.goto 4, 3) := by decide +kernel
theorem d_Mo_files_38 : decode b_Mo_files 38 = .ok (.iconst 0, 1) := by decide +kernel
theorem d_Mo_files_39 : decode b_Mo_files 39 = .ok (.iadd, 1) := by decide +kernel
theorem d_Mo_files_40 : decode b_Mo_files 40 = .ok (.istore_n 1, 1) := by decide +kernel
theorem d_Mo_files_41 : decode b_Mo_files 41 = .ok (.iinc 2 1, 3) := by decide +kernel
theorem d_Mo_files_44 : decode b_Mo_files 44 = .ok (.goto (-25), 3) := by decide +kernel
theorem d_Mo_files_47 : decode b_Mo_files 47 = .ok (.aload_n 0, 1) := by decide +kernel
theorem d_Mo_files_48 : decode b_Mo_files 48 = .ok (.invokevirtual 76, 3) := by decide +kernel
theorem d_Mo_files_51 : decode b_Mo_files 51 = .ok (.ifCond .eq 7, 3) := by decide +kernel
theorem d_Mo_files_54 : decode b_Mo_files 54 = .ok (.iload_n 1, 1) := by decide +kernel
theorem d_Mo_files_55 : decode b_Mo_files 55 = .ok (.goto 5, 3) := by decide +kernel
theorem d_Mo_files_58 : decode b_Mo_files 58 = .ok (.bipush 8, 2) := by decide +kernel
theorem d_Mo_files_60 : decode b_Mo_files 60 = .ok (.ireturn, 1) := by decide +kernel
theorem d_Mo_about_0 : decode b_Mo_about 0 = .ok (.aload_n 0, 1) := by decide +kernel
theorem d_Mo_about_1 : decode b_Mo_about 1 = .ok (.iconst 0, 1) := by decide +kernel
theorem d_Mo_about_2 : decode b_Mo_about 2 = .ok (.putfield 47, 3) := by decide +kernel
theorem d_Mo_about_5 : decode b_Mo_about 5 = .ok (.iload_n 1, 1) := by decide +kernel
theorem d_Mo_about_6 : decode b_Mo_about 6 = .ok (.ifCond .lt 9, 3) := by decide +kernel
theorem d_Mo_about_9 : decode b_Mo_about 9 = .ok (.iload_n 1, 1) := by decide +kernel
theorem d_Mo_about_10 : decode b_Mo_about 10 = .ok (.bipush 11, 2) := by decide +kernel
theorem d_Mo_about_12 : decode b_Mo_about 12 = .ok (.if_icmp .le 5, 3) := by decide +kernel
theorem d_Mo_about_15 : decode b_Mo_about 15 = .ok (.iconst (-1), 1) := by decide +kernel
theorem d_Mo_about_16 : decode b_Mo_about 16 = .ok (.ireturn, 1) := by decide +kernel
theorem d_Mo_about_17 : decode b_Mo_about 17 = .ok (.iload_n 1, 1) := by decide +kernel
theorem d_Mo_about_18 : decode b_Mo_about 18 = .ok (.bipush 11, 2) := by decide +kernel
theorem d_Mo_about_20 : decode b_Mo_about 20 = .ok (.if_icmp .ne 8, 3) := by decide +kernel
theorem d_Mo_about_23 : decode b_Mo_about 23 = .ok (.aload_n 0, 1) := by decide +kernel
theorem d_Mo_about_24 : decode b_Mo_about 24 = .ok (.getfield 63, 3) := by decide +kernel
theorem d_Mo_about_27 : decode b_Mo_about 27 = .ok (.ireturn, 1) := by decide +kernel
theorem d_Mo_about_28 : decode b_Mo_about 28 = .ok (.aload_n 0, 1) := by decide +kernel
theorem d_Mo_about_29 : decode b_Mo_about 29 = .ok (.getfield 56, 3) := by decide +kernel
theorem d_Mo_about_32 : decode b_Mo_about 32 = .ok (.ifCond .eq 6, 3) := by decide +kernel
theorem d_Mo_about_35 : decode b_Mo_about 35 = .ok (.bipush 7, 2) := by decide +kernel
theorem d_Mo_about_37 : decode b_Mo_about 37 = .ok (.ireturn, 1) := by decide +kernel
theorem d_Mo_about_38 : decode b_Mo_about 38 = .ok (.aload_n 0, 1) := by decide +kernel
theorem d_Mo_about_39 : decode b_Mo_about 39 = .ok (.invokevirtual 178, 3) := by decide +kernel
theorem d_Mo_about_42 : decode b_Mo_about 42 = .ok (.istore_n 2, 1) := by decide +kernel
theorem d_Mo_about_43 : decode b_Mo_about 43 = .ok (.iload_n 1, 1) := by decide +kernel
theorem d_Mo_about_44 : decode b_Mo_about 44 = .ok (.ifCond .ne 10, 3) := by decide +kernel
theorem d_Mo_about_47 : decode b_Mo_about 47 = .ok (.aload_n 0, 1) := by decide +kernel
theorem d_Mo_about_48 : decode b_Mo_about 48 = .ok (.invokevirtual 94, 3) := by decide +kernel
theorem d_Mo_about_51 : decode b_Mo_about 51 = .ok (.goto 43, 3) := by decide +kernel
theorem d_Mo_about_54 : decode b_Mo_about 54 = .ok (.iload_n 1, 1) := by decide +kernel
theorem d_Mo_about_55 : decode b_Mo_about 55 = .ok (.bipush 9, 2) := by decide +kernel
theorem d_Mo_about_57 : decode b_Mo_about 57 = .ok (.if_icmp .ge 14, 3) := by decide +kernel
theorem d_Mo_about_60 : decode b_Mo_about 60 = .ok (.aload_n 0, 1) := by decide +kernel
theorem d_Mo_about_61 : decode b_Mo_about 61 = .ok (.getfield 23, 3) := by decide +kernel
theorem d_Mo_about_64 : decode b_Mo_about 64 = .ok (.iload_n 1, 1) := by decide +kernel
theorem d_Mo_about_65 : decode b_Mo_about 65 = .ok (.iconst 1, 1) := by decide +kernel
theorem d_Mo_about_66 : decode b_Mo_about 66 = .ok (.isub, 1) := by decide +kernel
theorem d_Mo_about_67 : decode b_Mo_about 67 = .ok (.iaload, 1) := by decide +kernel
theorem d_Mo_about_68 : decode b_Mo_about 68 = .ok (.goto 26, 3) := by decide +kernel
theorem d_Mo_about_71 : decode b_Mo_about 71 = .ok (.iload_n 1, 1) := by decide +kernel
theorem d_Mo_about_72 : decode b_Mo_about 72 = .ok (.bipush 10, 2) := by decide +kernel
theorem d_Mo_about_74 : decode b_Mo_about 74 = .ok (.if_icmp .ne 10, 3) := by decide +kernel
theorem d_Mo_about_77 : decode b_Mo_about 77 = .ok (.aload_n 0, 1) := by decide +kernel
theorem d_Mo_about_78 : decode b_Mo_about 78 = .ok (.getfield 53, 3) := by decide +kernel
theorem d_Mo_about_81 : decode b_Mo_about 81 = .ok (.goto 13, 3) := by decide +kernel
theorem d_Mo_about_84 : decode b_Mo_about 84 = .ok (.iload_n 2, 1) := by decide +kernel
theorem d_Mo_about_85 : decode b_Mo_about 85 = .ok (.iconst (-1), 1) := by decide +kernel
theorem d_Mo_about_86 : decode b_Mo_about 86 = .ok (.if_icmp .ne 7, 3) := by decide +kernel
theorem d_Mo_about_89 : decode b_Mo_about 89 = .ok (.iconst 0, 1) := by decide +kernel
theorem d_Mo_about_90 : decode b_Mo_about 90 = .ok (.goto 4, 3) := by decide +kernel
theorem d_Mo_about_93 : decode b_Mo_about 93 = .ok (.iload_n 2, 1) := by decide +kernel
theorem d_Mo_about_94 : decode b_Mo_about 94 = .ok (.ireturn, 1) := by decide +kernel
theorem d_Mo_thrown_0 : decode b_Mo_thrown 0 = .ok (.aload_n 0, 1) := by decide +kernel
theorem d_Mo_thrown_1 : decode b_Mo_thrown 1 = .ok (.getfield 47, 3) := by decide +kernel
theorem d_Mo_thrown_4 : decode b_Mo_thrown 4 = .ok (.ireturn, 1) := by decide +kernel
theorem d_La_arm_0 : decode b_La_arm 0 = .ok (.aload_n 2, 1) := by decide +kernel
theorem d_La_arm_1 : decode b_La_arm 1 = .ok (.iconst 0, 1) := by decide +kernel
theorem d_La_arm_2 : decode b_La_arm 2 = .ok (.aload_n 0, 1) := by decide +kernel
theorem d_La_arm_3 : decode b_La_arm 3 = .ok (.iload_n 1, 1) := by decide +kernel
theorem d_La_arm_4 : decode b_La_arm 4 = .ok (.invokevirtual 7, 3) := by decide +kernel
theorem d_La_arm_7 : decode b_La_arm 7 = .ok (.ifCond .eq 7, 3) := by decide +kernel
theorem d_La_arm_10 : decode b_La_arm 10 = .ok (.lconst 1, 1) := by decide +kernel
theorem d_La_arm_11 : decode b_La_arm 11 = .ok (.goto 4, 3) := by decide +kernel
theorem d_La_arm_14 : decode b_La_arm 14 = .ok (.lconst 0, 1) := by decide +kernel
theorem d_La_arm_15 : decode b_La_arm 15 = .ok (.lastore, 1) := by decide +kernel
theorem d_La_arm_16 : decode b_La_arm 16 = .ok (.goto 6, 3) := by decide +kernel
theorem d_La_arm_19 : decode b_La_arm 19 = .ok (.astore_n 3, 1) := by decide +kernel
theorem d_La_arm_20 : decode b_La_arm 20 = .ok (.iconst 1, 1) := by decide +kernel
theorem d_La_arm_21 : decode b_La_arm 21 = .ok (.ireturn, 1) := by decide +kernel
theorem d_La_arm_22 : decode b_La_arm 22 = .ok (.iconst 0, 1) := by decide +kernel
theorem d_La_arm_23 : decode b_La_arm 23 = .ok (.ireturn, 1) := by decide +kernel
theorem d_La_out_0 : decode b_La_out 0 = .ok (.aload_n 2, 1) := by decide +kernel
theorem d_La_out_1 : decode b_La_out 1 = .ok (.iconst 0, 1) := by decide +kernel
theorem d_La_out_2 : decode b_La_out 2 = .ok (.aload_n 0, 1) := by decide +kernel
theorem d_La_out_3 : decode b_La_out 3 = .ok (.iload_n 1, 1) := by decide +kernel
theorem d_La_out_4 : decode b_La_out 4 = .ok (.invokevirtual 15, 3) := by decide +kernel
theorem d_La_out_7 : decode b_La_out 7 = .ok (.i2l, 1) := by decide +kernel
theorem d_La_out_8 : decode b_La_out 8 = .ok (.lastore, 1) := by decide +kernel
theorem d_La_out_9 : decode b_La_out 9 = .ok (.goto 6, 3) := by decide +kernel
theorem d_La_out_12 : decode b_La_out 12 = .ok (.astore_n 3, 1) := by decide +kernel
theorem d_La_out_13 : decode b_La_out 13 = .ok (.iconst 1, 1) := by decide +kernel
theorem d_La_out_14 : decode b_La_out 14 = .ok (.ireturn, 1) := by decide +kernel
theorem d_La_out_15 : decode b_La_out 15 = .ok (.iconst 0, 1) := by decide +kernel
theorem d_La_out_16 : decode b_La_out 16 = .ok (.ireturn, 1) := by decide +kernel
theorem d_La_disk_0 : decode b_La_disk 0 = .ok (.aload_n 2, 1) := by decide +kernel
theorem d_La_disk_1 : decode b_La_disk 1 = .ok (.iconst 0, 1) := by decide +kernel
theorem d_La_disk_2 : decode b_La_disk 2 = .ok (.aload_n 0, 1) := by decide +kernel
theorem d_La_disk_3 : decode b_La_disk 3 = .ok (.iload_n 1, 1) := by decide +kernel
theorem d_La_disk_4 : decode b_La_disk 4 = .ok (.invokevirtual 21, 3) := by decide +kernel
theorem d_La_disk_7 : decode b_La_disk 7 = .ok (.i2l, 1) := by decide +kernel
theorem d_La_disk_8 : decode b_La_disk 8 = .ok (.lastore, 1) := by decide +kernel
theorem d_La_disk_9 : decode b_La_disk 9 = .ok (.goto 6, 3) := by decide +kernel
theorem d_La_disk_12 : decode b_La_disk 12 = .ok (.astore_n 3, 1) := by decide +kernel
theorem d_La_disk_13 : decode b_La_disk 13 = .ok (.iconst 1, 1) := by decide +kernel
theorem d_La_disk_14 : decode b_La_disk 14 = .ok (.ireturn, 1) := by decide +kernel
theorem d_La_disk_15 : decode b_La_disk 15 = .ok (.iconst 0, 1) := by decide +kernel
theorem d_La_disk_16 : decode b_La_disk 16 = .ok (.ireturn, 1) := by decide +kernel
theorem d_La_law_0 : decode b_La_law 0 = .ok (.new 8, 3) := by decide +kernel
theorem d_La_law_3 : decode b_La_law 3 = .ok (.dup, 1) := by decide +kernel
theorem d_La_law_4 : decode b_La_law 4 = .ok (.invokespecial 24, 3) := by decide +kernel
theorem d_La_law_7 : decode b_La_law 7 = .ok (.astore_n 1, 1) := by decide +kernel
theorem d_La_law_8 : decode b_La_law 8 = .ok (.new 25, 3) := by decide +kernel
theorem d_La_law_11 : decode b_La_law 11 = .ok (.dup, 1) := by decide +kernel
theorem d_La_law_12 : decode b_La_law 12 = .ok (.invokespecial 27, 3) := by decide +kernel
theorem d_La_law_15 : decode b_La_law 15 = .ok (.astore_n 2, 1) := by decide +kernel
theorem d_La_law_16 : decode b_La_law 16 = .ok (.iconst 1, 1) := by decide +kernel
theorem d_La_law_17 : decode b_La_law 17 = .ok (.newarray .long, 2) := by decide +kernel
theorem d_La_law_19 : decode b_La_law 19 = .ok (.astore_n 3, 1) := by decide +kernel
theorem d_La_law_20 : decode b_La_law 20 = .ok (.iconst 0, 1) := by decide +kernel
theorem d_La_law_21 : decode b_La_law 21 = .ok (.istore 4, 2) := by decide +kernel
theorem d_La_law_23 : decode b_La_law 23 = .ok (.iload 4, 2) := by decide +kernel
theorem d_La_law_25 : decode b_La_law 25 = .ok (.aload_n 0, 1) := by decide +kernel
theorem d_La_law_26 : decode b_La_law 26 = .ok (.arraylength, 1) := by decide +kernel
theorem d_La_law_27 : decode b_La_law 27 = .ok (.iconst 2, 1) := by decide +kernel
theorem d_La_law_28 : decode b_La_law 28 = .ok (.isub, 1) := by decide +kernel
theorem d_La_law_29 : decode b_La_law 29 = .ok (.if_icmp .gt 371, 3) := by decide +kernel
theorem d_La_law_32 : decode b_La_law 32 = .ok (.aload_n 0, 1) := by decide +kernel
theorem d_La_law_33 : decode b_La_law 33 = .ok (.iload 4, 2) := by decide +kernel
theorem d_La_law_35 : decode b_La_law 35 = .ok (.iaload, 1) := by decide +kernel
theorem d_La_law_36 : decode b_La_law 36 = .ok (.bipush 15, 2) := by decide +kernel
theorem d_La_law_38 : decode b_La_law 38 = .ok (.iand, 1) := by decide +kernel
theorem d_La_law_39 : decode b_La_law 39 = .ok (.tableswitch 355 0 9 #[53, 66, 79, 104, 129, 192, 248, 261, 317, 330], 53) := by decide +kernel
theorem d_La_law_92 : decode b_La_law 92 = .ok (.aload_n 1, 1) := by decide +kernel
theorem d_La_law_93 : decode b_La_law 93 = .ok (.invokevirtual 28, 3) := by decide +kernel
theorem d_La_law_96 : decode b_La_law 96 = .ok (.aload_n 2, 1) := by decide +kernel
theorem d_La_law_97 : decode b_La_law 97 = .ok (.invokevirtual 32, 3) := by decide +kernel
theorem d_La_law_100 : decode b_La_law 100 = .ok (.if_icmp .eq 294, 3) := by decide +kernel
theorem d_La_law_103 : decode b_La_law 103 = .ok (.iconst 0, 1) := by decide +kernel
theorem d_La_law_104 : decode b_La_law 104 = .ok (.ireturn, 1) := by decide +kernel
theorem d_La_law_105 : decode b_La_law 105 = .ok (.aload_n 1, 1) := by decide +kernel
theorem d_La_law_106 : decode b_La_law 106 = .ok (.invokevirtual 33, 3) := by decide +kernel
theorem d_La_law_109 : decode b_La_law 109 = .ok (.aload_n 2, 1) := by decide +kernel
theorem d_La_law_110 : decode b_La_law 110 = .ok (.invokevirtual 36, 3) := by decide +kernel
theorem d_La_law_113 : decode b_La_law 113 = .ok (.if_icmp .eq 281, 3) := by decide +kernel
theorem d_La_law_116 : decode b_La_law 116 = .ok (.iconst 0, 1) := by decide +kernel
theorem d_La_law_117 : decode b_La_law 117 = .ok (.ireturn, 1) := by decide +kernel
theorem d_La_law_118 : decode b_La_law 118 = .ok (.aload_n 1, 1) := by decide +kernel
theorem d_La_law_119 : decode b_La_law 119 = .ok (.aload_n 0, 1) := by decide +kernel
theorem d_La_law_120 : decode b_La_law 120 = .ok (.iload 4, 2) := by decide +kernel
theorem d_La_law_122 : decode b_La_law 122 = .ok (.iconst 1, 1) := by decide +kernel
theorem d_La_law_123 : decode b_La_law 123 = .ok (.iadd, 1) := by decide +kernel
theorem d_La_law_124 : decode b_La_law 124 = .ok (.iaload, 1) := by decide +kernel
theorem d_La_law_125 : decode b_La_law 125 = .ok (.invokevirtual 37, 3) := by decide +kernel
theorem d_La_law_128 : decode b_La_law 128 = .ok (.aload_n 2, 1) := by decide +kernel
theorem d_La_law_129 : decode b_La_law 129 = .ok (.aload_n 0, 1) := by decide +kernel
theorem d_La_law_130 : decode b_La_law 130 = .ok (.iload 4, 2) := by decide +kernel
theorem d_La_law_132 : decode b_La_law 132 = .ok (.iconst 1, 1) := by decide +kernel
theorem d_La_law_133 : decode b_La_law 133 = .ok (.iadd, 1) := by decide +kernel
theorem d_La_law_134 : decode b_La_law 134 = .ok (.iaload, 1) := by decide +kernel
theorem d_La_law_135 : decode b_La_law 135 = .ok (.invokevirtual 40, 3) := by decide +kernel
theorem d_La_law_138 : decode b_La_law 138 = .ok (.if_icmp .eq 256, 3) := by decide +kernel
theorem d_La_law_141 : decode b_La_law 141 = .ok (.iconst 0, 1) := by decide +kernel
theorem d_La_law_142 : decode b_La_law 142 = .ok (.ireturn, 1) := by decide +kernel
theorem d_La_law_143 : decode b_La_law 143 = .ok (.aload_n 1, 1) := by decide +kernel
theorem d_La_law_144 : decode b_La_law 144 = .ok (.aload_n 0, 1) := by decide +kernel
theorem d_La_law_145 : decode b_La_law 145 = .ok (.iload 4, 2) := by decide +kernel
theorem d_La_law_147 : decode b_La_law 147 = .ok (.iconst 1, 1) := by decide +kernel
theorem d_La_law_148 : decode b_La_law 148 = .ok (.iadd, 1) := by decide +kernel
theorem d_La_law_149 : decode b_La_law 149 = .ok (.iaload, 1) := by decide +kernel
theorem d_La_law_150 : decode b_La_law 150 = .ok (.invokevirtual 41, 3) := by decide +kernel
theorem d_La_law_153 : decode b_La_law 153 = .ok (.aload_n 2, 1) := by decide +kernel
theorem d_La_law_154 : decode b_La_law 154 = .ok (.aload_n 0, 1) := by decide +kernel
theorem d_La_law_155 : decode b_La_law 155 = .ok (.iload 4, 2) := by decide +kernel
theorem d_La_law_157 : decode b_La_law 157 = .ok (.iconst 1, 1) := by decide +kernel
theorem d_La_law_158 : decode b_La_law 158 = .ok (.iadd, 1) := by decide +kernel
theorem d_La_law_159 : decode b_La_law 159 = .ok (.iaload, 1) := by decide +kernel
theorem d_La_law_160 : decode b_La_law 160 = .ok (.invokevirtual 44, 3) := by decide +kernel
theorem d_La_law_163 : decode b_La_law 163 = .ok (.if_icmp .eq 231, 3) := by decide +kernel
theorem d_La_law_166 : decode b_La_law 166 = .ok (.iconst 0, 1) := by decide +kernel
theorem d_La_law_167 : decode b_La_law 167 = .ok (.ireturn, 1) := by decide +kernel
theorem d_La_law_168 : decode b_La_law 168 = .ok (.aload_n 1, 1) := by decide +kernel
theorem d_La_law_169 : decode b_La_law 169 = .ok (.aload_n 0, 1) := by decide +kernel
theorem d_La_law_170 : decode b_La_law 170 = .ok (.iload 4, 2) := by decide +kernel
theorem d_La_law_172 : decode b_La_law 172 = .ok (.iconst 1, 1) := by decide +kernel
theorem d_La_law_173 : decode b_La_law 173 = .ok (.iadd, 1) := by decide +kernel
theorem d_La_law_174 : decode b_La_law 174 = .ok (.iaload, 1) := by decide +kernel
theorem d_La_law_175 : decode b_La_law 175 = .ok (.aload_n 3, 1) := by decide +kernel
theorem d_La_law_176 : decode b_La_law 176 = .ok (.invokestatic 45, 3) := by decide +kernel
theorem d_La_law_179 : decode b_La_law 179 = .ok (.istore 5, 2) := by decide +kernel
theorem d_La_law_181 : decode b_La_law 181 = .ok (.aload_n 2, 1) := by decide +kernel
theorem d_La_law_182 : decode b_La_law 182 = .ok (.aload_n 0, 1) := by decide +kernel
theorem d_La_law_183 : decode b_La_law 183 = .ok (.iload 4, 2) := by decide +kernel
theorem d_La_law_185 : decode b_La_law 185 = .ok (.iconst 1, 1) := by decide +kernel
theorem d_La_law_186 : decode b_La_law 186 = .ok (.iadd, 1) := by decide +kernel
theorem d_La_law_187 : decode b_La_law 187 = .ok (.iaload, 1) := by decide +kernel
theorem d_La_law_188 : decode b_La_law 188 = .ok (.invokevirtual 50, 3) := by decide +kernel
theorem d_La_law_191 : decode b_La_law 191 = .ok (.istore 6, 2) := by decide +kernel
theorem d_La_law_193 : decode b_La_law 193 = .ok (.aload_n 2, 1) := by decide +kernel
theorem d_La_law_194 : decode b_La_law 194 = .ok (.invokevirtual 51, 3) := by decide +kernel
theorem d_La_law_197 : decode b_La_law 197 = .ok (.iload 5, 2) := by decide +kernel
theorem d_La_law_199 : decode b_La_law 199 = .ok (.if_icmp .eq 5, 3) := by decide +kernel
theorem d_La_law_202 : decode b_La_law 202 = .ok (.iconst 0, 1) := by decide +kernel
theorem d_La_law_203 : decode b_La_law 203 = .ok (.ireturn, 1) := by decide +kernel
theorem d_La_law_204 : decode b_La_law 204 = .ok (.iload 5, 2) := by decide +kernel
theorem d_La_law_206 : decode b_La_law 206 = .ok (.ifCond .ne 22, 3) := by decide +kernel
theorem d_La_law_209 : decode b_La_law 209 = .ok (.aload_n 3, 1) := by decide +kernel
theorem d_La_law_210 : decode b_La_law 210 = .ok (.iconst 0, 1) := by decide +kernel
theorem d_La_law_211 : decode b_La_law 211 = .ok (.laload, 1) := by decide +kernel
theorem d_La_law_212 : decode b_La_law 212 = .ok (.iload 6, 2) := by decide +kernel
theorem d_La_law_214 : decode b_La_law 214 = .ok (.ifCond .eq 7, 3) := by decide +kernel
theorem d_La_law_217 : decode b_La_law 217 = .ok (.lconst 1, 1) := by decide +kernel
theorem d_La_law_218 : decode b_La_law 218 = .ok (.goto 4, 3) := by decide +kernel
theorem d_La_law_221 : decode b_La_law 221 = .ok (.lconst 0, 1) := by decide +kernel
theorem d_La_law_222 : decode b_La_law 222 = .ok (.lcmp, 1) := by decide +kernel
theorem d_La_law_223 : decode b_La_law 223 = .ok (.ifCond .eq 5, 3) := by decide +kernel
theorem d_La_law_226 : decode b_La_law 226 = .ok (.iconst 0, 1) := by decide +kernel
theorem d_La_law_227 : decode b_La_law 227 = .ok (.ireturn, 1) := by decide +kernel
theorem d_La_law_228 : decode b_La_law 228 = .ok (.goto 166, 3) := by decide +kernel
theorem d_La_law_231 : decode b_La_law 231 = .ok (.aload_n 1, 1) := by decide +kernel
theorem d_La_law_232 : decode b_La_law 232 = .ok (.aload_n 0, 1) := by decide +kernel
theorem d_La_law_233 : decode b_La_law 233 = .ok (.iload 4, 2) := by decide +kernel
theorem d_La_law_235 : decode b_La_law 235 = .ok (.iconst 1, 1) := by decide +kernel
theorem d_La_law_236 : decode b_La_law 236 = .ok (.iadd, 1) := by decide +kernel
theorem d_La_law_237 : decode b_La_law 237 = .ok (.iaload, 1) := by decide +kernel
theorem d_La_law_238 : decode b_La_law 238 = .ok (.aload_n 3, 1) := by decide +kernel
theorem d_La_law_239 : decode b_La_law 239 = .ok (.invokestatic 54, 3) := by decide +kernel
theorem d_La_law_242 : decode b_La_law 242 = .ok (.istore 5, 2) := by decide +kernel
theorem d_La_law_244 : decode b_La_law 244 = .ok (.aload_n 2, 1) := by decide +kernel
theorem d_La_law_245 : decode b_La_law 245 = .ok (.aload_n 0, 1) := by decide +kernel
theorem d_La_law_246 : decode b_La_law 246 = .ok (.iload 4, 2) := by decide +kernel
theorem d_La_law_248 : decode b_La_law 248 = .ok (.iconst 1, 1) := by decide +kernel
theorem d_La_law_249 : decode b_La_law 249 = .ok (.iadd, 1) := by decide +kernel
theorem d_La_law_250 : decode b_La_law 250 = .ok (.iaload, 1) := by decide +kernel
theorem d_La_law_251 : decode b_La_law 251 = .ok (.invokevirtual 56, 3) := by decide +kernel
theorem d_La_law_254 : decode b_La_law 254 = .ok (.istore 6, 2) := by decide +kernel
theorem d_La_law_256 : decode b_La_law 256 = .ok (.aload_n 2, 1) := by decide +kernel
theorem d_La_law_257 : decode b_La_law 257 = .ok (.invokevirtual 51, 3) := by decide +kernel
theorem d_La_law_260 : decode b_La_law 260 = .ok (.iload 5, 2) := by decide +kernel
theorem d_La_law_262 : decode b_La_law 262 = .ok (.if_icmp .eq 5, 3) := by decide +kernel
theorem d_La_law_265 : decode b_La_law 265 = .ok (.iconst 0, 1) := by decide +kernel
theorem d_La_law_266 : decode b_La_law 266 = .ok (.ireturn, 1) := by decide +kernel
theorem d_La_law_267 : decode b_La_law 267 = .ok (.iload 5, 2) := by decide +kernel
theorem d_La_law_269 : decode b_La_law 269 = .ok (.ifCond .ne 15, 3) := by decide +kernel
theorem d_La_law_272 : decode b_La_law 272 = .ok (.aload_n 3, 1) := by decide +kernel
theorem d_La_law_273 : decode b_La_law 273 = .ok (.iconst 0, 1) := by decide +kernel
theorem d_La_law_274 : decode b_La_law 274 = .ok (.laload, 1) := by decide +kernel
theorem d_La_law_275 : decode b_La_law 275 = .ok (.iload 6, 2) := by decide +kernel
theorem d_La_law_277 : decode b_La_law 277 = .ok (.i2l, 1) := by decide +kernel
theorem d_La_law_278 : decode b_La_law 278 = .ok (.lcmp, 1) := by decide +kernel
theorem d_La_law_279 : decode b_La_law 279 = .ok (.ifCond .eq 5, 3) := by decide +kernel
theorem d_La_law_282 : decode b_La_law 282 = .ok (.iconst 0, 1) := by decide +kernel
theorem d_La_law_283 : decode b_La_law 283 = .ok (.ireturn, 1) := by decide +kernel
theorem d_La_law_284 : decode b_La_law 284 = .ok (.goto 110, 3) := by decide +kernel
theorem d_La_law_287 : decode b_La_law 287 = .ok (.aload_n 1, 1) := by decide +kernel
theorem d_La_law_288 : decode b_La_law 288 = .ok (.invokevirtual 57, 3) := by decide +kernel
theorem d_La_law_291 : decode b_La_law 291 = .ok (.aload_n 2, 1) := by decide +kernel
theorem d_La_law_292 : decode b_La_law 292 = .ok (.invokevirtual 60, 3) := by decide +kernel
theorem d_La_law_295 : decode b_La_law 295 = .ok (.if_icmp .eq 99, 3) := by decide +kernel
theorem d_La_law_298 : decode b_La_law 298 = .ok (.iconst 0, 1) := by decide +kernel
theorem d_La_law_299 : decode b_La_law 299 = .ok (.ireturn, 1) := by decide +kernel
theorem d_La_law_300 : decode b_La_law 300 = .ok (.aload_n 1, 1) := by decide +kernel
theorem d_La_law_301 : decode b_La_law 301 = .ok (.aload_n 0, 1) := by decide +kernel
theorem d_La_law_302 : decode b_La_law 302 = .ok (.iload 4, 2) := by decide +kernel
theorem d_La_law_304 : decode b_La_law 304 = .ok (.iconst 1, 1) := by decide +kernel
theorem d_La_law_305 : decode b_La_law 305 = .ok (.iadd, 1) := by decide +kernel
theorem d_La_law_306 : decode b_La_law 306 = .ok (.iaload, 1) := by decide +kernel
theorem d_La_law_307 : decode b_La_law 307 = .ok (.aload_n 3, 1) := by decide +kernel
theorem d_La_law_308 : decode b_La_law 308 = .ok (.invokestatic 61, 3) := by decide +kernel
theorem d_La_law_311 : decode b_La_law 311 = .ok (.istore 5, 2) := by decide +kernel
theorem d_La_law_313 : decode b_La_law 313 = .ok (.aload_n 2, 1) := by decide +kernel
theorem d_La_law_314 : decode b_La_law 314 = .ok (.aload_n 0, 1) := by decide +kernel
theorem d_La_law_315 : decode b_La_law 315 = .ok (.iload 4, 2) := by decide +kernel
theorem d_La_law_317 : decode b_La_law 317 = .ok (.iconst 1, 1) := by decide +kernel
theorem d_La_law_318 : decode b_La_law 318 = .ok (.iadd, 1) := by decide +kernel
theorem d_La_law_319 : decode b_La_law 319 = .ok (.iaload, 1) := by decide +kernel
theorem d_La_law_320 : decode b_La_law 320 = .ok (.invokevirtual 63, 3) := by decide +kernel
theorem d_La_law_323 : decode b_La_law 323 = .ok (.istore 6, 2) := by decide +kernel
theorem d_La_law_325 : decode b_La_law 325 = .ok (.aload_n 2, 1) := by decide +kernel
theorem d_La_law_326 : decode b_La_law 326 = .ok (.invokevirtual 51, 3) := by decide +kernel
theorem d_La_law_329 : decode b_La_law 329 = .ok (.iload 5, 2) := by decide +kernel
theorem d_La_law_331 : decode b_La_law 331 = .ok (.if_icmp .eq 5, 3) := by decide +kernel
theorem d_La_law_334 : decode b_La_law 334 = .ok (.iconst 0, 1) := by decide +kernel
theorem d_La_law_335 : decode b_La_law 335 = .ok (.ireturn, 1) := by decide +kernel
theorem d_La_law_336 : decode b_La_law 336 = .ok (.iload 5, 2) := by decide +kernel
theorem d_La_law_338 : decode b_La_law 338 = .ok (.ifCond .ne 15, 3) := by decide +kernel
theorem d_La_law_341 : decode b_La_law 341 = .ok (.aload_n 3, 1) := by decide +kernel
theorem d_La_law_342 : decode b_La_law 342 = .ok (.iconst 0, 1) := by decide +kernel
theorem d_La_law_343 : decode b_La_law 343 = .ok (.laload, 1) := by decide +kernel
theorem d_La_law_344 : decode b_La_law 344 = .ok (.iload 6, 2) := by decide +kernel
theorem d_La_law_346 : decode b_La_law 346 = .ok (.i2l, 1) := by decide +kernel
theorem d_La_law_347 : decode b_La_law 347 = .ok (.lcmp, 1) := by decide +kernel
theorem d_La_law_348 : decode b_La_law 348 = .ok (.ifCond .eq 5, 3) := by decide +kernel
theorem d_La_law_351 : decode b_La_law 351 = .ok (.iconst 0, 1) := by decide +kernel
theorem d_La_law_352 : decode b_La_law 352 = .ok (.ireturn, 1) := by decide +kernel
theorem d_La_law_353 : decode b_La_law 353 = .ok (.goto 41, 3) := by decide +kernel
theorem d_La_law_356 : decode b_La_law 356 = .ok (.aload_n 1, 1) := by decide +kernel
theorem d_La_law_357 : decode b_La_law 357 = .ok (.invokevirtual 64, 3) := by decide +kernel
theorem d_La_law_360 : decode b_La_law 360 = .ok (.aload_n 2, 1) := by decide +kernel
theorem d_La_law_361 : decode b_La_law 361 = .ok (.invokevirtual 67, 3) := by decide +kernel
theorem d_La_law_364 : decode b_La_law 364 = .ok (.if_icmp .eq 30, 3) := by decide +kernel
theorem d_La_law_367 : decode b_La_law 367 = .ok (.iconst 0, 1) := by decide +kernel
theorem d_La_law_368 : decode b_La_law 368 = .ok (.ireturn, 1) := by decide +kernel
theorem d_La_law_369 : decode b_La_law 369 = .ok (.aload_n 1, 1) := by decide +kernel
theorem d_La_law_370 : decode b_La_law 370 = .ok (.aload_n 0, 1) := by decide +kernel
theorem d_La_law_371 : decode b_La_law 371 = .ok (.iload 4, 2) := by decide +kernel
theorem d_La_law_373 : decode b_La_law 373 = .ok (.iconst 1, 1) := by decide +kernel
theorem d_La_law_374 : decode b_La_law 374 = .ok (.iadd, 1) := by decide +kernel
theorem d_La_law_375 : decode b_La_law 375 = .ok (.iaload, 1) := by decide +kernel
theorem d_La_law_376 : decode b_La_law 376 = .ok (.invokevirtual 68, 3) := by decide +kernel
theorem d_La_law_379 : decode b_La_law 379 = .ok (.aload_n 2, 1) := by decide +kernel
theorem d_La_law_380 : decode b_La_law 380 = .ok (.aload_n 0, 1) := by decide +kernel
theorem d_La_law_381 : decode b_La_law 381 = .ok (.iload 4, 2) := by decide +kernel
theorem d_La_law_383 : decode b_La_law 383 = .ok (.iconst 1, 1) := by decide +kernel
theorem d_La_law_384 : decode b_La_law 384 = .ok (.iadd, 1) := by decide +kernel
theorem d_La_law_385 : decode b_La_law 385 = .ok (.iaload, 1) := by decide +kernel
theorem d_La_law_386 : decode b_La_law 386 = .ok (.invokevirtual 71, 3) := by decide +kernel
theorem d_La_law_389 : decode b_La_law 389 = .ok (.if_icmp .eq 5, 3) := by decide +kernel
theorem d_La_law_392 : decode b_La_law 392 = .ok (.iconst 0, 1) := by decide +kernel
theorem d_La_law_393 : decode b_La_law 393 = .ok (.ireturn, 1) := by decide +kernel
theorem d_La_law_394 : decode b_La_law 394 = .ok (.iinc 4 2, 3) := by decide +kernel
theorem d_La_law_397 : decode b_La_law 397 = .ok (.goto (-374), 3) := by decide +kernel
theorem d_La_law_400 : decode b_La_law 400 = .ok (.iconst 1, 1) := by decide +kernel
theorem d_La_law_401 : decode b_La_law 401 = .ok (.ireturn, 1) := by decide +kernel
theorem d_Ar_fill_0 : decode b_Ar_fill 0 = .ok (.iconst 0, 1) := by decide +kernel
theorem d_Ar_fill_1 : decode b_Ar_fill 1 = .ok (.istore_n 2, 1) := by decide +kernel
theorem d_Ar_fill_2 : decode b_Ar_fill 2 = .ok (.aload_n 0, 1) := by decide +kernel
theorem d_Ar_fill_3 : decode b_Ar_fill 3 = .ok (.arraylength, 1) := by decide +kernel
theorem d_Ar_fill_4 : decode b_Ar_fill 4 = .ok (.istore_n 3, 1) := by decide +kernel
theorem d_Ar_fill_5 : decode b_Ar_fill 5 = .ok (.iload_n 2, 1) := by decide +kernel
theorem d_Ar_fill_6 : decode b_Ar_fill 6 = .ok (.iload_n 3, 1) := by decide +kernel
theorem d_Ar_fill_7 : decode b_Ar_fill 7 = .ok (.if_icmp .ge 13, 3) := by decide +kernel
theorem d_Ar_fill_10 : decode b_Ar_fill 10 = .ok (.aload_n 0, 1) := by decide +kernel
theorem d_Ar_fill_11 : decode b_Ar_fill 11 = .ok (.iload_n 2, 1) := by decide +kernel
theorem d_Ar_fill_12 : decode b_Ar_fill 12 = .ok (.iload_n 1, 1) := by decide +kernel
theorem d_Ar_fill_13 : decode b_Ar_fill 13 = .ok (.iastore, 1) := by decide +kernel
theorem d_Ar_fill_14 : decode b_Ar_fill 14 = .ok (.iinc 2 1, 3) := by decide +kernel
theorem d_Ar_fill_17 : decode b_Ar_fill 17 = .ok (.goto (-12), 3) := by decide +kernel
theorem d_Ar_fill_20 : decode b_Ar_fill 20 = .ok (.return_, 1) := by decide +kernel
end
section
/-! a method's start and end by worlds; calls, with the join behind them -/
def cP (D : va_G) (av : List Value) (sz : Nat) (ws : va_W) (tys : List (ClassId × FieldType)) (X : State → Prop) : Array Value → State → Prop :=
  va_Pc av (fun U => U.heap.size = sz ∧ va_P D cls ws U.heap ∧ va_K D cls tys U ∧ va_D (fun _ => True) ws ∧ kw U ∧ X U)
def cB (D : va_G) (A : Nat → Prop) (ws : va_W) (tys : List (ClassId × FieldType)) (t : State) : Prop := va_P D cls ws t.heap ∧ va_K D cls tys t ∧ va_D A ws
def xT : State → Prop := fun _ => True
def xBl (X : State → Prop) : Prop := ∀ (U : State) (g : JFrame) (mk : MethodId) (a : Array Value), X U → X (U.calling g mk a)
theorem xT_bl : xBl xT := fun _ _ _ _ _ => trivial
theorem cP.blind {D : va_G} {av : List Value} {sz : Nat} {ws : va_W} {tys : List (ClassId × FieldType)} {X : State → Prop} (hX : xBl X) : FrameBlind (cP D av sz ws tys X) := by
  intro a U g mk q
  obtain ⟨q0, q1, qP, qK, qD, qW, qX⟩ := q
  exact ⟨q0, q1, qP, va_K.moved (u := U) (U := U.calling g mk a) (Vm.Alike.refl U.vm) qK, qD, kw.same (u := U) rfl qW, hX _ _ _ _ qX⟩
theorem cP.pre {D : va_G} {av : List Value} {A : Nat → Prop} {ws : va_W} {tys : List (ClassId × FieldType)} {s : State} {H : Heap} {X : State → Prop} (hP : va_P D cls ws H) (hD : va_D A ws) (hK : va_K D cls tys s) (hkw : kw s) (hX : ∀ U : State, U.heap = H → s.WarmedH U.vm → X U) : ∀ U : State, U.heap = H → s.WarmedH U.vm → cP D av H.size ws tys X av.toArray U :=
  fun U hU hW => ⟨rfl, by rw [hU], by rw [hU]; exact hP, va_K.moved hW.alike hK, hD.weaken (fun _ _ _ _ => trivial), kw.warm hW hkw, hX U hU hW⟩
theorem cB.of {D : va_G} {A : Nat → Prop} {ws : va_W} {tys : List (ClassId × FieldType)} {s t : State} {H : Heap} (hP : va_P D cls ws H) (hD : va_D A ws) (hK : va_K D cls tys s) (ht : t.heap = H) (hW : s.WarmedH t.vm) : cB D A ws tys t := ⟨by rw [ht]; exact hP, va_K.moved hW.alike hK, hD⟩
section CALLS
variable {p : Program} {l : Launch} {e : Env} {R : Room} {s : State} {m : MethodId} {args : Array Value} {below : List Frame} {meth : Method} {c : Code} {H : Heap} {locs : List Loc} {cells slots : Nat} {Q : State → Prop}
variable {pc : Nat} {ls : Array Slot} {rest st0 : List Value} {a : Array Value} {A : Nat → Prop} {mc ms : Nat} {D : va_G} {ws wc wr : va_W} {tys tr : List (ClassId × FieldType)}
theorem go_v {S : Type} {post : S → Prop} {w1 : S → va_W} {t1 : S → List (ClassId × FieldType)} (hr : va_Run p l e R s m args below meth c H locs cells slots mc ms (F0 m pc ls st0) rest (va_Qv post (fun u t => cB D (va_A wc H.size) (w1 u) (t1 u) t) (va_A wc H.size) a) (va_A wc H.size))
    (hP : va_P D cls ws H) (hD : va_D A ws) (hK : va_K D cls tys s) (hS : va_S A s.heap H locs) (hA : ∀ q : Nat, s.heap.size ≤ q → A q) (isC isR isT : List Nat) (hC : isC.map (fun i => ws[i]?) = wc.map some) (hR : isR.map (fun i => ws[i]?) = wr.map some) (hn : va_nd isR = true) (hdis : ∀ i ∈ isR, i ∉ isC) (hT : isT.filterMap (fun i => tys[i]?) = tr)
    (kk : ∀ (u : S) (H1 : Heap) (locs1 : List Loc), post u → va_P D cls (wr ++ w1 u) H1 → va_D A (wr ++ w1 u) → va_K D cls (tr ++ t1 u) s → va_S A s.heap H1 locs1 → W p l e R s m args below meth c H1 locs1 (cells + mc) (slots + ms) Q (F0 m (pc + 3) ls rest)) : W p l e R s m args below meth c H locs cells slots Q (F0 m pc ls st0) := by
  have hF := va_free hD hS hA isC hC
  refine va_callv hr hS (fun q _ h => hF q h) hF (fun u t H1 locs1 ht hvm hp hB hz1 hk1 hS1 => ?_)
  obtain ⟨hP1, hK1, hD1⟩ := hB
  rw [ht] at hP1
  obtain ⟨hP2, hD2⟩ := va_join hP hD isC isR hC hR hn hdis hk1 hF hP1 hD1
  exact kk u H1 locs1 hp hP2 hD2 ((hK.sub isT hT).app (va_K.moved hvm.symm hK1)) hS1
theorem go_i {S : Type} {post : Int32 → S → Prop} {w1 : S → va_W} {t1 : S → List (ClassId × FieldType)} (hr : va_Run p l e R s m args below meth c H locs cells slots mc ms (F0 m pc ls st0) rest (va_Qi post (fun u t => cB D (va_A wc H.size) (w1 u) (t1 u) t) (va_A wc H.size) a) (va_A wc H.size))
    (hP : va_P D cls ws H) (hD : va_D A ws) (hK : va_K D cls tys s) (hS : va_S A s.heap H locs) (hA : ∀ q : Nat, s.heap.size ≤ q → A q) (isC isR isT : List Nat) (hC : isC.map (fun i => ws[i]?) = wc.map some) (hR : isR.map (fun i => ws[i]?) = wr.map some) (hn : va_nd isR = true) (hdis : ∀ i ∈ isR, i ∉ isC) (hT : isT.filterMap (fun i => tys[i]?) = tr)
    (kk : ∀ (r : Int32) (u : S) (H1 : Heap) (locs1 : List Loc), post r u → va_P D cls (wr ++ w1 u) H1 → va_D A (wr ++ w1 u) → va_K D cls (tr ++ t1 u) s → va_S A s.heap H1 locs1 → W p l e R s m args below meth c H1 locs1 (cells + mc) (slots + ms) Q (F0 m (pc + 3) ls (.int r :: rest))) : W p l e R s m args below meth c H locs cells slots Q (F0 m pc ls st0) := by
  have hF := va_free hD hS hA isC hC
  refine va_calli hr hS (fun q _ h => hF q h) hF (fun r u t H1 locs1 ht hvm hp hB hz1 hk1 hS1 => ?_)
  obtain ⟨hP1, hK1, hD1⟩ := hB
  rw [ht] at hP1
  obtain ⟨hP2, hD2⟩ := va_join hP hD isC isR hC hR hn hdis hk1 hF hP1 hD1
  exact kk r u H1 locs1 hp hP2 hD2 ((hK.sub isT hT).app (va_K.moved hvm.symm hK1)) hS1
variable {y : MethodName} {bytes cc : ByteArray} {maxL nL n index ci q0 sz : Nat} {ret : Option FieldType} {rm : Room} {Qc : Array Value → State → Outcome → State → Prop} {free : Addr → Prop} {own C host : String} {b : Nat} {As : List Value} {tc : List (ClassId × FieldType)} {fs : List Value} {r0 : vw_C} {Ac : Nat → Prop} {X : State → Prop}
theorem rV (F : CallFix p m c cc nL s args gw own) (hkw : kw s) (hM : Met l y (Cond.code y bytes maxL ret :: gw) rm (cP D (.ref b :: As) H.size wc tc X) Qc mc ms free) (hX : xBl X) (hX2 : ∀ U : State, U.heap = H → s.WarmedH U.vm → X U)
    (h1 : Cond.methodLink own index y ∈ gw) (h2 : Cond.instanceMethod y ∈ gw) (h3 : Cond.selects C y y ∈ gw) (h4 : Cond.initialized C ∈ gw) (h5 : Cond.code y bytes maxL ret ∈ gw) (hrc : rm.cells = mc) (hrs : rm.slots = ms)
    (hd : y.cls = C ∧ y.cls ≠ "java/lang/invoke/MethodHandle" ∧ y.cls ≠ "java/lang/invoke/VarHandle" ∧ (parseMethodDescriptor y.desc).map (fun d => d.parameters.length) = some n) (hR : rm.frames + 1 ≤ R.frames ∧ 8 + (maxL + 11) + rm.locals ≤ R.locals)
    (hP : va_P D cls wc H) (hD : va_D Ac wc) (hK : va_K D cls tc s) (hc : cls[ci]? = some r0) (he : wc[q0]? = some (b, .inr (ci, fs))) (hq : r0.1 = C)
    (hn : As.length = n) (hsize : ls.size = nL) (hstack : st0 = As.reverse ++ .ref b :: rest) (hW : (rest.map fun v => v.category).sum ≤ 8) (hdg : decode cc pc = .ok (.invokevirtual index, 3)) (hf : cells + mc ≤ R.cells ∧ slots + ms ≤ R.slots) :
    va_Run p l e R s m args below meth c H locs cells slots mc ms (F0 m pc ls st0) rest (Qc (Value.ref b :: As).toArray) free := by
  have hrv := va_recv hK hP hc he
  rw [hq] at hrv
  exact va_runV F hM (cwV n F.2.2.2.2 (gv h1 h2 h3 h4 h5) rfl hrc hrs hd hR) ⟨cP.blind hX, hrv, cP.pre hP hD hK hkw hX2⟩ rfl hn hsize hstack (lv_room hW) hdg hf
theorem rI (F : CallFix p m c cc nL s args gw own) (hkw : kw s) (hM : Met l y (Cond.code y bytes maxL none :: gw) rm (cP D (.ref b :: As) H.size wc tc X) Qc mc ms free) (hX : xBl X) (hX2 : ∀ U : State, U.heap = H → s.WarmedH U.vm → X U)
    (h1 : Cond.methodLink own index y ∈ gw) (h2 : Cond.instanceMethod y ∈ gw) (h4 : Cond.initialized y.cls ∈ gw) (h5 : Cond.code y bytes maxL none ∈ gw) (hrc : rm.cells = mc) (hrs : rm.slots = ms) (hy : y.name = "<init>")
    (hd : y.cls ≠ "java/lang/invoke/MethodHandle" ∧ y.cls ≠ "java/lang/invoke/VarHandle" ∧ (parseMethodDescriptor y.desc).map (fun d => d.parameters.length) = some n) (hR : rm.frames + 1 ≤ R.frames ∧ 8 + (maxL + 11) + rm.locals ≤ R.locals)
    (hP : va_P D cls wc H) (hD : va_D Ac wc) (hK : va_K D cls tc s)
    (hn : As.length = n) (hsize : ls.size = nL) (hstack : st0 = As.reverse ++ .ref b :: rest) (hW : (rest.map fun v => v.category).sum ≤ 8) (hdg : decode cc pc = .ok (.invokespecial index, 3)) (hf : cells + mc ≤ R.cells ∧ slots + ms ≤ R.slots) :
    va_Run p l e R s m args below meth c H locs cells slots mc ms (F0 m pc ls st0) rest (Qc (Value.ref b :: As).toArray) free :=
  va_runI F hM (cwI n F.2.2.2.2 (gi h5) rfl hrc hrs (F.2.2.2.2 _ h4) (F.2.2.2.2 _ h1) (F.2.2.2.2 _ h2) hy hd hR) ⟨cP.blind hX, cP.pre hP hD hK hkw hX2⟩ rfl hn hsize hstack (lv_room hW) hdg hf
theorem rIN (F : CallFix p m c cc nL s args gw own) (hkw : kw s) (hM : Met l y (Cond.code y bytes maxL none :: gw) rm (cP D (.ref b :: As) H.size wc tc X) Qc mc ms free) (hX : xBl X) (hX2 : ∀ U : State, U.heap = H → s.WarmedH U.vm → X U)
    (h1 : va_Nw (.methodLinkNest own index y host) s) (h2 : Cond.instanceMethod y ∈ gw) (h4 : Cond.initialized y.cls ∈ gw) (h5 : Cond.code y bytes maxL none ∈ gw) (hrc : rm.cells = mc) (hrs : rm.slots = ms) (hy : y.name = "<init>")
    (hd : y.cls ≠ "java/lang/invoke/MethodHandle" ∧ y.cls ≠ "java/lang/invoke/VarHandle" ∧ (parseMethodDescriptor y.desc).map (fun d => d.parameters.length) = some n) (hR : rm.frames + 1 ≤ R.frames ∧ 8 + (maxL + 11) + rm.locals ≤ R.locals)
    (hP : va_P D cls wc H) (hD : va_D Ac wc) (hK : va_K D cls tc s)
    (hn : As.length = n) (hsize : ls.size = nL) (hstack : st0 = As.reverse ++ .ref b :: rest) (hW : (rest.map fun v => v.category).sum ≤ 8) (hdg : decode cc pc = .ok (.invokespecial index, 3)) (hf : cells + mc ≤ R.cells ∧ slots + ms ≤ R.slots) :
    va_Run p l e R s m args below meth c H locs cells slots mc ms (F0 m pc ls st0) rest (Qc (Value.ref b :: As).toArray) free :=
  va_runIN F hM ⟨va_cnB n F.2.2.2.2 (gi h5) rfl hrc hrs h1 (F.2.2.2.2 _ h4) hd hR, hy, F.2.2.2.2 _ h2⟩ ⟨cP.blind hX, cP.pre hP hD hK hkw hX2⟩ rfl hn hsize hstack (lv_room hW) hdg hf
theorem rS (F : CallFix p m c cc nL s args gw own) (hkw : kw s) (hM : Met l y (Cond.code y bytes maxL ret :: gw) rm (cP D As H.size wc tc X) Qc mc ms free) (hX : xBl X) (hX2 : ∀ U : State, U.heap = H → s.WarmedH U.vm → X U)
    (h1 : Cond.methodLink own index y ∈ gw) (h2 : Cond.static y ∈ gw) (h4 : Cond.initialized y.cls ∈ gw) (h5 : Cond.code y bytes maxL ret ∈ gw) (hrc : rm.cells = mc) (hrs : rm.slots = ms)
    (hd : y.cls ≠ "java/lang/invoke/MethodHandle" ∧ y.cls ≠ "java/lang/invoke/VarHandle" ∧ (parseMethodDescriptor y.desc).map (fun d => d.parameters.length) = some n) (hR : rm.frames + 1 ≤ R.frames ∧ 8 + (maxL + 11) + rm.locals ≤ R.locals)
    (hP : va_P D cls wc H) (hD : va_D Ac wc) (hK : va_K D cls tc s)
    (hn : As.length = n) (hsize : ls.size = nL) (hstack : st0 = As.reverse ++ rest) (hW : (rest.map fun v => v.category).sum ≤ 8) (hdg : decode cc pc = .ok (.invokestatic index, 3)) (hf : cells + mc ≤ R.cells ∧ slots + ms ≤ R.slots) :
    va_Run p l e R s m args below meth c H locs cells slots mc ms (F0 m pc ls st0) rest (Qc As.toArray) free :=
  va_runS F hM (va_cwS n F.2.2.2.2 (gs h1 h2 h4 h5) rfl hrc hrs hd hR) ⟨cP.blind hX, cP.pre hP hD hK hkw hX2⟩ rfl hn hsize hstack (lv_room hW) hdg hf
end CALLS
end
section
theorem v_25 : tables_1[25]? = some (Cond.methodLinkNest "LineDisk" 9 ⟨"LineDisk$Store", "<init>", "()V"⟩ "LineDisk") := by decide +kernel
theorem v_31 : tables_1[31]? = some (Cond.fieldLinkNest "LineDisk" 74 "LineDisk$Store" "armed" "I" "LineDisk") := by decide +kernel
theorem v_33 : tables_1[33]? = some (Cond.fieldLinkNest "LineDisk" 45 "LineDisk$Store" "dead" "Z" "LineDisk") := by decide +kernel
theorem v_35 : tables_1[35]? = some (Cond.fieldLinkNest "LineDisk" 131 "LineDisk$Store" "writes" "I" "LineDisk") := by decide +kernel
theorem v_48 : tables_1[48]? = some (Cond.methodLinkNest "LineDisk" 18 ⟨"LineDisk$Journal", "<init>", "()V"⟩ "LineDisk") := by decide +kernel
theorem v_64 : tables_1[64]? = some (Cond.methodLinkNest "LineDisk" 25 ⟨"LineDisk$Workspace", "<init>", "()V"⟩ "LineDisk") := by decide +kernel
theorem v_70 : tables_1[70]? = some (Cond.fieldLinkNest "LineDisk" 234 "LineDisk$Workspace" "lengths" "[I" "LineDisk") := by decide +kernel
theorem v_72 : tables_1[72]? = some (Cond.fieldLinkNest "LineDisk" 231 "LineDisk$Workspace" "texts" "[I" "LineDisk") := by decide +kernel
theorem v_75 : tables_1[75]? = some (Cond.fieldLinkNest "LineDisk" 134 "LineDisk$Workspace" "variables" "[I" "LineDisk") := by decide +kernel
theorem v_77 : tables_1[77]? = some (Cond.fieldLinkNest "LineDisk" 81 "LineDisk$Workspace" "typed" "[I" "LineDisk") := by decide +kernel
theorem v_79 : tables_1[79]? = some (Cond.fieldLinkNest "LineDisk" 137 "LineDisk$Workspace" "lines" "I" "LineDisk") := by decide +kernel
theorem v_81 : tables_1[81]? = some (Cond.fieldLinkNest "LineDisk" 175 "LineDisk$Workspace" "next" "I" "LineDisk") := by decide +kernel
theorem v_83 : tables_1[83]? = some (Cond.fieldLinkNest "LineDisk" 84 "LineDisk$Workspace" "typedCount" "I" "LineDisk") := by decide +kernel
theorem v_105 : tables_1[105]? = some (Cond.methodLinkNest "LineDisk" 32 ⟨"LineDisk$Statement", "<init>", "()V"⟩ "LineDisk") := by decide +kernel
theorem v_115 : tables_1[115]? = some (Cond.fieldLinkNest "LineDisk" 237 "LineDisk$Statement" "kind" "I" "LineDisk") := by decide +kernel
theorem v_117 : tables_1[117]? = some (Cond.fieldLinkNest "LineDisk" 249 "LineDisk$Statement" "variable" "I" "LineDisk") := by decide +kernel
theorem v_119 : tables_1[119]? = some (Cond.fieldLinkNest "LineDisk" 255 "LineDisk$Statement" "file" "I" "LineDisk") := by decide +kernel
theorem v_121 : tables_1[121]? = some (Cond.fieldLinkNest "LineDisk" 252 "LineDisk$Statement" "left" "I" "LineDisk") := by decide +kernel
theorem v_124 : tables_1[124]? = some (Cond.fieldLinkNest "LineDisk" 258 "LineDisk$Statement" "right" "I" "LineDisk") := by decide +kernel
theorem v_126 : tables_1[126]? = some (Cond.fieldLinkNest "LineDisk" 246 "LineDisk$Statement" "target" "I" "LineDisk") := by decide +kernel
theorem v_218 : tables_1[218]? = some (Cond.fieldLinkNest "LineDisk$Journal" 46 "LineDisk" "EMPTY_BLOCK" "[I" "LineDisk") := by decide +kernel
theorem v_261 : tables_1[261]? = some (Cond.methodLinkNest "LineDisk$Statement" 79 ⟨"LineDisk", "isVariable", "(I)Z"⟩ "LineDisk") := by decide +kernel
theorem v_288 : tables_1[288]? = some (Cond.methodLinkNest "LineDisk$Statement" 92 ⟨"LineDisk", "isDigit", "(I)Z"⟩ "LineDisk") := by decide +kernel
theorem v_305 : tables_1[305]? = some (Cond.methodLinkNest "LineDisk$Statement" 98 ⟨"LineDisk", "isFileDigit", "(I)Z"⟩ "LineDisk") := by decide +kernel
theorem v_366 : tables_1[366]? = some (Cond.methodLinkNest "LineDisk$Store" 50 ⟨"LineDisk", "blocksFor", "(I)I"⟩ "LineDisk") := by decide +kernel
theorem v_486 : tables_1[486]? = some (Cond.castable "java/lang/IllegalArgumentException" "java/lang/IllegalArgumentException") := by decide +kernel
theorem v_487 : tables_1[487]? = some (Cond.declares ⟨"java/lang/RuntimeException", "<init>", "()V"⟩) := by decide +kernel
theorem v_488 : tables_1[488]? = some (Cond.declares ⟨"java/lang/RuntimeException", "<init>", "(Ljava/lang/String;)V"⟩) := by decide +kernel
theorem v_489 : tables_1[489]? = some (Cond.declares ⟨"java/lang/Exception", "<init>", "()V"⟩) := by decide +kernel
theorem v_490 : tables_1[490]? = some (Cond.declares ⟨"java/lang/Exception", "<init>", "(Ljava/lang/String;)V"⟩) := by decide +kernel
theorem v_491 : tables_1[491]? = some (Cond.declares ⟨"java/lang/Throwable", "<init>", "()V"⟩) := by decide +kernel
theorem v_492 : tables_1[492]? = some (Cond.declares ⟨"java/lang/Throwable", "<init>", "(Ljava/lang/String;)V"⟩) := by decide +kernel
theorem v_561 : tables_1[561]? = some (Cond.castable "java/lang/IndexOutOfBoundsException" "java/lang/IndexOutOfBoundsException") := by decide +kernel
end
section
set_option maxHeartbeats 4000000 in
set_option maxRecDepth 100000 in
theorem c_St_init (l : Launch) (dC : Nat → ClassId) (dI : Nat → Nat → Nat) (h0 : Nat) (sz : Nat) : Met l y_St_init (Cond.code y_St_init b_St_init 1 none :: gw) ({ frames := 1, cells := 1, slots := 512, locals := 12 }) (cP (dC, dI) [.ref h0] sz [(h0, .inr (1, [.null, .int 0, .int 0, .int 0]))] [] xT) (va_Qv (fun (u : Nat × ClassId) => True) (fun (u : Nat × ClassId) t => cB (dC, dI) (va_A [(h0, .inr (1, [.null, .int 0, .int 0, .int 0]))] sz) [(h0, .inr (1, [.ref u.1, .int (-1), .int 0, .int 0])), (u.1, .inl (u.2, 512, .inl (fun _ => 0)))] [(u.2, .int)] t) (va_A [(h0, .inr (1, [.null, .int 0, .int 0, .int 0]))] sz)) 1 512 (va_A [(h0, .inr (1, [.null, .int 0, .int 0, .int 0]))] sz) := by
  refine Met.ofW (cc := b_St_init) (maxL := 1) (ret := none) (by decide) rfl ?_
  intro p e s m args below meth c s₁ B hml hv
  obtain ⟨rfl, hsz, hP, hK, hD0, hkw, hX⟩ := hv
  have hx := B.exec
  have hb := B.bytes
  have hr := B.returns
  have hts := fun w hw => atoms_spec (ws := Cond.code y_St_init b_St_init 1 none :: gw) B.pre w (List.mem_cons_of_mem _ hw)
  have hown : s.vm.findClass "LineDisk$Store" = some m.cls := findClass_of_methodNamed B.named
  have hlocks := B.notSynchronized
  have hin := (name_of_methodNamed B.named B.method).1
  subst hsz
  have hD := hD0.self (sz := s.heap.size)
  generalize hAe : va_A [(h0, .inr (1, [.null, .int 0, .int 0, .int 0]))] s.heap.size = A at hD ⊢
  have hA : ∀ q : Nat, s.heap.size ≤ q → A q := fun q h => by rw [← hAe]; exact Or.inr h
  have hS : va_S A s.heap s.heap [] := va_S.rf
  have hl := lv_entry ([.ref h0]) (n := 1) (Nat.le_of_ble_eq_true rfl)
  rw [lg_entry_eq]
  generalize (lg_sl ([.ref h0]) ++ List.replicate (1 - (lg_sl ([.ref h0])).length) Slot.unset).toArray = ls at hl ⊢
  have hl : lv_has ls 1 [(0, .ref h0)] := hl
  have F : CallFix p m c b_St_init 1 s ([.ref h0]).toArray gw "LineDisk$Store" := ⟨hx, hb, hml, hown, hts⟩
  refine lv_aload_n hx hb d_St_init_0 rfl (lv_at hl 0 rfl) ?_
  refine W.objInit hx hb hown (hts _ w_28) (hts _ w_21) (hts _ w_22) rfl (by rw [hml]; exact hl.1) rfl d_St_init_1 (Nat.le_of_ble_eq_true rfl) (Nat.le_of_ble_eq_true rfl) ?_
  refine W.eq (g2 := F0 m 4 ls []) rfl ?_
  refine lv_aload_n hx hb d_St_init_4 rfl (lv_at hl 0 rfl) ?_
  refine lv_sipush (v := 512) hx hb d_St_init_5 (by decide) ?_
  refine va_newa (atype := .int) (a0 := (512, .inl (fun _ => 0))) (N' := 512) hx hb (hts _ w_45) rfl hK hP hD hS hA (fun cA => rfl) (by decide) (by decide) (by decide) (by decide) (by decide) d_St_init_8 (fun q8 cA8 H hK hP hD hS => ?_)
  have hP : va_P (dC, dI) cls [(h0, .inr (1, [.null, .int 0, .int 0, .int 0])), (q8, .inl (cA8, 512, .inl (fun _ => 0)))] H := hP
  have hD : va_D A [(h0, .inr (1, [.null, .int 0, .int 0, .int 0])), (q8, .inl (cA8, 512, .inl (fun _ => 0)))] := hD
  have hK : va_K (dC, dI) cls [(cA8, .int)] s := hK
  refine W.widen (k := 1) (n := 512) (by omega) (by omega) ?_
  refine va_putF (D := (dC, dI)) (ci := 1) (v := .ref q8) (ty := .array .int) (C := R_St) (T := F_St) (N := 4) hx hb hts in_St t_St t_St_ok n_St hown hK hP hD hS 0 rfl rfl 0 (by decide) (hts _ w_29) (fun _ h9 => h9) rfl hin rfl (by decide +kernel) (rfl) (rfl) (Nat.le_of_ble_eq_true rfl) d_St_init_10 (fun H locs hP hD hS => ?_)
  have hP : va_P (dC, dI) cls [(h0, .inr (1, [.ref q8, .int 0, .int 0, .int 0])), (q8, .inl (cA8, 512, .inl (fun _ => 0)))] H := hP
  have hD : va_D A [(h0, .inr (1, [.ref q8, .int 0, .int 0, .int 0])), (q8, .inl (cA8, 512, .inl (fun _ => 0)))] := hD
  refine lv_aload_n hx hb d_St_init_13 rfl (lv_at hl 0 rfl) ?_
  refine lv_iconst (v := (-1)) hx hb d_St_init_14 (by decide) ?_
  refine va_put (D := (dC, dI)) (ci := 1) (v := .int (-1)) (ty := .int) (C := R_St) (T := F_St) (N := 4) hx hb hts in_St t_St t_St_ok n_St hown hK hP hD hS 0 rfl rfl 1 (by decide) (hts _ w_30) (fun _ h9 => h9) rfl (by decide +kernel) (rfl) (rfl) (Nat.le_of_ble_eq_true rfl) d_St_init_15 (fun H locs hP hD hS => ?_)
  have hP : va_P (dC, dI) cls [(h0, .inr (1, [.ref q8, .int (-1), .int 0, .int 0])), (q8, .inl (cA8, 512, .inl (fun _ => 0)))] H := hP
  have hD : va_D A [(h0, .inr (1, [.ref q8, .int (-1), .int 0, .int 0])), (q8, .inl (cA8, 512, .inl (fun _ => 0)))] := hD
  refine lv_aload_n hx hb d_St_init_18 rfl (lv_at hl 0 rfl) ?_
  refine lv_iconst (v := 0) hx hb d_St_init_19 (by decide) ?_
  refine va_put (D := (dC, dI)) (ci := 1) (v := .int 0) (ty := .boolean) (C := R_St) (T := F_St) (N := 4) hx hb hts in_St t_St t_St_ok n_St hown hK hP hD hS 0 rfl rfl 2 (by decide) (hts _ w_32) (fun _ h9 => h9) rfl (by decide +kernel) (rfl) (rfl) (Nat.le_of_ble_eq_true rfl) d_St_init_20 (fun H locs hP hD hS => ?_)
  have hP : va_P (dC, dI) cls [(h0, .inr (1, [.ref q8, .int (-1), .int 0, .int 0])), (q8, .inl (cA8, 512, .inl (fun _ => 0)))] H := hP
  have hD : va_D A [(h0, .inr (1, [.ref q8, .int (-1), .int 0, .int 0])), (q8, .inl (cA8, 512, .inl (fun _ => 0)))] := hD
  refine lv_aload_n hx hb d_St_init_23 rfl (lv_at hl 0 rfl) ?_
  refine lv_iconst (v := 0) hx hb d_St_init_24 (by decide) ?_
  refine va_put (D := (dC, dI)) (ci := 1) (v := .int 0) (ty := .int) (C := R_St) (T := F_St) (N := 4) hx hb hts in_St t_St t_St_ok n_St hown hK hP hD hS 0 rfl rfl 3 (by decide) (hts _ w_34) (fun _ h9 => h9) rfl (by decide +kernel) (rfl) (rfl) (Nat.le_of_ble_eq_true rfl) d_St_init_25 (fun H locs hP hD hS => ?_)
  have hP : va_P (dC, dI) cls [(h0, .inr (1, [.ref q8, .int (-1), .int 0, .int 0])), (q8, .inl (cA8, 512, .inl (fun _ => 0)))] H := hP
  have hD : va_D A [(h0, .inr (1, [.ref q8, .int (-1), .int 0, .int 0])), (q8, .inl (cA8, 512, .inl (fun _ => 0)))] := hD
  refine W.widen (k := 1) (n := 512) (by decide) (by decide) ?_
  exact W.vret hx hb hr (fun t ht hW => ⟨⟨(q8, cA8), rfl, trivial, cB.of (hP.sub [0, 1] rfl) (hD.sub [0, 1] (by decide) rfl) (hK.sub [0] rfl) ht hW⟩, hS.F ht⟩) hS.2.2 d_St_init_28
set_option maxHeartbeats 4000000 in
set_option maxRecDepth 100000 in
theorem c_Jo_init (l : Launch) (dC : Nat → ClassId) (dI : Nat → Nat → Nat) (h0 : Nat) (sz : Nat) : Met l y_Jo_init (Cond.code y_Jo_init b_Jo_init 1 none :: gw) ({ frames := 1, cells := 2, slots := 112, locals := 12 }) (cP (dC, dI) [.ref h0] sz [(h0, .inr (2, [.null, .null, .int 0]))] [] xT) (va_Qv (fun (u : Nat × ClassId × Nat × ClassId) => True) (fun (u : Nat × ClassId × Nat × ClassId) t => cB (dC, dI) (va_A [(h0, .inr (2, [.null, .null, .int 0]))] sz) [(h0, .inr (2, [.ref u.1, .ref u.2.2.1, .int 0])), (u.1, .inl (u.2.1, 96, .inl (fun _ => 0))), (u.2.2.1, .inl (u.2.2.2, 16, .inl (fun _ => 0)))] [(u.2.1, .int), (u.2.2.2, .int)] t) (va_A [(h0, .inr (2, [.null, .null, .int 0]))] sz)) 2 112 (va_A [(h0, .inr (2, [.null, .null, .int 0]))] sz) := by
  refine Met.ofW (cc := b_Jo_init) (maxL := 1) (ret := none) (by decide) rfl ?_
  intro p e s m args below meth c s₁ B hml hv
  obtain ⟨rfl, hsz, hP, hK, hD0, hkw, hX⟩ := hv
  have hx := B.exec
  have hb := B.bytes
  have hr := B.returns
  have hts := fun w hw => atoms_spec (ws := Cond.code y_Jo_init b_Jo_init 1 none :: gw) B.pre w (List.mem_cons_of_mem _ hw)
  have hown : s.vm.findClass "LineDisk$Journal" = some m.cls := findClass_of_methodNamed B.named
  have hlocks := B.notSynchronized
  have hin := (name_of_methodNamed B.named B.method).1
  subst hsz
  have hD := hD0.self (sz := s.heap.size)
  generalize hAe : va_A [(h0, .inr (2, [.null, .null, .int 0]))] s.heap.size = A at hD ⊢
  have hA : ∀ q : Nat, s.heap.size ≤ q → A q := fun q h => by rw [← hAe]; exact Or.inr h
  have hS : va_S A s.heap s.heap [] := va_S.rf
  have hl := lv_entry ([.ref h0]) (n := 1) (Nat.le_of_ble_eq_true rfl)
  rw [lg_entry_eq]
  generalize (lg_sl ([.ref h0]) ++ List.replicate (1 - (lg_sl ([.ref h0])).length) Slot.unset).toArray = ls at hl ⊢
  have hl : lv_has ls 1 [(0, .ref h0)] := hl
  have F : CallFix p m c b_Jo_init 1 s ([.ref h0]).toArray gw "LineDisk$Journal" := ⟨hx, hb, hml, hown, hts⟩
  refine lv_aload_n hx hb d_Jo_init_0 rfl (lv_at hl 0 rfl) ?_
  refine W.objInit hx hb hown (hts _ w_51) (hts _ w_21) (hts _ w_22) rfl (by rw [hml]; exact hl.1) rfl d_Jo_init_1 (Nat.le_of_ble_eq_true rfl) (Nat.le_of_ble_eq_true rfl) ?_
  refine W.eq (g2 := F0 m 4 ls []) rfl ?_
  refine lv_aload_n hx hb d_Jo_init_4 rfl (lv_at hl 0 rfl) ?_
  refine lv_bipush (v := 96) hx hb d_Jo_init_5 (by decide) ?_
  refine va_newa (atype := .int) (a0 := (96, .inl (fun _ => 0))) (N' := 96) hx hb (hts _ w_45) rfl hK hP hD hS hA (fun cA => rfl) (by decide) (by decide) (by decide) (by decide) (by decide) d_Jo_init_7 (fun q7 cA7 H hK hP hD hS => ?_)
  have hP : va_P (dC, dI) cls [(h0, .inr (2, [.null, .null, .int 0])), (q7, .inl (cA7, 96, .inl (fun _ => 0)))] H := hP
  have hD : va_D A [(h0, .inr (2, [.null, .null, .int 0])), (q7, .inl (cA7, 96, .inl (fun _ => 0)))] := hD
  have hK : va_K (dC, dI) cls [(cA7, .int)] s := hK
  refine W.widen (k := 1) (n := 96) (by omega) (by omega) ?_
  refine va_putF (D := (dC, dI)) (ci := 2) (v := .ref q7) (ty := .array .int) (C := R_Jo) (T := F_Jo) (N := 3) hx hb hts in_Jo t_Jo t_Jo_ok n_Jo hown hK hP hD hS 0 rfl rfl 0 (by decide) (hts _ w_52) (fun _ h9 => h9) rfl hin rfl (by decide +kernel) (rfl) (rfl) (Nat.le_of_ble_eq_true rfl) d_Jo_init_9 (fun H locs hP hD hS => ?_)
  have hP : va_P (dC, dI) cls [(h0, .inr (2, [.ref q7, .null, .int 0])), (q7, .inl (cA7, 96, .inl (fun _ => 0)))] H := hP
  have hD : va_D A [(h0, .inr (2, [.ref q7, .null, .int 0])), (q7, .inl (cA7, 96, .inl (fun _ => 0)))] := hD
  refine lv_aload_n hx hb d_Jo_init_12 rfl (lv_at hl 0 rfl) ?_
  refine lv_bipush (v := 16) hx hb d_Jo_init_13 (by decide) ?_
  refine va_newa (atype := .int) (a0 := (16, .inl (fun _ => 0))) (N' := 16) hx hb (hts _ w_45) rfl hK hP hD hS hA (fun cA => rfl) (by decide) (by decide) (by decide) (by decide) (by decide) d_Jo_init_15 (fun q15 cA15 H hK hP hD hS => ?_)
  have hP : va_P (dC, dI) cls [(h0, .inr (2, [.ref q7, .null, .int 0])), (q7, .inl (cA7, 96, .inl (fun _ => 0))), (q15, .inl (cA15, 16, .inl (fun _ => 0)))] H := hP
  have hD : va_D A [(h0, .inr (2, [.ref q7, .null, .int 0])), (q7, .inl (cA7, 96, .inl (fun _ => 0))), (q15, .inl (cA15, 16, .inl (fun _ => 0)))] := hD
  have hK : va_K (dC, dI) cls [(cA7, .int), (cA15, .int)] s := hK
  refine W.widen (k := 2) (n := 112) (by omega) (by omega) ?_
  refine va_putF (D := (dC, dI)) (ci := 2) (v := .ref q15) (ty := .array .int) (C := R_Jo) (T := F_Jo) (N := 3) hx hb hts in_Jo t_Jo t_Jo_ok n_Jo hown hK hP hD hS 0 rfl rfl 1 (by decide) (hts _ w_53) (fun _ h9 => h9) rfl hin rfl (by decide +kernel) (rfl) (rfl) (Nat.le_of_ble_eq_true rfl) d_Jo_init_17 (fun H locs hP hD hS => ?_)
  have hP : va_P (dC, dI) cls [(h0, .inr (2, [.ref q7, .ref q15, .int 0])), (q7, .inl (cA7, 96, .inl (fun _ => 0))), (q15, .inl (cA15, 16, .inl (fun _ => 0)))] H := hP
  have hD : va_D A [(h0, .inr (2, [.ref q7, .ref q15, .int 0])), (q7, .inl (cA7, 96, .inl (fun _ => 0))), (q15, .inl (cA15, 16, .inl (fun _ => 0)))] := hD
  refine lv_aload_n hx hb d_Jo_init_20 rfl (lv_at hl 0 rfl) ?_
  refine lv_iconst (v := 0) hx hb d_Jo_init_21 (by decide) ?_
  refine va_put (D := (dC, dI)) (ci := 2) (v := .int 0) (ty := .int) (C := R_Jo) (T := F_Jo) (N := 3) hx hb hts in_Jo t_Jo t_Jo_ok n_Jo hown hK hP hD hS 0 rfl rfl 2 (by decide) (hts _ w_54) (fun _ h9 => h9) rfl (by decide +kernel) (rfl) (rfl) (Nat.le_of_ble_eq_true rfl) d_Jo_init_22 (fun H locs hP hD hS => ?_)
  have hP : va_P (dC, dI) cls [(h0, .inr (2, [.ref q7, .ref q15, .int 0])), (q7, .inl (cA7, 96, .inl (fun _ => 0))), (q15, .inl (cA15, 16, .inl (fun _ => 0)))] H := hP
  have hD : va_D A [(h0, .inr (2, [.ref q7, .ref q15, .int 0])), (q7, .inl (cA7, 96, .inl (fun _ => 0))), (q15, .inl (cA15, 16, .inl (fun _ => 0)))] := hD
  refine W.widen (k := 2) (n := 112) (by decide) (by decide) ?_
  exact W.vret hx hb hr (fun t ht hW => ⟨⟨(q7, cA7, q15, cA15), rfl, trivial, cB.of (hP.sub [0, 1, 2] rfl) (hD.sub [0, 1, 2] (by decide) rfl) (hK.sub [0, 1] rfl) ht hW⟩, hS.F ht⟩) hS.2.2 d_Jo_init_25
set_option maxHeartbeats 4000000 in
set_option maxRecDepth 100000 in
theorem c_Wo_init (l : Launch) (dC : Nat → ClassId) (dI : Nat → Nat → Nat) (h0 : Nat) (sz : Nat) : Met l y_Wo_init (Cond.code y_Wo_init b_Wo_init 1 none :: gw) ({ frames := 1, cells := 6, slots := 175, locals := 12 }) (cP (dC, dI) [.ref h0] sz [(h0, .inr (3, [.null, .null, .null, .null, .null, .null, .int 0, .int 0, .int 0]))] [] xT) (va_Qv (fun (u : Nat × ClassId × Nat × ClassId × Nat × ClassId × Nat × ClassId × Nat × ClassId × Nat × ClassId) => True) (fun (u : Nat × ClassId × Nat × ClassId × Nat × ClassId × Nat × ClassId × Nat × ClassId × Nat × ClassId) t => cB (dC, dI) (va_A [(h0, .inr (3, [.null, .null, .null, .null, .null, .null, .int 0, .int 0, .int 0]))] sz) [(h0, .inr (3, [.ref u.1, .ref u.2.2.1, .ref u.2.2.2.2.1, .ref u.2.2.2.2.2.2.1, .ref u.2.2.2.2.2.2.2.2.1, .ref u.2.2.2.2.2.2.2.2.2.2.1, .int 0, .int 0, .int 0])), (u.1, .inl (u.2.1, 10, .inl (fun _ => 0))), (u.2.2.1, .inl (u.2.2.2.1, 10, .inl (fun _ => 0))), (u.2.2.2.2.1, .inl (u.2.2.2.2.2.1, 120, .inl (fun _ => 0))), (u.2.2.2.2.2.2.1, .inl (u.2.2.2.2.2.2.2.1, 12, .inl (fun _ => 0))), (u.2.2.2.2.2.2.2.2.1, .inl (u.2.2.2.2.2.2.2.2.2.1, 8, .inl (fun _ => 0))), (u.2.2.2.2.2.2.2.2.2.2.1, .inl (u.2.2.2.2.2.2.2.2.2.2.2, 15, .inl (fun _ => 0)))] [(u.2.1, .int), (u.2.2.2.1, .int), (u.2.2.2.2.2.1, .int), (u.2.2.2.2.2.2.2.1, .int), (u.2.2.2.2.2.2.2.2.2.1, .int), (u.2.2.2.2.2.2.2.2.2.2.2, .int)] t) (va_A [(h0, .inr (3, [.null, .null, .null, .null, .null, .null, .int 0, .int 0, .int 0]))] sz)) 6 175 (va_A [(h0, .inr (3, [.null, .null, .null, .null, .null, .null, .int 0, .int 0, .int 0]))] sz) := by
  refine Met.ofW (cc := b_Wo_init) (maxL := 1) (ret := none) (by decide) rfl ?_
  intro p e s m args below meth c s₁ B hml hv
  obtain ⟨rfl, hsz, hP, hK, hD0, hkw, hX⟩ := hv
  have hx := B.exec
  have hb := B.bytes
  have hr := B.returns
  have hts := fun w hw => atoms_spec (ws := Cond.code y_Wo_init b_Wo_init 1 none :: gw) B.pre w (List.mem_cons_of_mem _ hw)
  have hown : s.vm.findClass "LineDisk$Workspace" = some m.cls := findClass_of_methodNamed B.named
  have hlocks := B.notSynchronized
  have hin := (name_of_methodNamed B.named B.method).1
  subst hsz
  have hD := hD0.self (sz := s.heap.size)
  generalize hAe : va_A [(h0, .inr (3, [.null, .null, .null, .null, .null, .null, .int 0, .int 0, .int 0]))] s.heap.size = A at hD ⊢
  have hA : ∀ q : Nat, s.heap.size ≤ q → A q := fun q h => by rw [← hAe]; exact Or.inr h
  have hS : va_S A s.heap s.heap [] := va_S.rf
  have hl := lv_entry ([.ref h0]) (n := 1) (Nat.le_of_ble_eq_true rfl)
  rw [lg_entry_eq]
  generalize (lg_sl ([.ref h0]) ++ List.replicate (1 - (lg_sl ([.ref h0])).length) Slot.unset).toArray = ls at hl ⊢
  have hl : lv_has ls 1 [(0, .ref h0)] := hl
  have F : CallFix p m c b_Wo_init 1 s ([.ref h0]).toArray gw "LineDisk$Workspace" := ⟨hx, hb, hml, hown, hts⟩
  refine lv_aload_n hx hb d_Wo_init_0 rfl (lv_at hl 0 rfl) ?_
  refine W.objInit hx hb hown (hts _ w_67) (hts _ w_21) (hts _ w_22) rfl (by rw [hml]; exact hl.1) rfl d_Wo_init_1 (Nat.le_of_ble_eq_true rfl) (Nat.le_of_ble_eq_true rfl) ?_
  refine W.eq (g2 := F0 m 4 ls []) rfl ?_
  refine lv_aload_n hx hb d_Wo_init_4 rfl (lv_at hl 0 rfl) ?_
  refine lv_bipush (v := 10) hx hb d_Wo_init_5 (by decide) ?_
  refine va_newa (atype := .int) (a0 := (10, .inl (fun _ => 0))) (N' := 10) hx hb (hts _ w_45) rfl hK hP hD hS hA (fun cA => rfl) (by decide) (by decide) (by decide) (by decide) (by decide) d_Wo_init_7 (fun q7 cA7 H hK hP hD hS => ?_)
  have hP : va_P (dC, dI) cls [(h0, .inr (3, [.null, .null, .null, .null, .null, .null, .int 0, .int 0, .int 0])), (q7, .inl (cA7, 10, .inl (fun _ => 0)))] H := hP
  have hD : va_D A [(h0, .inr (3, [.null, .null, .null, .null, .null, .null, .int 0, .int 0, .int 0])), (q7, .inl (cA7, 10, .inl (fun _ => 0)))] := hD
  have hK : va_K (dC, dI) cls [(cA7, .int)] s := hK
  refine W.widen (k := 1) (n := 10) (by omega) (by omega) ?_
  refine va_putF (D := (dC, dI)) (ci := 3) (v := .ref q7) (ty := .array .int) (C := R_Wo) (T := F_Wo) (N := 9) hx hb hts in_Wo t_Wo t_Wo_ok n_Wo hown hK hP hD hS 0 rfl rfl 0 (by decide) (hts _ w_68) (fun _ h9 => h9) rfl hin rfl (by decide +kernel) (rfl) (rfl) (Nat.le_of_ble_eq_true rfl) d_Wo_init_9 (fun H locs hP hD hS => ?_)
  have hP : va_P (dC, dI) cls [(h0, .inr (3, [.ref q7, .null, .null, .null, .null, .null, .int 0, .int 0, .int 0])), (q7, .inl (cA7, 10, .inl (fun _ => 0)))] H := hP
  have hD : va_D A [(h0, .inr (3, [.ref q7, .null, .null, .null, .null, .null, .int 0, .int 0, .int 0])), (q7, .inl (cA7, 10, .inl (fun _ => 0)))] := hD
  refine lv_aload_n hx hb d_Wo_init_12 rfl (lv_at hl 0 rfl) ?_
  refine lv_bipush (v := 10) hx hb d_Wo_init_13 (by decide) ?_
  refine va_newa (atype := .int) (a0 := (10, .inl (fun _ => 0))) (N' := 10) hx hb (hts _ w_45) rfl hK hP hD hS hA (fun cA => rfl) (by decide) (by decide) (by decide) (by decide) (by decide) d_Wo_init_15 (fun q15 cA15 H hK hP hD hS => ?_)
  have hP : va_P (dC, dI) cls [(h0, .inr (3, [.ref q7, .null, .null, .null, .null, .null, .int 0, .int 0, .int 0])), (q7, .inl (cA7, 10, .inl (fun _ => 0))), (q15, .inl (cA15, 10, .inl (fun _ => 0)))] H := hP
  have hD : va_D A [(h0, .inr (3, [.ref q7, .null, .null, .null, .null, .null, .int 0, .int 0, .int 0])), (q7, .inl (cA7, 10, .inl (fun _ => 0))), (q15, .inl (cA15, 10, .inl (fun _ => 0)))] := hD
  have hK : va_K (dC, dI) cls [(cA7, .int), (cA15, .int)] s := hK
  refine W.widen (k := 2) (n := 20) (by omega) (by omega) ?_
  refine va_putF (D := (dC, dI)) (ci := 3) (v := .ref q15) (ty := .array .int) (C := R_Wo) (T := F_Wo) (N := 9) hx hb hts in_Wo t_Wo t_Wo_ok n_Wo hown hK hP hD hS 0 rfl rfl 1 (by decide) (hts _ w_69) (fun _ h9 => h9) rfl hin rfl (by decide +kernel) (rfl) (rfl) (Nat.le_of_ble_eq_true rfl) d_Wo_init_17 (fun H locs hP hD hS => ?_)
  have hP : va_P (dC, dI) cls [(h0, .inr (3, [.ref q7, .ref q15, .null, .null, .null, .null, .int 0, .int 0, .int 0])), (q7, .inl (cA7, 10, .inl (fun _ => 0))), (q15, .inl (cA15, 10, .inl (fun _ => 0)))] H := hP
  have hD : va_D A [(h0, .inr (3, [.ref q7, .ref q15, .null, .null, .null, .null, .int 0, .int 0, .int 0])), (q7, .inl (cA7, 10, .inl (fun _ => 0))), (q15, .inl (cA15, 10, .inl (fun _ => 0)))] := hD
  refine lv_aload_n hx hb d_Wo_init_20 rfl (lv_at hl 0 rfl) ?_
  refine lv_bipush (v := 120) hx hb d_Wo_init_21 (by decide) ?_
  refine va_newa (atype := .int) (a0 := (120, .inl (fun _ => 0))) (N' := 120) hx hb (hts _ w_45) rfl hK hP hD hS hA (fun cA => rfl) (by decide) (by decide) (by decide) (by decide) (by decide) d_Wo_init_23 (fun q23 cA23 H hK hP hD hS => ?_)
  have hP : va_P (dC, dI) cls [(h0, .inr (3, [.ref q7, .ref q15, .null, .null, .null, .null, .int 0, .int 0, .int 0])), (q7, .inl (cA7, 10, .inl (fun _ => 0))), (q15, .inl (cA15, 10, .inl (fun _ => 0))), (q23, .inl (cA23, 120, .inl (fun _ => 0)))] H := hP
  have hD : va_D A [(h0, .inr (3, [.ref q7, .ref q15, .null, .null, .null, .null, .int 0, .int 0, .int 0])), (q7, .inl (cA7, 10, .inl (fun _ => 0))), (q15, .inl (cA15, 10, .inl (fun _ => 0))), (q23, .inl (cA23, 120, .inl (fun _ => 0)))] := hD
  have hK : va_K (dC, dI) cls [(cA7, .int), (cA15, .int), (cA23, .int)] s := hK
  refine W.widen (k := 3) (n := 140) (by omega) (by omega) ?_
  refine va_putF (D := (dC, dI)) (ci := 3) (v := .ref q23) (ty := .array .int) (C := R_Wo) (T := F_Wo) (N := 9) hx hb hts in_Wo t_Wo t_Wo_ok n_Wo hown hK hP hD hS 0 rfl rfl 2 (by decide) (hts _ w_71) (fun _ h9 => h9) rfl hin rfl (by decide +kernel) (rfl) (rfl) (Nat.le_of_ble_eq_true rfl) d_Wo_init_25 (fun H locs hP hD hS => ?_)
  have hP : va_P (dC, dI) cls [(h0, .inr (3, [.ref q7, .ref q15, .ref q23, .null, .null, .null, .int 0, .int 0, .int 0])), (q7, .inl (cA7, 10, .inl (fun _ => 0))), (q15, .inl (cA15, 10, .inl (fun _ => 0))), (q23, .inl (cA23, 120, .inl (fun _ => 0)))] H := hP
  have hD : va_D A [(h0, .inr (3, [.ref q7, .ref q15, .ref q23, .null, .null, .null, .int 0, .int 0, .int 0])), (q7, .inl (cA7, 10, .inl (fun _ => 0))), (q15, .inl (cA15, 10, .inl (fun _ => 0))), (q23, .inl (cA23, 120, .inl (fun _ => 0)))] := hD
  refine lv_aload_n hx hb d_Wo_init_28 rfl (lv_at hl 0 rfl) ?_
  refine lv_bipush (v := 12) hx hb d_Wo_init_29 (by decide) ?_
  refine va_newa (atype := .int) (a0 := (12, .inl (fun _ => 0))) (N' := 12) hx hb (hts _ w_45) rfl hK hP hD hS hA (fun cA => rfl) (by decide) (by decide) (by decide) (by decide) (by decide) d_Wo_init_31 (fun q31 cA31 H hK hP hD hS => ?_)
  have hP : va_P (dC, dI) cls [(h0, .inr (3, [.ref q7, .ref q15, .ref q23, .null, .null, .null, .int 0, .int 0, .int 0])), (q7, .inl (cA7, 10, .inl (fun _ => 0))), (q15, .inl (cA15, 10, .inl (fun _ => 0))), (q23, .inl (cA23, 120, .inl (fun _ => 0))), (q31, .inl (cA31, 12, .inl (fun _ => 0)))] H := hP
  have hD : va_D A [(h0, .inr (3, [.ref q7, .ref q15, .ref q23, .null, .null, .null, .int 0, .int 0, .int 0])), (q7, .inl (cA7, 10, .inl (fun _ => 0))), (q15, .inl (cA15, 10, .inl (fun _ => 0))), (q23, .inl (cA23, 120, .inl (fun _ => 0))), (q31, .inl (cA31, 12, .inl (fun _ => 0)))] := hD
  have hK : va_K (dC, dI) cls [(cA7, .int), (cA15, .int), (cA23, .int), (cA31, .int)] s := hK
  refine W.widen (k := 4) (n := 152) (by omega) (by omega) ?_
  refine va_putF (D := (dC, dI)) (ci := 3) (v := .ref q31) (ty := .array .int) (C := R_Wo) (T := F_Wo) (N := 9) hx hb hts in_Wo t_Wo t_Wo_ok n_Wo hown hK hP hD hS 0 rfl rfl 3 (by decide) (hts _ w_73) (fun _ h9 => h9) rfl hin rfl (by decide +kernel) (rfl) (rfl) (Nat.le_of_ble_eq_true rfl) d_Wo_init_33 (fun H locs hP hD hS => ?_)
  have hP : va_P (dC, dI) cls [(h0, .inr (3, [.ref q7, .ref q15, .ref q23, .ref q31, .null, .null, .int 0, .int 0, .int 0])), (q7, .inl (cA7, 10, .inl (fun _ => 0))), (q15, .inl (cA15, 10, .inl (fun _ => 0))), (q23, .inl (cA23, 120, .inl (fun _ => 0))), (q31, .inl (cA31, 12, .inl (fun _ => 0)))] H := hP
  have hD : va_D A [(h0, .inr (3, [.ref q7, .ref q15, .ref q23, .ref q31, .null, .null, .int 0, .int 0, .int 0])), (q7, .inl (cA7, 10, .inl (fun _ => 0))), (q15, .inl (cA15, 10, .inl (fun _ => 0))), (q23, .inl (cA23, 120, .inl (fun _ => 0))), (q31, .inl (cA31, 12, .inl (fun _ => 0)))] := hD
  refine lv_aload_n hx hb d_Wo_init_36 rfl (lv_at hl 0 rfl) ?_
  refine lv_bipush (v := 8) hx hb d_Wo_init_37 (by decide) ?_
  refine va_newa (atype := .int) (a0 := (8, .inl (fun _ => 0))) (N' := 8) hx hb (hts _ w_45) rfl hK hP hD hS hA (fun cA => rfl) (by decide) (by decide) (by decide) (by decide) (by decide) d_Wo_init_39 (fun q39 cA39 H hK hP hD hS => ?_)
  have hP : va_P (dC, dI) cls [(h0, .inr (3, [.ref q7, .ref q15, .ref q23, .ref q31, .null, .null, .int 0, .int 0, .int 0])), (q7, .inl (cA7, 10, .inl (fun _ => 0))), (q15, .inl (cA15, 10, .inl (fun _ => 0))), (q23, .inl (cA23, 120, .inl (fun _ => 0))), (q31, .inl (cA31, 12, .inl (fun _ => 0))), (q39, .inl (cA39, 8, .inl (fun _ => 0)))] H := hP
  have hD : va_D A [(h0, .inr (3, [.ref q7, .ref q15, .ref q23, .ref q31, .null, .null, .int 0, .int 0, .int 0])), (q7, .inl (cA7, 10, .inl (fun _ => 0))), (q15, .inl (cA15, 10, .inl (fun _ => 0))), (q23, .inl (cA23, 120, .inl (fun _ => 0))), (q31, .inl (cA31, 12, .inl (fun _ => 0))), (q39, .inl (cA39, 8, .inl (fun _ => 0)))] := hD
  have hK : va_K (dC, dI) cls [(cA7, .int), (cA15, .int), (cA23, .int), (cA31, .int), (cA39, .int)] s := hK
  refine W.widen (k := 5) (n := 160) (by omega) (by omega) ?_
  refine va_putF (D := (dC, dI)) (ci := 3) (v := .ref q39) (ty := .array .int) (C := R_Wo) (T := F_Wo) (N := 9) hx hb hts in_Wo t_Wo t_Wo_ok n_Wo hown hK hP hD hS 0 rfl rfl 4 (by decide) (hts _ w_74) (fun _ h9 => h9) rfl hin rfl (by decide +kernel) (rfl) (rfl) (Nat.le_of_ble_eq_true rfl) d_Wo_init_41 (fun H locs hP hD hS => ?_)
  have hP : va_P (dC, dI) cls [(h0, .inr (3, [.ref q7, .ref q15, .ref q23, .ref q31, .ref q39, .null, .int 0, .int 0, .int 0])), (q7, .inl (cA7, 10, .inl (fun _ => 0))), (q15, .inl (cA15, 10, .inl (fun _ => 0))), (q23, .inl (cA23, 120, .inl (fun _ => 0))), (q31, .inl (cA31, 12, .inl (fun _ => 0))), (q39, .inl (cA39, 8, .inl (fun _ => 0)))] H := hP
  have hD : va_D A [(h0, .inr (3, [.ref q7, .ref q15, .ref q23, .ref q31, .ref q39, .null, .int 0, .int 0, .int 0])), (q7, .inl (cA7, 10, .inl (fun _ => 0))), (q15, .inl (cA15, 10, .inl (fun _ => 0))), (q23, .inl (cA23, 120, .inl (fun _ => 0))), (q31, .inl (cA31, 12, .inl (fun _ => 0))), (q39, .inl (cA39, 8, .inl (fun _ => 0)))] := hD
  refine lv_aload_n hx hb d_Wo_init_44 rfl (lv_at hl 0 rfl) ?_
  refine lv_bipush (v := 15) hx hb d_Wo_init_45 (by decide) ?_
  refine va_newa (atype := .int) (a0 := (15, .inl (fun _ => 0))) (N' := 15) hx hb (hts _ w_45) rfl hK hP hD hS hA (fun cA => rfl) (by decide) (by decide) (by decide) (by decide) (by decide) d_Wo_init_47 (fun q47 cA47 H hK hP hD hS => ?_)
  have hP : va_P (dC, dI) cls [(h0, .inr (3, [.ref q7, .ref q15, .ref q23, .ref q31, .ref q39, .null, .int 0, .int 0, .int 0])), (q7, .inl (cA7, 10, .inl (fun _ => 0))), (q15, .inl (cA15, 10, .inl (fun _ => 0))), (q23, .inl (cA23, 120, .inl (fun _ => 0))), (q31, .inl (cA31, 12, .inl (fun _ => 0))), (q39, .inl (cA39, 8, .inl (fun _ => 0))), (q47, .inl (cA47, 15, .inl (fun _ => 0)))] H := hP
  have hD : va_D A [(h0, .inr (3, [.ref q7, .ref q15, .ref q23, .ref q31, .ref q39, .null, .int 0, .int 0, .int 0])), (q7, .inl (cA7, 10, .inl (fun _ => 0))), (q15, .inl (cA15, 10, .inl (fun _ => 0))), (q23, .inl (cA23, 120, .inl (fun _ => 0))), (q31, .inl (cA31, 12, .inl (fun _ => 0))), (q39, .inl (cA39, 8, .inl (fun _ => 0))), (q47, .inl (cA47, 15, .inl (fun _ => 0)))] := hD
  have hK : va_K (dC, dI) cls [(cA7, .int), (cA15, .int), (cA23, .int), (cA31, .int), (cA39, .int), (cA47, .int)] s := hK
  refine W.widen (k := 6) (n := 175) (by omega) (by omega) ?_
  refine va_putF (D := (dC, dI)) (ci := 3) (v := .ref q47) (ty := .array .int) (C := R_Wo) (T := F_Wo) (N := 9) hx hb hts in_Wo t_Wo t_Wo_ok n_Wo hown hK hP hD hS 0 rfl rfl 5 (by decide) (hts _ w_76) (fun _ h9 => h9) rfl hin rfl (by decide +kernel) (rfl) (rfl) (Nat.le_of_ble_eq_true rfl) d_Wo_init_49 (fun H locs hP hD hS => ?_)
  have hP : va_P (dC, dI) cls [(h0, .inr (3, [.ref q7, .ref q15, .ref q23, .ref q31, .ref q39, .ref q47, .int 0, .int 0, .int 0])), (q7, .inl (cA7, 10, .inl (fun _ => 0))), (q15, .inl (cA15, 10, .inl (fun _ => 0))), (q23, .inl (cA23, 120, .inl (fun _ => 0))), (q31, .inl (cA31, 12, .inl (fun _ => 0))), (q39, .inl (cA39, 8, .inl (fun _ => 0))), (q47, .inl (cA47, 15, .inl (fun _ => 0)))] H := hP
  have hD : va_D A [(h0, .inr (3, [.ref q7, .ref q15, .ref q23, .ref q31, .ref q39, .ref q47, .int 0, .int 0, .int 0])), (q7, .inl (cA7, 10, .inl (fun _ => 0))), (q15, .inl (cA15, 10, .inl (fun _ => 0))), (q23, .inl (cA23, 120, .inl (fun _ => 0))), (q31, .inl (cA31, 12, .inl (fun _ => 0))), (q39, .inl (cA39, 8, .inl (fun _ => 0))), (q47, .inl (cA47, 15, .inl (fun _ => 0)))] := hD
  refine lv_aload_n hx hb d_Wo_init_52 rfl (lv_at hl 0 rfl) ?_
  refine lv_iconst (v := 0) hx hb d_Wo_init_53 (by decide) ?_
  refine va_put (D := (dC, dI)) (ci := 3) (v := .int 0) (ty := .int) (C := R_Wo) (T := F_Wo) (N := 9) hx hb hts in_Wo t_Wo t_Wo_ok n_Wo hown hK hP hD hS 0 rfl rfl 6 (by decide) (hts _ w_78) (fun _ h9 => h9) rfl (by decide +kernel) (rfl) (rfl) (Nat.le_of_ble_eq_true rfl) d_Wo_init_54 (fun H locs hP hD hS => ?_)
  have hP : va_P (dC, dI) cls [(h0, .inr (3, [.ref q7, .ref q15, .ref q23, .ref q31, .ref q39, .ref q47, .int 0, .int 0, .int 0])), (q7, .inl (cA7, 10, .inl (fun _ => 0))), (q15, .inl (cA15, 10, .inl (fun _ => 0))), (q23, .inl (cA23, 120, .inl (fun _ => 0))), (q31, .inl (cA31, 12, .inl (fun _ => 0))), (q39, .inl (cA39, 8, .inl (fun _ => 0))), (q47, .inl (cA47, 15, .inl (fun _ => 0)))] H := hP
  have hD : va_D A [(h0, .inr (3, [.ref q7, .ref q15, .ref q23, .ref q31, .ref q39, .ref q47, .int 0, .int 0, .int 0])), (q7, .inl (cA7, 10, .inl (fun _ => 0))), (q15, .inl (cA15, 10, .inl (fun _ => 0))), (q23, .inl (cA23, 120, .inl (fun _ => 0))), (q31, .inl (cA31, 12, .inl (fun _ => 0))), (q39, .inl (cA39, 8, .inl (fun _ => 0))), (q47, .inl (cA47, 15, .inl (fun _ => 0)))] := hD
  refine lv_aload_n hx hb d_Wo_init_57 rfl (lv_at hl 0 rfl) ?_
  refine lv_iconst (v := 0) hx hb d_Wo_init_58 (by decide) ?_
  refine va_put (D := (dC, dI)) (ci := 3) (v := .int 0) (ty := .int) (C := R_Wo) (T := F_Wo) (N := 9) hx hb hts in_Wo t_Wo t_Wo_ok n_Wo hown hK hP hD hS 0 rfl rfl 7 (by decide) (hts _ w_80) (fun _ h9 => h9) rfl (by decide +kernel) (rfl) (rfl) (Nat.le_of_ble_eq_true rfl) d_Wo_init_59 (fun H locs hP hD hS => ?_)
  have hP : va_P (dC, dI) cls [(h0, .inr (3, [.ref q7, .ref q15, .ref q23, .ref q31, .ref q39, .ref q47, .int 0, .int 0, .int 0])), (q7, .inl (cA7, 10, .inl (fun _ => 0))), (q15, .inl (cA15, 10, .inl (fun _ => 0))), (q23, .inl (cA23, 120, .inl (fun _ => 0))), (q31, .inl (cA31, 12, .inl (fun _ => 0))), (q39, .inl (cA39, 8, .inl (fun _ => 0))), (q47, .inl (cA47, 15, .inl (fun _ => 0)))] H := hP
  have hD : va_D A [(h0, .inr (3, [.ref q7, .ref q15, .ref q23, .ref q31, .ref q39, .ref q47, .int 0, .int 0, .int 0])), (q7, .inl (cA7, 10, .inl (fun _ => 0))), (q15, .inl (cA15, 10, .inl (fun _ => 0))), (q23, .inl (cA23, 120, .inl (fun _ => 0))), (q31, .inl (cA31, 12, .inl (fun _ => 0))), (q39, .inl (cA39, 8, .inl (fun _ => 0))), (q47, .inl (cA47, 15, .inl (fun _ => 0)))] := hD
  refine lv_aload_n hx hb d_Wo_init_62 rfl (lv_at hl 0 rfl) ?_
  refine lv_iconst (v := 0) hx hb d_Wo_init_63 (by decide) ?_
  refine va_put (D := (dC, dI)) (ci := 3) (v := .int 0) (ty := .int) (C := R_Wo) (T := F_Wo) (N := 9) hx hb hts in_Wo t_Wo t_Wo_ok n_Wo hown hK hP hD hS 0 rfl rfl 8 (by decide) (hts _ w_82) (fun _ h9 => h9) rfl (by decide +kernel) (rfl) (rfl) (Nat.le_of_ble_eq_true rfl) d_Wo_init_64 (fun H locs hP hD hS => ?_)
  have hP : va_P (dC, dI) cls [(h0, .inr (3, [.ref q7, .ref q15, .ref q23, .ref q31, .ref q39, .ref q47, .int 0, .int 0, .int 0])), (q7, .inl (cA7, 10, .inl (fun _ => 0))), (q15, .inl (cA15, 10, .inl (fun _ => 0))), (q23, .inl (cA23, 120, .inl (fun _ => 0))), (q31, .inl (cA31, 12, .inl (fun _ => 0))), (q39, .inl (cA39, 8, .inl (fun _ => 0))), (q47, .inl (cA47, 15, .inl (fun _ => 0)))] H := hP
  have hD : va_D A [(h0, .inr (3, [.ref q7, .ref q15, .ref q23, .ref q31, .ref q39, .ref q47, .int 0, .int 0, .int 0])), (q7, .inl (cA7, 10, .inl (fun _ => 0))), (q15, .inl (cA15, 10, .inl (fun _ => 0))), (q23, .inl (cA23, 120, .inl (fun _ => 0))), (q31, .inl (cA31, 12, .inl (fun _ => 0))), (q39, .inl (cA39, 8, .inl (fun _ => 0))), (q47, .inl (cA47, 15, .inl (fun _ => 0)))] := hD
  refine W.widen (k := 6) (n := 175) (by decide) (by decide) ?_
  exact W.vret hx hb hr (fun t ht hW => ⟨⟨(q7, cA7, q15, cA15, q23, cA23, q31, cA31, q39, cA39, q47, cA47), rfl, trivial, cB.of (hP.sub [0, 1, 2, 3, 4, 5, 6] rfl) (hD.sub [0, 1, 2, 3, 4, 5, 6] (by decide) rfl) (hK.sub [0, 1, 2, 3, 4, 5] rfl) ht hW⟩, hS.F ht⟩) hS.2.2 d_Wo_init_67
set_option maxHeartbeats 4000000 in
set_option maxRecDepth 100000 in
theorem c_Sm_init (l : Launch) (dC : Nat → ClassId) (dI : Nat → Nat → Nat) (h0 : Nat) (sz : Nat) : Met l y_Sm_init (Cond.code y_Sm_init b_Sm_init 1 none :: gw) ({ frames := 1, cells := 2, slots := 20, locals := 12 }) (cP (dC, dI) [.ref h0] sz [(h0, .inr (4, [.null, .null, .int 0, .int 0, .int 0, .int 0, .int 0, .int 0, .int 0, .int 0, .int 0, .int 0]))] [] xT) (va_Qv (fun (u : Nat × ClassId × Nat × ClassId) => True) (fun (u : Nat × ClassId × Nat × ClassId) t => cB (dC, dI) (va_A [(h0, .inr (4, [.null, .null, .int 0, .int 0, .int 0, .int 0, .int 0, .int 0, .int 0, .int 0, .int 0, .int 0]))] sz) [(h0, .inr (4, [.ref u.1, .ref u.2.2.1, .int 0, .int 0, .int 0, .int 0, .int 0, .int 0, .int 0, .int 0, .int 0, .int 0])), (u.1, .inl (u.2.1, 12, .inl (fun _ => 0))), (u.2.2.1, .inl (u.2.2.2, 8, .inl (fun _ => 0)))] [(u.2.1, .int), (u.2.2.2, .int)] t) (va_A [(h0, .inr (4, [.null, .null, .int 0, .int 0, .int 0, .int 0, .int 0, .int 0, .int 0, .int 0, .int 0, .int 0]))] sz)) 2 20 (va_A [(h0, .inr (4, [.null, .null, .int 0, .int 0, .int 0, .int 0, .int 0, .int 0, .int 0, .int 0, .int 0, .int 0]))] sz) := by
  refine Met.ofW (cc := b_Sm_init) (maxL := 1) (ret := none) (by decide) rfl ?_
  intro p e s m args below meth c s₁ B hml hv
  obtain ⟨rfl, hsz, hP, hK, hD0, hkw, hX⟩ := hv
  have hx := B.exec
  have hb := B.bytes
  have hr := B.returns
  have hts := fun w hw => atoms_spec (ws := Cond.code y_Sm_init b_Sm_init 1 none :: gw) B.pre w (List.mem_cons_of_mem _ hw)
  have hown : s.vm.findClass "LineDisk$Statement" = some m.cls := findClass_of_methodNamed B.named
  have hlocks := B.notSynchronized
  have hin := (name_of_methodNamed B.named B.method).1
  subst hsz
  have hD := hD0.self (sz := s.heap.size)
  generalize hAe : va_A [(h0, .inr (4, [.null, .null, .int 0, .int 0, .int 0, .int 0, .int 0, .int 0, .int 0, .int 0, .int 0, .int 0]))] s.heap.size = A at hD ⊢
  have hA : ∀ q : Nat, s.heap.size ≤ q → A q := fun q h => by rw [← hAe]; exact Or.inr h
  have hS : va_S A s.heap s.heap [] := va_S.rf
  have hl := lv_entry ([.ref h0]) (n := 1) (Nat.le_of_ble_eq_true rfl)
  rw [lg_entry_eq]
  generalize (lg_sl ([.ref h0]) ++ List.replicate (1 - (lg_sl ([.ref h0])).length) Slot.unset).toArray = ls at hl ⊢
  have hl : lv_has ls 1 [(0, .ref h0)] := hl
  have F : CallFix p m c b_Sm_init 1 s ([.ref h0]).toArray gw "LineDisk$Statement" := ⟨hx, hb, hml, hown, hts⟩
  refine lv_aload_n hx hb d_Sm_init_0 rfl (lv_at hl 0 rfl) ?_
  refine W.objInit hx hb hown (hts _ w_108) (hts _ w_21) (hts _ w_22) rfl (by rw [hml]; exact hl.1) rfl d_Sm_init_1 (Nat.le_of_ble_eq_true rfl) (Nat.le_of_ble_eq_true rfl) ?_
  refine W.eq (g2 := F0 m 4 ls []) rfl ?_
  refine lv_aload_n hx hb d_Sm_init_4 rfl (lv_at hl 0 rfl) ?_
  refine lv_bipush (v := 12) hx hb d_Sm_init_5 (by decide) ?_
  refine va_newa (atype := .int) (a0 := (12, .inl (fun _ => 0))) (N' := 12) hx hb (hts _ w_45) rfl hK hP hD hS hA (fun cA => rfl) (by decide) (by decide) (by decide) (by decide) (by decide) d_Sm_init_7 (fun q7 cA7 H hK hP hD hS => ?_)
  have hP : va_P (dC, dI) cls [(h0, .inr (4, [.null, .null, .int 0, .int 0, .int 0, .int 0, .int 0, .int 0, .int 0, .int 0, .int 0, .int 0])), (q7, .inl (cA7, 12, .inl (fun _ => 0)))] H := hP
  have hD : va_D A [(h0, .inr (4, [.null, .null, .int 0, .int 0, .int 0, .int 0, .int 0, .int 0, .int 0, .int 0, .int 0, .int 0])), (q7, .inl (cA7, 12, .inl (fun _ => 0)))] := hD
  have hK : va_K (dC, dI) cls [(cA7, .int)] s := hK
  refine W.widen (k := 1) (n := 12) (by omega) (by omega) ?_
  refine va_putF (D := (dC, dI)) (ci := 4) (v := .ref q7) (ty := .array .int) (C := R_Sm) (T := F_Sm) (N := 12) hx hb hts in_Sm t_Sm t_Sm_ok n_Sm hown hK hP hD hS 0 rfl rfl 0 (by decide) (hts _ w_109) (fun _ h9 => h9) rfl hin rfl (by decide +kernel) (rfl) (rfl) (Nat.le_of_ble_eq_true rfl) d_Sm_init_9 (fun H locs hP hD hS => ?_)
  have hP : va_P (dC, dI) cls [(h0, .inr (4, [.ref q7, .null, .int 0, .int 0, .int 0, .int 0, .int 0, .int 0, .int 0, .int 0, .int 0, .int 0])), (q7, .inl (cA7, 12, .inl (fun _ => 0)))] H := hP
  have hD : va_D A [(h0, .inr (4, [.ref q7, .null, .int 0, .int 0, .int 0, .int 0, .int 0, .int 0, .int 0, .int 0, .int 0, .int 0])), (q7, .inl (cA7, 12, .inl (fun _ => 0)))] := hD
  refine lv_aload_n hx hb d_Sm_init_12 rfl (lv_at hl 0 rfl) ?_
  refine lv_bipush (v := 8) hx hb d_Sm_init_13 (by decide) ?_
  refine va_newa (atype := .int) (a0 := (8, .inl (fun _ => 0))) (N' := 8) hx hb (hts _ w_45) rfl hK hP hD hS hA (fun cA => rfl) (by decide) (by decide) (by decide) (by decide) (by decide) d_Sm_init_15 (fun q15 cA15 H hK hP hD hS => ?_)
  have hP : va_P (dC, dI) cls [(h0, .inr (4, [.ref q7, .null, .int 0, .int 0, .int 0, .int 0, .int 0, .int 0, .int 0, .int 0, .int 0, .int 0])), (q7, .inl (cA7, 12, .inl (fun _ => 0))), (q15, .inl (cA15, 8, .inl (fun _ => 0)))] H := hP
  have hD : va_D A [(h0, .inr (4, [.ref q7, .null, .int 0, .int 0, .int 0, .int 0, .int 0, .int 0, .int 0, .int 0, .int 0, .int 0])), (q7, .inl (cA7, 12, .inl (fun _ => 0))), (q15, .inl (cA15, 8, .inl (fun _ => 0)))] := hD
  have hK : va_K (dC, dI) cls [(cA7, .int), (cA15, .int)] s := hK
  refine W.widen (k := 2) (n := 20) (by omega) (by omega) ?_
  refine va_putF (D := (dC, dI)) (ci := 4) (v := .ref q15) (ty := .array .int) (C := R_Sm) (T := F_Sm) (N := 12) hx hb hts in_Sm t_Sm t_Sm_ok n_Sm hown hK hP hD hS 0 rfl rfl 1 (by decide) (hts _ w_110) (fun _ h9 => h9) rfl hin rfl (by decide +kernel) (rfl) (rfl) (Nat.le_of_ble_eq_true rfl) d_Sm_init_17 (fun H locs hP hD hS => ?_)
  have hP : va_P (dC, dI) cls [(h0, .inr (4, [.ref q7, .ref q15, .int 0, .int 0, .int 0, .int 0, .int 0, .int 0, .int 0, .int 0, .int 0, .int 0])), (q7, .inl (cA7, 12, .inl (fun _ => 0))), (q15, .inl (cA15, 8, .inl (fun _ => 0)))] H := hP
  have hD : va_D A [(h0, .inr (4, [.ref q7, .ref q15, .int 0, .int 0, .int 0, .int 0, .int 0, .int 0, .int 0, .int 0, .int 0, .int 0])), (q7, .inl (cA7, 12, .inl (fun _ => 0))), (q15, .inl (cA15, 8, .inl (fun _ => 0)))] := hD
  refine lv_aload_n hx hb d_Sm_init_20 rfl (lv_at hl 0 rfl) ?_
  refine lv_iconst (v := 0) hx hb d_Sm_init_21 (by decide) ?_
  refine va_put (D := (dC, dI)) (ci := 4) (v := .int 0) (ty := .int) (C := R_Sm) (T := F_Sm) (N := 12) hx hb hts in_Sm t_Sm t_Sm_ok n_Sm hown hK hP hD hS 0 rfl rfl 2 (by decide) (hts _ w_111) (fun _ h9 => h9) rfl (by decide +kernel) (rfl) (rfl) (Nat.le_of_ble_eq_true rfl) d_Sm_init_22 (fun H locs hP hD hS => ?_)
  have hP : va_P (dC, dI) cls [(h0, .inr (4, [.ref q7, .ref q15, .int 0, .int 0, .int 0, .int 0, .int 0, .int 0, .int 0, .int 0, .int 0, .int 0])), (q7, .inl (cA7, 12, .inl (fun _ => 0))), (q15, .inl (cA15, 8, .inl (fun _ => 0)))] H := hP
  have hD : va_D A [(h0, .inr (4, [.ref q7, .ref q15, .int 0, .int 0, .int 0, .int 0, .int 0, .int 0, .int 0, .int 0, .int 0, .int 0])), (q7, .inl (cA7, 12, .inl (fun _ => 0))), (q15, .inl (cA15, 8, .inl (fun _ => 0)))] := hD
  refine lv_aload_n hx hb d_Sm_init_25 rfl (lv_at hl 0 rfl) ?_
  refine lv_iconst (v := 0) hx hb d_Sm_init_26 (by decide) ?_
  refine va_put (D := (dC, dI)) (ci := 4) (v := .int 0) (ty := .int) (C := R_Sm) (T := F_Sm) (N := 12) hx hb hts in_Sm t_Sm t_Sm_ok n_Sm hown hK hP hD hS 0 rfl rfl 3 (by decide) (hts _ w_112) (fun _ h9 => h9) rfl (by decide +kernel) (rfl) (rfl) (Nat.le_of_ble_eq_true rfl) d_Sm_init_27 (fun H locs hP hD hS => ?_)
  have hP : va_P (dC, dI) cls [(h0, .inr (4, [.ref q7, .ref q15, .int 0, .int 0, .int 0, .int 0, .int 0, .int 0, .int 0, .int 0, .int 0, .int 0])), (q7, .inl (cA7, 12, .inl (fun _ => 0))), (q15, .inl (cA15, 8, .inl (fun _ => 0)))] H := hP
  have hD : va_D A [(h0, .inr (4, [.ref q7, .ref q15, .int 0, .int 0, .int 0, .int 0, .int 0, .int 0, .int 0, .int 0, .int 0, .int 0])), (q7, .inl (cA7, 12, .inl (fun _ => 0))), (q15, .inl (cA15, 8, .inl (fun _ => 0)))] := hD
  refine lv_aload_n hx hb d_Sm_init_30 rfl (lv_at hl 0 rfl) ?_
  refine lv_iconst (v := 0) hx hb d_Sm_init_31 (by decide) ?_
  refine va_put (D := (dC, dI)) (ci := 4) (v := .int 0) (ty := .boolean) (C := R_Sm) (T := F_Sm) (N := 12) hx hb hts in_Sm t_Sm t_Sm_ok n_Sm hown hK hP hD hS 0 rfl rfl 4 (by decide) (hts _ w_113) (fun _ h9 => h9) rfl (by decide +kernel) (rfl) (rfl) (Nat.le_of_ble_eq_true rfl) d_Sm_init_32 (fun H locs hP hD hS => ?_)
  have hP : va_P (dC, dI) cls [(h0, .inr (4, [.ref q7, .ref q15, .int 0, .int 0, .int 0, .int 0, .int 0, .int 0, .int 0, .int 0, .int 0, .int 0])), (q7, .inl (cA7, 12, .inl (fun _ => 0))), (q15, .inl (cA15, 8, .inl (fun _ => 0)))] H := hP
  have hD : va_D A [(h0, .inr (4, [.ref q7, .ref q15, .int 0, .int 0, .int 0, .int 0, .int 0, .int 0, .int 0, .int 0, .int 0, .int 0])), (q7, .inl (cA7, 12, .inl (fun _ => 0))), (q15, .inl (cA15, 8, .inl (fun _ => 0)))] := hD
  refine lv_aload_n hx hb d_Sm_init_35 rfl (lv_at hl 0 rfl) ?_
  refine lv_iconst (v := 0) hx hb d_Sm_init_36 (by decide) ?_
  refine va_put (D := (dC, dI)) (ci := 4) (v := .int 0) (ty := .int) (C := R_Sm) (T := F_Sm) (N := 12) hx hb hts in_Sm t_Sm t_Sm_ok n_Sm hown hK hP hD hS 0 rfl rfl 5 (by decide) (hts _ w_114) (fun _ h9 => h9) rfl (by decide +kernel) (rfl) (rfl) (Nat.le_of_ble_eq_true rfl) d_Sm_init_37 (fun H locs hP hD hS => ?_)
  have hP : va_P (dC, dI) cls [(h0, .inr (4, [.ref q7, .ref q15, .int 0, .int 0, .int 0, .int 0, .int 0, .int 0, .int 0, .int 0, .int 0, .int 0])), (q7, .inl (cA7, 12, .inl (fun _ => 0))), (q15, .inl (cA15, 8, .inl (fun _ => 0)))] H := hP
  have hD : va_D A [(h0, .inr (4, [.ref q7, .ref q15, .int 0, .int 0, .int 0, .int 0, .int 0, .int 0, .int 0, .int 0, .int 0, .int 0])), (q7, .inl (cA7, 12, .inl (fun _ => 0))), (q15, .inl (cA15, 8, .inl (fun _ => 0)))] := hD
  refine lv_aload_n hx hb d_Sm_init_40 rfl (lv_at hl 0 rfl) ?_
  refine lv_iconst (v := 0) hx hb d_Sm_init_41 (by decide) ?_
  refine va_put (D := (dC, dI)) (ci := 4) (v := .int 0) (ty := .int) (C := R_Sm) (T := F_Sm) (N := 12) hx hb hts in_Sm t_Sm t_Sm_ok n_Sm hown hK hP hD hS 0 rfl rfl 6 (by decide) (hts _ w_116) (fun _ h9 => h9) rfl (by decide +kernel) (rfl) (rfl) (Nat.le_of_ble_eq_true rfl) d_Sm_init_42 (fun H locs hP hD hS => ?_)
  have hP : va_P (dC, dI) cls [(h0, .inr (4, [.ref q7, .ref q15, .int 0, .int 0, .int 0, .int 0, .int 0, .int 0, .int 0, .int 0, .int 0, .int 0])), (q7, .inl (cA7, 12, .inl (fun _ => 0))), (q15, .inl (cA15, 8, .inl (fun _ => 0)))] H := hP
  have hD : va_D A [(h0, .inr (4, [.ref q7, .ref q15, .int 0, .int 0, .int 0, .int 0, .int 0, .int 0, .int 0, .int 0, .int 0, .int 0])), (q7, .inl (cA7, 12, .inl (fun _ => 0))), (q15, .inl (cA15, 8, .inl (fun _ => 0)))] := hD
  refine lv_aload_n hx hb d_Sm_init_45 rfl (lv_at hl 0 rfl) ?_
  refine lv_iconst (v := 0) hx hb d_Sm_init_46 (by decide) ?_
  refine va_put (D := (dC, dI)) (ci := 4) (v := .int 0) (ty := .int) (C := R_Sm) (T := F_Sm) (N := 12) hx hb hts in_Sm t_Sm t_Sm_ok n_Sm hown hK hP hD hS 0 rfl rfl 7 (by decide) (hts _ w_118) (fun _ h9 => h9) rfl (by decide +kernel) (rfl) (rfl) (Nat.le_of_ble_eq_true rfl) d_Sm_init_47 (fun H locs hP hD hS => ?_)
  have hP : va_P (dC, dI) cls [(h0, .inr (4, [.ref q7, .ref q15, .int 0, .int 0, .int 0, .int 0, .int 0, .int 0, .int 0, .int 0, .int 0, .int 0])), (q7, .inl (cA7, 12, .inl (fun _ => 0))), (q15, .inl (cA15, 8, .inl (fun _ => 0)))] H := hP
  have hD : va_D A [(h0, .inr (4, [.ref q7, .ref q15, .int 0, .int 0, .int 0, .int 0, .int 0, .int 0, .int 0, .int 0, .int 0, .int 0])), (q7, .inl (cA7, 12, .inl (fun _ => 0))), (q15, .inl (cA15, 8, .inl (fun _ => 0)))] := hD
  refine lv_aload_n hx hb d_Sm_init_50 rfl (lv_at hl 0 rfl) ?_
  refine lv_iconst (v := 0) hx hb d_Sm_init_51 (by decide) ?_
  refine va_put (D := (dC, dI)) (ci := 4) (v := .int 0) (ty := .int) (C := R_Sm) (T := F_Sm) (N := 12) hx hb hts in_Sm t_Sm t_Sm_ok n_Sm hown hK hP hD hS 0 rfl rfl 8 (by decide) (hts _ w_120) (fun _ h9 => h9) rfl (by decide +kernel) (rfl) (rfl) (Nat.le_of_ble_eq_true rfl) d_Sm_init_52 (fun H locs hP hD hS => ?_)
  have hP : va_P (dC, dI) cls [(h0, .inr (4, [.ref q7, .ref q15, .int 0, .int 0, .int 0, .int 0, .int 0, .int 0, .int 0, .int 0, .int 0, .int 0])), (q7, .inl (cA7, 12, .inl (fun _ => 0))), (q15, .inl (cA15, 8, .inl (fun _ => 0)))] H := hP
  have hD : va_D A [(h0, .inr (4, [.ref q7, .ref q15, .int 0, .int 0, .int 0, .int 0, .int 0, .int 0, .int 0, .int 0, .int 0, .int 0])), (q7, .inl (cA7, 12, .inl (fun _ => 0))), (q15, .inl (cA15, 8, .inl (fun _ => 0)))] := hD
  refine lv_aload_n hx hb d_Sm_init_55 rfl (lv_at hl 0 rfl) ?_
  refine lv_iconst (v := 0) hx hb d_Sm_init_56 (by decide) ?_
  refine va_put (D := (dC, dI)) (ci := 4) (v := .int 0) (ty := .int) (C := R_Sm) (T := F_Sm) (N := 12) hx hb hts in_Sm t_Sm t_Sm_ok n_Sm hown hK hP hD hS 0 rfl rfl 9 (by decide) (hts _ w_122) (fun _ h9 => h9) rfl (by decide +kernel) (rfl) (rfl) (Nat.le_of_ble_eq_true rfl) d_Sm_init_57 (fun H locs hP hD hS => ?_)
  have hP : va_P (dC, dI) cls [(h0, .inr (4, [.ref q7, .ref q15, .int 0, .int 0, .int 0, .int 0, .int 0, .int 0, .int 0, .int 0, .int 0, .int 0])), (q7, .inl (cA7, 12, .inl (fun _ => 0))), (q15, .inl (cA15, 8, .inl (fun _ => 0)))] H := hP
  have hD : va_D A [(h0, .inr (4, [.ref q7, .ref q15, .int 0, .int 0, .int 0, .int 0, .int 0, .int 0, .int 0, .int 0, .int 0, .int 0])), (q7, .inl (cA7, 12, .inl (fun _ => 0))), (q15, .inl (cA15, 8, .inl (fun _ => 0)))] := hD
  refine lv_aload_n hx hb d_Sm_init_60 rfl (lv_at hl 0 rfl) ?_
  refine lv_iconst (v := 0) hx hb d_Sm_init_61 (by decide) ?_
  refine va_put (D := (dC, dI)) (ci := 4) (v := .int 0) (ty := .int) (C := R_Sm) (T := F_Sm) (N := 12) hx hb hts in_Sm t_Sm t_Sm_ok n_Sm hown hK hP hD hS 0 rfl rfl 10 (by decide) (hts _ w_123) (fun _ h9 => h9) rfl (by decide +kernel) (rfl) (rfl) (Nat.le_of_ble_eq_true rfl) d_Sm_init_62 (fun H locs hP hD hS => ?_)
  have hP : va_P (dC, dI) cls [(h0, .inr (4, [.ref q7, .ref q15, .int 0, .int 0, .int 0, .int 0, .int 0, .int 0, .int 0, .int 0, .int 0, .int 0])), (q7, .inl (cA7, 12, .inl (fun _ => 0))), (q15, .inl (cA15, 8, .inl (fun _ => 0)))] H := hP
  have hD : va_D A [(h0, .inr (4, [.ref q7, .ref q15, .int 0, .int 0, .int 0, .int 0, .int 0, .int 0, .int 0, .int 0, .int 0, .int 0])), (q7, .inl (cA7, 12, .inl (fun _ => 0))), (q15, .inl (cA15, 8, .inl (fun _ => 0)))] := hD
  refine lv_aload_n hx hb d_Sm_init_65 rfl (lv_at hl 0 rfl) ?_
  refine lv_iconst (v := 0) hx hb d_Sm_init_66 (by decide) ?_
  refine va_put (D := (dC, dI)) (ci := 4) (v := .int 0) (ty := .int) (C := R_Sm) (T := F_Sm) (N := 12) hx hb hts in_Sm t_Sm t_Sm_ok n_Sm hown hK hP hD hS 0 rfl rfl 11 (by decide) (hts _ w_125) (fun _ h9 => h9) rfl (by decide +kernel) (rfl) (rfl) (Nat.le_of_ble_eq_true rfl) d_Sm_init_67 (fun H locs hP hD hS => ?_)
  have hP : va_P (dC, dI) cls [(h0, .inr (4, [.ref q7, .ref q15, .int 0, .int 0, .int 0, .int 0, .int 0, .int 0, .int 0, .int 0, .int 0, .int 0])), (q7, .inl (cA7, 12, .inl (fun _ => 0))), (q15, .inl (cA15, 8, .inl (fun _ => 0)))] H := hP
  have hD : va_D A [(h0, .inr (4, [.ref q7, .ref q15, .int 0, .int 0, .int 0, .int 0, .int 0, .int 0, .int 0, .int 0, .int 0, .int 0])), (q7, .inl (cA7, 12, .inl (fun _ => 0))), (q15, .inl (cA15, 8, .inl (fun _ => 0)))] := hD
  refine W.widen (k := 2) (n := 20) (by decide) (by decide) ?_
  exact W.vret hx hb hr (fun t ht hW => ⟨⟨(q7, cA7, q15, cA15), rfl, trivial, cB.of (hP.sub [0, 1, 2] rfl) (hD.sub [0, 1, 2] (by decide) rfl) (hK.sub [0, 1] rfl) ht hW⟩, hS.F ht⟩) hS.2.2 d_Sm_init_70
end
section
theorem upd_inv {f : Nat → Int32} {k : Nat} {x : Int32} (hk : k < 2 ^ 31) (h : ∀ i, i < k → f i = x) : ∀ i, i < k + 1 → upd f (nI k : Int32).toNatClampNeg x i = x := by
  intro i hi
  rw [nI_clamp hk]
  unfold upd
  by_cases hik : i = k
  · rw [if_pos hik]
  · rw [if_neg hik]; exact h i (by omega)
set_option maxHeartbeats 4000000 in
set_option maxRecDepth 100000 in
theorem lp_Mo_nothing1 {p : Program} {l : Launch} {e : Env} {R : Room} {s : State} {m : MethodId} {args : Array Value} {below : List Frame} {meth : Method} {c : Code} {cells slots : Nat} {Q : State → Prop} {A : Nat → Prop} {dC : Nat → ClassId} {dI : Nat → Nat → Nat} (hx : p.tables.exec = Jvm.exec) (hb : c.code = b_Mo_nothing) (hts : ∀ w ∈ gw, w.before args s = true) (hown : s.vm.findClass "LineDiskModel" = some m.cls) (hkw : kw s) (h0 a0 a1 a2 a3 a4 a5 a6 a7 a8 a9 : Nat) (cL cV : ClassId) (g : Nat → Int32) (hK : va_K (dC, dI) cls [(cL, .int), (cV, .int)] s)  (kk : ∀ (ls : Array Slot) (H : Heap) (locs : List Loc) (f : Nat → Int32), lv_has ls 2 [(1, .int (nI 100)), (0, .ref h0)] → va_P (dC, dI) cls [(h0, .inr (5, [.int 0, .ref a0, .int (-1), .int 0, .int 0, .ref a1, .ref a2, .ref a3, .int 0, .int 0, .ref a4, .int 0, .ref a5, .int 0, .int 0, .int 0, .int 0, .int 0, .int 0, .ref a6, .int 0, .ref a7, .int 0, .ref a8, .ref a9])), (a1, .inl (cL, 100, .inl f)), (a3, .inl (cV, 8, .inl g))] H → va_D A [(h0, .inr (5, [.int 0, .ref a0, .int (-1), .int 0, .int 0, .ref a1, .ref a2, .ref a3, .int 0, .int 0, .ref a4, .int 0, .ref a5, .int 0, .int 0, .int 0, .int 0, .int 0, .int 0, .ref a6, .int 0, .ref a7, .int 0, .ref a8, .ref a9])), (a1, .inl (cL, 100, .inl f)), (a3, .inl (cV, 8, .inl g))] → va_S A s.heap H locs → (∀ i, i < 100 → f i = -1) → W p l e R s m args below meth c H locs cells slots Q (F0 m 21 ls [])) : ∀ (j k : Nat), k + j = 100 → ∀ (ls : Array Slot) (H : Heap) (locs : List Loc) (f : Nat → Int32), lv_has ls 2 [(1, .int (nI k)), (0, .ref h0)] → va_P (dC, dI) cls [(h0, .inr (5, [.int 0, .ref a0, .int (-1), .int 0, .int 0, .ref a1, .ref a2, .ref a3, .int 0, .int 0, .ref a4, .int 0, .ref a5, .int 0, .int 0, .int 0, .int 0, .int 0, .int 0, .ref a6, .int 0, .ref a7, .int 0, .ref a8, .ref a9])), (a1, .inl (cL, 100, .inl f)), (a3, .inl (cV, 8, .inl g))] H → va_D A [(h0, .inr (5, [.int 0, .ref a0, .int (-1), .int 0, .int 0, .ref a1, .ref a2, .ref a3, .int 0, .int 0, .ref a4, .int 0, .ref a5, .int 0, .int 0, .int 0, .int 0, .int 0, .int 0, .ref a6, .int 0, .ref a7, .int 0, .ref a8, .ref a9])), (a1, .inl (cL, 100, .inl f)), (a3, .inl (cV, 8, .inl g))] → va_S A s.heap H locs → (∀ i, i < k → f i = -1) → W p l e R s m args below meth c H locs cells slots Q (F0 m 2 ls []) := by
  intro j
  induction j with
  | zero =>
    intro k hk ls H locs f hl hP hD hS hf
    have hk : k = 100 := by omega
    subst hk
    refine lv_iload_n hx hb d_Mo_nothing_2 rfl (lv_at hl 0 rfl) ?_
    refine lv_bipush (v := 100) hx hb d_Mo_nothing_3 (by decide) ?_
    refine lv_icmp_ge (tgt := 21) hx hb d_Mo_nothing_5 (by decide) (fun _ => ?_) (fun h => absurd (nI_le (a := 100) (b := 100) (Nat.le_refl _) (by decide)) h)
    exact kk ls H locs f hl hP hD hS hf
  | succ j ih =>
    intro k hk ls H locs f hl hP hD hS hf
    have hkN : k < 100 := by omega
    refine lv_iload_n hx hb d_Mo_nothing_2 rfl (lv_at hl 0 rfl) ?_
    refine lv_bipush (v := 100) hx hb d_Mo_nothing_3 (by decide) ?_
    refine lv_icmp_ge (tgt := 21) hx hb d_Mo_nothing_5 (by decide) (fun h => absurd h (nI_ge hkN (by decide))) (fun _ => ?_)
    refine lv_aload_n hx hb d_Mo_nothing_8 rfl (lv_at hl 1 rfl) ?_
    refine va_get (D := (dC, dI)) (ci := 5) (v := .ref a1) (C := R_Mo) (T := F_Mo) (N := 25) hx hb hts in_Mo hown hK hP 0 rfl rfl 5 (by decide) (hts _ w_598) (fun _ h9 => h9) rfl d_Mo_nothing_9 ?_
    refine lv_iload_n hx hb d_Mo_nothing_12 rfl (lv_at hl 0 rfl) ?_
    refine lv_iconst (v := (-1)) hx hb d_Mo_nothing_13 (by decide) ?_
    refine va_iast hx hb hK hP hD hS 1 0 rfl rfl (vp_in_nI hkN (by decide)) d_Mo_nothing_14 (fun H locs hP hD hS => ?_)
    have hP : va_P (dC, dI) cls [(h0, .inr (5, [.int 0, .ref a0, .int (-1), .int 0, .int 0, .ref a1, .ref a2, .ref a3, .int 0, .int 0, .ref a4, .int 0, .ref a5, .int 0, .int 0, .int 0, .int 0, .int 0, .int 0, .ref a6, .int 0, .ref a7, .int 0, .ref a8, .ref a9])), (a1, .inl (cL, 100, .inl (upd f (nI k : Int32).toNatClampNeg (-1)))), (a3, .inl (cV, 8, .inl g))] H := hP
    have hD : va_D A [(h0, .inr (5, [.int 0, .ref a0, .int (-1), .int 0, .int 0, .ref a1, .ref a2, .ref a3, .int 0, .int 0, .ref a4, .int 0, .ref a5, .int 0, .int 0, .int 0, .int 0, .int 0, .int 0, .ref a6, .int 0, .ref a7, .int 0, .ref a8, .ref a9])), (a1, .inl (cL, 100, .inl (upd f (nI k : Int32).toNatClampNeg (-1)))), (a3, .inl (cV, 8, .inl g))] := hD
    refine lv_iinc (k := 0) (v := nI (k + 1)) hx hb d_Mo_nothing_15 hl rfl (by rw [lit1]; exact (nI_succ k).symm) (by decide) rfl (fun ls hl => ?_)
    have hl : lv_has ls 2 [(1, .int (nI (k + 1))), (0, .ref h0)] := hl
    refine lv_goto (tgt := 2) hx hb d_Mo_nothing_18 (by decide) ?_
    exact ih (k + 1) (by omega) ls H locs (upd f (nI k : Int32).toNatClampNeg (-1)) (hl) hP hD hS (upd_inv (by omega) hf)
set_option maxHeartbeats 4000000 in
set_option maxRecDepth 100000 in
theorem lp_Mo_nothing2 {p : Program} {l : Launch} {e : Env} {R : Room} {s : State} {m : MethodId} {args : Array Value} {below : List Frame} {meth : Method} {c : Code} {cells slots : Nat} {Q : State → Prop} {A : Nat → Prop} {dC : Nat → ClassId} {dI : Nat → Nat → Nat} (hx : p.tables.exec = Jvm.exec) (hb : c.code = b_Mo_nothing) (hts : ∀ w ∈ gw, w.before args s = true) (hown : s.vm.findClass "LineDiskModel" = some m.cls) (hkw : kw s) (h0 a0 a1 a2 a3 a4 a5 a6 a7 a8 a9 : Nat) (cL cV : ClassId) (f : Nat → Int32) (hK : va_K (dC, dI) cls [(cL, .int), (cV, .int)] s)  (kk : ∀ (ls : Array Slot) (H : Heap) (locs : List Loc) (g : Nat → Int32), lv_has ls 2 [(1, .int (nI 8)), (0, .ref h0)] → va_P (dC, dI) cls [(h0, .inr (5, [.int 0, .ref a0, .int (-1), .int 0, .int 0, .ref a1, .ref a2, .ref a3, .int 0, .int 0, .ref a4, .int 0, .ref a5, .int 0, .int 0, .int 0, .int 0, .int 0, .int 0, .ref a6, .int 0, .ref a7, .int 0, .ref a8, .ref a9])), (a1, .inl (cL, 100, .inl f)), (a3, .inl (cV, 8, .inl g))] H → va_D A [(h0, .inr (5, [.int 0, .ref a0, .int (-1), .int 0, .int 0, .ref a1, .ref a2, .ref a3, .int 0, .int 0, .ref a4, .int 0, .ref a5, .int 0, .int 0, .int 0, .int 0, .int 0, .int 0, .ref a6, .int 0, .ref a7, .int 0, .ref a8, .ref a9])), (a1, .inl (cL, 100, .inl f)), (a3, .inl (cV, 8, .inl g))] → va_S A s.heap H locs → (∀ i, i < 8 → g i = 0) → W p l e R s m args below meth c H locs cells slots Q (F0 m 42 ls [])) : ∀ (j k : Nat), k + j = 8 → ∀ (ls : Array Slot) (H : Heap) (locs : List Loc) (g : Nat → Int32), lv_has ls 2 [(1, .int (nI k)), (0, .ref h0)] → va_P (dC, dI) cls [(h0, .inr (5, [.int 0, .ref a0, .int (-1), .int 0, .int 0, .ref a1, .ref a2, .ref a3, .int 0, .int 0, .ref a4, .int 0, .ref a5, .int 0, .int 0, .int 0, .int 0, .int 0, .int 0, .ref a6, .int 0, .ref a7, .int 0, .ref a8, .ref a9])), (a1, .inl (cL, 100, .inl f)), (a3, .inl (cV, 8, .inl g))] H → va_D A [(h0, .inr (5, [.int 0, .ref a0, .int (-1), .int 0, .int 0, .ref a1, .ref a2, .ref a3, .int 0, .int 0, .ref a4, .int 0, .ref a5, .int 0, .int 0, .int 0, .int 0, .int 0, .int 0, .ref a6, .int 0, .ref a7, .int 0, .ref a8, .ref a9])), (a1, .inl (cL, 100, .inl f)), (a3, .inl (cV, 8, .inl g))] → va_S A s.heap H locs → (∀ i, i < k → g i = 0) → W p l e R s m args below meth c H locs cells slots Q (F0 m 23 ls []) := by
  intro j
  induction j with
  | zero =>
    intro k hk ls H locs g hl hP hD hS hf
    have hk : k = 8 := by omega
    subst hk
    refine lv_iload_n hx hb d_Mo_nothing_23 rfl (lv_at hl 0 rfl) ?_
    refine lv_bipush (v := 8) hx hb d_Mo_nothing_24 (by decide) ?_
    refine lv_icmp_ge (tgt := 42) hx hb d_Mo_nothing_26 (by decide) (fun _ => ?_) (fun h => absurd (nI_le (a := 8) (b := 8) (Nat.le_refl _) (by decide)) h)
    exact kk ls H locs g hl hP hD hS hf
  | succ j ih =>
    intro k hk ls H locs g hl hP hD hS hf
    have hkN : k < 8 := by omega
    refine lv_iload_n hx hb d_Mo_nothing_23 rfl (lv_at hl 0 rfl) ?_
    refine lv_bipush (v := 8) hx hb d_Mo_nothing_24 (by decide) ?_
    refine lv_icmp_ge (tgt := 42) hx hb d_Mo_nothing_26 (by decide) (fun h => absurd h (nI_ge (b := 8) hkN (by decide))) (fun _ => ?_)
    refine lv_aload_n hx hb d_Mo_nothing_29 rfl (lv_at hl 1 rfl) ?_
    refine va_get (D := (dC, dI)) (ci := 5) (v := .ref a3) (C := R_Mo) (T := F_Mo) (N := 25) hx hb hts in_Mo hown hK hP 0 rfl rfl 7 (by decide) (hts _ w_600) (fun _ h9 => h9) rfl d_Mo_nothing_30 ?_
    refine lv_iload_n hx hb d_Mo_nothing_33 rfl (lv_at hl 0 rfl) ?_
    refine lv_iconst (v := 0) hx hb d_Mo_nothing_34 (by decide) ?_
    refine va_iast hx hb hK hP hD hS 2 1 rfl rfl (vp_in_nI hkN (by decide)) d_Mo_nothing_35 (fun H locs hP hD hS => ?_)
    have hP : va_P (dC, dI) cls [(h0, .inr (5, [.int 0, .ref a0, .int (-1), .int 0, .int 0, .ref a1, .ref a2, .ref a3, .int 0, .int 0, .ref a4, .int 0, .ref a5, .int 0, .int 0, .int 0, .int 0, .int 0, .int 0, .ref a6, .int 0, .ref a7, .int 0, .ref a8, .ref a9])), (a1, .inl (cL, 100, .inl f)), (a3, .inl (cV, 8, .inl (upd g (nI k : Int32).toNatClampNeg 0)))] H := hP
    have hD : va_D A [(h0, .inr (5, [.int 0, .ref a0, .int (-1), .int 0, .int 0, .ref a1, .ref a2, .ref a3, .int 0, .int 0, .ref a4, .int 0, .ref a5, .int 0, .int 0, .int 0, .int 0, .int 0, .int 0, .ref a6, .int 0, .ref a7, .int 0, .ref a8, .ref a9])), (a1, .inl (cL, 100, .inl f)), (a3, .inl (cV, 8, .inl (upd g (nI k : Int32).toNatClampNeg 0)))] := hD
    refine lv_iinc (k := 0) (v := nI (k + 1)) hx hb d_Mo_nothing_36 hl rfl (by rw [lit1]; exact (nI_succ k).symm) (by decide) rfl (fun ls hl => ?_)
    have hl : lv_has ls 2 [(1, .int (nI (k + 1))), (0, .ref h0)] := hl
    refine lv_goto (tgt := 23) hx hb d_Mo_nothing_39 (by decide) ?_
    exact ih (k + 1) (by omega) ls H locs (upd g (nI k : Int32).toNatClampNeg 0) (hl) hP hD hS (upd_inv (by omega) hf)
set_option maxHeartbeats 4000000 in
set_option maxRecDepth 100000 in
theorem c_Mo_nothing (l : Launch) (dC : Nat → ClassId) (dI : Nat → Nat → Nat) (h0 a0 a1 a2 a3 a4 a5 a6 a7 a8 a9 : Nat) (cL cV : ClassId) (f g : Nat → Int32) (sz : Nat) : Met l y_Mo_nothing (Cond.code y_Mo_nothing b_Mo_nothing 2 none :: gw) ({ frames := 0, cells := 0, slots := 0, locals := 0 }) (cP (dC, dI) [.ref h0] sz [(h0, .inr (5, [.int 0, .ref a0, .int (-1), .int 0, .int 0, .ref a1, .ref a2, .ref a3, .int 0, .int 0, .ref a4, .int 0, .ref a5, .int 0, .int 0, .int 0, .int 0, .int 0, .int 0, .ref a6, .int 0, .ref a7, .int 0, .ref a8, .ref a9])), (a1, .inl (cL, 100, .inl f)), (a3, .inl (cV, 8, .inl g))] [(cL, .int), (cV, .int)] xT) (va_Qv (fun (u : (Nat → Int32) × (Nat → Int32)) => (∀ i, i < 100 → u.1 i = -1) ∧ (∀ i, i < 8 → u.2 i = 0)) (fun (u : (Nat → Int32) × (Nat → Int32)) t => cB (dC, dI) (va_A [(h0, .inr (5, [.int 0, .ref a0, .int (-1), .int 0, .int 0, .ref a1, .ref a2, .ref a3, .int 0, .int 0, .ref a4, .int 0, .ref a5, .int 0, .int 0, .int 0, .int 0, .int 0, .int 0, .ref a6, .int 0, .ref a7, .int 0, .ref a8, .ref a9])), (a1, .inl (cL, 100, .inl f)), (a3, .inl (cV, 8, .inl g))] sz) [(h0, .inr (5, [.int 0, .ref a0, .int (-1), .int 0, .int 0, .ref a1, .ref a2, .ref a3, .int 0, .int 0, .ref a4, .int 0, .ref a5, .int 0, .int 0, .int 0, .int 0, .int 0, .int 0, .ref a6, .int 0, .ref a7, .int 0, .ref a8, .ref a9])), (a1, .inl (cL, 100, .inl u.1)), (a3, .inl (cV, 8, .inl u.2))] [(cL, .int), (cV, .int)] t) (va_A [(h0, .inr (5, [.int 0, .ref a0, .int (-1), .int 0, .int 0, .ref a1, .ref a2, .ref a3, .int 0, .int 0, .ref a4, .int 0, .ref a5, .int 0, .int 0, .int 0, .int 0, .int 0, .int 0, .ref a6, .int 0, .ref a7, .int 0, .ref a8, .ref a9])), (a1, .inl (cL, 100, .inl f)), (a3, .inl (cV, 8, .inl g))] sz)) 0 0 (va_A [(h0, .inr (5, [.int 0, .ref a0, .int (-1), .int 0, .int 0, .ref a1, .ref a2, .ref a3, .int 0, .int 0, .ref a4, .int 0, .ref a5, .int 0, .int 0, .int 0, .int 0, .int 0, .int 0, .ref a6, .int 0, .ref a7, .int 0, .ref a8, .ref a9])), (a1, .inl (cL, 100, .inl f)), (a3, .inl (cV, 8, .inl g))] sz) := by
  refine Met.ofW (cc := b_Mo_nothing) (maxL := 2) (ret := none) (by decide) rfl ?_
  intro p e s m args below meth c s₁ B hml hv
  obtain ⟨rfl, hsz, hP, hK, hD0, hkw, hX⟩ := hv
  have hx := B.exec
  have hb := B.bytes
  have hr := B.returns
  have hts := fun w hw => atoms_spec (ws := Cond.code y_Mo_nothing b_Mo_nothing 2 none :: gw) B.pre w (List.mem_cons_of_mem _ hw)
  have hown : s.vm.findClass "LineDiskModel" = some m.cls := findClass_of_methodNamed B.named
  have hlocks := B.notSynchronized
  have hin := (name_of_methodNamed B.named B.method).1
  subst hsz
  have hD := hD0.self (sz := s.heap.size)
  generalize hAe : va_A [(h0, .inr (5, [.int 0, .ref a0, .int (-1), .int 0, .int 0, .ref a1, .ref a2, .ref a3, .int 0, .int 0, .ref a4, .int 0, .ref a5, .int 0, .int 0, .int 0, .int 0, .int 0, .int 0, .ref a6, .int 0, .ref a7, .int 0, .ref a8, .ref a9])), (a1, .inl (cL, 100, .inl f)), (a3, .inl (cV, 8, .inl g))] s.heap.size = A at hD ⊢
  have hA : ∀ q : Nat, s.heap.size ≤ q → A q := fun q h => by rw [← hAe]; exact Or.inr h
  have hS : va_S A s.heap s.heap [] := va_S.rf
  have hl := lv_entry ([.ref h0]) (n := 2) (Nat.le_of_ble_eq_true rfl)
  rw [lg_entry_eq]
  generalize (lg_sl ([.ref h0]) ++ List.replicate (2 - (lg_sl ([.ref h0])).length) Slot.unset).toArray = ls at hl ⊢
  have hl : lv_has ls 2 [(0, .ref h0)] := hl
  have F : CallFix p m c b_Mo_nothing 2 s ([.ref h0]).toArray gw "LineDiskModel" := ⟨hx, hb, hml, hown, hts⟩
  refine lv_iconst (v := 0) hx hb d_Mo_nothing_0 (by decide) ?_
  refine lv_istore_n (i := 1) hx hb d_Mo_nothing_1 rfl hl (by decide) rfl (fun ls hl => ?_)
  have hl : lv_has ls 2 [(1, .int 0), (0, .ref h0)] := hl
  refine lp_Mo_nothing1 hx hb hts hown hkw h0 a0 a1 a2 a3 a4 a5 a6 a7 a8 a9 cL cV g hK (fun ls H locs f hl hP hD hS hf => ?_) 100 0 (by decide) ls _ _ f hl hP hD hS (fun i hi => absurd hi (by omega))
  refine lv_iconst (v := 0) hx hb d_Mo_nothing_21 (by decide) ?_
  refine lv_istore_n (i := 1) hx hb d_Mo_nothing_22 rfl hl (by decide) rfl (fun ls hl => ?_)
  have hl : lv_has ls 2 [(1, .int 0), (0, .ref h0)] := hl
  refine lp_Mo_nothing2 hx hb hts hown hkw h0 a0 a1 a2 a3 a4 a5 a6 a7 a8 a9 cL cV f hK (fun ls H locs g hl hP hD hS hg => ?_) 8 0 (by decide) ls _ _ g hl hP hD hS (fun i hi => absurd hi (by omega))
  refine lv_aload_n hx hb d_Mo_nothing_42 rfl (lv_at hl 1 rfl) ?_
  refine lv_iconst (v := 0) hx hb d_Mo_nothing_43 (by decide) ?_
  refine va_put (D := (dC, dI)) (ci := 5) (v := .int 0) (ty := .int) (C := R_Mo) (T := F_Mo) (N := 25) hx hb hts in_Mo t_Mo t_Mo_ok n_Mo hown hK hP hD hS 0 rfl rfl 8 (by decide) (hts _ w_601) (fun _ h9 => h9) rfl (by decide +kernel) (rfl) (rfl) (Nat.le_of_ble_eq_true rfl) d_Mo_nothing_44 (fun H locs hP hD hS => ?_)
  have hP : va_P (dC, dI) cls [(h0, .inr (5, [.int 0, .ref a0, .int (-1), .int 0, .int 0, .ref a1, .ref a2, .ref a3, .int 0, .int 0, .ref a4, .int 0, .ref a5, .int 0, .int 0, .int 0, .int 0, .int 0, .int 0, .ref a6, .int 0, .ref a7, .int 0, .ref a8, .ref a9])), (a1, .inl (cL, 100, .inl f)), (a3, .inl (cV, 8, .inl g))] H := hP
  have hD : va_D A [(h0, .inr (5, [.int 0, .ref a0, .int (-1), .int 0, .int 0, .ref a1, .ref a2, .ref a3, .int 0, .int 0, .ref a4, .int 0, .ref a5, .int 0, .int 0, .int 0, .int 0, .int 0, .int 0, .ref a6, .int 0, .ref a7, .int 0, .ref a8, .ref a9])), (a1, .inl (cL, 100, .inl f)), (a3, .inl (cV, 8, .inl g))] := hD
  refine lv_aload_n hx hb d_Mo_nothing_47 rfl (lv_at hl 1 rfl) ?_
  refine lv_iconst (v := 0) hx hb d_Mo_nothing_48 (by decide) ?_
  refine va_put (D := (dC, dI)) (ci := 5) (v := .int 0) (ty := .int) (C := R_Mo) (T := F_Mo) (N := 25) hx hb hts in_Mo t_Mo t_Mo_ok n_Mo hown hK hP hD hS 0 rfl rfl 11 (by decide) (hts _ w_604) (fun _ h9 => h9) rfl (by decide +kernel) (rfl) (rfl) (Nat.le_of_ble_eq_true rfl) d_Mo_nothing_49 (fun H locs hP hD hS => ?_)
  have hP : va_P (dC, dI) cls [(h0, .inr (5, [.int 0, .ref a0, .int (-1), .int 0, .int 0, .ref a1, .ref a2, .ref a3, .int 0, .int 0, .ref a4, .int 0, .ref a5, .int 0, .int 0, .int 0, .int 0, .int 0, .int 0, .ref a6, .int 0, .ref a7, .int 0, .ref a8, .ref a9])), (a1, .inl (cL, 100, .inl f)), (a3, .inl (cV, 8, .inl g))] H := hP
  have hD : va_D A [(h0, .inr (5, [.int 0, .ref a0, .int (-1), .int 0, .int 0, .ref a1, .ref a2, .ref a3, .int 0, .int 0, .ref a4, .int 0, .ref a5, .int 0, .int 0, .int 0, .int 0, .int 0, .int 0, .ref a6, .int 0, .ref a7, .int 0, .ref a8, .ref a9])), (a1, .inl (cL, 100, .inl f)), (a3, .inl (cV, 8, .inl g))] := hD
  refine W.widen (k := 0) (n := 0) (by decide) (by decide) ?_
  exact W.vret hx hb hr (fun t ht hW => ⟨⟨(f, g), rfl, ⟨hf, hg⟩, cB.of (hP.sub [0, 1, 2] rfl) (hD.sub [0, 1, 2] (by decide) rfl) (hK.sub [0, 1] rfl) ht hW⟩, hS.F ht⟩) hS.2.2 d_Mo_nothing_52
set_option maxHeartbeats 4000000 in
set_option maxRecDepth 100000 in
theorem c_Mo_init (l : Launch) (dC : Nat → ClassId) (dI : Nat → Nat → Nat) (h0 : Nat) (sz : Nat) : Met l y_Mo_init (Cond.code y_Mo_init b_Mo_init 1 none :: gw) ({ frames := 2, cells := 10, slots := 2029, locals := 21 }) (cP (dC, dI) [.ref h0] sz [(h0, .inr (5, [.int 0, .null, .int 0, .int 0, .int 0, .null, .null, .null, .int 0, .int 0, .null, .int 0, .null, .int 0, .int 0, .int 0, .int 0, .int 0, .int 0, .null, .int 0, .null, .int 0, .null, .null]))] [] xT) (va_Qv (fun (u : (Nat → Nat) × (Nat → ClassId) × (Nat → Int32) × (Nat → Int32)) => (∀ i, i < 100 → u.2.2.1 i = -1) ∧ (∀ i, i < 8 → u.2.2.2 i = 0)) (fun (u : (Nat → Nat) × (Nat → ClassId) × (Nat → Int32) × (Nat → Int32)) t => cB (dC, dI) (va_A [(h0, .inr (5, [.int 0, .null, .int 0, .int 0, .int 0, .null, .null, .null, .int 0, .int 0, .null, .int 0, .null, .int 0, .int 0, .int 0, .int 0, .int 0, .int 0, .null, .int 0, .null, .int 0, .null, .null]))] sz) [(h0, .inr (5, [.int 0, .ref (u.1 0), .int (-1), .int 0, .int 0, .ref (u.1 1), .ref (u.1 2), .ref (u.1 3), .int 0, .int 0, .ref (u.1 4), .int 0, .ref (u.1 5), .int 0, .int 0, .int 0, .int 0, .int 0, .int 0, .ref (u.1 6), .int 0, .ref (u.1 7), .int 0, .ref (u.1 8), .ref (u.1 9)])), (u.1 0, .inl (u.2.1 0, 512, .inl (fun _ => 0))), (u.1 1, .inl (u.2.1 1, 100, .inl u.2.2.1)), (u.1 2, .inl (u.2.1 2, 1200, .inl (fun _ => 0))), (u.1 3, .inl (u.2.1 3, 8, .inl u.2.2.2)), (u.1 4, .inl (u.2.1 4, 60, .inl (fun _ => 0))), (u.1 5, .inl (u.2.1 5, 15, .inl (fun _ => 0))), (u.1 6, .inl (u.2.1 6, 16, .inl (fun _ => 0))), (u.1 7, .inl (u.2.1 7, 16, .inl (fun _ => 0))), (u.1 8, .inl (u.2.1 8, 6, .inl (fun _ => 0))), (u.1 9, .inl (u.2.1 9, 96, .inl (fun _ => 0)))] [(u.2.1 0, .int), (u.2.1 1, .int), (u.2.1 2, .int), (u.2.1 3, .int), (u.2.1 4, .int), (u.2.1 5, .int), (u.2.1 6, .int), (u.2.1 7, .int), (u.2.1 8, .int), (u.2.1 9, .int)] t) (va_A [(h0, .inr (5, [.int 0, .null, .int 0, .int 0, .int 0, .null, .null, .null, .int 0, .int 0, .null, .int 0, .null, .int 0, .int 0, .int 0, .int 0, .int 0, .int 0, .null, .int 0, .null, .int 0, .null, .null]))] sz)) 10 2029 (va_A [(h0, .inr (5, [.int 0, .null, .int 0, .int 0, .int 0, .null, .null, .null, .int 0, .int 0, .null, .int 0, .null, .int 0, .int 0, .int 0, .int 0, .int 0, .int 0, .null, .int 0, .null, .int 0, .null, .null]))] sz) := by
  refine Met.ofW (cc := b_Mo_init) (maxL := 1) (ret := none) (by decide) rfl ?_
  intro p e s m args below meth c s₁ B hml hv
  obtain ⟨rfl, hsz, hP, hK, hD0, hkw, hX⟩ := hv
  have hx := B.exec
  have hb := B.bytes
  have hr := B.returns
  have hts := fun w hw => atoms_spec (ws := Cond.code y_Mo_init b_Mo_init 1 none :: gw) B.pre w (List.mem_cons_of_mem _ hw)
  have hown : s.vm.findClass "LineDiskModel" = some m.cls := findClass_of_methodNamed B.named
  have hlocks := B.notSynchronized
  have hin := (name_of_methodNamed B.named B.method).1
  subst hsz
  have hD := hD0.self (sz := s.heap.size)
  generalize hAe : va_A [(h0, .inr (5, [.int 0, .null, .int 0, .int 0, .int 0, .null, .null, .null, .int 0, .int 0, .null, .int 0, .null, .int 0, .int 0, .int 0, .int 0, .int 0, .int 0, .null, .int 0, .null, .int 0, .null, .null]))] s.heap.size = A at hD ⊢
  have hA : ∀ q : Nat, s.heap.size ≤ q → A q := fun q h => by rw [← hAe]; exact Or.inr h
  have hS : va_S A s.heap s.heap [] := va_S.rf
  have hl := lv_entry ([.ref h0]) (n := 1) (Nat.le_of_ble_eq_true rfl)
  rw [lg_entry_eq]
  generalize (lg_sl ([.ref h0]) ++ List.replicate (1 - (lg_sl ([.ref h0])).length) Slot.unset).toArray = ls at hl ⊢
  have hl : lv_has ls 1 [(0, .ref h0)] := hl
  have F : CallFix p m c b_Mo_init 1 s ([.ref h0]).toArray gw "LineDiskModel" := ⟨hx, hb, hml, hown, hts⟩
  refine lv_aload_n hx hb d_Mo_init_0 rfl (lv_at hl 0 rfl) ?_
  refine W.objInit hx hb hown (hts _ w_588) (hts _ w_21) (hts _ w_22) rfl (by rw [hml]; exact hl.1) rfl d_Mo_init_1 (Nat.le_of_ble_eq_true rfl) (Nat.le_of_ble_eq_true rfl) ?_
  refine W.eq (g2 := F0 m 4 ls []) rfl ?_
  refine lv_aload_n hx hb d_Mo_init_4 rfl (lv_at hl 0 rfl) ?_
  refine lv_sipush (v := 512) hx hb d_Mo_init_5 (by decide) ?_
  refine va_newa (atype := .int) (a0 := (512, .inl (fun _ => 0))) (N' := 512) hx hb (hts _ w_45) rfl hK hP hD hS hA (fun cA => rfl) (by decide) (by decide) (by decide) (by decide) (by decide) d_Mo_init_8 (fun q8 cA8 H hK hP hD hS => ?_)
  have hP : va_P (dC, dI) cls [(h0, .inr (5, [.int 0, .null, .int 0, .int 0, .int 0, .null, .null, .null, .int 0, .int 0, .null, .int 0, .null, .int 0, .int 0, .int 0, .int 0, .int 0, .int 0, .null, .int 0, .null, .int 0, .null, .null])), (q8, .inl (cA8, 512, .inl (fun _ => 0)))] H := hP
  have hD : va_D A [(h0, .inr (5, [.int 0, .null, .int 0, .int 0, .int 0, .null, .null, .null, .int 0, .int 0, .null, .int 0, .null, .int 0, .int 0, .int 0, .int 0, .int 0, .int 0, .null, .int 0, .null, .int 0, .null, .null])), (q8, .inl (cA8, 512, .inl (fun _ => 0)))] := hD
  have hK : va_K (dC, dI) cls [(cA8, .int)] s := hK
  refine W.widen (k := 1) (n := 512) (by omega) (by omega) ?_
  refine va_putF (D := (dC, dI)) (ci := 5) (v := .ref q8) (ty := .array .int) (C := R_Mo) (T := F_Mo) (N := 25) hx hb hts in_Mo t_Mo t_Mo_ok n_Mo hown hK hP hD hS 0 rfl rfl 1 (by decide) (hts _ w_594) (fun _ h9 => h9) rfl hin rfl (by decide +kernel) (rfl) (rfl) (Nat.le_of_ble_eq_true rfl) d_Mo_init_10 (fun H locs hP hD hS => ?_)
  have hP : va_P (dC, dI) cls [(h0, .inr (5, [.int 0, .ref q8, .int 0, .int 0, .int 0, .null, .null, .null, .int 0, .int 0, .null, .int 0, .null, .int 0, .int 0, .int 0, .int 0, .int 0, .int 0, .null, .int 0, .null, .int 0, .null, .null])), (q8, .inl (cA8, 512, .inl (fun _ => 0)))] H := hP
  have hD : va_D A [(h0, .inr (5, [.int 0, .ref q8, .int 0, .int 0, .int 0, .null, .null, .null, .int 0, .int 0, .null, .int 0, .null, .int 0, .int 0, .int 0, .int 0, .int 0, .int 0, .null, .int 0, .null, .int 0, .null, .null])), (q8, .inl (cA8, 512, .inl (fun _ => 0)))] := hD
  refine lv_aload_n hx hb d_Mo_init_13 rfl (lv_at hl 0 rfl) ?_
  refine lv_iconst (v := (-1)) hx hb d_Mo_init_14 (by decide) ?_
  refine va_put (D := (dC, dI)) (ci := 5) (v := .int (-1)) (ty := .int) (C := R_Mo) (T := F_Mo) (N := 25) hx hb hts in_Mo t_Mo t_Mo_ok n_Mo hown hK hP hD hS 0 rfl rfl 2 (by decide) (hts _ w_595) (fun _ h9 => h9) rfl (by decide +kernel) (rfl) (rfl) (Nat.le_of_ble_eq_true rfl) d_Mo_init_15 (fun H locs hP hD hS => ?_)
  have hP : va_P (dC, dI) cls [(h0, .inr (5, [.int 0, .ref q8, .int (-1), .int 0, .int 0, .null, .null, .null, .int 0, .int 0, .null, .int 0, .null, .int 0, .int 0, .int 0, .int 0, .int 0, .int 0, .null, .int 0, .null, .int 0, .null, .null])), (q8, .inl (cA8, 512, .inl (fun _ => 0)))] H := hP
  have hD : va_D A [(h0, .inr (5, [.int 0, .ref q8, .int (-1), .int 0, .int 0, .null, .null, .null, .int 0, .int 0, .null, .int 0, .null, .int 0, .int 0, .int 0, .int 0, .int 0, .int 0, .null, .int 0, .null, .int 0, .null, .null])), (q8, .inl (cA8, 512, .inl (fun _ => 0)))] := hD
  refine lv_aload_n hx hb d_Mo_init_18 rfl (lv_at hl 0 rfl) ?_
  refine lv_bipush (v := 100) hx hb d_Mo_init_19 (by decide) ?_
  refine va_newa (atype := .int) (a0 := (100, .inl (fun _ => 0))) (N' := 100) hx hb (hts _ w_45) rfl hK hP hD hS hA (fun cA => rfl) (by decide) (by decide) (by decide) (by decide) (by decide) d_Mo_init_21 (fun q21 cA21 H hK hP hD hS => ?_)
  have hP : va_P (dC, dI) cls [(h0, .inr (5, [.int 0, .ref q8, .int (-1), .int 0, .int 0, .null, .null, .null, .int 0, .int 0, .null, .int 0, .null, .int 0, .int 0, .int 0, .int 0, .int 0, .int 0, .null, .int 0, .null, .int 0, .null, .null])), (q8, .inl (cA8, 512, .inl (fun _ => 0))), (q21, .inl (cA21, 100, .inl (fun _ => 0)))] H := hP
  have hD : va_D A [(h0, .inr (5, [.int 0, .ref q8, .int (-1), .int 0, .int 0, .null, .null, .null, .int 0, .int 0, .null, .int 0, .null, .int 0, .int 0, .int 0, .int 0, .int 0, .int 0, .null, .int 0, .null, .int 0, .null, .null])), (q8, .inl (cA8, 512, .inl (fun _ => 0))), (q21, .inl (cA21, 100, .inl (fun _ => 0)))] := hD
  have hK : va_K (dC, dI) cls [(cA8, .int), (cA21, .int)] s := hK
  refine W.widen (k := 2) (n := 612) (by omega) (by omega) ?_
  refine va_putF (D := (dC, dI)) (ci := 5) (v := .ref q21) (ty := .array .int) (C := R_Mo) (T := F_Mo) (N := 25) hx hb hts in_Mo t_Mo t_Mo_ok n_Mo hown hK hP hD hS 0 rfl rfl 5 (by decide) (hts _ w_598) (fun _ h9 => h9) rfl hin rfl (by decide +kernel) (rfl) (rfl) (Nat.le_of_ble_eq_true rfl) d_Mo_init_23 (fun H locs hP hD hS => ?_)
  have hP : va_P (dC, dI) cls [(h0, .inr (5, [.int 0, .ref q8, .int (-1), .int 0, .int 0, .ref q21, .null, .null, .int 0, .int 0, .null, .int 0, .null, .int 0, .int 0, .int 0, .int 0, .int 0, .int 0, .null, .int 0, .null, .int 0, .null, .null])), (q8, .inl (cA8, 512, .inl (fun _ => 0))), (q21, .inl (cA21, 100, .inl (fun _ => 0)))] H := hP
  have hD : va_D A [(h0, .inr (5, [.int 0, .ref q8, .int (-1), .int 0, .int 0, .ref q21, .null, .null, .int 0, .int 0, .null, .int 0, .null, .int 0, .int 0, .int 0, .int 0, .int 0, .int 0, .null, .int 0, .null, .int 0, .null, .null])), (q8, .inl (cA8, 512, .inl (fun _ => 0))), (q21, .inl (cA21, 100, .inl (fun _ => 0)))] := hD
  refine lv_aload_n hx hb d_Mo_init_26 rfl (lv_at hl 0 rfl) ?_
  refine lv_sipush (v := 1200) hx hb d_Mo_init_27 (by decide) ?_
  refine va_newa (atype := .int) (a0 := (1200, .inl (fun _ => 0))) (N' := 1200) hx hb (hts _ w_45) rfl hK hP hD hS hA (fun cA => rfl) (by decide) (by decide) (by decide) (by decide) (by decide) d_Mo_init_30 (fun q30 cA30 H hK hP hD hS => ?_)
  have hP : va_P (dC, dI) cls [(h0, .inr (5, [.int 0, .ref q8, .int (-1), .int 0, .int 0, .ref q21, .null, .null, .int 0, .int 0, .null, .int 0, .null, .int 0, .int 0, .int 0, .int 0, .int 0, .int 0, .null, .int 0, .null, .int 0, .null, .null])), (q8, .inl (cA8, 512, .inl (fun _ => 0))), (q21, .inl (cA21, 100, .inl (fun _ => 0))), (q30, .inl (cA30, 1200, .inl (fun _ => 0)))] H := hP
  have hD : va_D A [(h0, .inr (5, [.int 0, .ref q8, .int (-1), .int 0, .int 0, .ref q21, .null, .null, .int 0, .int 0, .null, .int 0, .null, .int 0, .int 0, .int 0, .int 0, .int 0, .int 0, .null, .int 0, .null, .int 0, .null, .null])), (q8, .inl (cA8, 512, .inl (fun _ => 0))), (q21, .inl (cA21, 100, .inl (fun _ => 0))), (q30, .inl (cA30, 1200, .inl (fun _ => 0)))] := hD
  have hK : va_K (dC, dI) cls [(cA8, .int), (cA21, .int), (cA30, .int)] s := hK
  refine W.widen (k := 3) (n := 1812) (by omega) (by omega) ?_
  refine va_putF (D := (dC, dI)) (ci := 5) (v := .ref q30) (ty := .array .int) (C := R_Mo) (T := F_Mo) (N := 25) hx hb hts in_Mo t_Mo t_Mo_ok n_Mo hown hK hP hD hS 0 rfl rfl 6 (by decide) (hts _ w_599) (fun _ h9 => h9) rfl hin rfl (by decide +kernel) (rfl) (rfl) (Nat.le_of_ble_eq_true rfl) d_Mo_init_32 (fun H locs hP hD hS => ?_)
  have hP : va_P (dC, dI) cls [(h0, .inr (5, [.int 0, .ref q8, .int (-1), .int 0, .int 0, .ref q21, .ref q30, .null, .int 0, .int 0, .null, .int 0, .null, .int 0, .int 0, .int 0, .int 0, .int 0, .int 0, .null, .int 0, .null, .int 0, .null, .null])), (q8, .inl (cA8, 512, .inl (fun _ => 0))), (q21, .inl (cA21, 100, .inl (fun _ => 0))), (q30, .inl (cA30, 1200, .inl (fun _ => 0)))] H := hP
  have hD : va_D A [(h0, .inr (5, [.int 0, .ref q8, .int (-1), .int 0, .int 0, .ref q21, .ref q30, .null, .int 0, .int 0, .null, .int 0, .null, .int 0, .int 0, .int 0, .int 0, .int 0, .int 0, .null, .int 0, .null, .int 0, .null, .null])), (q8, .inl (cA8, 512, .inl (fun _ => 0))), (q21, .inl (cA21, 100, .inl (fun _ => 0))), (q30, .inl (cA30, 1200, .inl (fun _ => 0)))] := hD
  refine lv_aload_n hx hb d_Mo_init_35 rfl (lv_at hl 0 rfl) ?_
  refine lv_bipush (v := 8) hx hb d_Mo_init_36 (by decide) ?_
  refine va_newa (atype := .int) (a0 := (8, .inl (fun _ => 0))) (N' := 8) hx hb (hts _ w_45) rfl hK hP hD hS hA (fun cA => rfl) (by decide) (by decide) (by decide) (by decide) (by decide) d_Mo_init_38 (fun q38 cA38 H hK hP hD hS => ?_)
  have hP : va_P (dC, dI) cls [(h0, .inr (5, [.int 0, .ref q8, .int (-1), .int 0, .int 0, .ref q21, .ref q30, .null, .int 0, .int 0, .null, .int 0, .null, .int 0, .int 0, .int 0, .int 0, .int 0, .int 0, .null, .int 0, .null, .int 0, .null, .null])), (q8, .inl (cA8, 512, .inl (fun _ => 0))), (q21, .inl (cA21, 100, .inl (fun _ => 0))), (q30, .inl (cA30, 1200, .inl (fun _ => 0))), (q38, .inl (cA38, 8, .inl (fun _ => 0)))] H := hP
  have hD : va_D A [(h0, .inr (5, [.int 0, .ref q8, .int (-1), .int 0, .int 0, .ref q21, .ref q30, .null, .int 0, .int 0, .null, .int 0, .null, .int 0, .int 0, .int 0, .int 0, .int 0, .int 0, .null, .int 0, .null, .int 0, .null, .null])), (q8, .inl (cA8, 512, .inl (fun _ => 0))), (q21, .inl (cA21, 100, .inl (fun _ => 0))), (q30, .inl (cA30, 1200, .inl (fun _ => 0))), (q38, .inl (cA38, 8, .inl (fun _ => 0)))] := hD
  have hK : va_K (dC, dI) cls [(cA8, .int), (cA21, .int), (cA30, .int), (cA38, .int)] s := hK
  refine W.widen (k := 4) (n := 1820) (by omega) (by omega) ?_
  refine va_putF (D := (dC, dI)) (ci := 5) (v := .ref q38) (ty := .array .int) (C := R_Mo) (T := F_Mo) (N := 25) hx hb hts in_Mo t_Mo t_Mo_ok n_Mo hown hK hP hD hS 0 rfl rfl 7 (by decide) (hts _ w_600) (fun _ h9 => h9) rfl hin rfl (by decide +kernel) (rfl) (rfl) (Nat.le_of_ble_eq_true rfl) d_Mo_init_40 (fun H locs hP hD hS => ?_)
  have hP : va_P (dC, dI) cls [(h0, .inr (5, [.int 0, .ref q8, .int (-1), .int 0, .int 0, .ref q21, .ref q30, .ref q38, .int 0, .int 0, .null, .int 0, .null, .int 0, .int 0, .int 0, .int 0, .int 0, .int 0, .null, .int 0, .null, .int 0, .null, .null])), (q8, .inl (cA8, 512, .inl (fun _ => 0))), (q21, .inl (cA21, 100, .inl (fun _ => 0))), (q30, .inl (cA30, 1200, .inl (fun _ => 0))), (q38, .inl (cA38, 8, .inl (fun _ => 0)))] H := hP
  have hD : va_D A [(h0, .inr (5, [.int 0, .ref q8, .int (-1), .int 0, .int 0, .ref q21, .ref q30, .ref q38, .int 0, .int 0, .null, .int 0, .null, .int 0, .int 0, .int 0, .int 0, .int 0, .int 0, .null, .int 0, .null, .int 0, .null, .null])), (q8, .inl (cA8, 512, .inl (fun _ => 0))), (q21, .inl (cA21, 100, .inl (fun _ => 0))), (q30, .inl (cA30, 1200, .inl (fun _ => 0))), (q38, .inl (cA38, 8, .inl (fun _ => 0)))] := hD
  refine lv_aload_n hx hb d_Mo_init_43 rfl (lv_at hl 0 rfl) ?_
  refine lv_bipush (v := 60) hx hb d_Mo_init_44 (by decide) ?_
  refine va_newa (atype := .int) (a0 := (60, .inl (fun _ => 0))) (N' := 60) hx hb (hts _ w_45) rfl hK hP hD hS hA (fun cA => rfl) (by decide) (by decide) (by decide) (by decide) (by decide) d_Mo_init_46 (fun q46 cA46 H hK hP hD hS => ?_)
  have hP : va_P (dC, dI) cls [(h0, .inr (5, [.int 0, .ref q8, .int (-1), .int 0, .int 0, .ref q21, .ref q30, .ref q38, .int 0, .int 0, .null, .int 0, .null, .int 0, .int 0, .int 0, .int 0, .int 0, .int 0, .null, .int 0, .null, .int 0, .null, .null])), (q8, .inl (cA8, 512, .inl (fun _ => 0))), (q21, .inl (cA21, 100, .inl (fun _ => 0))), (q30, .inl (cA30, 1200, .inl (fun _ => 0))), (q38, .inl (cA38, 8, .inl (fun _ => 0))), (q46, .inl (cA46, 60, .inl (fun _ => 0)))] H := hP
  have hD : va_D A [(h0, .inr (5, [.int 0, .ref q8, .int (-1), .int 0, .int 0, .ref q21, .ref q30, .ref q38, .int 0, .int 0, .null, .int 0, .null, .int 0, .int 0, .int 0, .int 0, .int 0, .int 0, .null, .int 0, .null, .int 0, .null, .null])), (q8, .inl (cA8, 512, .inl (fun _ => 0))), (q21, .inl (cA21, 100, .inl (fun _ => 0))), (q30, .inl (cA30, 1200, .inl (fun _ => 0))), (q38, .inl (cA38, 8, .inl (fun _ => 0))), (q46, .inl (cA46, 60, .inl (fun _ => 0)))] := hD
  have hK : va_K (dC, dI) cls [(cA8, .int), (cA21, .int), (cA30, .int), (cA38, .int), (cA46, .int)] s := hK
  refine W.widen (k := 5) (n := 1880) (by omega) (by omega) ?_
  refine va_putF (D := (dC, dI)) (ci := 5) (v := .ref q46) (ty := .array .int) (C := R_Mo) (T := F_Mo) (N := 25) hx hb hts in_Mo t_Mo t_Mo_ok n_Mo hown hK hP hD hS 0 rfl rfl 10 (by decide) (hts _ w_603) (fun _ h9 => h9) rfl hin rfl (by decide +kernel) (rfl) (rfl) (Nat.le_of_ble_eq_true rfl) d_Mo_init_48 (fun H locs hP hD hS => ?_)
  have hP : va_P (dC, dI) cls [(h0, .inr (5, [.int 0, .ref q8, .int (-1), .int 0, .int 0, .ref q21, .ref q30, .ref q38, .int 0, .int 0, .ref q46, .int 0, .null, .int 0, .int 0, .int 0, .int 0, .int 0, .int 0, .null, .int 0, .null, .int 0, .null, .null])), (q8, .inl (cA8, 512, .inl (fun _ => 0))), (q21, .inl (cA21, 100, .inl (fun _ => 0))), (q30, .inl (cA30, 1200, .inl (fun _ => 0))), (q38, .inl (cA38, 8, .inl (fun _ => 0))), (q46, .inl (cA46, 60, .inl (fun _ => 0)))] H := hP
  have hD : va_D A [(h0, .inr (5, [.int 0, .ref q8, .int (-1), .int 0, .int 0, .ref q21, .ref q30, .ref q38, .int 0, .int 0, .ref q46, .int 0, .null, .int 0, .int 0, .int 0, .int 0, .int 0, .int 0, .null, .int 0, .null, .int 0, .null, .null])), (q8, .inl (cA8, 512, .inl (fun _ => 0))), (q21, .inl (cA21, 100, .inl (fun _ => 0))), (q30, .inl (cA30, 1200, .inl (fun _ => 0))), (q38, .inl (cA38, 8, .inl (fun _ => 0))), (q46, .inl (cA46, 60, .inl (fun _ => 0)))] := hD
  refine lv_aload_n hx hb d_Mo_init_51 rfl (lv_at hl 0 rfl) ?_
  refine lv_bipush (v := 15) hx hb d_Mo_init_52 (by decide) ?_
  refine va_newa (atype := .int) (a0 := (15, .inl (fun _ => 0))) (N' := 15) hx hb (hts _ w_45) rfl hK hP hD hS hA (fun cA => rfl) (by decide) (by decide) (by decide) (by decide) (by decide) d_Mo_init_54 (fun q54 cA54 H hK hP hD hS => ?_)
  have hP : va_P (dC, dI) cls [(h0, .inr (5, [.int 0, .ref q8, .int (-1), .int 0, .int 0, .ref q21, .ref q30, .ref q38, .int 0, .int 0, .ref q46, .int 0, .null, .int 0, .int 0, .int 0, .int 0, .int 0, .int 0, .null, .int 0, .null, .int 0, .null, .null])), (q8, .inl (cA8, 512, .inl (fun _ => 0))), (q21, .inl (cA21, 100, .inl (fun _ => 0))), (q30, .inl (cA30, 1200, .inl (fun _ => 0))), (q38, .inl (cA38, 8, .inl (fun _ => 0))), (q46, .inl (cA46, 60, .inl (fun _ => 0))), (q54, .inl (cA54, 15, .inl (fun _ => 0)))] H := hP
  have hD : va_D A [(h0, .inr (5, [.int 0, .ref q8, .int (-1), .int 0, .int 0, .ref q21, .ref q30, .ref q38, .int 0, .int 0, .ref q46, .int 0, .null, .int 0, .int 0, .int 0, .int 0, .int 0, .int 0, .null, .int 0, .null, .int 0, .null, .null])), (q8, .inl (cA8, 512, .inl (fun _ => 0))), (q21, .inl (cA21, 100, .inl (fun _ => 0))), (q30, .inl (cA30, 1200, .inl (fun _ => 0))), (q38, .inl (cA38, 8, .inl (fun _ => 0))), (q46, .inl (cA46, 60, .inl (fun _ => 0))), (q54, .inl (cA54, 15, .inl (fun _ => 0)))] := hD
  have hK : va_K (dC, dI) cls [(cA8, .int), (cA21, .int), (cA30, .int), (cA38, .int), (cA46, .int), (cA54, .int)] s := hK
  refine W.widen (k := 6) (n := 1895) (by omega) (by omega) ?_
  refine va_putF (D := (dC, dI)) (ci := 5) (v := .ref q54) (ty := .array .int) (C := R_Mo) (T := F_Mo) (N := 25) hx hb hts in_Mo t_Mo t_Mo_ok n_Mo hown hK hP hD hS 0 rfl rfl 12 (by decide) (hts _ w_605) (fun _ h9 => h9) rfl hin rfl (by decide +kernel) (rfl) (rfl) (Nat.le_of_ble_eq_true rfl) d_Mo_init_56 (fun H locs hP hD hS => ?_)
  have hP : va_P (dC, dI) cls [(h0, .inr (5, [.int 0, .ref q8, .int (-1), .int 0, .int 0, .ref q21, .ref q30, .ref q38, .int 0, .int 0, .ref q46, .int 0, .ref q54, .int 0, .int 0, .int 0, .int 0, .int 0, .int 0, .null, .int 0, .null, .int 0, .null, .null])), (q8, .inl (cA8, 512, .inl (fun _ => 0))), (q21, .inl (cA21, 100, .inl (fun _ => 0))), (q30, .inl (cA30, 1200, .inl (fun _ => 0))), (q38, .inl (cA38, 8, .inl (fun _ => 0))), (q46, .inl (cA46, 60, .inl (fun _ => 0))), (q54, .inl (cA54, 15, .inl (fun _ => 0)))] H := hP
  have hD : va_D A [(h0, .inr (5, [.int 0, .ref q8, .int (-1), .int 0, .int 0, .ref q21, .ref q30, .ref q38, .int 0, .int 0, .ref q46, .int 0, .ref q54, .int 0, .int 0, .int 0, .int 0, .int 0, .int 0, .null, .int 0, .null, .int 0, .null, .null])), (q8, .inl (cA8, 512, .inl (fun _ => 0))), (q21, .inl (cA21, 100, .inl (fun _ => 0))), (q30, .inl (cA30, 1200, .inl (fun _ => 0))), (q38, .inl (cA38, 8, .inl (fun _ => 0))), (q46, .inl (cA46, 60, .inl (fun _ => 0))), (q54, .inl (cA54, 15, .inl (fun _ => 0)))] := hD
  refine lv_aload_n hx hb d_Mo_init_59 rfl (lv_at hl 0 rfl) ?_
  refine lv_bipush (v := 16) hx hb d_Mo_init_60 (by decide) ?_
  refine va_newa (atype := .int) (a0 := (16, .inl (fun _ => 0))) (N' := 16) hx hb (hts _ w_45) rfl hK hP hD hS hA (fun cA => rfl) (by decide) (by decide) (by decide) (by decide) (by decide) d_Mo_init_62 (fun q62 cA62 H hK hP hD hS => ?_)
  have hP : va_P (dC, dI) cls [(h0, .inr (5, [.int 0, .ref q8, .int (-1), .int 0, .int 0, .ref q21, .ref q30, .ref q38, .int 0, .int 0, .ref q46, .int 0, .ref q54, .int 0, .int 0, .int 0, .int 0, .int 0, .int 0, .null, .int 0, .null, .int 0, .null, .null])), (q8, .inl (cA8, 512, .inl (fun _ => 0))), (q21, .inl (cA21, 100, .inl (fun _ => 0))), (q30, .inl (cA30, 1200, .inl (fun _ => 0))), (q38, .inl (cA38, 8, .inl (fun _ => 0))), (q46, .inl (cA46, 60, .inl (fun _ => 0))), (q54, .inl (cA54, 15, .inl (fun _ => 0))), (q62, .inl (cA62, 16, .inl (fun _ => 0)))] H := hP
  have hD : va_D A [(h0, .inr (5, [.int 0, .ref q8, .int (-1), .int 0, .int 0, .ref q21, .ref q30, .ref q38, .int 0, .int 0, .ref q46, .int 0, .ref q54, .int 0, .int 0, .int 0, .int 0, .int 0, .int 0, .null, .int 0, .null, .int 0, .null, .null])), (q8, .inl (cA8, 512, .inl (fun _ => 0))), (q21, .inl (cA21, 100, .inl (fun _ => 0))), (q30, .inl (cA30, 1200, .inl (fun _ => 0))), (q38, .inl (cA38, 8, .inl (fun _ => 0))), (q46, .inl (cA46, 60, .inl (fun _ => 0))), (q54, .inl (cA54, 15, .inl (fun _ => 0))), (q62, .inl (cA62, 16, .inl (fun _ => 0)))] := hD
  have hK : va_K (dC, dI) cls [(cA8, .int), (cA21, .int), (cA30, .int), (cA38, .int), (cA46, .int), (cA54, .int), (cA62, .int)] s := hK
  refine W.widen (k := 7) (n := 1911) (by omega) (by omega) ?_
  refine va_putF (D := (dC, dI)) (ci := 5) (v := .ref q62) (ty := .array .int) (C := R_Mo) (T := F_Mo) (N := 25) hx hb hts in_Mo t_Mo t_Mo_ok n_Mo hown hK hP hD hS 0 rfl rfl 19 (by decide) (hts _ w_612) (fun _ h9 => h9) rfl hin rfl (by decide +kernel) (rfl) (rfl) (Nat.le_of_ble_eq_true rfl) d_Mo_init_64 (fun H locs hP hD hS => ?_)
  have hP : va_P (dC, dI) cls [(h0, .inr (5, [.int 0, .ref q8, .int (-1), .int 0, .int 0, .ref q21, .ref q30, .ref q38, .int 0, .int 0, .ref q46, .int 0, .ref q54, .int 0, .int 0, .int 0, .int 0, .int 0, .int 0, .ref q62, .int 0, .null, .int 0, .null, .null])), (q8, .inl (cA8, 512, .inl (fun _ => 0))), (q21, .inl (cA21, 100, .inl (fun _ => 0))), (q30, .inl (cA30, 1200, .inl (fun _ => 0))), (q38, .inl (cA38, 8, .inl (fun _ => 0))), (q46, .inl (cA46, 60, .inl (fun _ => 0))), (q54, .inl (cA54, 15, .inl (fun _ => 0))), (q62, .inl (cA62, 16, .inl (fun _ => 0)))] H := hP
  have hD : va_D A [(h0, .inr (5, [.int 0, .ref q8, .int (-1), .int 0, .int 0, .ref q21, .ref q30, .ref q38, .int 0, .int 0, .ref q46, .int 0, .ref q54, .int 0, .int 0, .int 0, .int 0, .int 0, .int 0, .ref q62, .int 0, .null, .int 0, .null, .null])), (q8, .inl (cA8, 512, .inl (fun _ => 0))), (q21, .inl (cA21, 100, .inl (fun _ => 0))), (q30, .inl (cA30, 1200, .inl (fun _ => 0))), (q38, .inl (cA38, 8, .inl (fun _ => 0))), (q46, .inl (cA46, 60, .inl (fun _ => 0))), (q54, .inl (cA54, 15, .inl (fun _ => 0))), (q62, .inl (cA62, 16, .inl (fun _ => 0)))] := hD
  refine lv_aload_n hx hb d_Mo_init_67 rfl (lv_at hl 0 rfl) ?_
  refine lv_bipush (v := 16) hx hb d_Mo_init_68 (by decide) ?_
  refine va_newa (atype := .int) (a0 := (16, .inl (fun _ => 0))) (N' := 16) hx hb (hts _ w_45) rfl hK hP hD hS hA (fun cA => rfl) (by decide) (by decide) (by decide) (by decide) (by decide) d_Mo_init_70 (fun q70 cA70 H hK hP hD hS => ?_)
  have hP : va_P (dC, dI) cls [(h0, .inr (5, [.int 0, .ref q8, .int (-1), .int 0, .int 0, .ref q21, .ref q30, .ref q38, .int 0, .int 0, .ref q46, .int 0, .ref q54, .int 0, .int 0, .int 0, .int 0, .int 0, .int 0, .ref q62, .int 0, .null, .int 0, .null, .null])), (q8, .inl (cA8, 512, .inl (fun _ => 0))), (q21, .inl (cA21, 100, .inl (fun _ => 0))), (q30, .inl (cA30, 1200, .inl (fun _ => 0))), (q38, .inl (cA38, 8, .inl (fun _ => 0))), (q46, .inl (cA46, 60, .inl (fun _ => 0))), (q54, .inl (cA54, 15, .inl (fun _ => 0))), (q62, .inl (cA62, 16, .inl (fun _ => 0))), (q70, .inl (cA70, 16, .inl (fun _ => 0)))] H := hP
  have hD : va_D A [(h0, .inr (5, [.int 0, .ref q8, .int (-1), .int 0, .int 0, .ref q21, .ref q30, .ref q38, .int 0, .int 0, .ref q46, .int 0, .ref q54, .int 0, .int 0, .int 0, .int 0, .int 0, .int 0, .ref q62, .int 0, .null, .int 0, .null, .null])), (q8, .inl (cA8, 512, .inl (fun _ => 0))), (q21, .inl (cA21, 100, .inl (fun _ => 0))), (q30, .inl (cA30, 1200, .inl (fun _ => 0))), (q38, .inl (cA38, 8, .inl (fun _ => 0))), (q46, .inl (cA46, 60, .inl (fun _ => 0))), (q54, .inl (cA54, 15, .inl (fun _ => 0))), (q62, .inl (cA62, 16, .inl (fun _ => 0))), (q70, .inl (cA70, 16, .inl (fun _ => 0)))] := hD
  have hK : va_K (dC, dI) cls [(cA8, .int), (cA21, .int), (cA30, .int), (cA38, .int), (cA46, .int), (cA54, .int), (cA62, .int), (cA70, .int)] s := hK
  refine W.widen (k := 8) (n := 1927) (by omega) (by omega) ?_
  refine va_putF (D := (dC, dI)) (ci := 5) (v := .ref q70) (ty := .array .int) (C := R_Mo) (T := F_Mo) (N := 25) hx hb hts in_Mo t_Mo t_Mo_ok n_Mo hown hK hP hD hS 0 rfl rfl 21 (by decide) (hts _ w_614) (fun _ h9 => h9) rfl hin rfl (by decide +kernel) (rfl) (rfl) (Nat.le_of_ble_eq_true rfl) d_Mo_init_72 (fun H locs hP hD hS => ?_)
  have hP : va_P (dC, dI) cls [(h0, .inr (5, [.int 0, .ref q8, .int (-1), .int 0, .int 0, .ref q21, .ref q30, .ref q38, .int 0, .int 0, .ref q46, .int 0, .ref q54, .int 0, .int 0, .int 0, .int 0, .int 0, .int 0, .ref q62, .int 0, .ref q70, .int 0, .null, .null])), (q8, .inl (cA8, 512, .inl (fun _ => 0))), (q21, .inl (cA21, 100, .inl (fun _ => 0))), (q30, .inl (cA30, 1200, .inl (fun _ => 0))), (q38, .inl (cA38, 8, .inl (fun _ => 0))), (q46, .inl (cA46, 60, .inl (fun _ => 0))), (q54, .inl (cA54, 15, .inl (fun _ => 0))), (q62, .inl (cA62, 16, .inl (fun _ => 0))), (q70, .inl (cA70, 16, .inl (fun _ => 0)))] H := hP
  have hD : va_D A [(h0, .inr (5, [.int 0, .ref q8, .int (-1), .int 0, .int 0, .ref q21, .ref q30, .ref q38, .int 0, .int 0, .ref q46, .int 0, .ref q54, .int 0, .int 0, .int 0, .int 0, .int 0, .int 0, .ref q62, .int 0, .ref q70, .int 0, .null, .null])), (q8, .inl (cA8, 512, .inl (fun _ => 0))), (q21, .inl (cA21, 100, .inl (fun _ => 0))), (q30, .inl (cA30, 1200, .inl (fun _ => 0))), (q38, .inl (cA38, 8, .inl (fun _ => 0))), (q46, .inl (cA46, 60, .inl (fun _ => 0))), (q54, .inl (cA54, 15, .inl (fun _ => 0))), (q62, .inl (cA62, 16, .inl (fun _ => 0))), (q70, .inl (cA70, 16, .inl (fun _ => 0)))] := hD
  refine lv_aload_n hx hb d_Mo_init_75 rfl (lv_at hl 0 rfl) ?_
  refine lv_bipush (v := 6) hx hb d_Mo_init_76 (by decide) ?_
  refine va_newa (atype := .int) (a0 := (6, .inl (fun _ => 0))) (N' := 6) hx hb (hts _ w_45) rfl hK hP hD hS hA (fun cA => rfl) (by decide) (by decide) (by decide) (by decide) (by decide) d_Mo_init_78 (fun q78 cA78 H hK hP hD hS => ?_)
  have hP : va_P (dC, dI) cls [(h0, .inr (5, [.int 0, .ref q8, .int (-1), .int 0, .int 0, .ref q21, .ref q30, .ref q38, .int 0, .int 0, .ref q46, .int 0, .ref q54, .int 0, .int 0, .int 0, .int 0, .int 0, .int 0, .ref q62, .int 0, .ref q70, .int 0, .null, .null])), (q8, .inl (cA8, 512, .inl (fun _ => 0))), (q21, .inl (cA21, 100, .inl (fun _ => 0))), (q30, .inl (cA30, 1200, .inl (fun _ => 0))), (q38, .inl (cA38, 8, .inl (fun _ => 0))), (q46, .inl (cA46, 60, .inl (fun _ => 0))), (q54, .inl (cA54, 15, .inl (fun _ => 0))), (q62, .inl (cA62, 16, .inl (fun _ => 0))), (q70, .inl (cA70, 16, .inl (fun _ => 0))), (q78, .inl (cA78, 6, .inl (fun _ => 0)))] H := hP
  have hD : va_D A [(h0, .inr (5, [.int 0, .ref q8, .int (-1), .int 0, .int 0, .ref q21, .ref q30, .ref q38, .int 0, .int 0, .ref q46, .int 0, .ref q54, .int 0, .int 0, .int 0, .int 0, .int 0, .int 0, .ref q62, .int 0, .ref q70, .int 0, .null, .null])), (q8, .inl (cA8, 512, .inl (fun _ => 0))), (q21, .inl (cA21, 100, .inl (fun _ => 0))), (q30, .inl (cA30, 1200, .inl (fun _ => 0))), (q38, .inl (cA38, 8, .inl (fun _ => 0))), (q46, .inl (cA46, 60, .inl (fun _ => 0))), (q54, .inl (cA54, 15, .inl (fun _ => 0))), (q62, .inl (cA62, 16, .inl (fun _ => 0))), (q70, .inl (cA70, 16, .inl (fun _ => 0))), (q78, .inl (cA78, 6, .inl (fun _ => 0)))] := hD
  have hK : va_K (dC, dI) cls [(cA8, .int), (cA21, .int), (cA30, .int), (cA38, .int), (cA46, .int), (cA54, .int), (cA62, .int), (cA70, .int), (cA78, .int)] s := hK
  refine W.widen (k := 9) (n := 1933) (by omega) (by omega) ?_
  refine va_putF (D := (dC, dI)) (ci := 5) (v := .ref q78) (ty := .array .int) (C := R_Mo) (T := F_Mo) (N := 25) hx hb hts in_Mo t_Mo t_Mo_ok n_Mo hown hK hP hD hS 0 rfl rfl 23 (by decide) (hts _ w_616) (fun _ h9 => h9) rfl hin rfl (by decide +kernel) (rfl) (rfl) (Nat.le_of_ble_eq_true rfl) d_Mo_init_80 (fun H locs hP hD hS => ?_)
  have hP : va_P (dC, dI) cls [(h0, .inr (5, [.int 0, .ref q8, .int (-1), .int 0, .int 0, .ref q21, .ref q30, .ref q38, .int 0, .int 0, .ref q46, .int 0, .ref q54, .int 0, .int 0, .int 0, .int 0, .int 0, .int 0, .ref q62, .int 0, .ref q70, .int 0, .ref q78, .null])), (q8, .inl (cA8, 512, .inl (fun _ => 0))), (q21, .inl (cA21, 100, .inl (fun _ => 0))), (q30, .inl (cA30, 1200, .inl (fun _ => 0))), (q38, .inl (cA38, 8, .inl (fun _ => 0))), (q46, .inl (cA46, 60, .inl (fun _ => 0))), (q54, .inl (cA54, 15, .inl (fun _ => 0))), (q62, .inl (cA62, 16, .inl (fun _ => 0))), (q70, .inl (cA70, 16, .inl (fun _ => 0))), (q78, .inl (cA78, 6, .inl (fun _ => 0)))] H := hP
  have hD : va_D A [(h0, .inr (5, [.int 0, .ref q8, .int (-1), .int 0, .int 0, .ref q21, .ref q30, .ref q38, .int 0, .int 0, .ref q46, .int 0, .ref q54, .int 0, .int 0, .int 0, .int 0, .int 0, .int 0, .ref q62, .int 0, .ref q70, .int 0, .ref q78, .null])), (q8, .inl (cA8, 512, .inl (fun _ => 0))), (q21, .inl (cA21, 100, .inl (fun _ => 0))), (q30, .inl (cA30, 1200, .inl (fun _ => 0))), (q38, .inl (cA38, 8, .inl (fun _ => 0))), (q46, .inl (cA46, 60, .inl (fun _ => 0))), (q54, .inl (cA54, 15, .inl (fun _ => 0))), (q62, .inl (cA62, 16, .inl (fun _ => 0))), (q70, .inl (cA70, 16, .inl (fun _ => 0))), (q78, .inl (cA78, 6, .inl (fun _ => 0)))] := hD
  refine lv_aload_n hx hb d_Mo_init_83 rfl (lv_at hl 0 rfl) ?_
  refine lv_bipush (v := 96) hx hb d_Mo_init_84 (by decide) ?_
  refine va_newa (atype := .int) (a0 := (96, .inl (fun _ => 0))) (N' := 96) hx hb (hts _ w_45) rfl hK hP hD hS hA (fun cA => rfl) (by decide) (by decide) (by decide) (by decide) (by decide) d_Mo_init_86 (fun q86 cA86 H hK hP hD hS => ?_)
  have hP : va_P (dC, dI) cls [(h0, .inr (5, [.int 0, .ref q8, .int (-1), .int 0, .int 0, .ref q21, .ref q30, .ref q38, .int 0, .int 0, .ref q46, .int 0, .ref q54, .int 0, .int 0, .int 0, .int 0, .int 0, .int 0, .ref q62, .int 0, .ref q70, .int 0, .ref q78, .null])), (q8, .inl (cA8, 512, .inl (fun _ => 0))), (q21, .inl (cA21, 100, .inl (fun _ => 0))), (q30, .inl (cA30, 1200, .inl (fun _ => 0))), (q38, .inl (cA38, 8, .inl (fun _ => 0))), (q46, .inl (cA46, 60, .inl (fun _ => 0))), (q54, .inl (cA54, 15, .inl (fun _ => 0))), (q62, .inl (cA62, 16, .inl (fun _ => 0))), (q70, .inl (cA70, 16, .inl (fun _ => 0))), (q78, .inl (cA78, 6, .inl (fun _ => 0))), (q86, .inl (cA86, 96, .inl (fun _ => 0)))] H := hP
  have hD : va_D A [(h0, .inr (5, [.int 0, .ref q8, .int (-1), .int 0, .int 0, .ref q21, .ref q30, .ref q38, .int 0, .int 0, .ref q46, .int 0, .ref q54, .int 0, .int 0, .int 0, .int 0, .int 0, .int 0, .ref q62, .int 0, .ref q70, .int 0, .ref q78, .null])), (q8, .inl (cA8, 512, .inl (fun _ => 0))), (q21, .inl (cA21, 100, .inl (fun _ => 0))), (q30, .inl (cA30, 1200, .inl (fun _ => 0))), (q38, .inl (cA38, 8, .inl (fun _ => 0))), (q46, .inl (cA46, 60, .inl (fun _ => 0))), (q54, .inl (cA54, 15, .inl (fun _ => 0))), (q62, .inl (cA62, 16, .inl (fun _ => 0))), (q70, .inl (cA70, 16, .inl (fun _ => 0))), (q78, .inl (cA78, 6, .inl (fun _ => 0))), (q86, .inl (cA86, 96, .inl (fun _ => 0)))] := hD
  have hK : va_K (dC, dI) cls [(cA8, .int), (cA21, .int), (cA30, .int), (cA38, .int), (cA46, .int), (cA54, .int), (cA62, .int), (cA70, .int), (cA78, .int), (cA86, .int)] s := hK
  refine W.widen (k := 10) (n := 2029) (by omega) (by omega) ?_
  refine va_putF (D := (dC, dI)) (ci := 5) (v := .ref q86) (ty := .array .int) (C := R_Mo) (T := F_Mo) (N := 25) hx hb hts in_Mo t_Mo t_Mo_ok n_Mo hown hK hP hD hS 0 rfl rfl 24 (by decide) (hts _ w_617) (fun _ h9 => h9) rfl hin rfl (by decide +kernel) (rfl) (rfl) (Nat.le_of_ble_eq_true rfl) d_Mo_init_88 (fun H locs hP hD hS => ?_)
  have hP : va_P (dC, dI) cls [(h0, .inr (5, [.int 0, .ref q8, .int (-1), .int 0, .int 0, .ref q21, .ref q30, .ref q38, .int 0, .int 0, .ref q46, .int 0, .ref q54, .int 0, .int 0, .int 0, .int 0, .int 0, .int 0, .ref q62, .int 0, .ref q70, .int 0, .ref q78, .ref q86])), (q8, .inl (cA8, 512, .inl (fun _ => 0))), (q21, .inl (cA21, 100, .inl (fun _ => 0))), (q30, .inl (cA30, 1200, .inl (fun _ => 0))), (q38, .inl (cA38, 8, .inl (fun _ => 0))), (q46, .inl (cA46, 60, .inl (fun _ => 0))), (q54, .inl (cA54, 15, .inl (fun _ => 0))), (q62, .inl (cA62, 16, .inl (fun _ => 0))), (q70, .inl (cA70, 16, .inl (fun _ => 0))), (q78, .inl (cA78, 6, .inl (fun _ => 0))), (q86, .inl (cA86, 96, .inl (fun _ => 0)))] H := hP
  have hD : va_D A [(h0, .inr (5, [.int 0, .ref q8, .int (-1), .int 0, .int 0, .ref q21, .ref q30, .ref q38, .int 0, .int 0, .ref q46, .int 0, .ref q54, .int 0, .int 0, .int 0, .int 0, .int 0, .int 0, .ref q62, .int 0, .ref q70, .int 0, .ref q78, .ref q86])), (q8, .inl (cA8, 512, .inl (fun _ => 0))), (q21, .inl (cA21, 100, .inl (fun _ => 0))), (q30, .inl (cA30, 1200, .inl (fun _ => 0))), (q38, .inl (cA38, 8, .inl (fun _ => 0))), (q46, .inl (cA46, 60, .inl (fun _ => 0))), (q54, .inl (cA54, 15, .inl (fun _ => 0))), (q62, .inl (cA62, 16, .inl (fun _ => 0))), (q70, .inl (cA70, 16, .inl (fun _ => 0))), (q78, .inl (cA78, 6, .inl (fun _ => 0))), (q86, .inl (cA86, 96, .inl (fun _ => 0)))] := hD
  refine lv_aload_n hx hb d_Mo_init_91 rfl (lv_at hl 0 rfl) ?_
  refine go_v (wr := [(q8, .inl (cA8, 512, .inl (fun _ => 0))), (q30, .inl (cA30, 1200, .inl (fun _ => 0))), (q46, .inl (cA46, 60, .inl (fun _ => 0))), (q54, .inl (cA54, 15, .inl (fun _ => 0))), (q62, .inl (cA62, 16, .inl (fun _ => 0))), (q70, .inl (cA70, 16, .inl (fun _ => 0))), (q78, .inl (cA78, 6, .inl (fun _ => 0))), (q86, .inl (cA86, 96, .inl (fun _ => 0)))]) (tr := [(cA8, .int), (cA30, .int), (cA46, .int), (cA54, .int), (cA62, .int), (cA70, .int), (cA78, .int), (cA86, .int)]) (rV (C := "LineDiskModel") (ci := 5) (q0 := 0) (b := h0) (n := 0) (As := []) (rest := []) F hkw (c_Mo_nothing l dC dI h0 q8 q21 q30 q38 q46 q54 q62 q70 q78 q86 cA21 cA38 (fun _ => 0) (fun _ => 0) H.size) xT_bl (fun _ _ _ => trivial) w_589 w_591 ws_33 w_6 w_592 rfl rfl (by decide +kernel) ⟨Nat.le_of_ble_eq_true rfl, Nat.le_of_ble_eq_true rfl⟩ (hP.sub (ws' := [(h0, .inr (5, [.int 0, .ref q8, .int (-1), .int 0, .int 0, .ref q21, .ref q30, .ref q38, .int 0, .int 0, .ref q46, .int 0, .ref q54, .int 0, .int 0, .int 0, .int 0, .int 0, .int 0, .ref q62, .int 0, .ref q70, .int 0, .ref q78, .ref q86])), (q21, .inl (cA21, 100, .inl (fun _ => 0))), (q38, .inl (cA38, 8, .inl (fun _ => 0)))]) [0, 2, 4] rfl) (hD.sub (ws' := [(h0, .inr (5, [.int 0, .ref q8, .int (-1), .int 0, .int 0, .ref q21, .ref q30, .ref q38, .int 0, .int 0, .ref q46, .int 0, .ref q54, .int 0, .int 0, .int 0, .int 0, .int 0, .int 0, .ref q62, .int 0, .ref q70, .int 0, .ref q78, .ref q86])), (q21, .inl (cA21, 100, .inl (fun _ => 0))), (q38, .inl (cA38, 8, .inl (fun _ => 0)))]) [0, 2, 4] (by decide) rfl) (hK.sub (tys' := [(cA21, .int), (cA38, .int)]) [1, 3] rfl) rfl rfl rfl rfl hl.1 rfl (Nat.le_of_ble_eq_true rfl) d_Mo_init_92 ⟨by decide, by decide⟩) hP hD hK hS hA [0, 2, 4] [1, 3, 5, 6, 7, 8, 9, 10] [0, 2, 4, 5, 6, 7, 8, 9] rfl rfl (by decide) (by decide) rfl (fun u H locs hw hP hD hK hS => ?_)
  obtain ⟨f9, g9⟩ := u
  have hP : va_P (dC, dI) cls [(q8, .inl (cA8, 512, .inl (fun _ => 0))), (q30, .inl (cA30, 1200, .inl (fun _ => 0))), (q46, .inl (cA46, 60, .inl (fun _ => 0))), (q54, .inl (cA54, 15, .inl (fun _ => 0))), (q62, .inl (cA62, 16, .inl (fun _ => 0))), (q70, .inl (cA70, 16, .inl (fun _ => 0))), (q78, .inl (cA78, 6, .inl (fun _ => 0))), (q86, .inl (cA86, 96, .inl (fun _ => 0))), (h0, .inr (5, [.int 0, .ref q8, .int (-1), .int 0, .int 0, .ref q21, .ref q30, .ref q38, .int 0, .int 0, .ref q46, .int 0, .ref q54, .int 0, .int 0, .int 0, .int 0, .int 0, .int 0, .ref q62, .int 0, .ref q70, .int 0, .ref q78, .ref q86])), (q21, .inl (cA21, 100, .inl f9)), (q38, .inl (cA38, 8, .inl g9))] H := hP
  have hD : va_D A [(q8, .inl (cA8, 512, .inl (fun _ => 0))), (q30, .inl (cA30, 1200, .inl (fun _ => 0))), (q46, .inl (cA46, 60, .inl (fun _ => 0))), (q54, .inl (cA54, 15, .inl (fun _ => 0))), (q62, .inl (cA62, 16, .inl (fun _ => 0))), (q70, .inl (cA70, 16, .inl (fun _ => 0))), (q78, .inl (cA78, 6, .inl (fun _ => 0))), (q86, .inl (cA86, 96, .inl (fun _ => 0))), (h0, .inr (5, [.int 0, .ref q8, .int (-1), .int 0, .int 0, .ref q21, .ref q30, .ref q38, .int 0, .int 0, .ref q46, .int 0, .ref q54, .int 0, .int 0, .int 0, .int 0, .int 0, .int 0, .ref q62, .int 0, .ref q70, .int 0, .ref q78, .ref q86])), (q21, .inl (cA21, 100, .inl f9)), (q38, .inl (cA38, 8, .inl g9))] := hD
  have hK : va_K (dC, dI) cls [(cA8, .int), (cA30, .int), (cA46, .int), (cA54, .int), (cA62, .int), (cA70, .int), (cA78, .int), (cA86, .int), (cA21, .int), (cA38, .int)] s := hK
  refine W.widen (k := 10) (n := 2029) (by omega) (by omega) ?_
  refine W.widen (k := 10) (n := 2029) (by decide) (by decide) ?_
  exact W.vret hx hb hr (fun t ht hW => ⟨⟨((fun i => match i with | 0 => q8 | 1 => q21 | 2 => q30 | 3 => q38 | 4 => q46 | 5 => q54 | 6 => q62 | 7 => q70 | 8 => q78 | _ => q86), (fun i => match i with | 0 => cA8 | 1 => cA21 | 2 => cA30 | 3 => cA38 | 4 => cA46 | 5 => cA54 | 6 => cA62 | 7 => cA70 | 8 => cA78 | _ => cA86), f9, g9), rfl, hw, cB.of (hP.sub [8, 0, 9, 1, 10, 2, 3, 4, 5, 6, 7] rfl) (hD.sub [8, 0, 9, 1, 10, 2, 3, 4, 5, 6, 7] (by decide) rfl) (hK.sub [0, 8, 1, 9, 2, 3, 4, 5, 6, 7] rfl) ht hW⟩, hS.F ht⟩) hS.2.2 d_Mo_init_95
set_option maxHeartbeats 4000000 in
set_option maxRecDepth 100000 in
theorem c_Ld_init (l : Launch) (dC : Nat → ClassId) (dI : Nat → Nat → Nat) (h0 : Nat) (sz : Nat) : Met l y_Ld_init (Cond.code y_Ld_init b_Ld_init 1 none :: gw) ({ frames := 2, cells := 16, slots := 907, locals := 32 }) (cP (dC, dI) [.ref h0] sz [(h0, .inr (0, [.null, .null, .null, .null, .null, .int 0]))] [] xT) (va_Qv (fun (u : (Nat → Nat) × (Nat → ClassId)) => True) (fun (u : (Nat → Nat) × (Nat → ClassId)) t => cB (dC, dI) (va_A [(h0, .inr (0, [.null, .null, .null, .null, .null, .int 0]))] sz) [(h0, .inr (0, [.ref (u.1 0), .ref (u.1 2), .ref (u.1 5), .ref (u.1 12), .ref (u.1 15), .int 0])), (u.1 0, .inr (1, [.ref (u.1 1), .int (-1), .int 0, .int 0])), (u.1 1, .inl (u.2 0, 512, .inl (fun _ => 0))), (u.1 2, .inr (2, [.ref (u.1 3), .ref (u.1 4), .int 0])), (u.1 3, .inl (u.2 1, 96, .inl (fun _ => 0))), (u.1 4, .inl (u.2 2, 16, .inl (fun _ => 0))), (u.1 5, .inr (3, [.ref (u.1 6), .ref (u.1 7), .ref (u.1 8), .ref (u.1 9), .ref (u.1 10), .ref (u.1 11), .int 0, .int 0, .int 0])), (u.1 6, .inl (u.2 3, 10, .inl (fun _ => 0))), (u.1 7, .inl (u.2 4, 10, .inl (fun _ => 0))), (u.1 8, .inl (u.2 5, 120, .inl (fun _ => 0))), (u.1 9, .inl (u.2 6, 12, .inl (fun _ => 0))), (u.1 10, .inl (u.2 7, 8, .inl (fun _ => 0))), (u.1 11, .inl (u.2 8, 15, .inl (fun _ => 0))), (u.1 12, .inr (4, [.ref (u.1 13), .ref (u.1 14), .int 0, .int 0, .int 0, .int 0, .int 0, .int 0, .int 0, .int 0, .int 0, .int 0])), (u.1 13, .inl (u.2 9, 12, .inl (fun _ => 0))), (u.1 14, .inl (u.2 10, 8, .inl (fun _ => 0))), (u.1 15, .inl (u.2 11, 60, .inl (fun _ => 0)))] [(u.2 0, .int), (u.2 1, .int), (u.2 2, .int), (u.2 3, .int), (u.2 4, .int), (u.2 5, .int), (u.2 6, .int), (u.2 7, .int), (u.2 8, .int), (u.2 9, .int), (u.2 10, .int), (u.2 11, .int)] t) (va_A [(h0, .inr (0, [.null, .null, .null, .null, .null, .int 0]))] sz)) 16 907 (va_A [(h0, .inr (0, [.null, .null, .null, .null, .null, .int 0]))] sz) := by
  refine Met.ofW (cc := b_Ld_init) (maxL := 1) (ret := none) (by decide) rfl ?_
  intro p e s m args below meth c s₁ B hml hv
  obtain ⟨rfl, hsz, hP, hK, hD0, hkw, hX⟩ := hv
  have hx := B.exec
  have hb := B.bytes
  have hr := B.returns
  have hts := fun w hw => atoms_spec (ws := Cond.code y_Ld_init b_Ld_init 1 none :: gw) B.pre w (List.mem_cons_of_mem _ hw)
  have hown : s.vm.findClass "LineDisk" = some m.cls := findClass_of_methodNamed B.named
  have hlocks := B.notSynchronized
  have hin := (name_of_methodNamed B.named B.method).1
  subst hsz
  have hD := hD0.self (sz := s.heap.size)
  generalize hAe : va_A [(h0, .inr (0, [.null, .null, .null, .null, .null, .int 0]))] s.heap.size = A at hD ⊢
  have hA : ∀ q : Nat, s.heap.size ≤ q → A q := fun q h => by rw [← hAe]; exact Or.inr h
  have hS : va_S A s.heap s.heap [] := va_S.rf
  have hl := lv_entry ([.ref h0]) (n := 1) (Nat.le_of_ble_eq_true rfl)
  rw [lg_entry_eq]
  generalize (lg_sl ([.ref h0]) ++ List.replicate (1 - (lg_sl ([.ref h0])).length) Slot.unset).toArray = ls at hl ⊢
  have hl : lv_has ls 1 [(0, .ref h0)] := hl
  have F : CallFix p m c b_Ld_init 1 s ([.ref h0]).toArray gw "LineDisk" := ⟨hx, hb, hml, hown, hts⟩
  refine lv_aload_n hx hb d_Ld_init_0 rfl (lv_at hl 0 rfl) ?_
  refine W.objInit hx hb hown (hts _ w_20) (hts _ w_21) (hts _ w_22) rfl (by rw [hml]; exact hl.1) rfl d_Ld_init_1 (Nat.le_of_ble_eq_true rfl) (Nat.le_of_ble_eq_true rfl) ?_
  refine W.eq (g2 := F0 m 4 ls []) rfl ?_
  refine lv_aload_n hx hb d_Ld_init_4 rfl (lv_at hl 0 rfl) ?_
  refine va_new (ci := 1) (fs := [.null, .int 0, .int 0, .int 0]) (C := R_St) (T := F_St) (N := 4) hx hb hts in_St t_St t_St_ok hown (hts _ w_23) (hts _ w_24) (hts _ w_2) hK hP hD hS hA rfl (fun j hj => by match j, hj with | 0, _ => rfl | 1, _ => rfl | 2, _ => rfl | 3, _ => rfl | j + 4, h => exact absurd h (by omega)) (by decide) (by decide) d_Ld_init_5 (fun q5 H hP hD hS => ?_)
  have hP : va_P (dC, dI) cls [(h0, .inr (0, [.null, .null, .null, .null, .null, .int 0])), (q5, .inr (1, [.null, .int 0, .int 0, .int 0]))] H := hP
  have hD : va_D A [(h0, .inr (0, [.null, .null, .null, .null, .null, .int 0])), (q5, .inr (1, [.null, .int 0, .int 0, .int 0]))] := hD
  refine W.widen (k := 1) (n := 4) (by omega) (by omega) ?_
  refine lv_dup hx hb d_Ld_init_8 rfl ?_
  refine go_v (wr := [(h0, .inr (0, [.null, .null, .null, .null, .null, .int 0]))]) (tr := []) (rIN (host := "LineDisk") (b := q5) (n := 0) (As := []) (rest := [.ref q5, .ref h0]) F hkw (c_St_init l dC dI q5 H.size) xT_bl (fun _ _ _ => trivial) (hkw.at v_25 rfl) w_26 w_2 w_27 rfl rfl rfl (by decide +kernel) ⟨Nat.le_of_ble_eq_true rfl, Nat.le_of_ble_eq_true rfl⟩ (hP.sub (ws' := [(q5, .inr (1, [.null, .int 0, .int 0, .int 0]))]) [1] rfl) (hD.sub (ws' := [(q5, .inr (1, [.null, .int 0, .int 0, .int 0]))]) [1] (by decide) rfl) (hK.sub (tys' := []) [] rfl) rfl hl.1 rfl (Nat.le_of_ble_eq_true rfl) d_Ld_init_9 ⟨by decide, by decide⟩) hP hD hK hS hA [1] [0] [] rfl rfl (by decide) (by decide) rfl (fun u H locs _ hP hD hK hS => ?_)
  obtain ⟨x9_0, y9_0⟩ := u
  have hP : va_P (dC, dI) cls [(h0, .inr (0, [.null, .null, .null, .null, .null, .int 0])), (q5, .inr (1, [.ref x9_0, .int (-1), .int 0, .int 0])), (x9_0, .inl (y9_0, 512, .inl (fun _ => 0)))] H := hP
  have hD : va_D A [(h0, .inr (0, [.null, .null, .null, .null, .null, .int 0])), (q5, .inr (1, [.ref x9_0, .int (-1), .int 0, .int 0])), (x9_0, .inl (y9_0, 512, .inl (fun _ => 0)))] := hD
  have hK : va_K (dC, dI) cls [(y9_0, .int)] s := hK
  refine W.widen (k := 2) (n := 516) (by omega) (by omega) ?_
  refine va_putF (D := (dC, dI)) (ci := 0) (v := .ref q5) (ty := .object "LineDisk$Store") (C := R_Ld) (T := F_Ld) (N := 6) hx hb hts in_Ld t_Ld t_Ld_ok n_Ld hown hK hP hD hS 0 rfl rfl 0 (by decide) (hts _ w_152) (fun _ h9 => h9) rfl hin rfl (by decide +kernel) (rfl) (rfl) (Nat.le_of_ble_eq_true rfl) d_Ld_init_12 (fun H locs hP hD hS => ?_)
  have hP : va_P (dC, dI) cls [(h0, .inr (0, [.ref q5, .null, .null, .null, .null, .int 0])), (q5, .inr (1, [.ref x9_0, .int (-1), .int 0, .int 0])), (x9_0, .inl (y9_0, 512, .inl (fun _ => 0)))] H := hP
  have hD : va_D A [(h0, .inr (0, [.ref q5, .null, .null, .null, .null, .int 0])), (q5, .inr (1, [.ref x9_0, .int (-1), .int 0, .int 0])), (x9_0, .inl (y9_0, 512, .inl (fun _ => 0)))] := hD
  refine lv_aload_n hx hb d_Ld_init_15 rfl (lv_at hl 0 rfl) ?_
  refine va_new (ci := 2) (fs := [.null, .null, .int 0]) (C := R_Jo) (T := F_Jo) (N := 3) hx hb hts in_Jo t_Jo t_Jo_ok hown (hts _ w_46) (hts _ w_47) (hts _ w_3) hK hP hD hS hA rfl (fun j hj => by match j, hj with | 0, _ => rfl | 1, _ => rfl | 2, _ => rfl | j + 3, h => exact absurd h (by omega)) (by decide) (by decide) d_Ld_init_16 (fun q16 H hP hD hS => ?_)
  have hP : va_P (dC, dI) cls [(h0, .inr (0, [.ref q5, .null, .null, .null, .null, .int 0])), (q5, .inr (1, [.ref x9_0, .int (-1), .int 0, .int 0])), (x9_0, .inl (y9_0, 512, .inl (fun _ => 0))), (q16, .inr (2, [.null, .null, .int 0]))] H := hP
  have hD : va_D A [(h0, .inr (0, [.ref q5, .null, .null, .null, .null, .int 0])), (q5, .inr (1, [.ref x9_0, .int (-1), .int 0, .int 0])), (x9_0, .inl (y9_0, 512, .inl (fun _ => 0))), (q16, .inr (2, [.null, .null, .int 0]))] := hD
  refine W.widen (k := 3) (n := 519) (by omega) (by omega) ?_
  refine lv_dup hx hb d_Ld_init_19 rfl ?_
  refine go_v (wr := [(h0, .inr (0, [.ref q5, .null, .null, .null, .null, .int 0])), (q5, .inr (1, [.ref x9_0, .int (-1), .int 0, .int 0])), (x9_0, .inl (y9_0, 512, .inl (fun _ => 0)))]) (tr := [(y9_0, .int)]) (rIN (host := "LineDisk") (b := q16) (n := 0) (As := []) (rest := [.ref q16, .ref h0]) F hkw (c_Jo_init l dC dI q16 H.size) xT_bl (fun _ _ _ => trivial) (hkw.at v_48 rfl) w_49 w_3 w_50 rfl rfl rfl (by decide +kernel) ⟨Nat.le_of_ble_eq_true rfl, Nat.le_of_ble_eq_true rfl⟩ (hP.sub (ws' := [(q16, .inr (2, [.null, .null, .int 0]))]) [3] rfl) (hD.sub (ws' := [(q16, .inr (2, [.null, .null, .int 0]))]) [3] (by decide) rfl) (hK.sub (tys' := []) [] rfl) rfl hl.1 rfl (Nat.le_of_ble_eq_true rfl) d_Ld_init_20 ⟨by decide, by decide⟩) hP hD hK hS hA [3] [0, 1, 2] [0] rfl rfl (by decide) (by decide) rfl (fun u H locs _ hP hD hK hS => ?_)
  obtain ⟨x20_0, y20_0, x20_1, y20_1⟩ := u
  have hP : va_P (dC, dI) cls [(h0, .inr (0, [.ref q5, .null, .null, .null, .null, .int 0])), (q5, .inr (1, [.ref x9_0, .int (-1), .int 0, .int 0])), (x9_0, .inl (y9_0, 512, .inl (fun _ => 0))), (q16, .inr (2, [.ref x20_0, .ref x20_1, .int 0])), (x20_0, .inl (y20_0, 96, .inl (fun _ => 0))), (x20_1, .inl (y20_1, 16, .inl (fun _ => 0)))] H := hP
  have hD : va_D A [(h0, .inr (0, [.ref q5, .null, .null, .null, .null, .int 0])), (q5, .inr (1, [.ref x9_0, .int (-1), .int 0, .int 0])), (x9_0, .inl (y9_0, 512, .inl (fun _ => 0))), (q16, .inr (2, [.ref x20_0, .ref x20_1, .int 0])), (x20_0, .inl (y20_0, 96, .inl (fun _ => 0))), (x20_1, .inl (y20_1, 16, .inl (fun _ => 0)))] := hD
  have hK : va_K (dC, dI) cls [(y9_0, .int), (y20_0, .int), (y20_1, .int)] s := hK
  refine W.widen (k := 5) (n := 631) (by omega) (by omega) ?_
  refine va_putF (D := (dC, dI)) (ci := 0) (v := .ref q16) (ty := .object "LineDisk$Journal") (C := R_Ld) (T := F_Ld) (N := 6) hx hb hts in_Ld t_Ld t_Ld_ok n_Ld hown hK hP hD hS 0 rfl rfl 1 (by decide) (hts _ w_153) (fun _ h9 => h9) rfl hin rfl (by decide +kernel) (rfl) (rfl) (Nat.le_of_ble_eq_true rfl) d_Ld_init_23 (fun H locs hP hD hS => ?_)
  have hP : va_P (dC, dI) cls [(h0, .inr (0, [.ref q5, .ref q16, .null, .null, .null, .int 0])), (q5, .inr (1, [.ref x9_0, .int (-1), .int 0, .int 0])), (x9_0, .inl (y9_0, 512, .inl (fun _ => 0))), (q16, .inr (2, [.ref x20_0, .ref x20_1, .int 0])), (x20_0, .inl (y20_0, 96, .inl (fun _ => 0))), (x20_1, .inl (y20_1, 16, .inl (fun _ => 0)))] H := hP
  have hD : va_D A [(h0, .inr (0, [.ref q5, .ref q16, .null, .null, .null, .int 0])), (q5, .inr (1, [.ref x9_0, .int (-1), .int 0, .int 0])), (x9_0, .inl (y9_0, 512, .inl (fun _ => 0))), (q16, .inr (2, [.ref x20_0, .ref x20_1, .int 0])), (x20_0, .inl (y20_0, 96, .inl (fun _ => 0))), (x20_1, .inl (y20_1, 16, .inl (fun _ => 0)))] := hD
  refine lv_aload_n hx hb d_Ld_init_26 rfl (lv_at hl 0 rfl) ?_
  refine va_new (ci := 3) (fs := [.null, .null, .null, .null, .null, .null, .int 0, .int 0, .int 0]) (C := R_Wo) (T := F_Wo) (N := 9) hx hb hts in_Wo t_Wo t_Wo_ok hown (hts _ w_62) (hts _ w_63) (hts _ w_4) hK hP hD hS hA rfl (fun j hj => by match j, hj with | 0, _ => rfl | 1, _ => rfl | 2, _ => rfl | 3, _ => rfl | 4, _ => rfl | 5, _ => rfl | 6, _ => rfl | 7, _ => rfl | 8, _ => rfl | j + 9, h => exact absurd h (by omega)) (by decide) (by decide) d_Ld_init_27 (fun q27 H hP hD hS => ?_)
  have hP : va_P (dC, dI) cls [(h0, .inr (0, [.ref q5, .ref q16, .null, .null, .null, .int 0])), (q5, .inr (1, [.ref x9_0, .int (-1), .int 0, .int 0])), (x9_0, .inl (y9_0, 512, .inl (fun _ => 0))), (q16, .inr (2, [.ref x20_0, .ref x20_1, .int 0])), (x20_0, .inl (y20_0, 96, .inl (fun _ => 0))), (x20_1, .inl (y20_1, 16, .inl (fun _ => 0))), (q27, .inr (3, [.null, .null, .null, .null, .null, .null, .int 0, .int 0, .int 0]))] H := hP
  have hD : va_D A [(h0, .inr (0, [.ref q5, .ref q16, .null, .null, .null, .int 0])), (q5, .inr (1, [.ref x9_0, .int (-1), .int 0, .int 0])), (x9_0, .inl (y9_0, 512, .inl (fun _ => 0))), (q16, .inr (2, [.ref x20_0, .ref x20_1, .int 0])), (x20_0, .inl (y20_0, 96, .inl (fun _ => 0))), (x20_1, .inl (y20_1, 16, .inl (fun _ => 0))), (q27, .inr (3, [.null, .null, .null, .null, .null, .null, .int 0, .int 0, .int 0]))] := hD
  refine W.widen (k := 6) (n := 640) (by omega) (by omega) ?_
  refine lv_dup hx hb d_Ld_init_30 rfl ?_
  refine go_v (wr := [(h0, .inr (0, [.ref q5, .ref q16, .null, .null, .null, .int 0])), (q5, .inr (1, [.ref x9_0, .int (-1), .int 0, .int 0])), (x9_0, .inl (y9_0, 512, .inl (fun _ => 0))), (q16, .inr (2, [.ref x20_0, .ref x20_1, .int 0])), (x20_0, .inl (y20_0, 96, .inl (fun _ => 0))), (x20_1, .inl (y20_1, 16, .inl (fun _ => 0)))]) (tr := [(y9_0, .int), (y20_0, .int), (y20_1, .int)]) (rIN (host := "LineDisk") (b := q27) (n := 0) (As := []) (rest := [.ref q27, .ref h0]) F hkw (c_Wo_init l dC dI q27 H.size) xT_bl (fun _ _ _ => trivial) (hkw.at v_64 rfl) w_65 w_4 w_66 rfl rfl rfl (by decide +kernel) ⟨Nat.le_of_ble_eq_true rfl, Nat.le_of_ble_eq_true rfl⟩ (hP.sub (ws' := [(q27, .inr (3, [.null, .null, .null, .null, .null, .null, .int 0, .int 0, .int 0]))]) [6] rfl) (hD.sub (ws' := [(q27, .inr (3, [.null, .null, .null, .null, .null, .null, .int 0, .int 0, .int 0]))]) [6] (by decide) rfl) (hK.sub (tys' := []) [] rfl) rfl hl.1 rfl (Nat.le_of_ble_eq_true rfl) d_Ld_init_31 ⟨by decide, by decide⟩) hP hD hK hS hA [6] [0, 1, 2, 3, 4, 5] [0, 1, 2] rfl rfl (by decide) (by decide) rfl (fun u H locs _ hP hD hK hS => ?_)
  obtain ⟨x31_0, y31_0, x31_1, y31_1, x31_2, y31_2, x31_3, y31_3, x31_4, y31_4, x31_5, y31_5⟩ := u
  have hP : va_P (dC, dI) cls [(h0, .inr (0, [.ref q5, .ref q16, .null, .null, .null, .int 0])), (q5, .inr (1, [.ref x9_0, .int (-1), .int 0, .int 0])), (x9_0, .inl (y9_0, 512, .inl (fun _ => 0))), (q16, .inr (2, [.ref x20_0, .ref x20_1, .int 0])), (x20_0, .inl (y20_0, 96, .inl (fun _ => 0))), (x20_1, .inl (y20_1, 16, .inl (fun _ => 0))), (q27, .inr (3, [.ref x31_0, .ref x31_1, .ref x31_2, .ref x31_3, .ref x31_4, .ref x31_5, .int 0, .int 0, .int 0])), (x31_0, .inl (y31_0, 10, .inl (fun _ => 0))), (x31_1, .inl (y31_1, 10, .inl (fun _ => 0))), (x31_2, .inl (y31_2, 120, .inl (fun _ => 0))), (x31_3, .inl (y31_3, 12, .inl (fun _ => 0))), (x31_4, .inl (y31_4, 8, .inl (fun _ => 0))), (x31_5, .inl (y31_5, 15, .inl (fun _ => 0)))] H := hP
  have hD : va_D A [(h0, .inr (0, [.ref q5, .ref q16, .null, .null, .null, .int 0])), (q5, .inr (1, [.ref x9_0, .int (-1), .int 0, .int 0])), (x9_0, .inl (y9_0, 512, .inl (fun _ => 0))), (q16, .inr (2, [.ref x20_0, .ref x20_1, .int 0])), (x20_0, .inl (y20_0, 96, .inl (fun _ => 0))), (x20_1, .inl (y20_1, 16, .inl (fun _ => 0))), (q27, .inr (3, [.ref x31_0, .ref x31_1, .ref x31_2, .ref x31_3, .ref x31_4, .ref x31_5, .int 0, .int 0, .int 0])), (x31_0, .inl (y31_0, 10, .inl (fun _ => 0))), (x31_1, .inl (y31_1, 10, .inl (fun _ => 0))), (x31_2, .inl (y31_2, 120, .inl (fun _ => 0))), (x31_3, .inl (y31_3, 12, .inl (fun _ => 0))), (x31_4, .inl (y31_4, 8, .inl (fun _ => 0))), (x31_5, .inl (y31_5, 15, .inl (fun _ => 0)))] := hD
  have hK : va_K (dC, dI) cls [(y9_0, .int), (y20_0, .int), (y20_1, .int), (y31_0, .int), (y31_1, .int), (y31_2, .int), (y31_3, .int), (y31_4, .int), (y31_5, .int)] s := hK
  refine W.widen (k := 12) (n := 815) (by omega) (by omega) ?_
  refine va_putF (D := (dC, dI)) (ci := 0) (v := .ref q27) (ty := .object "LineDisk$Workspace") (C := R_Ld) (T := F_Ld) (N := 6) hx hb hts in_Ld t_Ld t_Ld_ok n_Ld hown hK hP hD hS 0 rfl rfl 2 (by decide) (hts _ w_154) (fun _ h9 => h9) rfl hin rfl (by decide +kernel) (rfl) (rfl) (Nat.le_of_ble_eq_true rfl) d_Ld_init_34 (fun H locs hP hD hS => ?_)
  have hP : va_P (dC, dI) cls [(h0, .inr (0, [.ref q5, .ref q16, .ref q27, .null, .null, .int 0])), (q5, .inr (1, [.ref x9_0, .int (-1), .int 0, .int 0])), (x9_0, .inl (y9_0, 512, .inl (fun _ => 0))), (q16, .inr (2, [.ref x20_0, .ref x20_1, .int 0])), (x20_0, .inl (y20_0, 96, .inl (fun _ => 0))), (x20_1, .inl (y20_1, 16, .inl (fun _ => 0))), (q27, .inr (3, [.ref x31_0, .ref x31_1, .ref x31_2, .ref x31_3, .ref x31_4, .ref x31_5, .int 0, .int 0, .int 0])), (x31_0, .inl (y31_0, 10, .inl (fun _ => 0))), (x31_1, .inl (y31_1, 10, .inl (fun _ => 0))), (x31_2, .inl (y31_2, 120, .inl (fun _ => 0))), (x31_3, .inl (y31_3, 12, .inl (fun _ => 0))), (x31_4, .inl (y31_4, 8, .inl (fun _ => 0))), (x31_5, .inl (y31_5, 15, .inl (fun _ => 0)))] H := hP
  have hD : va_D A [(h0, .inr (0, [.ref q5, .ref q16, .ref q27, .null, .null, .int 0])), (q5, .inr (1, [.ref x9_0, .int (-1), .int 0, .int 0])), (x9_0, .inl (y9_0, 512, .inl (fun _ => 0))), (q16, .inr (2, [.ref x20_0, .ref x20_1, .int 0])), (x20_0, .inl (y20_0, 96, .inl (fun _ => 0))), (x20_1, .inl (y20_1, 16, .inl (fun _ => 0))), (q27, .inr (3, [.ref x31_0, .ref x31_1, .ref x31_2, .ref x31_3, .ref x31_4, .ref x31_5, .int 0, .int 0, .int 0])), (x31_0, .inl (y31_0, 10, .inl (fun _ => 0))), (x31_1, .inl (y31_1, 10, .inl (fun _ => 0))), (x31_2, .inl (y31_2, 120, .inl (fun _ => 0))), (x31_3, .inl (y31_3, 12, .inl (fun _ => 0))), (x31_4, .inl (y31_4, 8, .inl (fun _ => 0))), (x31_5, .inl (y31_5, 15, .inl (fun _ => 0)))] := hD
  refine lv_aload_n hx hb d_Ld_init_37 rfl (lv_at hl 0 rfl) ?_
  refine va_new (ci := 4) (fs := [.null, .null, .int 0, .int 0, .int 0, .int 0, .int 0, .int 0, .int 0, .int 0, .int 0, .int 0]) (C := R_Sm) (T := F_Sm) (N := 12) hx hb hts in_Sm t_Sm t_Sm_ok hown (hts _ w_103) (hts _ w_104) (hts _ w_5) hK hP hD hS hA rfl (fun j hj => by match j, hj with | 0, _ => rfl | 1, _ => rfl | 2, _ => rfl | 3, _ => rfl | 4, _ => rfl | 5, _ => rfl | 6, _ => rfl | 7, _ => rfl | 8, _ => rfl | 9, _ => rfl | 10, _ => rfl | 11, _ => rfl | j + 12, h => exact absurd h (by omega)) (by decide) (by decide) d_Ld_init_38 (fun q38 H hP hD hS => ?_)
  have hP : va_P (dC, dI) cls [(h0, .inr (0, [.ref q5, .ref q16, .ref q27, .null, .null, .int 0])), (q5, .inr (1, [.ref x9_0, .int (-1), .int 0, .int 0])), (x9_0, .inl (y9_0, 512, .inl (fun _ => 0))), (q16, .inr (2, [.ref x20_0, .ref x20_1, .int 0])), (x20_0, .inl (y20_0, 96, .inl (fun _ => 0))), (x20_1, .inl (y20_1, 16, .inl (fun _ => 0))), (q27, .inr (3, [.ref x31_0, .ref x31_1, .ref x31_2, .ref x31_3, .ref x31_4, .ref x31_5, .int 0, .int 0, .int 0])), (x31_0, .inl (y31_0, 10, .inl (fun _ => 0))), (x31_1, .inl (y31_1, 10, .inl (fun _ => 0))), (x31_2, .inl (y31_2, 120, .inl (fun _ => 0))), (x31_3, .inl (y31_3, 12, .inl (fun _ => 0))), (x31_4, .inl (y31_4, 8, .inl (fun _ => 0))), (x31_5, .inl (y31_5, 15, .inl (fun _ => 0))), (q38, .inr (4, [.null, .null, .int 0, .int 0, .int 0, .int 0, .int 0, .int 0, .int 0, .int 0, .int 0, .int 0]))] H := hP
  have hD : va_D A [(h0, .inr (0, [.ref q5, .ref q16, .ref q27, .null, .null, .int 0])), (q5, .inr (1, [.ref x9_0, .int (-1), .int 0, .int 0])), (x9_0, .inl (y9_0, 512, .inl (fun _ => 0))), (q16, .inr (2, [.ref x20_0, .ref x20_1, .int 0])), (x20_0, .inl (y20_0, 96, .inl (fun _ => 0))), (x20_1, .inl (y20_1, 16, .inl (fun _ => 0))), (q27, .inr (3, [.ref x31_0, .ref x31_1, .ref x31_2, .ref x31_3, .ref x31_4, .ref x31_5, .int 0, .int 0, .int 0])), (x31_0, .inl (y31_0, 10, .inl (fun _ => 0))), (x31_1, .inl (y31_1, 10, .inl (fun _ => 0))), (x31_2, .inl (y31_2, 120, .inl (fun _ => 0))), (x31_3, .inl (y31_3, 12, .inl (fun _ => 0))), (x31_4, .inl (y31_4, 8, .inl (fun _ => 0))), (x31_5, .inl (y31_5, 15, .inl (fun _ => 0))), (q38, .inr (4, [.null, .null, .int 0, .int 0, .int 0, .int 0, .int 0, .int 0, .int 0, .int 0, .int 0, .int 0]))] := hD
  refine W.widen (k := 13) (n := 827) (by omega) (by omega) ?_
  refine lv_dup hx hb d_Ld_init_41 rfl ?_
  refine go_v (wr := [(h0, .inr (0, [.ref q5, .ref q16, .ref q27, .null, .null, .int 0])), (q5, .inr (1, [.ref x9_0, .int (-1), .int 0, .int 0])), (x9_0, .inl (y9_0, 512, .inl (fun _ => 0))), (q16, .inr (2, [.ref x20_0, .ref x20_1, .int 0])), (x20_0, .inl (y20_0, 96, .inl (fun _ => 0))), (x20_1, .inl (y20_1, 16, .inl (fun _ => 0))), (q27, .inr (3, [.ref x31_0, .ref x31_1, .ref x31_2, .ref x31_3, .ref x31_4, .ref x31_5, .int 0, .int 0, .int 0])), (x31_0, .inl (y31_0, 10, .inl (fun _ => 0))), (x31_1, .inl (y31_1, 10, .inl (fun _ => 0))), (x31_2, .inl (y31_2, 120, .inl (fun _ => 0))), (x31_3, .inl (y31_3, 12, .inl (fun _ => 0))), (x31_4, .inl (y31_4, 8, .inl (fun _ => 0))), (x31_5, .inl (y31_5, 15, .inl (fun _ => 0)))]) (tr := [(y9_0, .int), (y20_0, .int), (y20_1, .int), (y31_0, .int), (y31_1, .int), (y31_2, .int), (y31_3, .int), (y31_4, .int), (y31_5, .int)]) (rIN (host := "LineDisk") (b := q38) (n := 0) (As := []) (rest := [.ref q38, .ref h0]) F hkw (c_Sm_init l dC dI q38 H.size) xT_bl (fun _ _ _ => trivial) (hkw.at v_105 rfl) w_106 w_5 w_107 rfl rfl rfl (by decide +kernel) ⟨Nat.le_of_ble_eq_true rfl, Nat.le_of_ble_eq_true rfl⟩ (hP.sub (ws' := [(q38, .inr (4, [.null, .null, .int 0, .int 0, .int 0, .int 0, .int 0, .int 0, .int 0, .int 0, .int 0, .int 0]))]) [13] rfl) (hD.sub (ws' := [(q38, .inr (4, [.null, .null, .int 0, .int 0, .int 0, .int 0, .int 0, .int 0, .int 0, .int 0, .int 0, .int 0]))]) [13] (by decide) rfl) (hK.sub (tys' := []) [] rfl) rfl hl.1 rfl (Nat.le_of_ble_eq_true rfl) d_Ld_init_42 ⟨by decide, by decide⟩) hP hD hK hS hA [13] [0, 1, 2, 3, 4, 5, 6, 7, 8, 9, 10, 11, 12] [0, 1, 2, 3, 4, 5, 6, 7, 8] rfl rfl (by decide) (by decide) rfl (fun u H locs _ hP hD hK hS => ?_)
  obtain ⟨x42_0, y42_0, x42_1, y42_1⟩ := u
  have hP : va_P (dC, dI) cls [(h0, .inr (0, [.ref q5, .ref q16, .ref q27, .null, .null, .int 0])), (q5, .inr (1, [.ref x9_0, .int (-1), .int 0, .int 0])), (x9_0, .inl (y9_0, 512, .inl (fun _ => 0))), (q16, .inr (2, [.ref x20_0, .ref x20_1, .int 0])), (x20_0, .inl (y20_0, 96, .inl (fun _ => 0))), (x20_1, .inl (y20_1, 16, .inl (fun _ => 0))), (q27, .inr (3, [.ref x31_0, .ref x31_1, .ref x31_2, .ref x31_3, .ref x31_4, .ref x31_5, .int 0, .int 0, .int 0])), (x31_0, .inl (y31_0, 10, .inl (fun _ => 0))), (x31_1, .inl (y31_1, 10, .inl (fun _ => 0))), (x31_2, .inl (y31_2, 120, .inl (fun _ => 0))), (x31_3, .inl (y31_3, 12, .inl (fun _ => 0))), (x31_4, .inl (y31_4, 8, .inl (fun _ => 0))), (x31_5, .inl (y31_5, 15, .inl (fun _ => 0))), (q38, .inr (4, [.ref x42_0, .ref x42_1, .int 0, .int 0, .int 0, .int 0, .int 0, .int 0, .int 0, .int 0, .int 0, .int 0])), (x42_0, .inl (y42_0, 12, .inl (fun _ => 0))), (x42_1, .inl (y42_1, 8, .inl (fun _ => 0)))] H := hP
  have hD : va_D A [(h0, .inr (0, [.ref q5, .ref q16, .ref q27, .null, .null, .int 0])), (q5, .inr (1, [.ref x9_0, .int (-1), .int 0, .int 0])), (x9_0, .inl (y9_0, 512, .inl (fun _ => 0))), (q16, .inr (2, [.ref x20_0, .ref x20_1, .int 0])), (x20_0, .inl (y20_0, 96, .inl (fun _ => 0))), (x20_1, .inl (y20_1, 16, .inl (fun _ => 0))), (q27, .inr (3, [.ref x31_0, .ref x31_1, .ref x31_2, .ref x31_3, .ref x31_4, .ref x31_5, .int 0, .int 0, .int 0])), (x31_0, .inl (y31_0, 10, .inl (fun _ => 0))), (x31_1, .inl (y31_1, 10, .inl (fun _ => 0))), (x31_2, .inl (y31_2, 120, .inl (fun _ => 0))), (x31_3, .inl (y31_3, 12, .inl (fun _ => 0))), (x31_4, .inl (y31_4, 8, .inl (fun _ => 0))), (x31_5, .inl (y31_5, 15, .inl (fun _ => 0))), (q38, .inr (4, [.ref x42_0, .ref x42_1, .int 0, .int 0, .int 0, .int 0, .int 0, .int 0, .int 0, .int 0, .int 0, .int 0])), (x42_0, .inl (y42_0, 12, .inl (fun _ => 0))), (x42_1, .inl (y42_1, 8, .inl (fun _ => 0)))] := hD
  have hK : va_K (dC, dI) cls [(y9_0, .int), (y20_0, .int), (y20_1, .int), (y31_0, .int), (y31_1, .int), (y31_2, .int), (y31_3, .int), (y31_4, .int), (y31_5, .int), (y42_0, .int), (y42_1, .int)] s := hK
  refine W.widen (k := 15) (n := 847) (by omega) (by omega) ?_
  refine va_putF (D := (dC, dI)) (ci := 0) (v := .ref q38) (ty := .object "LineDisk$Statement") (C := R_Ld) (T := F_Ld) (N := 6) hx hb hts in_Ld t_Ld t_Ld_ok n_Ld hown hK hP hD hS 0 rfl rfl 3 (by decide) (hts _ w_155) (fun _ h9 => h9) rfl hin rfl (by decide +kernel) (rfl) (rfl) (Nat.le_of_ble_eq_true rfl) d_Ld_init_45 (fun H locs hP hD hS => ?_)
  have hP : va_P (dC, dI) cls [(h0, .inr (0, [.ref q5, .ref q16, .ref q27, .ref q38, .null, .int 0])), (q5, .inr (1, [.ref x9_0, .int (-1), .int 0, .int 0])), (x9_0, .inl (y9_0, 512, .inl (fun _ => 0))), (q16, .inr (2, [.ref x20_0, .ref x20_1, .int 0])), (x20_0, .inl (y20_0, 96, .inl (fun _ => 0))), (x20_1, .inl (y20_1, 16, .inl (fun _ => 0))), (q27, .inr (3, [.ref x31_0, .ref x31_1, .ref x31_2, .ref x31_3, .ref x31_4, .ref x31_5, .int 0, .int 0, .int 0])), (x31_0, .inl (y31_0, 10, .inl (fun _ => 0))), (x31_1, .inl (y31_1, 10, .inl (fun _ => 0))), (x31_2, .inl (y31_2, 120, .inl (fun _ => 0))), (x31_3, .inl (y31_3, 12, .inl (fun _ => 0))), (x31_4, .inl (y31_4, 8, .inl (fun _ => 0))), (x31_5, .inl (y31_5, 15, .inl (fun _ => 0))), (q38, .inr (4, [.ref x42_0, .ref x42_1, .int 0, .int 0, .int 0, .int 0, .int 0, .int 0, .int 0, .int 0, .int 0, .int 0])), (x42_0, .inl (y42_0, 12, .inl (fun _ => 0))), (x42_1, .inl (y42_1, 8, .inl (fun _ => 0)))] H := hP
  have hD : va_D A [(h0, .inr (0, [.ref q5, .ref q16, .ref q27, .ref q38, .null, .int 0])), (q5, .inr (1, [.ref x9_0, .int (-1), .int 0, .int 0])), (x9_0, .inl (y9_0, 512, .inl (fun _ => 0))), (q16, .inr (2, [.ref x20_0, .ref x20_1, .int 0])), (x20_0, .inl (y20_0, 96, .inl (fun _ => 0))), (x20_1, .inl (y20_1, 16, .inl (fun _ => 0))), (q27, .inr (3, [.ref x31_0, .ref x31_1, .ref x31_2, .ref x31_3, .ref x31_4, .ref x31_5, .int 0, .int 0, .int 0])), (x31_0, .inl (y31_0, 10, .inl (fun _ => 0))), (x31_1, .inl (y31_1, 10, .inl (fun _ => 0))), (x31_2, .inl (y31_2, 120, .inl (fun _ => 0))), (x31_3, .inl (y31_3, 12, .inl (fun _ => 0))), (x31_4, .inl (y31_4, 8, .inl (fun _ => 0))), (x31_5, .inl (y31_5, 15, .inl (fun _ => 0))), (q38, .inr (4, [.ref x42_0, .ref x42_1, .int 0, .int 0, .int 0, .int 0, .int 0, .int 0, .int 0, .int 0, .int 0, .int 0])), (x42_0, .inl (y42_0, 12, .inl (fun _ => 0))), (x42_1, .inl (y42_1, 8, .inl (fun _ => 0)))] := hD
  refine lv_aload_n hx hb d_Ld_init_48 rfl (lv_at hl 0 rfl) ?_
  refine lv_bipush (v := 60) hx hb d_Ld_init_49 (by decide) ?_
  refine va_newa (atype := .int) (a0 := (60, .inl (fun _ => 0))) (N' := 60) hx hb (hts _ w_45) rfl hK hP hD hS hA (fun cA => rfl) (by decide) (by decide) (by decide) (by decide) (by decide) d_Ld_init_51 (fun q51 cA51 H hK hP hD hS => ?_)
  have hP : va_P (dC, dI) cls [(h0, .inr (0, [.ref q5, .ref q16, .ref q27, .ref q38, .null, .int 0])), (q5, .inr (1, [.ref x9_0, .int (-1), .int 0, .int 0])), (x9_0, .inl (y9_0, 512, .inl (fun _ => 0))), (q16, .inr (2, [.ref x20_0, .ref x20_1, .int 0])), (x20_0, .inl (y20_0, 96, .inl (fun _ => 0))), (x20_1, .inl (y20_1, 16, .inl (fun _ => 0))), (q27, .inr (3, [.ref x31_0, .ref x31_1, .ref x31_2, .ref x31_3, .ref x31_4, .ref x31_5, .int 0, .int 0, .int 0])), (x31_0, .inl (y31_0, 10, .inl (fun _ => 0))), (x31_1, .inl (y31_1, 10, .inl (fun _ => 0))), (x31_2, .inl (y31_2, 120, .inl (fun _ => 0))), (x31_3, .inl (y31_3, 12, .inl (fun _ => 0))), (x31_4, .inl (y31_4, 8, .inl (fun _ => 0))), (x31_5, .inl (y31_5, 15, .inl (fun _ => 0))), (q38, .inr (4, [.ref x42_0, .ref x42_1, .int 0, .int 0, .int 0, .int 0, .int 0, .int 0, .int 0, .int 0, .int 0, .int 0])), (x42_0, .inl (y42_0, 12, .inl (fun _ => 0))), (x42_1, .inl (y42_1, 8, .inl (fun _ => 0))), (q51, .inl (cA51, 60, .inl (fun _ => 0)))] H := hP
  have hD : va_D A [(h0, .inr (0, [.ref q5, .ref q16, .ref q27, .ref q38, .null, .int 0])), (q5, .inr (1, [.ref x9_0, .int (-1), .int 0, .int 0])), (x9_0, .inl (y9_0, 512, .inl (fun _ => 0))), (q16, .inr (2, [.ref x20_0, .ref x20_1, .int 0])), (x20_0, .inl (y20_0, 96, .inl (fun _ => 0))), (x20_1, .inl (y20_1, 16, .inl (fun _ => 0))), (q27, .inr (3, [.ref x31_0, .ref x31_1, .ref x31_2, .ref x31_3, .ref x31_4, .ref x31_5, .int 0, .int 0, .int 0])), (x31_0, .inl (y31_0, 10, .inl (fun _ => 0))), (x31_1, .inl (y31_1, 10, .inl (fun _ => 0))), (x31_2, .inl (y31_2, 120, .inl (fun _ => 0))), (x31_3, .inl (y31_3, 12, .inl (fun _ => 0))), (x31_4, .inl (y31_4, 8, .inl (fun _ => 0))), (x31_5, .inl (y31_5, 15, .inl (fun _ => 0))), (q38, .inr (4, [.ref x42_0, .ref x42_1, .int 0, .int 0, .int 0, .int 0, .int 0, .int 0, .int 0, .int 0, .int 0, .int 0])), (x42_0, .inl (y42_0, 12, .inl (fun _ => 0))), (x42_1, .inl (y42_1, 8, .inl (fun _ => 0))), (q51, .inl (cA51, 60, .inl (fun _ => 0)))] := hD
  have hK : va_K (dC, dI) cls [(y9_0, .int), (y20_0, .int), (y20_1, .int), (y31_0, .int), (y31_1, .int), (y31_2, .int), (y31_3, .int), (y31_4, .int), (y31_5, .int), (y42_0, .int), (y42_1, .int), (cA51, .int)] s := hK
  refine W.widen (k := 16) (n := 907) (by omega) (by omega) ?_
  refine va_putF (D := (dC, dI)) (ci := 0) (v := .ref q51) (ty := .array .int) (C := R_Ld) (T := F_Ld) (N := 6) hx hb hts in_Ld t_Ld t_Ld_ok n_Ld hown hK hP hD hS 0 rfl rfl 4 (by decide) (hts _ w_156) (fun _ h9 => h9) rfl hin rfl (by decide +kernel) (rfl) (rfl) (Nat.le_of_ble_eq_true rfl) d_Ld_init_53 (fun H locs hP hD hS => ?_)
  have hP : va_P (dC, dI) cls [(h0, .inr (0, [.ref q5, .ref q16, .ref q27, .ref q38, .ref q51, .int 0])), (q5, .inr (1, [.ref x9_0, .int (-1), .int 0, .int 0])), (x9_0, .inl (y9_0, 512, .inl (fun _ => 0))), (q16, .inr (2, [.ref x20_0, .ref x20_1, .int 0])), (x20_0, .inl (y20_0, 96, .inl (fun _ => 0))), (x20_1, .inl (y20_1, 16, .inl (fun _ => 0))), (q27, .inr (3, [.ref x31_0, .ref x31_1, .ref x31_2, .ref x31_3, .ref x31_4, .ref x31_5, .int 0, .int 0, .int 0])), (x31_0, .inl (y31_0, 10, .inl (fun _ => 0))), (x31_1, .inl (y31_1, 10, .inl (fun _ => 0))), (x31_2, .inl (y31_2, 120, .inl (fun _ => 0))), (x31_3, .inl (y31_3, 12, .inl (fun _ => 0))), (x31_4, .inl (y31_4, 8, .inl (fun _ => 0))), (x31_5, .inl (y31_5, 15, .inl (fun _ => 0))), (q38, .inr (4, [.ref x42_0, .ref x42_1, .int 0, .int 0, .int 0, .int 0, .int 0, .int 0, .int 0, .int 0, .int 0, .int 0])), (x42_0, .inl (y42_0, 12, .inl (fun _ => 0))), (x42_1, .inl (y42_1, 8, .inl (fun _ => 0))), (q51, .inl (cA51, 60, .inl (fun _ => 0)))] H := hP
  have hD : va_D A [(h0, .inr (0, [.ref q5, .ref q16, .ref q27, .ref q38, .ref q51, .int 0])), (q5, .inr (1, [.ref x9_0, .int (-1), .int 0, .int 0])), (x9_0, .inl (y9_0, 512, .inl (fun _ => 0))), (q16, .inr (2, [.ref x20_0, .ref x20_1, .int 0])), (x20_0, .inl (y20_0, 96, .inl (fun _ => 0))), (x20_1, .inl (y20_1, 16, .inl (fun _ => 0))), (q27, .inr (3, [.ref x31_0, .ref x31_1, .ref x31_2, .ref x31_3, .ref x31_4, .ref x31_5, .int 0, .int 0, .int 0])), (x31_0, .inl (y31_0, 10, .inl (fun _ => 0))), (x31_1, .inl (y31_1, 10, .inl (fun _ => 0))), (x31_2, .inl (y31_2, 120, .inl (fun _ => 0))), (x31_3, .inl (y31_3, 12, .inl (fun _ => 0))), (x31_4, .inl (y31_4, 8, .inl (fun _ => 0))), (x31_5, .inl (y31_5, 15, .inl (fun _ => 0))), (q38, .inr (4, [.ref x42_0, .ref x42_1, .int 0, .int 0, .int 0, .int 0, .int 0, .int 0, .int 0, .int 0, .int 0, .int 0])), (x42_0, .inl (y42_0, 12, .inl (fun _ => 0))), (x42_1, .inl (y42_1, 8, .inl (fun _ => 0))), (q51, .inl (cA51, 60, .inl (fun _ => 0)))] := hD
  refine lv_aload_n hx hb d_Ld_init_56 rfl (lv_at hl 0 rfl) ?_
  refine lv_iconst (v := 0) hx hb d_Ld_init_57 (by decide) ?_
  refine va_put (D := (dC, dI)) (ci := 0) (v := .int 0) (ty := .int) (C := R_Ld) (T := F_Ld) (N := 6) hx hb hts in_Ld t_Ld t_Ld_ok n_Ld hown hK hP hD hS 0 rfl rfl 5 (by decide) (hts _ w_157) (fun _ h9 => h9) rfl (by decide +kernel) (rfl) (rfl) (Nat.le_of_ble_eq_true rfl) d_Ld_init_58 (fun H locs hP hD hS => ?_)
  have hP : va_P (dC, dI) cls [(h0, .inr (0, [.ref q5, .ref q16, .ref q27, .ref q38, .ref q51, .int 0])), (q5, .inr (1, [.ref x9_0, .int (-1), .int 0, .int 0])), (x9_0, .inl (y9_0, 512, .inl (fun _ => 0))), (q16, .inr (2, [.ref x20_0, .ref x20_1, .int 0])), (x20_0, .inl (y20_0, 96, .inl (fun _ => 0))), (x20_1, .inl (y20_1, 16, .inl (fun _ => 0))), (q27, .inr (3, [.ref x31_0, .ref x31_1, .ref x31_2, .ref x31_3, .ref x31_4, .ref x31_5, .int 0, .int 0, .int 0])), (x31_0, .inl (y31_0, 10, .inl (fun _ => 0))), (x31_1, .inl (y31_1, 10, .inl (fun _ => 0))), (x31_2, .inl (y31_2, 120, .inl (fun _ => 0))), (x31_3, .inl (y31_3, 12, .inl (fun _ => 0))), (x31_4, .inl (y31_4, 8, .inl (fun _ => 0))), (x31_5, .inl (y31_5, 15, .inl (fun _ => 0))), (q38, .inr (4, [.ref x42_0, .ref x42_1, .int 0, .int 0, .int 0, .int 0, .int 0, .int 0, .int 0, .int 0, .int 0, .int 0])), (x42_0, .inl (y42_0, 12, .inl (fun _ => 0))), (x42_1, .inl (y42_1, 8, .inl (fun _ => 0))), (q51, .inl (cA51, 60, .inl (fun _ => 0)))] H := hP
  have hD : va_D A [(h0, .inr (0, [.ref q5, .ref q16, .ref q27, .ref q38, .ref q51, .int 0])), (q5, .inr (1, [.ref x9_0, .int (-1), .int 0, .int 0])), (x9_0, .inl (y9_0, 512, .inl (fun _ => 0))), (q16, .inr (2, [.ref x20_0, .ref x20_1, .int 0])), (x20_0, .inl (y20_0, 96, .inl (fun _ => 0))), (x20_1, .inl (y20_1, 16, .inl (fun _ => 0))), (q27, .inr (3, [.ref x31_0, .ref x31_1, .ref x31_2, .ref x31_3, .ref x31_4, .ref x31_5, .int 0, .int 0, .int 0])), (x31_0, .inl (y31_0, 10, .inl (fun _ => 0))), (x31_1, .inl (y31_1, 10, .inl (fun _ => 0))), (x31_2, .inl (y31_2, 120, .inl (fun _ => 0))), (x31_3, .inl (y31_3, 12, .inl (fun _ => 0))), (x31_4, .inl (y31_4, 8, .inl (fun _ => 0))), (x31_5, .inl (y31_5, 15, .inl (fun _ => 0))), (q38, .inr (4, [.ref x42_0, .ref x42_1, .int 0, .int 0, .int 0, .int 0, .int 0, .int 0, .int 0, .int 0, .int 0, .int 0])), (x42_0, .inl (y42_0, 12, .inl (fun _ => 0))), (x42_1, .inl (y42_1, 8, .inl (fun _ => 0))), (q51, .inl (cA51, 60, .inl (fun _ => 0)))] := hD
  refine W.widen (k := 16) (n := 907) (by decide) (by decide) ?_
  exact W.vret hx hb hr (fun t ht hW => ⟨⟨((fun i => match i with | 0 => q5 | 1 => x9_0 | 2 => q16 | 3 => x20_0 | 4 => x20_1 | 5 => q27 | 6 => x31_0 | 7 => x31_1 | 8 => x31_2 | 9 => x31_3 | 10 => x31_4 | 11 => x31_5 | 12 => q38 | 13 => x42_0 | 14 => x42_1 | _ => q51), (fun i => match i with | 0 => y9_0 | 1 => y20_0 | 2 => y20_1 | 3 => y31_0 | 4 => y31_1 | 5 => y31_2 | 6 => y31_3 | 7 => y31_4 | 8 => y31_5 | 9 => y42_0 | 10 => y42_1 | _ => cA51)), rfl, trivial, cB.of (hP.sub [0, 1, 2, 3, 4, 5, 6, 7, 8, 9, 10, 11, 12, 13, 14, 15, 16] rfl) (hD.sub [0, 1, 2, 3, 4, 5, 6, 7, 8, 9, 10, 11, 12, 13, 14, 15, 16] (by decide) rfl) (hK.sub [0, 1, 2, 3, 4, 5, 6, 7, 8, 9, 10, 11] rfl) ht hW⟩, hS.F ht⟩) hS.2.2 d_Ld_init_61
end
section
section TV
variable {p : Program} {l : Launch} {e : Env} {R : Room} {s : State} {m : MethodId} {args : Array Value} {below : List Frame} {meth : Method} {c : Code} {H : Heap} {locs : List Loc} {cells slots : Nat} {Q : State → Prop} {pc : Nat} {ls : Array Slot} {rest : List Value}
theorem tv {x x2 : Int32} (h : x = x2) (k : W p l e R s m args below meth c H locs cells slots Q (F0 m pc ls (.int x2 :: rest))) : W p l e R s m args below meth c H locs cells slots Q (F0 m pc ls (.int x :: rest)) := h ▸ k
theorem tvL {x x2 : Int64} (h : x = x2) (k : W p l e R s m args below meth c H locs cells slots Q (F0 m pc ls (.long x2 :: rest))) : W p l e R s m args below meth c H locs cells slots Q (F0 m pc ls (.long x :: rest)) := h ▸ k
end TV
theorem mm1 (v : Int32) : ¬ ((if (1 : Int32) < v then v else 1) ≤ 0) := by
  intro h
  split at h
  · rename_i g
    exact absurd (Int32.lt_of_lt_of_le g h) (by decide)
  · exact absurd h (by decide)
set_option maxHeartbeats 4000000 in
set_option maxRecDepth 100000 in
theorem c_St_isF (l : Launch) (dC : Nat → ClassId) (dI : Nat → Nat → Nat) (h0 c0 : Nat) (cA : ClassId) (sz : Nat) : Met l y_St_isFormatted (Cond.code y_St_isFormatted b_St_isFormatted 1 (some .boolean) :: gw) ({ frames := 0, cells := 0, slots := 0, locals := 0 }) (cP (dC, dI) [.ref h0] sz [(h0, .inr (1, [.ref c0, .int (-1), .int 0, .int 0])), (c0, .inl (cA, 512, .inl (fun _ => 0)))] [(cA, .int)] xT) (va_Qi (fun (r : Int32) (u : Unit) => r = 0) (fun (u : Unit) t => cB (dC, dI) (va_A [(h0, .inr (1, [.ref c0, .int (-1), .int 0, .int 0])), (c0, .inl (cA, 512, .inl (fun _ => 0)))] sz) [(h0, .inr (1, [.ref c0, .int (-1), .int 0, .int 0])), (c0, .inl (cA, 512, .inl (fun _ => 0)))] [(cA, .int)] t) (va_A [(h0, .inr (1, [.ref c0, .int (-1), .int 0, .int 0])), (c0, .inl (cA, 512, .inl (fun _ => 0)))] sz)) 0 0 (va_A [(h0, .inr (1, [.ref c0, .int (-1), .int 0, .int 0])), (c0, .inl (cA, 512, .inl (fun _ => 0)))] sz) := by
  refine Met.ofW (cc := b_St_isFormatted) (maxL := 1) (ret := (some .boolean)) (by decide) rfl ?_
  intro p e s m args below meth c s₁ B hml hv
  obtain ⟨rfl, hsz, hP, hK, hD0, hkw, hX⟩ := hv
  have hx := B.exec
  have hb := B.bytes
  have hr := B.returns
  have hts := fun w hw => atoms_spec (ws := Cond.code y_St_isFormatted b_St_isFormatted 1 (some .boolean) :: gw) B.pre w (List.mem_cons_of_mem _ hw)
  have hown : s.vm.findClass "LineDisk$Store" = some m.cls := findClass_of_methodNamed B.named
  have hlocks := B.notSynchronized
  have hin := (name_of_methodNamed B.named B.method).1
  subst hsz
  have hD := hD0.self (sz := s.heap.size)
  generalize hAe : va_A [(h0, .inr (1, [.ref c0, .int (-1), .int 0, .int 0])), (c0, .inl (cA, 512, .inl (fun _ => 0)))] s.heap.size = A at hD ⊢
  have hA : ∀ q : Nat, s.heap.size ≤ q → A q := fun q h => by rw [← hAe]; exact Or.inr h
  have hS : va_S A s.heap s.heap [] := va_S.rf
  have hl := lv_entry ([.ref h0]) (n := 1) (Nat.le_of_ble_eq_true rfl)
  rw [lg_entry_eq]
  generalize (lg_sl ([.ref h0]) ++ List.replicate (1 - (lg_sl ([.ref h0])).length) Slot.unset).toArray = ls at hl ⊢
  have hl : lv_has ls 1 [(0, .ref h0)] := hl
  have F : CallFix p m c b_St_isFormatted 1 s ([.ref h0]).toArray gw "LineDisk$Store" := ⟨hx, hb, hml, hown, hts⟩
  refine lv_aload_n hx hb d_St_isFormatted_0 rfl (lv_at hl 0 rfl) ?_
  refine va_get (D := (dC, dI)) (ci := 1) (v := .ref c0) (C := R_St) (T := F_St) (N := 4) hx hb hts in_St hown hK hP 0 rfl rfl 0 (by decide) (hts _ w_29) (fun _ h9 => h9) rfl d_St_isFormatted_1 ?_
  refine lv_iconst (v := 0) hx hb d_St_isFormatted_4 (by decide) ?_
  refine va_iald hx hb hK hP 1 0 rfl rfl (vp_in_iff.mpr (by decide)) d_St_isFormatted_5 ?_
  refine tv (x2 := 0) (by exact rfl) ?_
  refine lv_sipush (v := 7077) hx hb d_St_isFormatted_6 (by decide) ?_
  refine lv_icmp_ne (tgt := 16) hx hb d_St_isFormatted_9 (by decide) (fun _ => ?_) (fun h => absurd h (by decide))
  refine lv_iconst (v := 0) hx hb d_St_isFormatted_16 (by decide) ?_
  refine W.widen (k := 0) (n := 0) (by decide) (by decide) ?_
  exact W.zret (v := 0) hx hb hr rfl (fun t ht hW => ⟨⟨0, (), rfl, rfl, cB.of (hP.sub [0, 1] rfl) (hD.sub [0, 1] (by decide) rfl) (hK.sub [0] rfl) ht hW⟩, hS.F ht⟩) hS.2.2 d_St_isFormatted_17
theorem in512 {x : Int32} (h1 : ¬ x < 0) (h2 : x < 512) : vp_in x 512 := by
  rw [vp_in_iff]
  have a := Int32.not_lt.mp h1
  rw [Int32.le_iff_toInt_le] at a
  rw [Int32.lt_iff_toInt_lt] at h2
  exact ⟨by simpa using a, by simpa using h2⟩
set_option maxHeartbeats 4000000 in
set_option maxRecDepth 100000 in
theorem c_St_cell (l : Launch) (dC : Nat → ClassId) (dI : Nat → Nat → Nat) (h0 c0 : Nat) (cA : ClassId) (x : Int32) (h1 : ¬ x < 0) (h2 : x < 512) (sz : Nat) : Met l y_St_cell (Cond.code y_St_cell b_St_cell 2 (some .int) :: gw) ({ frames := 0, cells := 0, slots := 0, locals := 0 }) (cP (dC, dI) [.ref h0, .int x] sz [(h0, .inr (1, [.ref c0, .int (-1), .int 0, .int 0])), (c0, .inl (cA, 512, .inl (fun _ => 0)))] [(cA, .int)] xT) (va_Qi (fun (r : Int32) (u : Unit) => r = 0) (fun (u : Unit) t => cB (dC, dI) (va_A [(h0, .inr (1, [.ref c0, .int (-1), .int 0, .int 0])), (c0, .inl (cA, 512, .inl (fun _ => 0)))] sz) [(h0, .inr (1, [.ref c0, .int (-1), .int 0, .int 0])), (c0, .inl (cA, 512, .inl (fun _ => 0)))] [(cA, .int)] t) (va_A [(h0, .inr (1, [.ref c0, .int (-1), .int 0, .int 0])), (c0, .inl (cA, 512, .inl (fun _ => 0)))] sz)) 0 0 (va_A [(h0, .inr (1, [.ref c0, .int (-1), .int 0, .int 0])), (c0, .inl (cA, 512, .inl (fun _ => 0)))] sz) := by
  refine Met.ofW (cc := b_St_cell) (maxL := 2) (ret := (some .int)) (by decide) rfl ?_
  intro p e s m args below meth c s₁ B hml hv
  obtain ⟨rfl, hsz, hP, hK, hD0, hkw, hX⟩ := hv
  have hx := B.exec
  have hb := B.bytes
  have hr := B.returns
  have hts := fun w hw => atoms_spec (ws := Cond.code y_St_cell b_St_cell 2 (some .int) :: gw) B.pre w (List.mem_cons_of_mem _ hw)
  have hown : s.vm.findClass "LineDisk$Store" = some m.cls := findClass_of_methodNamed B.named
  have hlocks := B.notSynchronized
  have hin := (name_of_methodNamed B.named B.method).1
  subst hsz
  have hD := hD0.self (sz := s.heap.size)
  generalize hAe : va_A [(h0, .inr (1, [.ref c0, .int (-1), .int 0, .int 0])), (c0, .inl (cA, 512, .inl (fun _ => 0)))] s.heap.size = A at hD ⊢
  have hA : ∀ q : Nat, s.heap.size ≤ q → A q := fun q h => by rw [← hAe]; exact Or.inr h
  have hS : va_S A s.heap s.heap [] := va_S.rf
  have hl := lv_entry ([.ref h0, .int x]) (n := 2) (Nat.le_of_ble_eq_true rfl)
  rw [lg_entry_eq]
  generalize (lg_sl ([.ref h0, .int x]) ++ List.replicate (2 - (lg_sl ([.ref h0, .int x])).length) Slot.unset).toArray = ls at hl ⊢
  have hl : lv_has ls 2 [(0, .ref h0), (1, .int x)] := hl
  have F : CallFix p m c b_St_cell 2 s ([.ref h0, .int x]).toArray gw "LineDisk$Store" := ⟨hx, hb, hml, hown, hts⟩
  refine lv_iload_n hx hb d_St_cell_0 rfl (lv_at hl 1 rfl) ?_
  refine lv_if_lt (tgt := 22) hx hb d_St_cell_1 (by decide) (fun h => absurd h (h1)) (fun _ => ?_)
  refine lv_iload_n hx hb d_St_cell_4 rfl (lv_at hl 1 rfl) ?_
  refine lv_aload_n hx hb d_St_cell_5 rfl (lv_at hl 0 rfl) ?_
  refine va_get (D := (dC, dI)) (ci := 1) (v := .ref c0) (C := R_St) (T := F_St) (N := 4) hx hb hts in_St hown hK hP 0 rfl rfl 0 (by decide) (hts _ w_29) (fun _ h9 => h9) rfl d_St_cell_6 ?_
  refine va_alen (v := 512) hx hb hK hP 1 0 rfl rfl rfl d_St_cell_9 ?_
  refine lv_icmp_ge (tgt := 22) hx hb d_St_cell_10 (by decide) (fun h => absurd h (fun h => Int32.lt_irrefl (Int32.lt_of_lt_of_le h2 h))) (fun _ => ?_)
  refine lv_aload_n hx hb d_St_cell_13 rfl (lv_at hl 0 rfl) ?_
  refine va_get (D := (dC, dI)) (ci := 1) (v := .ref c0) (C := R_St) (T := F_St) (N := 4) hx hb hts in_St hown hK hP 0 rfl rfl 0 (by decide) (hts _ w_29) (fun _ h9 => h9) rfl d_St_cell_14 ?_
  refine lv_iload_n hx hb d_St_cell_17 rfl (lv_at hl 1 rfl) ?_
  refine va_iald hx hb hK hP 1 0 rfl rfl (in512 h1 h2) d_St_cell_18 ?_
  refine tv (x2 := 0) (by exact rfl) ?_
  refine lv_goto (tgt := 23) hx hb d_St_cell_19 (by decide) ?_
  refine W.widen (k := 0) (n := 0) (by decide) (by decide) ?_
  exact W.iret (v := 0) hx hb hr (fun t ht hW => ⟨⟨0, (), rfl, rfl, cB.of (hP.sub [0, 1] rfl) (hD.sub [0, 1] (by decide) rfl) (hK.sub [0] rfl) ht hW⟩, hS.F ht⟩) hS.2.2 d_St_cell_23
set_option maxHeartbeats 4000000 in
set_option maxRecDepth 100000 in
theorem lp_Ar_fill {p : Program} {l : Launch} {e : Env} {R : Room} {s : State} {m : MethodId} {args : Array Value} {below : List Frame} {meth : Method} {c : Code} {cells slots : Nat} {Q : State → Prop} {A : Nat → Prop} {dC : Nat → ClassId} {dI : Nat → Nat → Nat} (hx : p.tables.exec = Jvm.exec) (hb : c.code = b_Ar_fill) (hts : ∀ w ∈ gw, w.before args s = true) (hown : s.vm.findClass "java/util/Arrays" = some m.cls) (hkw : kw s) (a0 : Nat) (cA : ClassId) (x : Int32) (hK : va_K (dC, dI) cls [(cA, .int)] s)  (kk : ∀ (ls : Array Slot) (H : Heap) (locs : List Loc) (f : Nat → Int32), lv_has ls 4 [(2, .int (nI 8)), (3, .int 8), (0, .ref a0), (1, .int x)] → va_P (dC, dI) cls [(a0, .inl (cA, 8, .inl f))] H → va_D A [(a0, .inl (cA, 8, .inl f))] → va_S A s.heap H locs → (True) → W p l e R s m args below meth c H locs cells slots Q (F0 m 20 ls [])) : ∀ (j k : Nat), k + j = 8 → ∀ (ls : Array Slot) (H : Heap) (locs : List Loc) (f : Nat → Int32), lv_has ls 4 [(2, .int (nI k)), (3, .int 8), (0, .ref a0), (1, .int x)] → va_P (dC, dI) cls [(a0, .inl (cA, 8, .inl f))] H → va_D A [(a0, .inl (cA, 8, .inl f))] → va_S A s.heap H locs → (True) → W p l e R s m args below meth c H locs cells slots Q (F0 m 5 ls []) := by
  intro j
  induction j with
  | zero =>
    intro k hk ls H locs f hl hP hD hS hf
    have hk : k = 8 := by omega
    subst hk
    refine lv_iload_n hx hb d_Ar_fill_5 rfl (lv_at hl 0 rfl) ?_
    refine lv_iload_n hx hb d_Ar_fill_6 rfl (lv_at hl 1 rfl) ?_
    refine lv_icmp_ge (tgt := 20) hx hb d_Ar_fill_7 (by decide) (fun _ => ?_) (fun h => absurd (nI_le (a := 8) (b := 8) (Nat.le_refl _) (by decide)) h)
    exact kk ls H locs f hl hP hD hS hf
  | succ j ih =>
    intro k hk ls H locs f hl hP hD hS hf
    have hkN : k < 8 := by omega
    refine lv_iload_n hx hb d_Ar_fill_5 rfl (lv_at hl 0 rfl) ?_
    refine lv_iload_n hx hb d_Ar_fill_6 rfl (lv_at hl 1 rfl) ?_
    refine lv_icmp_ge (tgt := 20) hx hb d_Ar_fill_7 (by decide) (fun h => absurd h (nI_ge (b := 8) hkN (by decide))) (fun _ => ?_)
    refine lv_aload_n hx hb d_Ar_fill_10 rfl (lv_at hl 2 rfl) ?_
    refine lv_iload_n hx hb d_Ar_fill_11 rfl (lv_at hl 0 rfl) ?_
    refine lv_iload_n hx hb d_Ar_fill_12 rfl (lv_at hl 3 rfl) ?_
    refine va_iast hx hb hK hP hD hS 0 0 rfl rfl (vp_in_nI hkN (by decide)) d_Ar_fill_13 (fun H locs hP hD hS => ?_)
    have hP : va_P (dC, dI) cls [(a0, .inl (cA, 8, .inl (upd f (nI k : Int32).toNatClampNeg x)))] H := hP
    have hD : va_D A [(a0, .inl (cA, 8, .inl (upd f (nI k : Int32).toNatClampNeg x)))] := hD
    refine lv_iinc (k := 0) (v := nI (k + 1)) hx hb d_Ar_fill_14 hl rfl (by rw [lit1]; exact (nI_succ k).symm) (by decide) rfl (fun ls hl => ?_)
    have hl : lv_has ls 4 [(2, .int (nI (k + 1))), (3, .int 8), (0, .ref a0), (1, .int x)] := hl
    refine lv_goto (tgt := 5) hx hb d_Ar_fill_17 (by decide) ?_
    exact ih (k + 1) (by omega) ls H locs (upd f (nI k : Int32).toNatClampNeg x) (hl) hP hD hS (trivial)
set_option maxHeartbeats 4000000 in
set_option maxRecDepth 100000 in
theorem c_Ar_fill (l : Launch) (dC : Nat → ClassId) (dI : Nat → Nat → Nat) (a0 : Nat) (cA : ClassId) (f : Nat → Int32) (x : Int32) (sz : Nat) : Met l y_Ar_fill (Cond.code y_Ar_fill b_Ar_fill 4 none :: gw) ({ frames := 0, cells := 0, slots := 0, locals := 0 }) (cP (dC, dI) [.ref a0, .int x] sz [(a0, .inl (cA, 8, .inl f))] [(cA, .int)] xT) (va_Qv (fun (u : Nat → Int32) => True) (fun (u : Nat → Int32) t => cB (dC, dI) (va_A [(a0, .inl (cA, 8, .inl f))] sz) [(a0, .inl (cA, 8, .inl u))] [(cA, .int)] t) (va_A [(a0, .inl (cA, 8, .inl f))] sz)) 0 0 (va_A [(a0, .inl (cA, 8, .inl f))] sz) := by
  refine Met.ofW (cc := b_Ar_fill) (maxL := 4) (ret := none) (by decide) rfl ?_
  intro p e s m args below meth c s₁ B hml hv
  obtain ⟨rfl, hsz, hP, hK, hD0, hkw, hX⟩ := hv
  have hx := B.exec
  have hb := B.bytes
  have hr := B.returns
  have hts := fun w hw => atoms_spec (ws := Cond.code y_Ar_fill b_Ar_fill 4 none :: gw) B.pre w (List.mem_cons_of_mem _ hw)
  have hown : s.vm.findClass "java/util/Arrays" = some m.cls := findClass_of_methodNamed B.named
  have hlocks := B.notSynchronized
  have hin := (name_of_methodNamed B.named B.method).1
  subst hsz
  have hD := hD0.self (sz := s.heap.size)
  generalize hAe : va_A [(a0, .inl (cA, 8, .inl f))] s.heap.size = A at hD ⊢
  have hA : ∀ q : Nat, s.heap.size ≤ q → A q := fun q h => by rw [← hAe]; exact Or.inr h
  have hS : va_S A s.heap s.heap [] := va_S.rf
  have hl := lv_entry ([.ref a0, .int x]) (n := 4) (Nat.le_of_ble_eq_true rfl)
  rw [lg_entry_eq]
  generalize (lg_sl ([.ref a0, .int x]) ++ List.replicate (4 - (lg_sl ([.ref a0, .int x])).length) Slot.unset).toArray = ls at hl ⊢
  have hl : lv_has ls 4 [(0, .ref a0), (1, .int x)] := hl
  have F : CallFix p m c b_Ar_fill 4 s ([.ref a0, .int x]).toArray gw "java/util/Arrays" := ⟨hx, hb, hml, hown, hts⟩
  refine lv_iconst (v := 0) hx hb d_Ar_fill_0 (by decide) ?_
  refine lv_istore_n (i := 2) hx hb d_Ar_fill_1 rfl hl (by decide) rfl (fun ls hl => ?_)
  have hl : lv_has ls 4 [(2, .int 0), (0, .ref a0), (1, .int x)] := hl
  refine lv_aload_n hx hb d_Ar_fill_2 rfl (lv_at hl 1 rfl) ?_
  refine va_alen (v := 8) hx hb hK hP 0 0 rfl rfl rfl d_Ar_fill_3 ?_
  refine lv_istore_n (i := 3) hx hb d_Ar_fill_4 rfl hl (by decide) rfl (fun ls hl => ?_)
  have hl : lv_has ls 4 [(3, .int 8), (2, .int 0), (0, .ref a0), (1, .int x)] := hl
  have hl : lv_has ls 4 [(2, .int (nI 0)), (3, .int 8), (0, .ref a0), (1, .int x)] := lv_sub hl [1, 0, 2, 3] rfl
  refine lp_Ar_fill hx hb hts hown hkw a0 cA x hK (fun ls H locs f hl hP hD hS _ => ?_) 8 0 (by decide) ls _ _ f hl hP hD hS trivial
  refine W.widen (k := 0) (n := 0) (by decide) (by decide) ?_
  exact W.vret hx hb hr (fun t ht hW => ⟨⟨f, rfl, trivial, cB.of (hP.sub [0] rfl) (hD.sub [0] (by decide) rfl) (hK.sub [0] rfl) ht hW⟩, hS.F ht⟩) hS.2.2 d_Ar_fill_20
set_option maxHeartbeats 4000000 in
set_option maxRecDepth 100000 in
theorem c_Wo_empty (l : Launch) (dC : Nat → ClassId) (dI : Nat → Nat → Nat) (h0 : Nat) (w0 w1 w2 w3 w4 w5 : Nat) (cA : ClassId) (f : Nat → Int32) (sz : Nat) : Met l y_Wo_empty (Cond.code y_Wo_empty b_Wo_empty 1 none :: gw) ({ frames := 1, cells := 0, slots := 0, locals := 23 }) (cP (dC, dI) [.ref h0] sz [(h0, .inr (3, [.ref w0, .ref w1, .ref w2, .ref w3, .ref w4, .ref w5, .int 0, .int 0, .int 0])), (w4, .inl (cA, 8, .inl f))] [(cA, .int)] xT) (va_Qv (fun (u : Nat → Int32) => True) (fun (u : Nat → Int32) t => cB (dC, dI) (va_A [(h0, .inr (3, [.ref w0, .ref w1, .ref w2, .ref w3, .ref w4, .ref w5, .int 0, .int 0, .int 0])), (w4, .inl (cA, 8, .inl f))] sz) [(h0, .inr (3, [.ref w0, .ref w1, .ref w2, .ref w3, .ref w4, .ref w5, .int 0, .int 0, .int 0])), (w4, .inl (cA, 8, .inl u))] [(cA, .int)] t) (va_A [(h0, .inr (3, [.ref w0, .ref w1, .ref w2, .ref w3, .ref w4, .ref w5, .int 0, .int 0, .int 0])), (w4, .inl (cA, 8, .inl f))] sz)) 0 0 (va_A [(h0, .inr (3, [.ref w0, .ref w1, .ref w2, .ref w3, .ref w4, .ref w5, .int 0, .int 0, .int 0])), (w4, .inl (cA, 8, .inl f))] sz) := by
  refine Met.ofW (cc := b_Wo_empty) (maxL := 1) (ret := none) (by decide) rfl ?_
  intro p e s m args below meth c s₁ B hml hv
  obtain ⟨rfl, hsz, hP, hK, hD0, hkw, hX⟩ := hv
  have hx := B.exec
  have hb := B.bytes
  have hr := B.returns
  have hts := fun w hw => atoms_spec (ws := Cond.code y_Wo_empty b_Wo_empty 1 none :: gw) B.pre w (List.mem_cons_of_mem _ hw)
  have hown : s.vm.findClass "LineDisk$Workspace" = some m.cls := findClass_of_methodNamed B.named
  have hlocks := B.notSynchronized
  have hin := (name_of_methodNamed B.named B.method).1
  subst hsz
  have hD := hD0.self (sz := s.heap.size)
  generalize hAe : va_A [(h0, .inr (3, [.ref w0, .ref w1, .ref w2, .ref w3, .ref w4, .ref w5, .int 0, .int 0, .int 0])), (w4, .inl (cA, 8, .inl f))] s.heap.size = A at hD ⊢
  have hA : ∀ q : Nat, s.heap.size ≤ q → A q := fun q h => by rw [← hAe]; exact Or.inr h
  have hS : va_S A s.heap s.heap [] := va_S.rf
  have hl := lv_entry ([.ref h0]) (n := 1) (Nat.le_of_ble_eq_true rfl)
  rw [lg_entry_eq]
  generalize (lg_sl ([.ref h0]) ++ List.replicate (1 - (lg_sl ([.ref h0])).length) Slot.unset).toArray = ls at hl ⊢
  have hl : lv_has ls 1 [(0, .ref h0)] := hl
  have F : CallFix p m c b_Wo_empty 1 s ([.ref h0]).toArray gw "LineDisk$Workspace" := ⟨hx, hb, hml, hown, hts⟩
  refine lv_aload_n hx hb d_Wo_empty_0 rfl (lv_at hl 0 rfl) ?_
  refine lv_iconst (v := 0) hx hb d_Wo_empty_1 (by decide) ?_
  refine va_put (D := (dC, dI)) (ci := 3) (v := .int 0) (ty := .int) (C := R_Wo) (T := F_Wo) (N := 9) hx hb hts in_Wo t_Wo t_Wo_ok n_Wo hown hK hP hD hS 0 rfl rfl 6 (by decide) (hts _ w_78) (fun _ h9 => h9) rfl (by decide +kernel) (rfl) (rfl) (Nat.le_of_ble_eq_true rfl) d_Wo_empty_2 (fun H locs hP hD hS => ?_)
  have hP : va_P (dC, dI) cls [(h0, .inr (3, [.ref w0, .ref w1, .ref w2, .ref w3, .ref w4, .ref w5, .int 0, .int 0, .int 0])), (w4, .inl (cA, 8, .inl f))] H := hP
  have hD : va_D A [(h0, .inr (3, [.ref w0, .ref w1, .ref w2, .ref w3, .ref w4, .ref w5, .int 0, .int 0, .int 0])), (w4, .inl (cA, 8, .inl f))] := hD
  refine lv_aload_n hx hb d_Wo_empty_5 rfl (lv_at hl 0 rfl) ?_
  refine lv_iconst (v := 0) hx hb d_Wo_empty_6 (by decide) ?_
  refine va_put (D := (dC, dI)) (ci := 3) (v := .int 0) (ty := .int) (C := R_Wo) (T := F_Wo) (N := 9) hx hb hts in_Wo t_Wo t_Wo_ok n_Wo hown hK hP hD hS 0 rfl rfl 7 (by decide) (hts _ w_80) (fun _ h9 => h9) rfl (by decide +kernel) (rfl) (rfl) (Nat.le_of_ble_eq_true rfl) d_Wo_empty_7 (fun H locs hP hD hS => ?_)
  have hP : va_P (dC, dI) cls [(h0, .inr (3, [.ref w0, .ref w1, .ref w2, .ref w3, .ref w4, .ref w5, .int 0, .int 0, .int 0])), (w4, .inl (cA, 8, .inl f))] H := hP
  have hD : va_D A [(h0, .inr (3, [.ref w0, .ref w1, .ref w2, .ref w3, .ref w4, .ref w5, .int 0, .int 0, .int 0])), (w4, .inl (cA, 8, .inl f))] := hD
  refine lv_aload_n hx hb d_Wo_empty_10 rfl (lv_at hl 0 rfl) ?_
  refine lv_iconst (v := 0) hx hb d_Wo_empty_11 (by decide) ?_
  refine va_put (D := (dC, dI)) (ci := 3) (v := .int 0) (ty := .int) (C := R_Wo) (T := F_Wo) (N := 9) hx hb hts in_Wo t_Wo t_Wo_ok n_Wo hown hK hP hD hS 0 rfl rfl 8 (by decide) (hts _ w_82) (fun _ h9 => h9) rfl (by decide +kernel) (rfl) (rfl) (Nat.le_of_ble_eq_true rfl) d_Wo_empty_12 (fun H locs hP hD hS => ?_)
  have hP : va_P (dC, dI) cls [(h0, .inr (3, [.ref w0, .ref w1, .ref w2, .ref w3, .ref w4, .ref w5, .int 0, .int 0, .int 0])), (w4, .inl (cA, 8, .inl f))] H := hP
  have hD : va_D A [(h0, .inr (3, [.ref w0, .ref w1, .ref w2, .ref w3, .ref w4, .ref w5, .int 0, .int 0, .int 0])), (w4, .inl (cA, 8, .inl f))] := hD
  refine lv_aload_n hx hb d_Wo_empty_15 rfl (lv_at hl 0 rfl) ?_
  refine va_get (D := (dC, dI)) (ci := 3) (v := .ref w4) (C := R_Wo) (T := F_Wo) (N := 9) hx hb hts in_Wo hown hK hP 0 rfl rfl 4 (by decide) (hts _ w_74) (fun _ h9 => h9) rfl d_Wo_empty_16 ?_
  refine lv_iconst (v := 0) hx hb d_Wo_empty_19 (by decide) ?_
  refine go_v (wr := [(h0, .inr (3, [.ref w0, .ref w1, .ref w2, .ref w3, .ref w4, .ref w5, .int 0, .int 0, .int 0]))]) (tr := []) (rS (n := 2) (As := [.ref w4, .int 0]) (rest := []) F hkw (c_Ar_fill l dC dI w4 cA f 0 H.size) xT_bl (fun _ _ _ => trivial) w_194 w_195 w_8 w_196 rfl rfl (by decide +kernel) ⟨Nat.le_of_ble_eq_true rfl, Nat.le_of_ble_eq_true rfl⟩ (hP.sub (ws' := [(w4, .inl (cA, 8, .inl f))]) [1] rfl) (hD.sub (ws' := [(w4, .inl (cA, 8, .inl f))]) [1] (by decide) rfl) (hK.sub (tys' := [(cA, .int)]) [0] rfl) rfl hl.1 rfl (Nat.le_of_ble_eq_true rfl) d_Wo_empty_20 ⟨by decide, by decide⟩) hP hD hK hS hA [1] [0] [] rfl rfl (by decide) (by decide) rfl (fun u H locs _ hP hD hK hS => ?_)
  have hP : va_P (dC, dI) cls [(h0, .inr (3, [.ref w0, .ref w1, .ref w2, .ref w3, .ref w4, .ref w5, .int 0, .int 0, .int 0])), (w4, .inl (cA, 8, .inl u))] H := hP
  have hD : va_D A [(h0, .inr (3, [.ref w0, .ref w1, .ref w2, .ref w3, .ref w4, .ref w5, .int 0, .int 0, .int 0])), (w4, .inl (cA, 8, .inl u))] := hD
  have hK : va_K (dC, dI) cls [(cA, .int)] s := hK
  refine W.widen (k := 0) (n := 0) (by omega) (by omega) ?_
  refine W.widen (k := 0) (n := 0) (by decide) (by decide) ?_
  exact W.vret hx hb hr (fun t ht hW => ⟨⟨u, rfl, trivial, cB.of (hP.sub [0, 1] rfl) (hD.sub [0, 1] (by decide) rfl) (hK.sub [0] rfl) ht hW⟩, hS.F ht⟩) hS.2.2 d_Wo_empty_23
set_option maxHeartbeats 4000000 in
set_option maxRecDepth 100000 in
theorem c_Wo_keep (l : Launch) (dC : Nat → ClassId) (dI : Nat → Nat → Nat) (h0 : Nat) (w0 w1 w2 w3 w4 w5 : Nat) (cA : ClassId) (x : Int32) (sz : Nat) : Met l y_Wo_keepTyped (Cond.code y_Wo_keepTyped b_Wo_keepTyped 2 none :: gw) ({ frames := 0, cells := 0, slots := 0, locals := 0 }) (cP (dC, dI) [.ref h0, .int x] sz [(h0, .inr (3, [.ref w0, .ref w1, .ref w2, .ref w3, .ref w4, .ref w5, .int 0, .int 0, .int 0])), (w5, .inl (cA, 15, .inl (fun _ => 0)))] [(cA, .int)] xT) (va_Qv (fun (u : Unit) => True) (fun (u : Unit) t => cB (dC, dI) (va_A [(h0, .inr (3, [.ref w0, .ref w1, .ref w2, .ref w3, .ref w4, .ref w5, .int 0, .int 0, .int 0])), (w5, .inl (cA, 15, .inl (fun _ => 0)))] sz) [] [] t) (va_A [(h0, .inr (3, [.ref w0, .ref w1, .ref w2, .ref w3, .ref w4, .ref w5, .int 0, .int 0, .int 0])), (w5, .inl (cA, 15, .inl (fun _ => 0)))] sz)) 0 0 (va_A [(h0, .inr (3, [.ref w0, .ref w1, .ref w2, .ref w3, .ref w4, .ref w5, .int 0, .int 0, .int 0])), (w5, .inl (cA, 15, .inl (fun _ => 0)))] sz) := by
  refine Met.ofW (cc := b_Wo_keepTyped) (maxL := 2) (ret := none) (by decide) rfl ?_
  intro p e s m args below meth c s₁ B hml hv
  obtain ⟨rfl, hsz, hP, hK, hD0, hkw, hX⟩ := hv
  have hx := B.exec
  have hb := B.bytes
  have hr := B.returns
  have hts := fun w hw => atoms_spec (ws := Cond.code y_Wo_keepTyped b_Wo_keepTyped 2 none :: gw) B.pre w (List.mem_cons_of_mem _ hw)
  have hown : s.vm.findClass "LineDisk$Workspace" = some m.cls := findClass_of_methodNamed B.named
  have hlocks := B.notSynchronized
  have hin := (name_of_methodNamed B.named B.method).1
  subst hsz
  have hD := hD0.self (sz := s.heap.size)
  generalize hAe : va_A [(h0, .inr (3, [.ref w0, .ref w1, .ref w2, .ref w3, .ref w4, .ref w5, .int 0, .int 0, .int 0])), (w5, .inl (cA, 15, .inl (fun _ => 0)))] s.heap.size = A at hD ⊢
  have hA : ∀ q : Nat, s.heap.size ≤ q → A q := fun q h => by rw [← hAe]; exact Or.inr h
  have hS : va_S A s.heap s.heap [] := va_S.rf
  have hl := lv_entry ([.ref h0, .int x]) (n := 2) (Nat.le_of_ble_eq_true rfl)
  rw [lg_entry_eq]
  generalize (lg_sl ([.ref h0, .int x]) ++ List.replicate (2 - (lg_sl ([.ref h0, .int x])).length) Slot.unset).toArray = ls at hl ⊢
  have hl : lv_has ls 2 [(0, .ref h0), (1, .int x)] := hl
  have F : CallFix p m c b_Wo_keepTyped 2 s ([.ref h0, .int x]).toArray gw "LineDisk$Workspace" := ⟨hx, hb, hml, hown, hts⟩
  refine lv_aload_n hx hb d_Wo_keepTyped_0 rfl (lv_at hl 0 rfl) ?_
  refine va_get (D := (dC, dI)) (ci := 3) (v := .int 0) (C := R_Wo) (T := F_Wo) (N := 9) hx hb hts in_Wo hown hK hP 0 rfl rfl 8 (by decide) (hts _ w_82) (fun _ h9 => h9) rfl d_Wo_keepTyped_1 ?_
  refine lv_bipush (v := 15) hx hb d_Wo_keepTyped_4 (by decide) ?_
  refine lv_icmp_ge (tgt := 29) hx hb d_Wo_keepTyped_6 (by decide) (fun h => absurd h (by decide)) (fun _ => ?_)
  refine lv_aload_n hx hb d_Wo_keepTyped_9 rfl (lv_at hl 0 rfl) ?_
  refine va_get (D := (dC, dI)) (ci := 3) (v := .ref w5) (C := R_Wo) (T := F_Wo) (N := 9) hx hb hts in_Wo hown hK hP 0 rfl rfl 5 (by decide) (hts _ w_76) (fun _ h9 => h9) rfl d_Wo_keepTyped_10 ?_
  refine lv_aload_n hx hb d_Wo_keepTyped_13 rfl (lv_at hl 0 rfl) ?_
  refine va_get (D := (dC, dI)) (ci := 3) (v := .int 0) (C := R_Wo) (T := F_Wo) (N := 9) hx hb hts in_Wo hown hK hP 0 rfl rfl 8 (by decide) (hts _ w_82) (fun _ h9 => h9) rfl d_Wo_keepTyped_14 ?_
  refine lv_iload_n hx hb d_Wo_keepTyped_17 rfl (lv_at hl 1 rfl) ?_
  refine va_iast hx hb hK hP hD hS 1 0 rfl rfl (vp_in_iff.mpr (by decide)) d_Wo_keepTyped_18 (fun H locs hP hD hS => ?_)
  have hP : va_P (dC, dI) cls [(h0, .inr (3, [.ref w0, .ref w1, .ref w2, .ref w3, .ref w4, .ref w5, .int 0, .int 0, .int 0])), (w5, .inl (cA, 15, .inl (upd (fun _ => 0) (0 : Int32).toNatClampNeg x)))] H := hP
  have hD : va_D A [(h0, .inr (3, [.ref w0, .ref w1, .ref w2, .ref w3, .ref w4, .ref w5, .int 0, .int 0, .int 0])), (w5, .inl (cA, 15, .inl (upd (fun _ => 0) (0 : Int32).toNatClampNeg x)))] := hD
  refine lv_aload_n hx hb d_Wo_keepTyped_19 rfl (lv_at hl 0 rfl) ?_
  refine lv_dup hx hb d_Wo_keepTyped_20 rfl ?_
  refine va_get (D := (dC, dI)) (ci := 3) (v := .int 0) (C := R_Wo) (T := F_Wo) (N := 9) hx hb hts in_Wo hown hK hP 0 rfl rfl 8 (by decide) (hts _ w_82) (fun _ h9 => h9) rfl d_Wo_keepTyped_21 ?_
  refine lv_iconst (v := 1) hx hb d_Wo_keepTyped_24 (by decide) ?_
  refine lv_iadd hx hb d_Wo_keepTyped_25 ?_
  refine tv (x2 := 1) (by decide) ?_
  refine va_put (D := (dC, dI)) (ci := 3) (v := .int 1) (ty := .int) (C := R_Wo) (T := F_Wo) (N := 9) hx hb hts in_Wo t_Wo t_Wo_ok n_Wo hown hK hP hD hS 0 rfl rfl 8 (by decide) (hts _ w_82) (fun _ h9 => h9) rfl (by decide +kernel) (rfl) (rfl) (Nat.le_of_ble_eq_true rfl) d_Wo_keepTyped_26 (fun H locs hP hD hS => ?_)
  have hP : va_P (dC, dI) cls [(h0, .inr (3, [.ref w0, .ref w1, .ref w2, .ref w3, .ref w4, .ref w5, .int 0, .int 0, .int 1])), (w5, .inl (cA, 15, .inl (upd (fun _ => 0) (0 : Int32).toNatClampNeg x)))] H := hP
  have hD : va_D A [(h0, .inr (3, [.ref w0, .ref w1, .ref w2, .ref w3, .ref w4, .ref w5, .int 0, .int 0, .int 1])), (w5, .inl (cA, 15, .inl (upd (fun _ => 0) (0 : Int32).toNatClampNeg x)))] := hD
  refine W.widen (k := 0) (n := 0) (by decide) (by decide) ?_
  exact W.vret hx hb hr (fun t ht hW => ⟨⟨(), rfl, trivial, cB.of (hP.sub [] rfl) (hD.sub [] (by decide) rfl) (hK.sub [] rfl) ht hW⟩, hS.F ht⟩) hS.2.2 d_Wo_keepTyped_29
set_option maxHeartbeats 4000000 in
set_option maxRecDepth 100000 in
theorem c_Wo_placeOf (l : Launch) (dC : Nat → ClassId) (dI : Nat → Nat → Nat) (h0 : Nat) (w0 w1 w2 w3 w4 w5 : Nat) (x : Int32) (sz : Nat) : Met l y_Wo_placeOf (Cond.code y_Wo_placeOf b_Wo_placeOf 3 (some .int) :: gw) ({ frames := 0, cells := 0, slots := 0, locals := 0 }) (cP (dC, dI) [.ref h0, .int x] sz [(h0, .inr (3, [.ref w0, .ref w1, .ref w2, .ref w3, .ref w4, .ref w5, .int 0, .int 0, .int 0]))] [] xT) (va_Qi (fun (r : Int32) (u : Unit) => r = 0) (fun (u : Unit) t => cB (dC, dI) (va_A [(h0, .inr (3, [.ref w0, .ref w1, .ref w2, .ref w3, .ref w4, .ref w5, .int 0, .int 0, .int 0]))] sz) [(h0, .inr (3, [.ref w0, .ref w1, .ref w2, .ref w3, .ref w4, .ref w5, .int 0, .int 0, .int 0]))] [] t) (va_A [(h0, .inr (3, [.ref w0, .ref w1, .ref w2, .ref w3, .ref w4, .ref w5, .int 0, .int 0, .int 0]))] sz)) 0 0 (va_A [(h0, .inr (3, [.ref w0, .ref w1, .ref w2, .ref w3, .ref w4, .ref w5, .int 0, .int 0, .int 0]))] sz) := by
  refine Met.ofW (cc := b_Wo_placeOf) (maxL := 3) (ret := (some .int)) (by decide) rfl ?_
  intro p e s m args below meth c s₁ B hml hv
  obtain ⟨rfl, hsz, hP, hK, hD0, hkw, hX⟩ := hv
  have hx := B.exec
  have hb := B.bytes
  have hr := B.returns
  have hts := fun w hw => atoms_spec (ws := Cond.code y_Wo_placeOf b_Wo_placeOf 3 (some .int) :: gw) B.pre w (List.mem_cons_of_mem _ hw)
  have hown : s.vm.findClass "LineDisk$Workspace" = some m.cls := findClass_of_methodNamed B.named
  have hlocks := B.notSynchronized
  have hin := (name_of_methodNamed B.named B.method).1
  subst hsz
  have hD := hD0.self (sz := s.heap.size)
  generalize hAe : va_A [(h0, .inr (3, [.ref w0, .ref w1, .ref w2, .ref w3, .ref w4, .ref w5, .int 0, .int 0, .int 0]))] s.heap.size = A at hD ⊢
  have hA : ∀ q : Nat, s.heap.size ≤ q → A q := fun q h => by rw [← hAe]; exact Or.inr h
  have hS : va_S A s.heap s.heap [] := va_S.rf
  have hl := lv_entry ([.ref h0, .int x]) (n := 3) (Nat.le_of_ble_eq_true rfl)
  rw [lg_entry_eq]
  generalize (lg_sl ([.ref h0, .int x]) ++ List.replicate (3 - (lg_sl ([.ref h0, .int x])).length) Slot.unset).toArray = ls at hl ⊢
  have hl : lv_has ls 3 [(0, .ref h0), (1, .int x)] := hl
  have F : CallFix p m c b_Wo_placeOf 3 s ([.ref h0, .int x]).toArray gw "LineDisk$Workspace" := ⟨hx, hb, hml, hown, hts⟩
  refine lv_iconst (v := 0) hx hb d_Wo_placeOf_0 (by decide) ?_
  refine lv_istore_n (i := 2) hx hb d_Wo_placeOf_1 rfl hl (by decide) rfl (fun ls hl => ?_)
  have hl : lv_has ls 3 [(2, .int 0), (0, .ref h0), (1, .int x)] := hl
  refine lv_iload_n hx hb d_Wo_placeOf_2 rfl (lv_at hl 0 rfl) ?_
  refine lv_aload_n hx hb d_Wo_placeOf_3 rfl (lv_at hl 1 rfl) ?_
  refine va_get (D := (dC, dI)) (ci := 3) (v := .int 0) (C := R_Wo) (T := F_Wo) (N := 9) hx hb hts in_Wo hown hK hP 0 rfl rfl 6 (by decide) (hts _ w_78) (fun _ h9 => h9) rfl d_Wo_placeOf_4 ?_
  refine lv_icmp_ge (tgt := 26) hx hb d_Wo_placeOf_7 (by decide) (fun _ => ?_) (fun h => absurd (by decide) h)
  refine lv_iload_n hx hb d_Wo_placeOf_26 rfl (lv_at hl 0 rfl) ?_
  refine W.widen (k := 0) (n := 0) (by decide) (by decide) ?_
  exact W.iret (v := 0) hx hb hr (fun t ht hW => ⟨⟨0, (), rfl, rfl, cB.of (hP.sub [0] rfl) (hD.sub [0] (by decide) rfl) (hK.sub [] rfl) ht hW⟩, hS.F ht⟩) hS.2.2 d_Wo_placeOf_27
set_option maxHeartbeats 4000000 in
set_option maxRecDepth 100000 in
theorem c_Wo_nextLine (l : Launch) (dC : Nat → ClassId) (dI : Nat → Nat → Nat) (h0 : Nat) (w0 w1 w2 w3 w4 w5 : Nat) (sz : Nat) : Met l y_Wo_nextLine (Cond.code y_Wo_nextLine b_Wo_nextLine 2 (some .int) :: gw) ({ frames := 1, cells := 0, slots := 0, locals := 22 }) (cP (dC, dI) [.ref h0] sz [(h0, .inr (3, [.ref w0, .ref w1, .ref w2, .ref w3, .ref w4, .ref w5, .int 0, .int 0, .int 0]))] [] xT) (va_Qi (fun (r : Int32) (u : Unit) => r = -1) (fun (u : Unit) t => cB (dC, dI) (va_A [(h0, .inr (3, [.ref w0, .ref w1, .ref w2, .ref w3, .ref w4, .ref w5, .int 0, .int 0, .int 0]))] sz) [(h0, .inr (3, [.ref w0, .ref w1, .ref w2, .ref w3, .ref w4, .ref w5, .int 0, .int 0, .int 0]))] [] t) (va_A [(h0, .inr (3, [.ref w0, .ref w1, .ref w2, .ref w3, .ref w4, .ref w5, .int 0, .int 0, .int 0]))] sz)) 0 0 (va_A [(h0, .inr (3, [.ref w0, .ref w1, .ref w2, .ref w3, .ref w4, .ref w5, .int 0, .int 0, .int 0]))] sz) := by
  refine Met.ofW (cc := b_Wo_nextLine) (maxL := 2) (ret := (some .int)) (by decide) rfl ?_
  intro p e s m args below meth c s₁ B hml hv
  obtain ⟨rfl, hsz, hP, hK, hD0, hkw, hX⟩ := hv
  have hx := B.exec
  have hb := B.bytes
  have hr := B.returns
  have hts := fun w hw => atoms_spec (ws := Cond.code y_Wo_nextLine b_Wo_nextLine 2 (some .int) :: gw) B.pre w (List.mem_cons_of_mem _ hw)
  have hown : s.vm.findClass "LineDisk$Workspace" = some m.cls := findClass_of_methodNamed B.named
  have hlocks := B.notSynchronized
  have hin := (name_of_methodNamed B.named B.method).1
  subst hsz
  have hD := hD0.self (sz := s.heap.size)
  generalize hAe : va_A [(h0, .inr (3, [.ref w0, .ref w1, .ref w2, .ref w3, .ref w4, .ref w5, .int 0, .int 0, .int 0]))] s.heap.size = A at hD ⊢
  have hA : ∀ q : Nat, s.heap.size ≤ q → A q := fun q h => by rw [← hAe]; exact Or.inr h
  have hS : va_S A s.heap s.heap [] := va_S.rf
  have hl := lv_entry ([.ref h0]) (n := 2) (Nat.le_of_ble_eq_true rfl)
  rw [lg_entry_eq]
  generalize (lg_sl ([.ref h0]) ++ List.replicate (2 - (lg_sl ([.ref h0])).length) Slot.unset).toArray = ls at hl ⊢
  have hl : lv_has ls 2 [(0, .ref h0)] := hl
  have F : CallFix p m c b_Wo_nextLine 2 s ([.ref h0]).toArray gw "LineDisk$Workspace" := ⟨hx, hb, hml, hown, hts⟩
  refine lv_aload_n hx hb d_Wo_nextLine_0 rfl (lv_at hl 0 rfl) ?_
  refine lv_aload_n hx hb d_Wo_nextLine_1 rfl (lv_at hl 0 rfl) ?_
  refine va_get (D := (dC, dI)) (ci := 3) (v := .int 0) (C := R_Wo) (T := F_Wo) (N := 9) hx hb hts in_Wo hown hK hP 0 rfl rfl 7 (by decide) (hts _ w_80) (fun _ h9 => h9) rfl d_Wo_nextLine_2 ?_
  refine go_i (wr := []) (tr := []) (rV (C := "LineDisk$Workspace") (ci := 3) (q0 := 0) (b := h0) (n := 1) (As := [.int 0]) (rest := []) F hkw (c_Wo_placeOf l dC dI h0 w0 w1 w2 w3 w4 w5 0 s.heap.size) xT_bl (fun _ _ _ => trivial) w_239 w_241 ws_2 w_4 w_242 rfl rfl (by decide +kernel) ⟨Nat.le_of_ble_eq_true rfl, Nat.le_of_ble_eq_true rfl⟩ (hP.sub (ws' := [(h0, .inr (3, [.ref w0, .ref w1, .ref w2, .ref w3, .ref w4, .ref w5, .int 0, .int 0, .int 0]))]) [0] rfl) (hD.sub (ws' := [(h0, .inr (3, [.ref w0, .ref w1, .ref w2, .ref w3, .ref w4, .ref w5, .int 0, .int 0, .int 0]))]) [0] (by decide) rfl) (hK.sub (tys' := []) [] rfl) rfl rfl rfl rfl hl.1 rfl (Nat.le_of_ble_eq_true rfl) d_Wo_nextLine_5 ⟨by decide, by decide⟩) hP hD hK hS hA [0] [] [] rfl rfl (by decide) (by decide) rfl (fun r u H locs hw hP hD hK hS => ?_)
  have hP : va_P (dC, dI) cls [(h0, .inr (3, [.ref w0, .ref w1, .ref w2, .ref w3, .ref w4, .ref w5, .int 0, .int 0, .int 0]))] H := hP
  have hD : va_D A [(h0, .inr (3, [.ref w0, .ref w1, .ref w2, .ref w3, .ref w4, .ref w5, .int 0, .int 0, .int 0]))] := hD
  have hK : va_K (dC, dI) cls [] s := hK
  refine W.widen (k := 0) (n := 0) (by omega) (by omega) ?_
  subst hw
  refine lv_istore_n (i := 1) hx hb d_Wo_nextLine_8 rfl hl (by decide) rfl (fun ls hl => ?_)
  have hl : lv_has ls 2 [(1, .int 0), (0, .ref h0)] := hl
  refine lv_iload_n hx hb d_Wo_nextLine_9 rfl (lv_at hl 0 rfl) ?_
  refine lv_aload_n hx hb d_Wo_nextLine_10 rfl (lv_at hl 1 rfl) ?_
  refine va_get (D := (dC, dI)) (ci := 3) (v := .int 0) (C := R_Wo) (T := F_Wo) (N := 9) hx hb hts in_Wo hown hK hP 0 rfl rfl 6 (by decide) (hts _ w_78) (fun _ h9 => h9) rfl d_Wo_nextLine_11 ?_
  refine lv_icmp_ge (tgt := 21) hx hb d_Wo_nextLine_14 (by decide) (fun _ => ?_) (fun h => absurd (by decide) h)
  refine lv_iconst (v := (-1)) hx hb d_Wo_nextLine_21 (by decide) ?_
  refine W.widen (k := 0) (n := 0) (by decide) (by decide) ?_
  exact W.iret (v := (-1)) hx hb hr (fun t ht hW => ⟨⟨(-1), (), rfl, rfl, cB.of (hP.sub [0] rfl) (hD.sub [0] (by decide) rfl) (hK.sub [] rfl) ht hW⟩, hS.F ht⟩) hS.2.2 d_Wo_nextLine_22
set_option maxHeartbeats 4000000 in
set_option maxRecDepth 100000 in
theorem c_Wo_numberOf (l : Launch) (dC : Nat → ClassId) (dI : Nat → Nat → Nat) (h0 : Nat) (w0 w1 w2 w3 w4 w5 : Nat) (sz : Nat) : Met l y_Wo_numberOf (Cond.code y_Wo_numberOf b_Wo_numberOf 2 (some .int) :: gw) ({ frames := 0, cells := 0, slots := 0, locals := 0 }) (cP (dC, dI) [.ref h0, .int (-1)] sz [(h0, .inr (3, [.ref w0, .ref w1, .ref w2, .ref w3, .ref w4, .ref w5, .int 0, .int 0, .int 0]))] [] xT) (va_Qi (fun (r : Int32) (u : Unit) => r = 0) (fun (u : Unit) t => cB (dC, dI) (va_A [(h0, .inr (3, [.ref w0, .ref w1, .ref w2, .ref w3, .ref w4, .ref w5, .int 0, .int 0, .int 0]))] sz) [(h0, .inr (3, [.ref w0, .ref w1, .ref w2, .ref w3, .ref w4, .ref w5, .int 0, .int 0, .int 0]))] [] t) (va_A [(h0, .inr (3, [.ref w0, .ref w1, .ref w2, .ref w3, .ref w4, .ref w5, .int 0, .int 0, .int 0]))] sz)) 0 0 (va_A [(h0, .inr (3, [.ref w0, .ref w1, .ref w2, .ref w3, .ref w4, .ref w5, .int 0, .int 0, .int 0]))] sz) := by
  refine Met.ofW (cc := b_Wo_numberOf) (maxL := 2) (ret := (some .int)) (by decide) rfl ?_
  intro p e s m args below meth c s₁ B hml hv
  obtain ⟨rfl, hsz, hP, hK, hD0, hkw, hX⟩ := hv
  have hx := B.exec
  have hb := B.bytes
  have hr := B.returns
  have hts := fun w hw => atoms_spec (ws := Cond.code y_Wo_numberOf b_Wo_numberOf 2 (some .int) :: gw) B.pre w (List.mem_cons_of_mem _ hw)
  have hown : s.vm.findClass "LineDisk$Workspace" = some m.cls := findClass_of_methodNamed B.named
  have hlocks := B.notSynchronized
  have hin := (name_of_methodNamed B.named B.method).1
  subst hsz
  have hD := hD0.self (sz := s.heap.size)
  generalize hAe : va_A [(h0, .inr (3, [.ref w0, .ref w1, .ref w2, .ref w3, .ref w4, .ref w5, .int 0, .int 0, .int 0]))] s.heap.size = A at hD ⊢
  have hA : ∀ q : Nat, s.heap.size ≤ q → A q := fun q h => by rw [← hAe]; exact Or.inr h
  have hS : va_S A s.heap s.heap [] := va_S.rf
  have hl := lv_entry ([.ref h0, .int (-1)]) (n := 2) (Nat.le_of_ble_eq_true rfl)
  rw [lg_entry_eq]
  generalize (lg_sl ([.ref h0, .int (-1)]) ++ List.replicate (2 - (lg_sl ([.ref h0, .int (-1)])).length) Slot.unset).toArray = ls at hl ⊢
  have hl : lv_has ls 2 [(0, .ref h0), (1, .int (-1))] := hl
  have F : CallFix p m c b_Wo_numberOf 2 s ([.ref h0, .int (-1)]).toArray gw "LineDisk$Workspace" := ⟨hx, hb, hml, hown, hts⟩
  refine lv_iload_n hx hb d_Wo_numberOf_0 rfl (lv_at hl 1 rfl) ?_
  refine lv_if_lt (tgt := 21) hx hb d_Wo_numberOf_1 (by decide) (fun _ => ?_) (fun h => absurd (by decide) h)
  refine lv_iconst (v := 0) hx hb d_Wo_numberOf_21 (by decide) ?_
  refine W.widen (k := 0) (n := 0) (by decide) (by decide) ?_
  exact W.iret (v := 0) hx hb hr (fun t ht hW => ⟨⟨0, (), rfl, rfl, cB.of (hP.sub [0] rfl) (hD.sub [0] (by decide) rfl) (hK.sub [] rfl) ht hW⟩, hS.F ht⟩) hS.2.2 d_Wo_numberOf_22
set_option maxHeartbeats 4000000 in
set_option maxRecDepth 100000 in
theorem c_Ld_outs (l : Launch) (dC : Nat → ClassId) (dI : Nat → Nat → Nat) (h0 o0 o1 o2 o3 o4 : Nat) (sz : Nat) : Met l y_Ld_outs (Cond.code y_Ld_outs b_Ld_outs 1 (some .int) :: gw) ({ frames := 0, cells := 0, slots := 0, locals := 0 }) (cP (dC, dI) [.ref h0] sz [(h0, .inr (0, [.ref o0, .ref o1, .ref o2, .ref o3, .ref o4, .int 0]))] [] xT) (va_Qi (fun (r : Int32) (u : Unit) => r = 0) (fun (u : Unit) t => cB (dC, dI) (va_A [(h0, .inr (0, [.ref o0, .ref o1, .ref o2, .ref o3, .ref o4, .int 0]))] sz) [] [] t) (va_A [(h0, .inr (0, [.ref o0, .ref o1, .ref o2, .ref o3, .ref o4, .int 0]))] sz)) 0 0 (va_A [(h0, .inr (0, [.ref o0, .ref o1, .ref o2, .ref o3, .ref o4, .int 0]))] sz) := by
  refine Met.ofW (cc := b_Ld_outs) (maxL := 1) (ret := (some .int)) (by decide) rfl ?_
  intro p e s m args below meth c s₁ B hml hv
  obtain ⟨rfl, hsz, hP, hK, hD0, hkw, hX⟩ := hv
  have hx := B.exec
  have hb := B.bytes
  have hr := B.returns
  have hts := fun w hw => atoms_spec (ws := Cond.code y_Ld_outs b_Ld_outs 1 (some .int) :: gw) B.pre w (List.mem_cons_of_mem _ hw)
  have hown : s.vm.findClass "LineDisk" = some m.cls := findClass_of_methodNamed B.named
  have hlocks := B.notSynchronized
  have hin := (name_of_methodNamed B.named B.method).1
  subst hsz
  have hD := hD0.self (sz := s.heap.size)
  generalize hAe : va_A [(h0, .inr (0, [.ref o0, .ref o1, .ref o2, .ref o3, .ref o4, .int 0]))] s.heap.size = A at hD ⊢
  have hA : ∀ q : Nat, s.heap.size ≤ q → A q := fun q h => by rw [← hAe]; exact Or.inr h
  have hS : va_S A s.heap s.heap [] := va_S.rf
  have hl := lv_entry ([.ref h0]) (n := 1) (Nat.le_of_ble_eq_true rfl)
  rw [lg_entry_eq]
  generalize (lg_sl ([.ref h0]) ++ List.replicate (1 - (lg_sl ([.ref h0])).length) Slot.unset).toArray = ls at hl ⊢
  have hl : lv_has ls 1 [(0, .ref h0)] := hl
  have F : CallFix p m c b_Ld_outs 1 s ([.ref h0]).toArray gw "LineDisk" := ⟨hx, hb, hml, hown, hts⟩
  refine lv_aload_n hx hb d_Ld_outs_0 rfl (lv_at hl 0 rfl) ?_
  refine va_get (D := (dC, dI)) (ci := 0) (v := .int 0) (C := R_Ld) (T := F_Ld) (N := 6) hx hb hts in_Ld hown hK hP 0 rfl rfl 5 (by decide) (hts _ w_157) (fun _ h9 => h9) rfl d_Ld_outs_1 ?_
  refine W.widen (k := 0) (n := 0) (by decide) (by decide) ?_
  exact W.iret (v := 0) hx hb hr (fun t ht hW => ⟨⟨0, (), rfl, rfl, cB.of (hP.sub [] rfl) (hD.sub [] (by decide) rfl) (hK.sub [] rfl) ht hW⟩, hS.F ht⟩) hS.2.2 d_Ld_outs_4
set_option maxHeartbeats 4000000 in
set_option maxRecDepth 100000 in
theorem c_Ld_oneStep (l : Launch) (dC : Nat → ClassId) (dI : Nat → Nat → Nat) (h0 o0 o1 o2 o3 o4 : Nat) (w0 w1 w2 w3 w4 w5 : Nat) (sz : Nat) : Met l y_Ld_oneStep (Cond.code y_Ld_oneStep b_Ld_oneStep 4 (some .int) :: gw) ({ frames := 2, cells := 0, slots := 0, locals := 43 }) (cP (dC, dI) [.ref h0] sz [(h0, .inr (0, [.ref o0, .ref o1, .ref o2, .ref o3, .ref o4, .int 0])), (o2, .inr (3, [.ref w0, .ref w1, .ref w2, .ref w3, .ref w4, .ref w5, .int 0, .int 0, .int 0]))] [] xT) (va_Qi (fun (r : Int32) (u : Unit) => r = 0) (fun (u : Unit) t => cB (dC, dI) (va_A [(h0, .inr (0, [.ref o0, .ref o1, .ref o2, .ref o3, .ref o4, .int 0])), (o2, .inr (3, [.ref w0, .ref w1, .ref w2, .ref w3, .ref w4, .ref w5, .int 0, .int 0, .int 0]))] sz) [] [] t) (va_A [(h0, .inr (0, [.ref o0, .ref o1, .ref o2, .ref o3, .ref o4, .int 0])), (o2, .inr (3, [.ref w0, .ref w1, .ref w2, .ref w3, .ref w4, .ref w5, .int 0, .int 0, .int 0]))] sz)) 0 0 (va_A [(h0, .inr (0, [.ref o0, .ref o1, .ref o2, .ref o3, .ref o4, .int 0])), (o2, .inr (3, [.ref w0, .ref w1, .ref w2, .ref w3, .ref w4, .ref w5, .int 0, .int 0, .int 0]))] sz) := by
  refine Met.ofW (cc := b_Ld_oneStep) (maxL := 4) (ret := (some .int)) (by decide) rfl ?_
  intro p e s m args below meth c s₁ B hml hv
  obtain ⟨rfl, hsz, hP, hK, hD0, hkw, hX⟩ := hv
  have hx := B.exec
  have hb := B.bytes
  have hr := B.returns
  have hts := fun w hw => atoms_spec (ws := Cond.code y_Ld_oneStep b_Ld_oneStep 4 (some .int) :: gw) B.pre w (List.mem_cons_of_mem _ hw)
  have hown : s.vm.findClass "LineDisk" = some m.cls := findClass_of_methodNamed B.named
  have hlocks := B.notSynchronized
  have hin := (name_of_methodNamed B.named B.method).1
  subst hsz
  have hD := hD0.self (sz := s.heap.size)
  generalize hAe : va_A [(h0, .inr (0, [.ref o0, .ref o1, .ref o2, .ref o3, .ref o4, .int 0])), (o2, .inr (3, [.ref w0, .ref w1, .ref w2, .ref w3, .ref w4, .ref w5, .int 0, .int 0, .int 0]))] s.heap.size = A at hD ⊢
  have hA : ∀ q : Nat, s.heap.size ≤ q → A q := fun q h => by rw [← hAe]; exact Or.inr h
  have hS : va_S A s.heap s.heap [] := va_S.rf
  have hl := lv_entry ([.ref h0]) (n := 4) (Nat.le_of_ble_eq_true rfl)
  rw [lg_entry_eq]
  generalize (lg_sl ([.ref h0]) ++ List.replicate (4 - (lg_sl ([.ref h0])).length) Slot.unset).toArray = ls at hl ⊢
  have hl : lv_has ls 4 [(0, .ref h0)] := hl
  have F : CallFix p m c b_Ld_oneStep 4 s ([.ref h0]).toArray gw "LineDisk" := ⟨hx, hb, hml, hown, hts⟩
  refine lv_aload_n hx hb d_Ld_oneStep_0 rfl (lv_at hl 0 rfl) ?_
  refine va_get (D := (dC, dI)) (ci := 0) (v := .ref o2) (C := R_Ld) (T := F_Ld) (N := 6) hx hb hts in_Ld hown hK hP 0 rfl rfl 2 (by decide) (hts _ w_154) (fun _ h9 => h9) rfl d_Ld_oneStep_1 ?_
  refine go_i (wr := [(h0, .inr (0, [.ref o0, .ref o1, .ref o2, .ref o3, .ref o4, .int 0]))]) (tr := []) (rV (C := "LineDisk$Workspace") (ci := 3) (q0 := 0) (b := o2) (n := 0) (As := []) (rest := []) F hkw (c_Wo_nextLine l dC dI o2 w0 w1 w2 w3 w4 w5 s.heap.size) xT_bl (fun _ _ _ => trivial) w_439 w_440 w_441 w_4 w_442 rfl rfl (by decide +kernel) ⟨Nat.le_of_ble_eq_true rfl, Nat.le_of_ble_eq_true rfl⟩ (hP.sub (ws' := [(o2, .inr (3, [.ref w0, .ref w1, .ref w2, .ref w3, .ref w4, .ref w5, .int 0, .int 0, .int 0]))]) [1] rfl) (hD.sub (ws' := [(o2, .inr (3, [.ref w0, .ref w1, .ref w2, .ref w3, .ref w4, .ref w5, .int 0, .int 0, .int 0]))]) [1] (by decide) rfl) (hK.sub (tys' := []) [] rfl) rfl rfl rfl rfl hl.1 rfl (Nat.le_of_ble_eq_true rfl) d_Ld_oneStep_4 ⟨by decide, by decide⟩) hP hD hK hS hA [1] [0] [] rfl rfl (by decide) (by decide) rfl (fun r u H locs hw hP hD hK hS => ?_)
  have hP : va_P (dC, dI) cls [(h0, .inr (0, [.ref o0, .ref o1, .ref o2, .ref o3, .ref o4, .int 0])), (o2, .inr (3, [.ref w0, .ref w1, .ref w2, .ref w3, .ref w4, .ref w5, .int 0, .int 0, .int 0]))] H := hP
  have hD : va_D A [(h0, .inr (0, [.ref o0, .ref o1, .ref o2, .ref o3, .ref o4, .int 0])), (o2, .inr (3, [.ref w0, .ref w1, .ref w2, .ref w3, .ref w4, .ref w5, .int 0, .int 0, .int 0]))] := hD
  have hK : va_K (dC, dI) cls [] s := hK
  refine W.widen (k := 0) (n := 0) (by omega) (by omega) ?_
  subst hw
  refine lv_istore_n (i := 1) hx hb d_Ld_oneStep_7 rfl hl (by decide) rfl (fun ls hl => ?_)
  have hl : lv_has ls 4 [(1, .int (-1)), (0, .ref h0)] := hl
  refine lv_iload_n hx hb d_Ld_oneStep_8 rfl (lv_at hl 0 rfl) ?_
  refine lv_iconst (v := (-1)) hx hb d_Ld_oneStep_9 (by decide) ?_
  refine lv_icmp_eq (tgt := 54) hx hb d_Ld_oneStep_10 (by decide) (fun _ => ?_) (fun h => absurd (by decide) h)
  refine lv_iconst (v := 0) hx hb d_Ld_oneStep_54 (by decide) ?_
  refine lv_istore_n (i := 2) hx hb d_Ld_oneStep_55 rfl hl (by decide) rfl (fun ls hl => ?_)
  have hl : lv_has ls 4 [(2, .int 0), (1, .int (-1)), (0, .ref h0)] := hl
  refine lv_iload_n hx hb d_Ld_oneStep_56 rfl (lv_at hl 0 rfl) ?_
  refine lv_if_eq (tgt := 72) hx hb d_Ld_oneStep_57 (by decide) (fun _ => ?_) (fun h => absurd (by decide) h)
  refine lv_aload_n hx hb d_Ld_oneStep_72 rfl (lv_at hl 2 rfl) ?_
  refine va_get (D := (dC, dI)) (ci := 0) (v := .ref o2) (C := R_Ld) (T := F_Ld) (N := 6) hx hb hts in_Ld hown hK hP 0 rfl rfl 2 (by decide) (hts _ w_154) (fun _ h9 => h9) rfl d_Ld_oneStep_73 ?_
  refine lv_iconst (v := 0) hx hb d_Ld_oneStep_76 (by decide) ?_
  refine va_putN (D := (dC, dI)) (ci := 3) (v := .int 0) (ty := .int) (C := R_Wo) (T := F_Wo) (N := 9) hx hb hts in_Wo t_Wo t_Wo_ok n_Wo hown hK hP hD hS 1 rfl rfl 7 (by decide) (hkw.use v_81 rfl) (fun _ h9 => h9) rfl (by decide +kernel) (rfl) (rfl) (Nat.le_of_ble_eq_true rfl) d_Ld_oneStep_77 (fun H locs hP hD hS => ?_)
  have hP : va_P (dC, dI) cls [(h0, .inr (0, [.ref o0, .ref o1, .ref o2, .ref o3, .ref o4, .int 0])), (o2, .inr (3, [.ref w0, .ref w1, .ref w2, .ref w3, .ref w4, .ref w5, .int 0, .int 0, .int 0]))] H := hP
  have hD : va_D A [(h0, .inr (0, [.ref o0, .ref o1, .ref o2, .ref o3, .ref o4, .int 0])), (o2, .inr (3, [.ref w0, .ref w1, .ref w2, .ref w3, .ref w4, .ref w5, .int 0, .int 0, .int 0]))] := hD
  refine lv_iconst (v := 0) hx hb d_Ld_oneStep_80 (by decide) ?_
  refine W.widen (k := 0) (n := 0) (by decide) (by decide) ?_
  exact W.iret (v := 0) hx hb hr (fun t ht hW => ⟨⟨0, (), rfl, rfl, cB.of (hP.sub [] rfl) (hD.sub [] (by decide) rfl) (hK.sub [] rfl) ht hW⟩, hS.F ht⟩) hS.2.2 d_Ld_oneStep_81
set_option maxHeartbeats 4000000 in
set_option maxRecDepth 100000 in
theorem c_Ld_step (l : Launch) (dC : Nat → ClassId) (dI : Nat → Nat → Nat) (h0 o0 o1 o2 o3 o4 : Nat) (c0 : Nat) (w0 w1 w2 w3 w4 w5 : Nat) (x : Int32) (sz : Nat) : Met l y_Ld_step (Cond.code y_Ld_step b_Ld_step 5 (some .int) :: gw) ({ frames := 3, cells := 0, slots := 0, locals := 66 }) (cP (dC, dI) [.ref h0, .int x] sz [(h0, .inr (0, [.ref o0, .ref o1, .ref o2, .ref o3, .ref o4, .int 0])), (o0, .inr (1, [.ref c0, .int (-1), .int 0, .int 0])), (o2, .inr (3, [.ref w0, .ref w1, .ref w2, .ref w3, .ref w4, .ref w5, .int 0, .int 0, .int 0]))] [] xT) (va_Qi (fun (r : Int32) (u : Unit) => r = 0) (fun (u : Unit) t => cB (dC, dI) (va_A [(h0, .inr (0, [.ref o0, .ref o1, .ref o2, .ref o3, .ref o4, .int 0])), (o0, .inr (1, [.ref c0, .int (-1), .int 0, .int 0])), (o2, .inr (3, [.ref w0, .ref w1, .ref w2, .ref w3, .ref w4, .ref w5, .int 0, .int 0, .int 0]))] sz) [] [] t) (va_A [(h0, .inr (0, [.ref o0, .ref o1, .ref o2, .ref o3, .ref o4, .int 0])), (o0, .inr (1, [.ref c0, .int (-1), .int 0, .int 0])), (o2, .inr (3, [.ref w0, .ref w1, .ref w2, .ref w3, .ref w4, .ref w5, .int 0, .int 0, .int 0]))] sz)) 0 0 (va_A [(h0, .inr (0, [.ref o0, .ref o1, .ref o2, .ref o3, .ref o4, .int 0])), (o0, .inr (1, [.ref c0, .int (-1), .int 0, .int 0])), (o2, .inr (3, [.ref w0, .ref w1, .ref w2, .ref w3, .ref w4, .ref w5, .int 0, .int 0, .int 0]))] sz) := by
  refine Met.ofW (cc := b_Ld_step) (maxL := 5) (ret := (some .int)) (by decide) rfl ?_
  intro p e s m args below meth c s₁ B hml hv
  obtain ⟨rfl, hsz, hP, hK, hD0, hkw, hX⟩ := hv
  have hx := B.exec
  have hb := B.bytes
  have hr := B.returns
  have hts := fun w hw => atoms_spec (ws := Cond.code y_Ld_step b_Ld_step 5 (some .int) :: gw) B.pre w (List.mem_cons_of_mem _ hw)
  have hown : s.vm.findClass "LineDisk" = some m.cls := findClass_of_methodNamed B.named
  have hlocks := B.notSynchronized
  have hin := (name_of_methodNamed B.named B.method).1
  subst hsz
  have hD := hD0.self (sz := s.heap.size)
  generalize hAe : va_A [(h0, .inr (0, [.ref o0, .ref o1, .ref o2, .ref o3, .ref o4, .int 0])), (o0, .inr (1, [.ref c0, .int (-1), .int 0, .int 0])), (o2, .inr (3, [.ref w0, .ref w1, .ref w2, .ref w3, .ref w4, .ref w5, .int 0, .int 0, .int 0]))] s.heap.size = A at hD ⊢
  have hA : ∀ q : Nat, s.heap.size ≤ q → A q := fun q h => by rw [← hAe]; exact Or.inr h
  have hS : va_S A s.heap s.heap [] := va_S.rf
  have hl := lv_entry ([.ref h0, .int x]) (n := 5) (Nat.le_of_ble_eq_true rfl)
  rw [lg_entry_eq]
  generalize (lg_sl ([.ref h0, .int x]) ++ List.replicate (5 - (lg_sl ([.ref h0, .int x])).length) Slot.unset).toArray = ls at hl ⊢
  have hl : lv_has ls 5 [(0, .ref h0), (1, .int x)] := hl
  have F : CallFix p m c b_Ld_step 5 s ([.ref h0, .int x]).toArray gw "LineDisk" := ⟨hx, hb, hml, hown, hts⟩
  refine lv_aload_n hx hb d_Ld_step_0 rfl (lv_at hl 0 rfl) ?_
  refine va_get (D := (dC, dI)) (ci := 0) (v := .ref o0) (C := R_Ld) (T := F_Ld) (N := 6) hx hb hts in_Ld hown hK hP 0 rfl rfl 0 (by decide) (hts _ w_152) (fun _ h9 => h9) rfl d_Ld_step_1 ?_
  refine va_getN (D := (dC, dI)) (ci := 1) (v := .int 0) (C := R_St) (T := F_St) (N := 4) hx hb hts in_St hown hK hP 1 rfl rfl 2 (by decide) (hkw.use v_33 rfl) (fun _ h9 => h9) rfl d_Ld_step_4 ?_
  refine lv_if_eq (tgt := 13) hx hb d_Ld_step_7 (by decide) (fun _ => ?_) (fun h => absurd (by decide) h)
  refine lv_iconst (v := 1) hx hb d_Ld_step_13 (by decide) ?_
  refine lv_bipush (v := 50) hx hb d_Ld_step_14 (by decide) ?_
  refine lv_iload_n hx hb d_Ld_step_16 rfl (lv_at hl 1 rfl) ?_
  refine va_mmin (rest := [.int 1]) hx hb (by rw [hml]; exact hl.1.symm) hown (hts _ w_429) (hts _ w_430) (hts _ w_9) (hts _ w_431) (Nat.le_of_ble_eq_true rfl) (Nat.le_of_ble_eq_true rfl) (by decide) (by decide) d_Ld_step_17 ?_
  refine va_mmax (rest := []) hx hb (by rw [hml]; exact hl.1.symm) hown (hts _ w_432) (hts _ w_433) (hts _ w_9) (hts _ w_434) (Nat.le_of_ble_eq_true rfl) (Nat.le_of_ble_eq_true rfl) (by decide) (by decide) d_Ld_step_20 ?_
  refine lv_topi (fun mo emo => ?_)
  refine lv_istore_n (i := 2) hx hb d_Ld_step_23 rfl hl (by decide) rfl (fun ls hl => ?_)
  have hl : lv_has ls 5 [(2, .int mo), (0, .ref h0), (1, .int x)] := hl
  refine lv_iconst (v := 0) hx hb d_Ld_step_24 (by decide) ?_
  refine lv_istore_n (i := 3) hx hb d_Ld_step_25 rfl hl (by decide) rfl (fun ls hl => ?_)
  have hl : lv_has ls 5 [(3, .int 0), (2, .int mo), (0, .ref h0), (1, .int x)] := hl
  refine lv_iload_n hx hb d_Ld_step_26 rfl (lv_at hl 0 rfl) ?_
  refine lv_iload_n hx hb d_Ld_step_27 rfl (lv_at hl 1 rfl) ?_
  refine lv_icmp_ge (tgt := 53) hx hb d_Ld_step_28 (by decide) (fun h => absurd h (by rw [emo]; exact mm1 _)) (fun _ => ?_)
  refine lv_aload_n hx hb d_Ld_step_31 rfl (lv_at hl 2 rfl) ?_
  refine go_i (wr := [(o0, .inr (1, [.ref c0, .int (-1), .int 0, .int 0]))]) (tr := []) (rV (C := "LineDisk") (ci := 0) (q0 := 0) (b := h0) (n := 0) (As := []) (rest := []) F hkw (c_Ld_oneStep l dC dI h0 o0 o1 o2 o3 o4 w0 w1 w2 w3 w4 w5 s.heap.size) xT_bl (fun _ _ _ => trivial) w_435 w_437 ws_27 w_1 w_438 rfl rfl (by decide +kernel) ⟨Nat.le_of_ble_eq_true rfl, Nat.le_of_ble_eq_true rfl⟩ (hP.sub (ws' := [(h0, .inr (0, [.ref o0, .ref o1, .ref o2, .ref o3, .ref o4, .int 0])), (o2, .inr (3, [.ref w0, .ref w1, .ref w2, .ref w3, .ref w4, .ref w5, .int 0, .int 0, .int 0]))]) [0, 2] rfl) (hD.sub (ws' := [(h0, .inr (0, [.ref o0, .ref o1, .ref o2, .ref o3, .ref o4, .int 0])), (o2, .inr (3, [.ref w0, .ref w1, .ref w2, .ref w3, .ref w4, .ref w5, .int 0, .int 0, .int 0]))]) [0, 2] (by decide) rfl) (hK.sub (tys' := []) [] rfl) rfl rfl rfl rfl hl.1 rfl (Nat.le_of_ble_eq_true rfl) d_Ld_step_32 ⟨by decide, by decide⟩) hP hD hK hS hA [0, 2] [1] [] rfl rfl (by decide) (by decide) rfl (fun r u H locs hw hP hD hK hS => ?_)
  have hP : va_P (dC, dI) cls [(o0, .inr (1, [.ref c0, .int (-1), .int 0, .int 0]))] H := hP
  have hD : va_D A [(o0, .inr (1, [.ref c0, .int (-1), .int 0, .int 0]))] := hD
  have hK : va_K (dC, dI) cls [] s := hK
  refine W.widen (k := 0) (n := 0) (by omega) (by omega) ?_
  subst hw
  refine lv_istore hx hb d_Ld_step_35 hl (by decide) rfl (fun ls hl => ?_)
  have hl : lv_has ls 5 [(4, .int 0), (3, .int 0), (2, .int mo), (0, .ref h0), (1, .int x)] := hl
  refine lv_iload hx hb d_Ld_step_37 (lv_at hl 0 rfl) ?_
  refine lv_bipush (v := 6) hx hb d_Ld_step_39 (by decide) ?_
  refine lv_icmp_eq (tgt := 47) hx hb d_Ld_step_41 (by decide) (fun h => absurd h (by decide)) (fun _ => ?_)
  refine lv_iload hx hb d_Ld_step_44 (lv_at hl 0 rfl) ?_
  refine W.widen (k := 0) (n := 0) (by decide) (by decide) ?_
  exact W.iret (v := 0) hx hb hr (fun t ht hW => ⟨⟨0, (), rfl, rfl, cB.of (hP.sub [] rfl) (hD.sub [] (by decide) rfl) (hK.sub [] rfl) ht hW⟩, hS.F ht⟩) hS.2.2 d_Ld_step_46
set_option maxHeartbeats 4000000 in
set_option maxRecDepth 100000 in
theorem c_Ld_feed (l : Launch) (dC : Nat → ClassId) (dI : Nat → Nat → Nat) (h0 o0 o1 o2 o3 o4 : Nat) (c0 : Nat) (w0 w1 w2 w3 w4 w5 : Nat) (cA : ClassId) (x : Int32) (sz : Nat) : Met l y_Ld_feed (Cond.code y_Ld_feed b_Ld_feed 4 (some .int) :: gw) ({ frames := 1, cells := 0, slots := 0, locals := 21 }) (cP (dC, dI) [.ref h0, .int x] sz [(h0, .inr (0, [.ref o0, .ref o1, .ref o2, .ref o3, .ref o4, .int 0])), (o0, .inr (1, [.ref c0, .int (-1), .int 0, .int 0])), (o2, .inr (3, [.ref w0, .ref w1, .ref w2, .ref w3, .ref w4, .ref w5, .int 0, .int 0, .int 0])), (w5, .inl (cA, 15, .inl (fun _ => 0)))] [(cA, .int)] xT) (va_Qi (fun (r : Int32) (u : Unit) => r = 0) (fun (u : Unit) t => cB (dC, dI) (va_A [(h0, .inr (0, [.ref o0, .ref o1, .ref o2, .ref o3, .ref o4, .int 0])), (o0, .inr (1, [.ref c0, .int (-1), .int 0, .int 0])), (o2, .inr (3, [.ref w0, .ref w1, .ref w2, .ref w3, .ref w4, .ref w5, .int 0, .int 0, .int 0])), (w5, .inl (cA, 15, .inl (fun _ => 0)))] sz) [] [] t) (va_A [(h0, .inr (0, [.ref o0, .ref o1, .ref o2, .ref o3, .ref o4, .int 0])), (o0, .inr (1, [.ref c0, .int (-1), .int 0, .int 0])), (o2, .inr (3, [.ref w0, .ref w1, .ref w2, .ref w3, .ref w4, .ref w5, .int 0, .int 0, .int 0])), (w5, .inl (cA, 15, .inl (fun _ => 0)))] sz)) 0 0 (va_A [(h0, .inr (0, [.ref o0, .ref o1, .ref o2, .ref o3, .ref o4, .int 0])), (o0, .inr (1, [.ref c0, .int (-1), .int 0, .int 0])), (o2, .inr (3, [.ref w0, .ref w1, .ref w2, .ref w3, .ref w4, .ref w5, .int 0, .int 0, .int 0])), (w5, .inl (cA, 15, .inl (fun _ => 0)))] sz) := by
  refine Met.ofW (cc := b_Ld_feed) (maxL := 4) (ret := (some .int)) (by decide) rfl ?_
  intro p e s m args below meth c s₁ B hml hv
  obtain ⟨rfl, hsz, hP, hK, hD0, hkw, hX⟩ := hv
  have hx := B.exec
  have hb := B.bytes
  have hr := B.returns
  have hts := fun w hw => atoms_spec (ws := Cond.code y_Ld_feed b_Ld_feed 4 (some .int) :: gw) B.pre w (List.mem_cons_of_mem _ hw)
  have hown : s.vm.findClass "LineDisk" = some m.cls := findClass_of_methodNamed B.named
  have hlocks := B.notSynchronized
  have hin := (name_of_methodNamed B.named B.method).1
  subst hsz
  have hD := hD0.self (sz := s.heap.size)
  generalize hAe : va_A [(h0, .inr (0, [.ref o0, .ref o1, .ref o2, .ref o3, .ref o4, .int 0])), (o0, .inr (1, [.ref c0, .int (-1), .int 0, .int 0])), (o2, .inr (3, [.ref w0, .ref w1, .ref w2, .ref w3, .ref w4, .ref w5, .int 0, .int 0, .int 0])), (w5, .inl (cA, 15, .inl (fun _ => 0)))] s.heap.size = A at hD ⊢
  have hA : ∀ q : Nat, s.heap.size ≤ q → A q := fun q h => by rw [← hAe]; exact Or.inr h
  have hS : va_S A s.heap s.heap [] := va_S.rf
  have hl := lv_entry ([.ref h0, .int x]) (n := 4) (Nat.le_of_ble_eq_true rfl)
  rw [lg_entry_eq]
  generalize (lg_sl ([.ref h0, .int x]) ++ List.replicate (4 - (lg_sl ([.ref h0, .int x])).length) Slot.unset).toArray = ls at hl ⊢
  have hl : lv_has ls 4 [(0, .ref h0), (1, .int x)] := hl
  have F : CallFix p m c b_Ld_feed 4 s ([.ref h0, .int x]).toArray gw "LineDisk" := ⟨hx, hb, hml, hown, hts⟩
  refine lv_aload_n hx hb d_Ld_feed_0 rfl (lv_at hl 0 rfl) ?_
  refine va_get (D := (dC, dI)) (ci := 0) (v := .ref o0) (C := R_Ld) (T := F_Ld) (N := 6) hx hb hts in_Ld hown hK hP 0 rfl rfl 0 (by decide) (hts _ w_152) (fun _ h9 => h9) rfl d_Ld_feed_1 ?_
  refine va_getN (D := (dC, dI)) (ci := 1) (v := .int 0) (C := R_St) (T := F_St) (N := 4) hx hb hts in_St hown hK hP 1 rfl rfl 2 (by decide) (hkw.use v_33 rfl) (fun _ h9 => h9) rfl d_Ld_feed_4 ?_
  refine lv_if_eq (tgt := 13) hx hb d_Ld_feed_7 (by decide) (fun _ => ?_) (fun h => absurd (by decide) h)
  refine lv_iload_n hx hb d_Ld_feed_13 rfl (lv_at hl 1 rfl) ?_
  refine lv_bipush (v := 10) hx hb d_Ld_feed_14 (by decide) ?_
  refine lv_icmp_eq (tgt := 29) hx hb d_Ld_feed_16 (by decide) (fun hx10 => ?_) (fun hx10 => ?_)
  · skip
    refine lv_aload_n hx hb d_Ld_feed_29 rfl (lv_at hl 0 rfl) ?_
    refine va_get (D := (dC, dI)) (ci := 0) (v := .ref o2) (C := R_Ld) (T := F_Ld) (N := 6) hx hb hts in_Ld hown hK hP 0 rfl rfl 2 (by decide) (hts _ w_154) (fun _ h9 => h9) rfl d_Ld_feed_30 ?_
    refine va_getN (D := (dC, dI)) (ci := 3) (v := .ref w5) (C := R_Wo) (T := F_Wo) (N := 9) hx hb hts in_Wo hown hK hP 2 rfl rfl 5 (by decide) (hkw.use v_77 rfl) (fun _ h9 => h9) rfl d_Ld_feed_33 ?_
    refine lv_astore_n (i := 2) hx hb d_Ld_feed_36 rfl hl (by decide) rfl (fun ls hl => ?_)
    have hl : lv_has ls 4 [(2, .ref w5), (0, .ref h0), (1, .int x)] := hl
    refine lv_aload_n hx hb d_Ld_feed_37 rfl (lv_at hl 1 rfl) ?_
    refine va_get (D := (dC, dI)) (ci := 0) (v := .ref o2) (C := R_Ld) (T := F_Ld) (N := 6) hx hb hts in_Ld hown hK hP 0 rfl rfl 2 (by decide) (hts _ w_154) (fun _ h9 => h9) rfl d_Ld_feed_38 ?_
    refine va_getN (D := (dC, dI)) (ci := 3) (v := .int 0) (C := R_Wo) (T := F_Wo) (N := 9) hx hb hts in_Wo hown hK hP 2 rfl rfl 8 (by decide) (hkw.use v_83 rfl) (fun _ h9 => h9) rfl d_Ld_feed_41 ?_
    refine lv_istore_n (i := 3) hx hb d_Ld_feed_44 rfl hl (by decide) rfl (fun ls hl => ?_)
    have hl : lv_has ls 4 [(3, .int 0), (2, .ref w5), (0, .ref h0), (1, .int x)] := hl
    refine lv_aload_n hx hb d_Ld_feed_45 rfl (lv_at hl 2 rfl) ?_
    refine va_get (D := (dC, dI)) (ci := 0) (v := .ref o2) (C := R_Ld) (T := F_Ld) (N := 6) hx hb hts in_Ld hown hK hP 0 rfl rfl 2 (by decide) (hts _ w_154) (fun _ h9 => h9) rfl d_Ld_feed_46 ?_
    refine lv_iconst (v := 0) hx hb d_Ld_feed_49 (by decide) ?_
    refine va_putN (D := (dC, dI)) (ci := 3) (v := .int 0) (ty := .int) (C := R_Wo) (T := F_Wo) (N := 9) hx hb hts in_Wo t_Wo t_Wo_ok n_Wo hown hK hP hD hS 2 rfl rfl 8 (by decide) (hkw.use v_83 rfl) (fun _ h9 => h9) rfl (by decide +kernel) (rfl) (rfl) (Nat.le_of_ble_eq_true rfl) d_Ld_feed_50 (fun H locs hP hD hS => ?_)
    have hP : va_P (dC, dI) cls [(h0, .inr (0, [.ref o0, .ref o1, .ref o2, .ref o3, .ref o4, .int 0])), (o0, .inr (1, [.ref c0, .int (-1), .int 0, .int 0])), (o2, .inr (3, [.ref w0, .ref w1, .ref w2, .ref w3, .ref w4, .ref w5, .int 0, .int 0, .int 0])), (w5, .inl (cA, 15, .inl (fun _ => 0)))] H := hP
    have hD : va_D A [(h0, .inr (0, [.ref o0, .ref o1, .ref o2, .ref o3, .ref o4, .int 0])), (o0, .inr (1, [.ref c0, .int (-1), .int 0, .int 0])), (o2, .inr (3, [.ref w0, .ref w1, .ref w2, .ref w3, .ref w4, .ref w5, .int 0, .int 0, .int 0])), (w5, .inl (cA, 15, .inl (fun _ => 0)))] := hD
    refine lv_iload_n hx hb d_Ld_feed_53 rfl (lv_at hl 0 rfl) ?_
    refine lv_if_ne (tgt := 59) hx hb d_Ld_feed_54 (by decide) (fun h => absurd (by decide) h) (fun _ => ?_)
    refine lv_iconst (v := 0) hx hb d_Ld_feed_57 (by decide) ?_
    refine W.widen (k := 0) (n := 0) (by decide) (by decide) ?_
    exact W.iret (v := 0) hx hb hr (fun t ht hW => ⟨⟨0, (), rfl, rfl, cB.of (hP.sub [] rfl) (hD.sub [] (by decide) rfl) (hK.sub [] rfl) ht hW⟩, hS.F ht⟩) hS.2.2 d_Ld_feed_58
  · skip
    refine lv_aload_n hx hb d_Ld_feed_19 rfl (lv_at hl 0 rfl) ?_
    refine va_get (D := (dC, dI)) (ci := 0) (v := .ref o2) (C := R_Ld) (T := F_Ld) (N := 6) hx hb hts in_Ld hown hK hP 0 rfl rfl 2 (by decide) (hts _ w_154) (fun _ h9 => h9) rfl d_Ld_feed_20 ?_
    refine lv_iload_n hx hb d_Ld_feed_23 rfl (lv_at hl 1 rfl) ?_
    refine go_v (wr := [(h0, .inr (0, [.ref o0, .ref o1, .ref o2, .ref o3, .ref o4, .int 0])), (o0, .inr (1, [.ref c0, .int (-1), .int 0, .int 0]))]) (tr := []) (rV (C := "LineDisk$Workspace") (ci := 3) (q0 := 0) (b := o2) (n := 1) (As := [.int x]) (rest := []) F hkw (c_Wo_keep l dC dI o2 w0 w1 w2 w3 w4 w5 cA x s.heap.size) xT_bl (fun _ _ _ => trivial) w_224 w_225 w_226 w_4 w_227 rfl rfl (by decide +kernel) ⟨Nat.le_of_ble_eq_true rfl, Nat.le_of_ble_eq_true rfl⟩ (hP.sub (ws' := [(o2, .inr (3, [.ref w0, .ref w1, .ref w2, .ref w3, .ref w4, .ref w5, .int 0, .int 0, .int 0])), (w5, .inl (cA, 15, .inl (fun _ => 0)))]) [2, 3] rfl) (hD.sub (ws' := [(o2, .inr (3, [.ref w0, .ref w1, .ref w2, .ref w3, .ref w4, .ref w5, .int 0, .int 0, .int 0])), (w5, .inl (cA, 15, .inl (fun _ => 0)))]) [2, 3] (by decide) rfl) (hK.sub (tys' := [(cA, .int)]) [0] rfl) rfl rfl rfl rfl hl.1 rfl (Nat.le_of_ble_eq_true rfl) d_Ld_feed_24 ⟨by decide, by decide⟩) hP hD hK hS hA [2, 3] [0, 1] [] rfl rfl (by decide) (by decide) rfl (fun u H locs _ hP hD hK hS => ?_)
    have hP : va_P (dC, dI) cls [(h0, .inr (0, [.ref o0, .ref o1, .ref o2, .ref o3, .ref o4, .int 0])), (o0, .inr (1, [.ref c0, .int (-1), .int 0, .int 0]))] H := hP
    have hD : va_D A [(h0, .inr (0, [.ref o0, .ref o1, .ref o2, .ref o3, .ref o4, .int 0])), (o0, .inr (1, [.ref c0, .int (-1), .int 0, .int 0]))] := hD
    have hK : va_K (dC, dI) cls [] s := hK
    refine W.widen (k := 0) (n := 0) (by omega) (by omega) ?_
    refine lv_iconst (v := 0) hx hb d_Ld_feed_27 (by decide) ?_
    refine W.widen (k := 0) (n := 0) (by decide) (by decide) ?_
    exact W.iret (v := 0) hx hb hr (fun t ht hW => ⟨⟨0, (), rfl, rfl, cB.of (hP.sub [] rfl) (hD.sub [] (by decide) rfl) (hK.sub [] rfl) ht hW⟩, hS.F ht⟩) hS.2.2 d_Ld_feed_28
set_option maxHeartbeats 4000000 in
set_option maxRecDepth 100000 in
theorem c_Ld_files (l : Launch) (dC : Nat → ClassId) (dI : Nat → Nat → Nat) (h0 o0 o1 o2 o3 o4 : Nat) (c0 : Nat) (cA : ClassId) (sz : Nat) : Met l y_Ld_files (Cond.code y_Ld_files b_Ld_files 3 (some .int) :: gw) ({ frames := 1, cells := 0, slots := 0, locals := 20 }) (cP (dC, dI) [.ref h0] sz [(h0, .inr (0, [.ref o0, .ref o1, .ref o2, .ref o3, .ref o4, .int 0])), (o0, .inr (1, [.ref c0, .int (-1), .int 0, .int 0])), (c0, .inl (cA, 512, .inl (fun _ => 0)))] [(cA, .int)] xT) (va_Qi (fun (r : Int32) (u : Unit) => r = 8) (fun (u : Unit) t => cB (dC, dI) (va_A [(h0, .inr (0, [.ref o0, .ref o1, .ref o2, .ref o3, .ref o4, .int 0])), (o0, .inr (1, [.ref c0, .int (-1), .int 0, .int 0])), (c0, .inl (cA, 512, .inl (fun _ => 0)))] sz) [] [] t) (va_A [(h0, .inr (0, [.ref o0, .ref o1, .ref o2, .ref o3, .ref o4, .int 0])), (o0, .inr (1, [.ref c0, .int (-1), .int 0, .int 0])), (c0, .inl (cA, 512, .inl (fun _ => 0)))] sz)) 0 0 (va_A [(h0, .inr (0, [.ref o0, .ref o1, .ref o2, .ref o3, .ref o4, .int 0])), (o0, .inr (1, [.ref c0, .int (-1), .int 0, .int 0])), (c0, .inl (cA, 512, .inl (fun _ => 0)))] sz) := by
  refine Met.ofW (cc := b_Ld_files) (maxL := 3) (ret := (some .int)) (by decide) rfl ?_
  intro p e s m args below meth c s₁ B hml hv
  obtain ⟨rfl, hsz, hP, hK, hD0, hkw, hX⟩ := hv
  have hx := B.exec
  have hb := B.bytes
  have hr := B.returns
  have hts := fun w hw => atoms_spec (ws := Cond.code y_Ld_files b_Ld_files 3 (some .int) :: gw) B.pre w (List.mem_cons_of_mem _ hw)
  have hown : s.vm.findClass "LineDisk" = some m.cls := findClass_of_methodNamed B.named
  have hlocks := B.notSynchronized
  have hin := (name_of_methodNamed B.named B.method).1
  subst hsz
  have hD := hD0.self (sz := s.heap.size)
  generalize hAe : va_A [(h0, .inr (0, [.ref o0, .ref o1, .ref o2, .ref o3, .ref o4, .int 0])), (o0, .inr (1, [.ref c0, .int (-1), .int 0, .int 0])), (c0, .inl (cA, 512, .inl (fun _ => 0)))] s.heap.size = A at hD ⊢
  have hA : ∀ q : Nat, s.heap.size ≤ q → A q := fun q h => by rw [← hAe]; exact Or.inr h
  have hS : va_S A s.heap s.heap [] := va_S.rf
  have hl := lv_entry ([.ref h0]) (n := 3) (Nat.le_of_ble_eq_true rfl)
  rw [lg_entry_eq]
  generalize (lg_sl ([.ref h0]) ++ List.replicate (3 - (lg_sl ([.ref h0])).length) Slot.unset).toArray = ls at hl ⊢
  have hl : lv_has ls 3 [(0, .ref h0)] := hl
  have F : CallFix p m c b_Ld_files 3 s ([.ref h0]).toArray gw "LineDisk" := ⟨hx, hb, hml, hown, hts⟩
  refine lv_aload_n hx hb d_Ld_files_0 rfl (lv_at hl 0 rfl) ?_
  refine va_get (D := (dC, dI)) (ci := 0) (v := .ref o0) (C := R_Ld) (T := F_Ld) (N := 6) hx hb hts in_Ld hown hK hP 0 rfl rfl 0 (by decide) (hts _ w_152) (fun _ h9 => h9) rfl d_Ld_files_1 ?_
  refine va_getN (D := (dC, dI)) (ci := 1) (v := .int 0) (C := R_St) (T := F_St) (N := 4) hx hb hts in_St hown hK hP 1 rfl rfl 2 (by decide) (hkw.use v_33 rfl) (fun _ h9 => h9) rfl d_Ld_files_4 ?_
  refine lv_if_eq (tgt := 13) hx hb d_Ld_files_7 (by decide) (fun _ => ?_) (fun h => absurd (by decide) h)
  refine lv_aload_n hx hb d_Ld_files_13 rfl (lv_at hl 0 rfl) ?_
  refine va_get (D := (dC, dI)) (ci := 0) (v := .ref o0) (C := R_Ld) (T := F_Ld) (N := 6) hx hb hts in_Ld hown hK hP 0 rfl rfl 0 (by decide) (hts _ w_152) (fun _ h9 => h9) rfl d_Ld_files_14 ?_
  refine go_i (wr := [(h0, .inr (0, [.ref o0, .ref o1, .ref o2, .ref o3, .ref o4, .int 0]))]) (tr := []) (rV (C := "LineDisk$Store") (ci := 1) (q0 := 0) (b := o0) (n := 0) (As := []) (rest := []) F hkw (c_St_isF l dC dI o0 c0 cA s.heap.size) xT_bl (fun _ _ _ => trivial) w_201 w_202 w_203 w_2 w_204 rfl rfl (by decide +kernel) ⟨Nat.le_of_ble_eq_true rfl, Nat.le_of_ble_eq_true rfl⟩ (hP.sub (ws' := [(o0, .inr (1, [.ref c0, .int (-1), .int 0, .int 0])), (c0, .inl (cA, 512, .inl (fun _ => 0)))]) [1, 2] rfl) (hD.sub (ws' := [(o0, .inr (1, [.ref c0, .int (-1), .int 0, .int 0])), (c0, .inl (cA, 512, .inl (fun _ => 0)))]) [1, 2] (by decide) rfl) (hK.sub (tys' := [(cA, .int)]) [0] rfl) rfl rfl rfl rfl hl.1 rfl (Nat.le_of_ble_eq_true rfl) d_Ld_files_17 ⟨by decide, by decide⟩) hP hD hK hS hA [1, 2] [0] [] rfl rfl (by decide) (by decide) rfl (fun r u H locs hw hP hD hK hS => ?_)
  have hP : va_P (dC, dI) cls [(h0, .inr (0, [.ref o0, .ref o1, .ref o2, .ref o3, .ref o4, .int 0])), (o0, .inr (1, [.ref c0, .int (-1), .int 0, .int 0])), (c0, .inl (cA, 512, .inl (fun _ => 0)))] H := hP
  have hD : va_D A [(h0, .inr (0, [.ref o0, .ref o1, .ref o2, .ref o3, .ref o4, .int 0])), (o0, .inr (1, [.ref c0, .int (-1), .int 0, .int 0])), (c0, .inl (cA, 512, .inl (fun _ => 0)))] := hD
  have hK : va_K (dC, dI) cls [(cA, .int)] s := hK
  refine W.widen (k := 0) (n := 0) (by omega) (by omega) ?_
  subst hw
  refine lv_if_ne (tgt := 26) hx hb d_Ld_files_20 (by decide) (fun h => absurd (by decide) h) (fun _ => ?_)
  refine lv_bipush (v := 8) hx hb d_Ld_files_23 (by decide) ?_
  refine W.widen (k := 0) (n := 0) (by decide) (by decide) ?_
  exact W.iret (v := 8) hx hb hr (fun t ht hW => ⟨⟨8, (), rfl, rfl, cB.of (hP.sub [] rfl) (hD.sub [] (by decide) rfl) (hK.sub [] rfl) ht hW⟩, hS.F ht⟩) hS.2.2 d_Ld_files_25
set_option maxHeartbeats 4000000 in
set_option maxRecDepth 100000 in
theorem c_Ld_disk (l : Launch) (dC : Nat → ClassId) (dI : Nat → Nat → Nat) (h0 o0 o1 o2 o3 o4 : Nat) (c0 : Nat) (cA : ClassId) (x : Int32) (h1 : ¬ x < 0) (h2 : x < 512) (sz : Nat) : Met l y_Ld_disk (Cond.code y_Ld_disk b_Ld_disk 2 (some .int) :: gw) ({ frames := 1, cells := 0, slots := 0, locals := 21 }) (cP (dC, dI) [.ref h0, .int x] sz [(h0, .inr (0, [.ref o0, .ref o1, .ref o2, .ref o3, .ref o4, .int 0])), (o0, .inr (1, [.ref c0, .int (-1), .int 0, .int 0])), (c0, .inl (cA, 512, .inl (fun _ => 0)))] [(cA, .int)] xT) (va_Qi (fun (r : Int32) (u : Unit) => r = 0) (fun (u : Unit) t => cB (dC, dI) (va_A [(h0, .inr (0, [.ref o0, .ref o1, .ref o2, .ref o3, .ref o4, .int 0])), (o0, .inr (1, [.ref c0, .int (-1), .int 0, .int 0])), (c0, .inl (cA, 512, .inl (fun _ => 0)))] sz) [] [] t) (va_A [(h0, .inr (0, [.ref o0, .ref o1, .ref o2, .ref o3, .ref o4, .int 0])), (o0, .inr (1, [.ref c0, .int (-1), .int 0, .int 0])), (c0, .inl (cA, 512, .inl (fun _ => 0)))] sz)) 0 0 (va_A [(h0, .inr (0, [.ref o0, .ref o1, .ref o2, .ref o3, .ref o4, .int 0])), (o0, .inr (1, [.ref c0, .int (-1), .int 0, .int 0])), (c0, .inl (cA, 512, .inl (fun _ => 0)))] sz) := by
  refine Met.ofW (cc := b_Ld_disk) (maxL := 2) (ret := (some .int)) (by decide) rfl ?_
  intro p e s m args below meth c s₁ B hml hv
  obtain ⟨rfl, hsz, hP, hK, hD0, hkw, hX⟩ := hv
  have hx := B.exec
  have hb := B.bytes
  have hr := B.returns
  have hts := fun w hw => atoms_spec (ws := Cond.code y_Ld_disk b_Ld_disk 2 (some .int) :: gw) B.pre w (List.mem_cons_of_mem _ hw)
  have hown : s.vm.findClass "LineDisk" = some m.cls := findClass_of_methodNamed B.named
  have hlocks := B.notSynchronized
  have hin := (name_of_methodNamed B.named B.method).1
  subst hsz
  have hD := hD0.self (sz := s.heap.size)
  generalize hAe : va_A [(h0, .inr (0, [.ref o0, .ref o1, .ref o2, .ref o3, .ref o4, .int 0])), (o0, .inr (1, [.ref c0, .int (-1), .int 0, .int 0])), (c0, .inl (cA, 512, .inl (fun _ => 0)))] s.heap.size = A at hD ⊢
  have hA : ∀ q : Nat, s.heap.size ≤ q → A q := fun q h => by rw [← hAe]; exact Or.inr h
  have hS : va_S A s.heap s.heap [] := va_S.rf
  have hl := lv_entry ([.ref h0, .int x]) (n := 2) (Nat.le_of_ble_eq_true rfl)
  rw [lg_entry_eq]
  generalize (lg_sl ([.ref h0, .int x]) ++ List.replicate (2 - (lg_sl ([.ref h0, .int x])).length) Slot.unset).toArray = ls at hl ⊢
  have hl : lv_has ls 2 [(0, .ref h0), (1, .int x)] := hl
  have F : CallFix p m c b_Ld_disk 2 s ([.ref h0, .int x]).toArray gw "LineDisk" := ⟨hx, hb, hml, hown, hts⟩
  refine lv_iload_n hx hb d_Ld_disk_0 rfl (lv_at hl 1 rfl) ?_
  refine lv_if_lt (tgt := 11) hx hb d_Ld_disk_1 (by decide) (fun h => absurd h (h1)) (fun _ => ?_)
  refine lv_iload_n hx hb d_Ld_disk_4 rfl (lv_at hl 1 rfl) ?_
  refine lv_sipush (v := 512) hx hb d_Ld_disk_5 (by decide) ?_
  refine lv_icmp_lt (tgt := 21) hx hb d_Ld_disk_8 (by decide) (fun _ => ?_) (fun h => absurd (h2) h)
  refine lv_aload_n hx hb d_Ld_disk_21 rfl (lv_at hl 0 rfl) ?_
  refine va_get (D := (dC, dI)) (ci := 0) (v := .ref o0) (C := R_Ld) (T := F_Ld) (N := 6) hx hb hts in_Ld hown hK hP 0 rfl rfl 0 (by decide) (hts _ w_152) (fun _ h9 => h9) rfl d_Ld_disk_22 ?_
  refine lv_iload_n hx hb d_Ld_disk_25 rfl (lv_at hl 1 rfl) ?_
  refine go_i (wr := [(h0, .inr (0, [.ref o0, .ref o1, .ref o2, .ref o3, .ref o4, .int 0]))]) (tr := []) (rV (C := "LineDisk$Store") (ci := 1) (q0 := 0) (b := o0) (n := 1) (As := [.int x]) (rest := []) F hkw (c_St_cell l dC dI o0 c0 cA x h1 h2 s.heap.size) xT_bl (fun _ _ _ => trivial) w_411 w_210 w_211 w_2 w_212 rfl rfl (by decide +kernel) ⟨Nat.le_of_ble_eq_true rfl, Nat.le_of_ble_eq_true rfl⟩ (hP.sub (ws' := [(o0, .inr (1, [.ref c0, .int (-1), .int 0, .int 0])), (c0, .inl (cA, 512, .inl (fun _ => 0)))]) [1, 2] rfl) (hD.sub (ws' := [(o0, .inr (1, [.ref c0, .int (-1), .int 0, .int 0])), (c0, .inl (cA, 512, .inl (fun _ => 0)))]) [1, 2] (by decide) rfl) (hK.sub (tys' := [(cA, .int)]) [0] rfl) rfl rfl rfl rfl hl.1 rfl (Nat.le_of_ble_eq_true rfl) d_Ld_disk_26 ⟨by decide, by decide⟩) hP hD hK hS hA [1, 2] [0] [] rfl rfl (by decide) (by decide) rfl (fun r u H locs hw hP hD hK hS => ?_)
  have hP : va_P (dC, dI) cls [(h0, .inr (0, [.ref o0, .ref o1, .ref o2, .ref o3, .ref o4, .int 0])), (o0, .inr (1, [.ref c0, .int (-1), .int 0, .int 0])), (c0, .inl (cA, 512, .inl (fun _ => 0)))] H := hP
  have hD : va_D A [(h0, .inr (0, [.ref o0, .ref o1, .ref o2, .ref o3, .ref o4, .int 0])), (o0, .inr (1, [.ref c0, .int (-1), .int 0, .int 0])), (c0, .inl (cA, 512, .inl (fun _ => 0)))] := hD
  have hK : va_K (dC, dI) cls [(cA, .int)] s := hK
  refine W.widen (k := 0) (n := 0) (by omega) (by omega) ?_
  subst hw
  refine W.widen (k := 0) (n := 0) (by decide) (by decide) ?_
  exact W.iret (v := 0) hx hb hr (fun t ht hW => ⟨⟨0, (), rfl, rfl, cB.of (hP.sub [] rfl) (hD.sub [] (by decide) rfl) (hK.sub [] rfl) ht hW⟩, hS.F ht⟩) hS.2.2 d_Ld_disk_29
set_option maxHeartbeats 4000000 in
set_option maxRecDepth 100000 in
theorem c_Ld_arm (l : Launch) (dC : Nat → ClassId) (dI : Nat → Nat → Nat) (h0 o0 o1 o2 o3 o4 : Nat) (c0 : Nat) (x : Int32) (h1 : ¬ x < 0) (h2 : x ≤ 1000) (sz : Nat) : Met l y_Ld_arm (Cond.code y_Ld_arm b_Ld_arm 2 (some .boolean) :: gw) ({ frames := 0, cells := 0, slots := 0, locals := 0 }) (cP (dC, dI) [.ref h0, .int x] sz [(h0, .inr (0, [.ref o0, .ref o1, .ref o2, .ref o3, .ref o4, .int 0])), (o0, .inr (1, [.ref c0, .int (-1), .int 0, .int 0]))] [] xT) (va_Qi (fun (r : Int32) (u : Unit) => r = 1) (fun (u : Unit) t => cB (dC, dI) (va_A [(h0, .inr (0, [.ref o0, .ref o1, .ref o2, .ref o3, .ref o4, .int 0])), (o0, .inr (1, [.ref c0, .int (-1), .int 0, .int 0]))] sz) [] [] t) (va_A [(h0, .inr (0, [.ref o0, .ref o1, .ref o2, .ref o3, .ref o4, .int 0])), (o0, .inr (1, [.ref c0, .int (-1), .int 0, .int 0]))] sz)) 0 0 (va_A [(h0, .inr (0, [.ref o0, .ref o1, .ref o2, .ref o3, .ref o4, .int 0])), (o0, .inr (1, [.ref c0, .int (-1), .int 0, .int 0]))] sz) := by
  refine Met.ofW (cc := b_Ld_arm) (maxL := 2) (ret := (some .boolean)) (by decide) rfl ?_
  intro p e s m args below meth c s₁ B hml hv
  obtain ⟨rfl, hsz, hP, hK, hD0, hkw, hX⟩ := hv
  have hx := B.exec
  have hb := B.bytes
  have hr := B.returns
  have hts := fun w hw => atoms_spec (ws := Cond.code y_Ld_arm b_Ld_arm 2 (some .boolean) :: gw) B.pre w (List.mem_cons_of_mem _ hw)
  have hown : s.vm.findClass "LineDisk" = some m.cls := findClass_of_methodNamed B.named
  have hlocks := B.notSynchronized
  have hin := (name_of_methodNamed B.named B.method).1
  subst hsz
  have hD := hD0.self (sz := s.heap.size)
  generalize hAe : va_A [(h0, .inr (0, [.ref o0, .ref o1, .ref o2, .ref o3, .ref o4, .int 0])), (o0, .inr (1, [.ref c0, .int (-1), .int 0, .int 0]))] s.heap.size = A at hD ⊢
  have hA : ∀ q : Nat, s.heap.size ≤ q → A q := fun q h => by rw [← hAe]; exact Or.inr h
  have hS : va_S A s.heap s.heap [] := va_S.rf
  have hl := lv_entry ([.ref h0, .int x]) (n := 2) (Nat.le_of_ble_eq_true rfl)
  rw [lg_entry_eq]
  generalize (lg_sl ([.ref h0, .int x]) ++ List.replicate (2 - (lg_sl ([.ref h0, .int x])).length) Slot.unset).toArray = ls at hl ⊢
  have hl : lv_has ls 2 [(0, .ref h0), (1, .int x)] := hl
  have F : CallFix p m c b_Ld_arm 2 s ([.ref h0, .int x]).toArray gw "LineDisk" := ⟨hx, hb, hml, hown, hts⟩
  refine lv_iload_n hx hb d_Ld_arm_0 rfl (lv_at hl 1 rfl) ?_
  refine lv_if_lt (tgt := 11) hx hb d_Ld_arm_1 (by decide) (fun h => absurd h (h1)) (fun _ => ?_)
  refine lv_iload_n hx hb d_Ld_arm_4 rfl (lv_at hl 1 rfl) ?_
  refine lv_sipush (v := 1000) hx hb d_Ld_arm_5 (by decide) ?_
  refine lv_icmp_le (tgt := 21) hx hb d_Ld_arm_8 (by decide) (fun _ => ?_) (fun h => absurd (h2) h)
  refine lv_aload_n hx hb d_Ld_arm_21 rfl (lv_at hl 0 rfl) ?_
  refine va_get (D := (dC, dI)) (ci := 0) (v := .ref o0) (C := R_Ld) (T := F_Ld) (N := 6) hx hb hts in_Ld hown hK hP 0 rfl rfl 0 (by decide) (hts _ w_152) (fun _ h9 => h9) rfl d_Ld_arm_22 ?_
  refine lv_iload_n hx hb d_Ld_arm_25 rfl (lv_at hl 1 rfl) ?_
  refine va_putN (D := (dC, dI)) (ci := 1) (v := .int x) (ty := .int) (C := R_St) (T := F_St) (N := 4) hx hb hts in_St t_St t_St_ok n_St hown hK hP hD hS 1 rfl rfl 1 (by decide) (hkw.use v_31 rfl) (fun _ h9 => h9) rfl (by decide +kernel) (rfl) (rfl) (Nat.le_of_ble_eq_true rfl) d_Ld_arm_26 (fun H locs hP hD hS => ?_)
  have hP : va_P (dC, dI) cls [(h0, .inr (0, [.ref o0, .ref o1, .ref o2, .ref o3, .ref o4, .int 0])), (o0, .inr (1, [.ref c0, .int x, .int 0, .int 0]))] H := hP
  have hD : va_D A [(h0, .inr (0, [.ref o0, .ref o1, .ref o2, .ref o3, .ref o4, .int 0])), (o0, .inr (1, [.ref c0, .int x, .int 0, .int 0]))] := hD
  refine lv_iconst (v := 1) hx hb d_Ld_arm_29 (by decide) ?_
  refine W.widen (k := 0) (n := 0) (by decide) (by decide) ?_
  exact W.zret (v := 1) hx hb hr rfl (fun t ht hW => ⟨⟨1, (), rfl, rfl, cB.of (hP.sub [] rfl) (hD.sub [] (by decide) rfl) (hK.sub [] rfl) ht hW⟩, hS.F ht⟩) hS.2.2 d_Ld_arm_30
set_option maxHeartbeats 4000000 in
set_option maxRecDepth 100000 in
theorem c_Ld_recover (l : Launch) (dC : Nat → ClassId) (dI : Nat → Nat → Nat) (h0 o0 o1 o2 o3 o4 : Nat) (c0 : Nat) (w0 w1 w2 w3 w4 w5 : Nat) (cA cE : ClassId) (sz : Nat) : Met l y_Ld_recover (Cond.code y_Ld_recover b_Ld_recover 2 (some .int) :: gw) ({ frames := 2, cells := 0, slots := 0, locals := 43 }) (cP (dC, dI) [.ref h0] sz [(h0, .inr (0, [.ref o0, .ref o1, .ref o2, .ref o3, .ref o4, .int 0])), (o0, .inr (1, [.ref c0, .int (-1), .int 0, .int 0])), (c0, .inl (cA, 512, .inl (fun _ => 0))), (o2, .inr (3, [.ref w0, .ref w1, .ref w2, .ref w3, .ref w4, .ref w5, .int 0, .int 0, .int 0])), (w4, .inl (cE, 8, .inl (fun _ => 0)))] [(cA, .int), (cE, .int)] xT) (va_Qi (fun (r : Int32) (u : Unit) => r = 8) (fun (u : Unit) t => cB (dC, dI) (va_A [(h0, .inr (0, [.ref o0, .ref o1, .ref o2, .ref o3, .ref o4, .int 0])), (o0, .inr (1, [.ref c0, .int (-1), .int 0, .int 0])), (c0, .inl (cA, 512, .inl (fun _ => 0))), (o2, .inr (3, [.ref w0, .ref w1, .ref w2, .ref w3, .ref w4, .ref w5, .int 0, .int 0, .int 0])), (w4, .inl (cE, 8, .inl (fun _ => 0)))] sz) [] [] t) (va_A [(h0, .inr (0, [.ref o0, .ref o1, .ref o2, .ref o3, .ref o4, .int 0])), (o0, .inr (1, [.ref c0, .int (-1), .int 0, .int 0])), (c0, .inl (cA, 512, .inl (fun _ => 0))), (o2, .inr (3, [.ref w0, .ref w1, .ref w2, .ref w3, .ref w4, .ref w5, .int 0, .int 0, .int 0])), (w4, .inl (cE, 8, .inl (fun _ => 0)))] sz)) 0 0 (va_A [(h0, .inr (0, [.ref o0, .ref o1, .ref o2, .ref o3, .ref o4, .int 0])), (o0, .inr (1, [.ref c0, .int (-1), .int 0, .int 0])), (c0, .inl (cA, 512, .inl (fun _ => 0))), (o2, .inr (3, [.ref w0, .ref w1, .ref w2, .ref w3, .ref w4, .ref w5, .int 0, .int 0, .int 0])), (w4, .inl (cE, 8, .inl (fun _ => 0)))] sz) := by
  refine Met.ofW (cc := b_Ld_recover) (maxL := 2) (ret := (some .int)) (by decide) rfl ?_
  intro p e s m args below meth c s₁ B hml hv
  obtain ⟨rfl, hsz, hP, hK, hD0, hkw, hX⟩ := hv
  have hx := B.exec
  have hb := B.bytes
  have hr := B.returns
  have hts := fun w hw => atoms_spec (ws := Cond.code y_Ld_recover b_Ld_recover 2 (some .int) :: gw) B.pre w (List.mem_cons_of_mem _ hw)
  have hown : s.vm.findClass "LineDisk" = some m.cls := findClass_of_methodNamed B.named
  have hlocks := B.notSynchronized
  have hin := (name_of_methodNamed B.named B.method).1
  subst hsz
  have hD := hD0.self (sz := s.heap.size)
  generalize hAe : va_A [(h0, .inr (0, [.ref o0, .ref o1, .ref o2, .ref o3, .ref o4, .int 0])), (o0, .inr (1, [.ref c0, .int (-1), .int 0, .int 0])), (c0, .inl (cA, 512, .inl (fun _ => 0))), (o2, .inr (3, [.ref w0, .ref w1, .ref w2, .ref w3, .ref w4, .ref w5, .int 0, .int 0, .int 0])), (w4, .inl (cE, 8, .inl (fun _ => 0)))] s.heap.size = A at hD ⊢
  have hA : ∀ q : Nat, s.heap.size ≤ q → A q := fun q h => by rw [← hAe]; exact Or.inr h
  have hS : va_S A s.heap s.heap [] := va_S.rf
  have hl := lv_entry ([.ref h0]) (n := 2) (Nat.le_of_ble_eq_true rfl)
  rw [lg_entry_eq]
  generalize (lg_sl ([.ref h0]) ++ List.replicate (2 - (lg_sl ([.ref h0])).length) Slot.unset).toArray = ls at hl ⊢
  have hl : lv_has ls 2 [(0, .ref h0)] := hl
  have F : CallFix p m c b_Ld_recover 2 s ([.ref h0]).toArray gw "LineDisk" := ⟨hx, hb, hml, hown, hts⟩
  refine lv_aload_n hx hb d_Ld_recover_0 rfl (lv_at hl 0 rfl) ?_
  refine va_get (D := (dC, dI)) (ci := 0) (v := .ref o0) (C := R_Ld) (T := F_Ld) (N := 6) hx hb hts in_Ld hown hK hP 0 rfl rfl 0 (by decide) (hts _ w_152) (fun _ h9 => h9) rfl d_Ld_recover_1 ?_
  refine lv_iconst (v := 0) hx hb d_Ld_recover_4 (by decide) ?_
  refine va_putN (D := (dC, dI)) (ci := 1) (v := .int 0) (ty := .boolean) (C := R_St) (T := F_St) (N := 4) hx hb hts in_St t_St t_St_ok n_St hown hK hP hD hS 1 rfl rfl 2 (by decide) (hkw.use v_33 rfl) (fun _ h9 => h9) rfl (by decide +kernel) (rfl) (rfl) (Nat.le_of_ble_eq_true rfl) d_Ld_recover_5 (fun H locs hP hD hS => ?_)
  have hP : va_P (dC, dI) cls [(h0, .inr (0, [.ref o0, .ref o1, .ref o2, .ref o3, .ref o4, .int 0])), (o0, .inr (1, [.ref c0, .int (-1), .int 0, .int 0])), (c0, .inl (cA, 512, .inl (fun _ => 0))), (o2, .inr (3, [.ref w0, .ref w1, .ref w2, .ref w3, .ref w4, .ref w5, .int 0, .int 0, .int 0])), (w4, .inl (cE, 8, .inl (fun _ => 0)))] H := hP
  have hD : va_D A [(h0, .inr (0, [.ref o0, .ref o1, .ref o2, .ref o3, .ref o4, .int 0])), (o0, .inr (1, [.ref c0, .int (-1), .int 0, .int 0])), (c0, .inl (cA, 512, .inl (fun _ => 0))), (o2, .inr (3, [.ref w0, .ref w1, .ref w2, .ref w3, .ref w4, .ref w5, .int 0, .int 0, .int 0])), (w4, .inl (cE, 8, .inl (fun _ => 0)))] := hD
  refine lv_aload_n hx hb d_Ld_recover_8 rfl (lv_at hl 0 rfl) ?_
  refine va_get (D := (dC, dI)) (ci := 0) (v := .ref o2) (C := R_Ld) (T := F_Ld) (N := 6) hx hb hts in_Ld hown hK hP 0 rfl rfl 2 (by decide) (hts _ w_154) (fun _ h9 => h9) rfl d_Ld_recover_9 ?_
  refine go_v (wr := [(h0, .inr (0, [.ref o0, .ref o1, .ref o2, .ref o3, .ref o4, .int 0])), (o0, .inr (1, [.ref c0, .int (-1), .int 0, .int 0])), (c0, .inl (cA, 512, .inl (fun _ => 0)))]) (tr := [(cA, .int)]) (rV (C := "LineDisk$Workspace") (ci := 3) (q0 := 0) (b := o2) (n := 0) (As := []) (rest := []) F hkw (c_Wo_empty l dC dI o2 w0 w1 w2 w3 w4 w5 cE (fun _ => 0) H.size) xT_bl (fun _ _ _ => trivial) w_190 w_191 w_192 w_4 w_193 rfl rfl (by decide +kernel) ⟨Nat.le_of_ble_eq_true rfl, Nat.le_of_ble_eq_true rfl⟩ (hP.sub (ws' := [(o2, .inr (3, [.ref w0, .ref w1, .ref w2, .ref w3, .ref w4, .ref w5, .int 0, .int 0, .int 0])), (w4, .inl (cE, 8, .inl (fun _ => 0)))]) [3, 4] rfl) (hD.sub (ws' := [(o2, .inr (3, [.ref w0, .ref w1, .ref w2, .ref w3, .ref w4, .ref w5, .int 0, .int 0, .int 0])), (w4, .inl (cE, 8, .inl (fun _ => 0)))]) [3, 4] (by decide) rfl) (hK.sub (tys' := [(cE, .int)]) [1] rfl) rfl rfl rfl rfl hl.1 rfl (Nat.le_of_ble_eq_true rfl) d_Ld_recover_12 ⟨by decide, by decide⟩) hP hD hK hS hA [3, 4] [0, 1, 2] [0] rfl rfl (by decide) (by decide) rfl (fun fv H locs _ hP hD hK hS => ?_)
  have hP : va_P (dC, dI) cls [(h0, .inr (0, [.ref o0, .ref o1, .ref o2, .ref o3, .ref o4, .int 0])), (o0, .inr (1, [.ref c0, .int (-1), .int 0, .int 0])), (c0, .inl (cA, 512, .inl (fun _ => 0))), (o2, .inr (3, [.ref w0, .ref w1, .ref w2, .ref w3, .ref w4, .ref w5, .int 0, .int 0, .int 0])), (w4, .inl (cE, 8, .inl fv))] H := hP
  have hD : va_D A [(h0, .inr (0, [.ref o0, .ref o1, .ref o2, .ref o3, .ref o4, .int 0])), (o0, .inr (1, [.ref c0, .int (-1), .int 0, .int 0])), (c0, .inl (cA, 512, .inl (fun _ => 0))), (o2, .inr (3, [.ref w0, .ref w1, .ref w2, .ref w3, .ref w4, .ref w5, .int 0, .int 0, .int 0])), (w4, .inl (cE, 8, .inl fv))] := hD
  have hK : va_K (dC, dI) cls [(cA, .int), (cE, .int)] s := hK
  refine W.widen (k := 0) (n := 0) (by omega) (by omega) ?_
  refine lv_bipush (v := 8) hx hb d_Ld_recover_15 (by decide) ?_
  refine lv_istore_n (i := 1) hx hb d_Ld_recover_17 rfl hl (by decide) rfl (fun ls hl => ?_)
  have hl : lv_has ls 2 [(1, .int 8), (0, .ref h0)] := hl
  refine lv_aload_n hx hb d_Ld_recover_18 rfl (lv_at hl 1 rfl) ?_
  refine va_get (D := (dC, dI)) (ci := 0) (v := .ref o0) (C := R_Ld) (T := F_Ld) (N := 6) hx hb hts in_Ld hown hK hP 0 rfl rfl 0 (by decide) (hts _ w_152) (fun _ h9 => h9) rfl d_Ld_recover_19 ?_
  refine go_i (wr := [(h0, .inr (0, [.ref o0, .ref o1, .ref o2, .ref o3, .ref o4, .int 0])), (o2, .inr (3, [.ref w0, .ref w1, .ref w2, .ref w3, .ref w4, .ref w5, .int 0, .int 0, .int 0])), (w4, .inl (cE, 8, .inl fv))]) (tr := [(cE, .int)]) (rV (C := "LineDisk$Store") (ci := 1) (q0 := 0) (b := o0) (n := 0) (As := []) (rest := []) F hkw (c_St_isF l dC dI o0 c0 cA H.size) xT_bl (fun _ _ _ => trivial) w_201 w_202 w_203 w_2 w_204 rfl rfl (by decide +kernel) ⟨Nat.le_of_ble_eq_true rfl, Nat.le_of_ble_eq_true rfl⟩ (hP.sub (ws' := [(o0, .inr (1, [.ref c0, .int (-1), .int 0, .int 0])), (c0, .inl (cA, 512, .inl (fun _ => 0)))]) [1, 2] rfl) (hD.sub (ws' := [(o0, .inr (1, [.ref c0, .int (-1), .int 0, .int 0])), (c0, .inl (cA, 512, .inl (fun _ => 0)))]) [1, 2] (by decide) rfl) (hK.sub (tys' := [(cA, .int)]) [0] rfl) rfl rfl rfl rfl hl.1 rfl (Nat.le_of_ble_eq_true rfl) d_Ld_recover_22 ⟨by decide, by decide⟩) hP hD hK hS hA [1, 2] [0, 3, 4] [1] rfl rfl (by decide) (by decide) rfl (fun r u H locs hw hP hD hK hS => ?_)
  have hP : va_P (dC, dI) cls [(h0, .inr (0, [.ref o0, .ref o1, .ref o2, .ref o3, .ref o4, .int 0])), (o2, .inr (3, [.ref w0, .ref w1, .ref w2, .ref w3, .ref w4, .ref w5, .int 0, .int 0, .int 0])), (w4, .inl (cE, 8, .inl fv)), (o0, .inr (1, [.ref c0, .int (-1), .int 0, .int 0])), (c0, .inl (cA, 512, .inl (fun _ => 0)))] H := hP
  have hD : va_D A [(h0, .inr (0, [.ref o0, .ref o1, .ref o2, .ref o3, .ref o4, .int 0])), (o2, .inr (3, [.ref w0, .ref w1, .ref w2, .ref w3, .ref w4, .ref w5, .int 0, .int 0, .int 0])), (w4, .inl (cE, 8, .inl fv)), (o0, .inr (1, [.ref c0, .int (-1), .int 0, .int 0])), (c0, .inl (cA, 512, .inl (fun _ => 0)))] := hD
  have hK : va_K (dC, dI) cls [(cE, .int), (cA, .int)] s := hK
  refine W.widen (k := 0) (n := 0) (by omega) (by omega) ?_
  subst hw
  refine lv_if_eq (tgt := 51) hx hb d_Ld_recover_25 (by decide) (fun _ => ?_) (fun h => absurd (by decide) h)
  refine lv_aload_n hx hb d_Ld_recover_51 rfl (lv_at hl 1 rfl) ?_
  refine va_get (D := (dC, dI)) (ci := 0) (v := .ref o0) (C := R_Ld) (T := F_Ld) (N := 6) hx hb hts in_Ld hown hK hP 0 rfl rfl 0 (by decide) (hts _ w_152) (fun _ h9 => h9) rfl d_Ld_recover_52 ?_
  refine lv_iconst (v := (-1)) hx hb d_Ld_recover_55 (by decide) ?_
  refine va_putN (D := (dC, dI)) (ci := 1) (v := .int (-1)) (ty := .int) (C := R_St) (T := F_St) (N := 4) hx hb hts in_St t_St t_St_ok n_St hown hK hP hD hS 3 rfl rfl 1 (by decide) (hkw.use v_31 rfl) (fun _ h9 => h9) rfl (by decide +kernel) (rfl) (rfl) (Nat.le_of_ble_eq_true rfl) d_Ld_recover_56 (fun H locs hP hD hS => ?_)
  have hP : va_P (dC, dI) cls [(h0, .inr (0, [.ref o0, .ref o1, .ref o2, .ref o3, .ref o4, .int 0])), (o2, .inr (3, [.ref w0, .ref w1, .ref w2, .ref w3, .ref w4, .ref w5, .int 0, .int 0, .int 0])), (w4, .inl (cE, 8, .inl fv)), (o0, .inr (1, [.ref c0, .int (-1), .int 0, .int 0])), (c0, .inl (cA, 512, .inl (fun _ => 0)))] H := hP
  have hD : va_D A [(h0, .inr (0, [.ref o0, .ref o1, .ref o2, .ref o3, .ref o4, .int 0])), (o2, .inr (3, [.ref w0, .ref w1, .ref w2, .ref w3, .ref w4, .ref w5, .int 0, .int 0, .int 0])), (w4, .inl (cE, 8, .inl fv)), (o0, .inr (1, [.ref c0, .int (-1), .int 0, .int 0])), (c0, .inl (cA, 512, .inl (fun _ => 0)))] := hD
  refine lv_iload_n hx hb d_Ld_recover_59 rfl (lv_at hl 0 rfl) ?_
  refine W.widen (k := 0) (n := 0) (by decide) (by decide) ?_
  exact W.iret (v := 8) hx hb hr (fun t ht hW => ⟨⟨8, (), rfl, rfl, cB.of (hP.sub [] rfl) (hD.sub [] (by decide) rfl) (hK.sub [] rfl) ht hW⟩, hS.F ht⟩) hS.2.2 d_Ld_recover_60
end
section
theorem ab1 {x : Int32} (h : x = 11) : ¬ (x < 0 ∨ 11 < x) := by subst h; decide
theorem ab0 {x : Int32} (h : x = 0) : ¬ (x < 0 ∨ 11 < x) := by subst h; decide
theorem ab9 {x : Int32} (h : x = 9) : ¬ (x < 0 ∨ 11 < x) := by subst h; decide
theorem ab10 {x : Int32} (h : x = 10) : ¬ (x < 0 ∨ 11 < x) := by subst h; decide
theorem li (n : Nat) (h : n < 2 ^ 31) : (Int32.ofNat n).toInt = (n : Int) := nI_toInt h
theorem ab2 {x : Int32} (h1 : ¬ x < 1) (h2 : ¬ 8 < x) : ¬ (x < 0 ∨ 11 < x) := by
  simp only [Int32.lt_iff_toInt_lt] at *
  have e0 : (0 : Int32).toInt = 0 := by decide
  have e1 : (1 : Int32).toInt = 1 := by decide
  have e8 : (8 : Int32).toInt = 8 := by decide
  have e11 : (11 : Int32).toInt = 11 := by decide
  rw [e0, e11]
  rw [e1] at h1
  rw [e8] at h2
  omega
theorem ab4 {x : Int32} (h11 : ¬ x = 11) (h : x < 1 ∨ 8 < x) (h0 : ¬ x = 0) (h9 : ¬ x = 9) (h10 : ¬ x = 10) : x < 0 ∨ 11 < x := by
  have e0 : (0 : Int32).toInt = 0 := by decide
  have e1 : (1 : Int32).toInt = 1 := by decide
  have e8 : (8 : Int32).toInt = 8 := by decide
  have e9 : (9 : Int32).toInt = 9 := by decide
  have e10 : (10 : Int32).toInt = 10 := by decide
  have e11 : (11 : Int32).toInt = 11 := by decide
  simp only [Int32.lt_iff_toInt_lt, ← Int32.toInt_inj] at *
  rw [e11] at h11
  rw [e1, e8] at h
  rw [e0] at h0
  rw [e9] at h9
  rw [e10] at h10
  rw [e0, e11]
  omega
theorem in8 {x : Int32} (h1 : ¬ x < 1) (h2 : ¬ 8 < x) : vp_in (x - 1) 8 := by
  have h0 : ¬ x < 0 := fun h => h1 (Int32.lt_of_lt_of_le h (by decide))
  obtain ⟨j, hj, rfl⟩ := nI_of2 (M := 8) (n := 8) (by decide) h0 (Int32.not_lt.mp h2)
  have hj1 : 1 ≤ j := by
    rcases Nat.lt_or_ge j 1 with h | h
    · have : j = 0 := by omega
      subst this
      exact absurd (by decide) h1
    · exact h
  obtain ⟨i, rfl⟩ : ∃ i, j = i + 1 := ⟨j - 1, by omega⟩
  rw [nI_pred]
  exact vp_in_nI (by omega) (by decide)
set_option maxHeartbeats 4000000 in
set_option maxRecDepth 100000 in
theorem c_Ld_about (l : Launch) (dC : Nat → ClassId) (dI : Nat → Nat → Nat) (h0 o0 o1 o2 o3 o4 : Nat) (c0 : Nat) (w0 w1 w2 w3 w4 w5 : Nat) (cA : ClassId) (x : Int32) (sz : Nat) : Met l y_Ld_about (Cond.code y_Ld_about b_Ld_about 2 (some .int) :: gw) ({ frames := 2, cells := 0, slots := 0, locals := 43 }) (cP (dC, dI) [.ref h0, .int x] sz [(h0, .inr (0, [.ref o0, .ref o1, .ref o2, .ref o3, .ref o4, .int 0])), (o0, .inr (1, [.ref c0, .int (-1), .int 0, .int 0])), (o2, .inr (3, [.ref w0, .ref w1, .ref w2, .ref w3, .ref w4, .ref w5, .int 0, .int 0, .int 0])), (w4, .inl (cA, 8, .inl (fun _ => 0)))] [(cA, .int)] xT) (va_Qi (fun (r : Int32) (u : Unit) => (x < 0 ∨ 11 < x → r = -1) ∧ (¬ (x < 0 ∨ 11 < x) → r = 0)) (fun (u : Unit) t => cB (dC, dI) (va_A [(h0, .inr (0, [.ref o0, .ref o1, .ref o2, .ref o3, .ref o4, .int 0])), (o0, .inr (1, [.ref c0, .int (-1), .int 0, .int 0])), (o2, .inr (3, [.ref w0, .ref w1, .ref w2, .ref w3, .ref w4, .ref w5, .int 0, .int 0, .int 0])), (w4, .inl (cA, 8, .inl (fun _ => 0)))] sz) [] [] t) (va_A [(h0, .inr (0, [.ref o0, .ref o1, .ref o2, .ref o3, .ref o4, .int 0])), (o0, .inr (1, [.ref c0, .int (-1), .int 0, .int 0])), (o2, .inr (3, [.ref w0, .ref w1, .ref w2, .ref w3, .ref w4, .ref w5, .int 0, .int 0, .int 0])), (w4, .inl (cA, 8, .inl (fun _ => 0)))] sz)) 0 0 (va_A [(h0, .inr (0, [.ref o0, .ref o1, .ref o2, .ref o3, .ref o4, .int 0])), (o0, .inr (1, [.ref c0, .int (-1), .int 0, .int 0])), (o2, .inr (3, [.ref w0, .ref w1, .ref w2, .ref w3, .ref w4, .ref w5, .int 0, .int 0, .int 0])), (w4, .inl (cA, 8, .inl (fun _ => 0)))] sz) := by
  refine Met.ofW (cc := b_Ld_about) (maxL := 2) (ret := (some .int)) (by decide) rfl ?_
  intro p e s m args below meth c s₁ B hml hv
  obtain ⟨rfl, hsz, hP, hK, hD0, hkw, hX⟩ := hv
  have hx := B.exec
  have hb := B.bytes
  have hr := B.returns
  have hts := fun w hw => atoms_spec (ws := Cond.code y_Ld_about b_Ld_about 2 (some .int) :: gw) B.pre w (List.mem_cons_of_mem _ hw)
  have hown : s.vm.findClass "LineDisk" = some m.cls := findClass_of_methodNamed B.named
  have hlocks := B.notSynchronized
  have hin := (name_of_methodNamed B.named B.method).1
  subst hsz
  have hD := hD0.self (sz := s.heap.size)
  generalize hAe : va_A [(h0, .inr (0, [.ref o0, .ref o1, .ref o2, .ref o3, .ref o4, .int 0])), (o0, .inr (1, [.ref c0, .int (-1), .int 0, .int 0])), (o2, .inr (3, [.ref w0, .ref w1, .ref w2, .ref w3, .ref w4, .ref w5, .int 0, .int 0, .int 0])), (w4, .inl (cA, 8, .inl (fun _ => 0)))] s.heap.size = A at hD ⊢
  have hA : ∀ q : Nat, s.heap.size ≤ q → A q := fun q h => by rw [← hAe]; exact Or.inr h
  have hS : va_S A s.heap s.heap [] := va_S.rf
  have hl := lv_entry ([.ref h0, .int x]) (n := 2) (Nat.le_of_ble_eq_true rfl)
  rw [lg_entry_eq]
  generalize (lg_sl ([.ref h0, .int x]) ++ List.replicate (2 - (lg_sl ([.ref h0, .int x])).length) Slot.unset).toArray = ls at hl ⊢
  have hl : lv_has ls 2 [(0, .ref h0), (1, .int x)] := hl
  have F : CallFix p m c b_Ld_about 2 s ([.ref h0, .int x]).toArray gw "LineDisk" := ⟨hx, hb, hml, hown, hts⟩
  refine lv_iload_n hx hb d_Ld_about_0 rfl (lv_at hl 1 rfl) ?_
  refine lv_bipush (v := 11) hx hb d_Ld_about_1 (by decide) ?_
  refine lv_icmp_ne (tgt := 14) hx hb d_Ld_about_3 (by decide) (fun h11 => ?_) (fun h11 => ?_)
  · skip
    refine lv_aload_n hx hb d_Ld_about_14 rfl (lv_at hl 0 rfl) ?_
    refine va_get (D := (dC, dI)) (ci := 0) (v := .ref o0) (C := R_Ld) (T := F_Ld) (N := 6) hx hb hts in_Ld hown hK hP 0 rfl rfl 0 (by decide) (hts _ w_152) (fun _ h9 => h9) rfl d_Ld_about_15 ?_
    refine va_getN (D := (dC, dI)) (ci := 1) (v := .int 0) (C := R_St) (T := F_St) (N := 4) hx hb hts in_St hown hK hP 1 rfl rfl 2 (by decide) (hkw.use v_33 rfl) (fun _ h9 => h9) rfl d_Ld_about_18 ?_
    refine lv_if_eq (tgt := 27) hx hb d_Ld_about_21 (by decide) (fun _ => ?_) (fun h => absurd (by decide) h)
    refine lv_iload_n hx hb d_Ld_about_27 rfl (lv_at hl 1 rfl) ?_
    refine lv_iconst (v := 1) hx hb d_Ld_about_28 (by decide) ?_
    refine lv_icmp_lt (tgt := 50) hx hb d_Ld_about_29 (by decide) (fun hlo => ?_) (fun hlo => ?_)
    · skip
      refine lv_iload_n hx hb d_Ld_about_50 rfl (lv_at hl 1 rfl) ?_
      by_cases e_0 : x = 0
      · skip
        refine lv_lookup (off := 33) (tgt := 84) hx hb d_Ld_about_51 (by decide) (by rw [e_0]; decide) (by decide) ?_
        refine lv_aload_n hx hb d_Ld_about_84 rfl (lv_at hl 0 rfl) ?_
        refine va_get (D := (dC, dI)) (ci := 0) (v := .ref o2) (C := R_Ld) (T := F_Ld) (N := 6) hx hb hts in_Ld hown hK hP 0 rfl rfl 2 (by decide) (hts _ w_154) (fun _ h9 => h9) rfl d_Ld_about_85 ?_
        refine va_getN (D := (dC, dI)) (ci := 3) (v := .int 0) (C := R_Wo) (T := F_Wo) (N := 9) hx hb hts in_Wo hown hK hP 2 rfl rfl 6 (by decide) (hkw.use v_79 rfl) (fun _ h9 => h9) rfl d_Ld_about_88 ?_
        refine W.widen (k := 0) (n := 0) (by decide) (by decide) ?_
        exact W.iret (v := 0) hx hb hr (fun t ht hW => ⟨⟨0, (), rfl, ⟨fun h => absurd h (ab0 e_0), fun _ => rfl⟩, cB.of (hP.sub [] rfl) (hD.sub [] (by decide) rfl) (hK.sub [] rfl) ht hW⟩, hS.F ht⟩) hS.2.2 d_Ld_about_91
      · skip
        by_cases e_9 : x = 9
        · skip
          refine lv_lookup (off := 41) (tgt := 92) hx hb d_Ld_about_51 (by decide) (by rw [e_9]; decide) (by decide) ?_
          refine lv_aload_n hx hb d_Ld_about_92 rfl (lv_at hl 0 rfl) ?_
          refine va_get (D := (dC, dI)) (ci := 0) (v := .ref o2) (C := R_Ld) (T := F_Ld) (N := 6) hx hb hts in_Ld hown hK hP 0 rfl rfl 2 (by decide) (hts _ w_154) (fun _ h9 => h9) rfl d_Ld_about_93 ?_
          refine lv_aload_n hx hb d_Ld_about_96 rfl (lv_at hl 0 rfl) ?_
          refine va_get (D := (dC, dI)) (ci := 0) (v := .ref o2) (C := R_Ld) (T := F_Ld) (N := 6) hx hb hts in_Ld hown hK hP 0 rfl rfl 2 (by decide) (hts _ w_154) (fun _ h9 => h9) rfl d_Ld_about_97 ?_
          refine go_i (wr := [(h0, .inr (0, [.ref o0, .ref o1, .ref o2, .ref o3, .ref o4, .int 0])), (o0, .inr (1, [.ref c0, .int (-1), .int 0, .int 0])), (w4, .inl (cA, 8, .inl (fun _ => 0)))]) (tr := [(cA, .int)]) (rV (C := "LineDisk$Workspace") (ci := 3) (q0 := 0) (b := o2) (n := 0) (As := []) (rest := [.ref o2]) F hkw (c_Wo_nextLine l dC dI o2 w0 w1 w2 w3 w4 w5 s.heap.size) xT_bl (fun _ _ _ => trivial) w_439 w_440 w_441 w_4 w_442 rfl rfl (by decide +kernel) ⟨Nat.le_of_ble_eq_true rfl, Nat.le_of_ble_eq_true rfl⟩ (hP.sub (ws' := [(o2, .inr (3, [.ref w0, .ref w1, .ref w2, .ref w3, .ref w4, .ref w5, .int 0, .int 0, .int 0]))]) [2] rfl) (hD.sub (ws' := [(o2, .inr (3, [.ref w0, .ref w1, .ref w2, .ref w3, .ref w4, .ref w5, .int 0, .int 0, .int 0]))]) [2] (by decide) rfl) (hK.sub (tys' := []) [] rfl) rfl rfl rfl rfl hl.1 rfl (Nat.le_of_ble_eq_true rfl) d_Ld_about_100 ⟨by decide, by decide⟩) hP hD hK hS hA [2] [0, 1, 3] [0] rfl rfl (by decide) (by decide) rfl (fun r u H locs hw hP hD hK hS => ?_)
          have hP : va_P (dC, dI) cls [(h0, .inr (0, [.ref o0, .ref o1, .ref o2, .ref o3, .ref o4, .int 0])), (o0, .inr (1, [.ref c0, .int (-1), .int 0, .int 0])), (w4, .inl (cA, 8, .inl (fun _ => 0))), (o2, .inr (3, [.ref w0, .ref w1, .ref w2, .ref w3, .ref w4, .ref w5, .int 0, .int 0, .int 0]))] H := hP
          have hD : va_D A [(h0, .inr (0, [.ref o0, .ref o1, .ref o2, .ref o3, .ref o4, .int 0])), (o0, .inr (1, [.ref c0, .int (-1), .int 0, .int 0])), (w4, .inl (cA, 8, .inl (fun _ => 0))), (o2, .inr (3, [.ref w0, .ref w1, .ref w2, .ref w3, .ref w4, .ref w5, .int 0, .int 0, .int 0]))] := hD
          have hK : va_K (dC, dI) cls [(cA, .int)] s := hK
          refine W.widen (k := 0) (n := 0) (by omega) (by omega) ?_
          subst hw
          refine go_i (wr := [(h0, .inr (0, [.ref o0, .ref o1, .ref o2, .ref o3, .ref o4, .int 0])), (o0, .inr (1, [.ref c0, .int (-1), .int 0, .int 0])), (w4, .inl (cA, 8, .inl (fun _ => 0)))]) (tr := [(cA, .int)]) (rV (C := "LineDisk$Workspace") (ci := 3) (q0 := 0) (b := o2) (n := 1) (As := [.int (-1)]) (rest := []) F hkw (c_Wo_numberOf l dC dI o2 w0 w1 w2 w3 w4 w5 H.size) xT_bl (fun _ _ _ => trivial) w_463 w_244 w_245 w_4 w_246 rfl rfl (by decide +kernel) ⟨Nat.le_of_ble_eq_true rfl, Nat.le_of_ble_eq_true rfl⟩ (hP.sub (ws' := [(o2, .inr (3, [.ref w0, .ref w1, .ref w2, .ref w3, .ref w4, .ref w5, .int 0, .int 0, .int 0]))]) [3] rfl) (hD.sub (ws' := [(o2, .inr (3, [.ref w0, .ref w1, .ref w2, .ref w3, .ref w4, .ref w5, .int 0, .int 0, .int 0]))]) [3] (by decide) rfl) (hK.sub (tys' := []) [] rfl) rfl rfl rfl rfl hl.1 rfl (Nat.le_of_ble_eq_true rfl) d_Ld_about_103 ⟨by decide, by decide⟩) hP hD hK hS hA [3] [0, 1, 2] [0] rfl rfl (by decide) (by decide) rfl (fun r u H locs hw hP hD hK hS => ?_)
          have hP : va_P (dC, dI) cls [(h0, .inr (0, [.ref o0, .ref o1, .ref o2, .ref o3, .ref o4, .int 0])), (o0, .inr (1, [.ref c0, .int (-1), .int 0, .int 0])), (w4, .inl (cA, 8, .inl (fun _ => 0))), (o2, .inr (3, [.ref w0, .ref w1, .ref w2, .ref w3, .ref w4, .ref w5, .int 0, .int 0, .int 0]))] H := hP
          have hD : va_D A [(h0, .inr (0, [.ref o0, .ref o1, .ref o2, .ref o3, .ref o4, .int 0])), (o0, .inr (1, [.ref c0, .int (-1), .int 0, .int 0])), (w4, .inl (cA, 8, .inl (fun _ => 0))), (o2, .inr (3, [.ref w0, .ref w1, .ref w2, .ref w3, .ref w4, .ref w5, .int 0, .int 0, .int 0]))] := hD
          have hK : va_K (dC, dI) cls [(cA, .int)] s := hK
          refine W.widen (k := 0) (n := 0) (by omega) (by omega) ?_
          subst hw
          refine W.widen (k := 0) (n := 0) (by decide) (by decide) ?_
          exact W.iret (v := 0) hx hb hr (fun t ht hW => ⟨⟨0, (), rfl, ⟨fun h => absurd h (ab9 e_9), fun _ => rfl⟩, cB.of (hP.sub [] rfl) (hD.sub [] (by decide) rfl) (hK.sub [] rfl) ht hW⟩, hS.F ht⟩) hS.2.2 d_Ld_about_106
        · skip
          by_cases e_10 : x = 10
          · skip
            refine lv_lookup (off := 56) (tgt := 107) hx hb d_Ld_about_51 (by decide) (by rw [e_10]; decide) (by decide) ?_
            refine lv_aload_n hx hb d_Ld_about_107 rfl (lv_at hl 0 rfl) ?_
            refine va_get (D := (dC, dI)) (ci := 0) (v := .ref o2) (C := R_Ld) (T := F_Ld) (N := 6) hx hb hts in_Ld hown hK hP 0 rfl rfl 2 (by decide) (hts _ w_154) (fun _ h9 => h9) rfl d_Ld_about_108 ?_
            refine va_getN (D := (dC, dI)) (ci := 3) (v := .int 0) (C := R_Wo) (T := F_Wo) (N := 9) hx hb hts in_Wo hown hK hP 2 rfl rfl 8 (by decide) (hkw.use v_83 rfl) (fun _ h9 => h9) rfl d_Ld_about_111 ?_
            refine W.widen (k := 0) (n := 0) (by decide) (by decide) ?_
            exact W.iret (v := 0) hx hb hr (fun t ht hW => ⟨⟨0, (), rfl, ⟨fun h => absurd h (ab10 e_10), fun _ => rfl⟩, cB.of (hP.sub [] rfl) (hD.sub [] (by decide) rfl) (hK.sub [] rfl) ht hW⟩, hS.F ht⟩) hS.2.2 d_Ld_about_114
          · skip
            refine lv_lookup (off := 64) (tgt := 115) hx hb d_Ld_about_51 (by decide) (by show Op.lookupswitch.offset [(0, 33), (9, 41), (10, 56)] 64 x.toInt = 64; rw [lv_osw e_0 (by decide), lv_osw e_9 (by decide), lv_osw e_10 (by decide)]; rfl) (by decide) ?_
            refine lv_iconst (v := (-1)) hx hb d_Ld_about_115 (by decide) ?_
            refine W.widen (k := 0) (n := 0) (by decide) (by decide) ?_
            exact W.iret (v := (-1)) hx hb hr (fun t ht hW => ⟨⟨(-1), (), rfl, ⟨fun _ => rfl, fun h => absurd (ab4 h11 (Or.inl hlo) e_0 e_9 e_10) h⟩, cB.of (hP.sub [] rfl) (hD.sub [] (by decide) rfl) (hK.sub [] rfl) ht hW⟩, hS.F ht⟩) hS.2.2 d_Ld_about_116
    · skip
      refine lv_iload_n hx hb d_Ld_about_32 rfl (lv_at hl 1 rfl) ?_
      refine lv_bipush (v := 8) hx hb d_Ld_about_33 (by decide) ?_
      refine lv_icmp_gt (tgt := 50) hx hb d_Ld_about_35 (by decide) (fun hhi => ?_) (fun hhi => ?_)
      · skip
        refine lv_iload_n hx hb d_Ld_about_50 rfl (lv_at hl 1 rfl) ?_
        by_cases e_0 : x = 0
        · skip
          refine lv_lookup (off := 33) (tgt := 84) hx hb d_Ld_about_51 (by decide) (by rw [e_0]; decide) (by decide) ?_
          refine lv_aload_n hx hb d_Ld_about_84 rfl (lv_at hl 0 rfl) ?_
          refine va_get (D := (dC, dI)) (ci := 0) (v := .ref o2) (C := R_Ld) (T := F_Ld) (N := 6) hx hb hts in_Ld hown hK hP 0 rfl rfl 2 (by decide) (hts _ w_154) (fun _ h9 => h9) rfl d_Ld_about_85 ?_
          refine va_getN (D := (dC, dI)) (ci := 3) (v := .int 0) (C := R_Wo) (T := F_Wo) (N := 9) hx hb hts in_Wo hown hK hP 2 rfl rfl 6 (by decide) (hkw.use v_79 rfl) (fun _ h9 => h9) rfl d_Ld_about_88 ?_
          refine W.widen (k := 0) (n := 0) (by decide) (by decide) ?_
          exact W.iret (v := 0) hx hb hr (fun t ht hW => ⟨⟨0, (), rfl, ⟨fun h => absurd h (ab0 e_0), fun _ => rfl⟩, cB.of (hP.sub [] rfl) (hD.sub [] (by decide) rfl) (hK.sub [] rfl) ht hW⟩, hS.F ht⟩) hS.2.2 d_Ld_about_91
        · skip
          by_cases e_9 : x = 9
          · skip
            refine lv_lookup (off := 41) (tgt := 92) hx hb d_Ld_about_51 (by decide) (by rw [e_9]; decide) (by decide) ?_
            refine lv_aload_n hx hb d_Ld_about_92 rfl (lv_at hl 0 rfl) ?_
            refine va_get (D := (dC, dI)) (ci := 0) (v := .ref o2) (C := R_Ld) (T := F_Ld) (N := 6) hx hb hts in_Ld hown hK hP 0 rfl rfl 2 (by decide) (hts _ w_154) (fun _ h9 => h9) rfl d_Ld_about_93 ?_
            refine lv_aload_n hx hb d_Ld_about_96 rfl (lv_at hl 0 rfl) ?_
            refine va_get (D := (dC, dI)) (ci := 0) (v := .ref o2) (C := R_Ld) (T := F_Ld) (N := 6) hx hb hts in_Ld hown hK hP 0 rfl rfl 2 (by decide) (hts _ w_154) (fun _ h9 => h9) rfl d_Ld_about_97 ?_
            refine go_i (wr := [(h0, .inr (0, [.ref o0, .ref o1, .ref o2, .ref o3, .ref o4, .int 0])), (o0, .inr (1, [.ref c0, .int (-1), .int 0, .int 0])), (w4, .inl (cA, 8, .inl (fun _ => 0)))]) (tr := [(cA, .int)]) (rV (C := "LineDisk$Workspace") (ci := 3) (q0 := 0) (b := o2) (n := 0) (As := []) (rest := [.ref o2]) F hkw (c_Wo_nextLine l dC dI o2 w0 w1 w2 w3 w4 w5 s.heap.size) xT_bl (fun _ _ _ => trivial) w_439 w_440 w_441 w_4 w_442 rfl rfl (by decide +kernel) ⟨Nat.le_of_ble_eq_true rfl, Nat.le_of_ble_eq_true rfl⟩ (hP.sub (ws' := [(o2, .inr (3, [.ref w0, .ref w1, .ref w2, .ref w3, .ref w4, .ref w5, .int 0, .int 0, .int 0]))]) [2] rfl) (hD.sub (ws' := [(o2, .inr (3, [.ref w0, .ref w1, .ref w2, .ref w3, .ref w4, .ref w5, .int 0, .int 0, .int 0]))]) [2] (by decide) rfl) (hK.sub (tys' := []) [] rfl) rfl rfl rfl rfl hl.1 rfl (Nat.le_of_ble_eq_true rfl) d_Ld_about_100 ⟨by decide, by decide⟩) hP hD hK hS hA [2] [0, 1, 3] [0] rfl rfl (by decide) (by decide) rfl (fun r u H locs hw hP hD hK hS => ?_)
            have hP : va_P (dC, dI) cls [(h0, .inr (0, [.ref o0, .ref o1, .ref o2, .ref o3, .ref o4, .int 0])), (o0, .inr (1, [.ref c0, .int (-1), .int 0, .int 0])), (w4, .inl (cA, 8, .inl (fun _ => 0))), (o2, .inr (3, [.ref w0, .ref w1, .ref w2, .ref w3, .ref w4, .ref w5, .int 0, .int 0, .int 0]))] H := hP
            have hD : va_D A [(h0, .inr (0, [.ref o0, .ref o1, .ref o2, .ref o3, .ref o4, .int 0])), (o0, .inr (1, [.ref c0, .int (-1), .int 0, .int 0])), (w4, .inl (cA, 8, .inl (fun _ => 0))), (o2, .inr (3, [.ref w0, .ref w1, .ref w2, .ref w3, .ref w4, .ref w5, .int 0, .int 0, .int 0]))] := hD
            have hK : va_K (dC, dI) cls [(cA, .int)] s := hK
            refine W.widen (k := 0) (n := 0) (by omega) (by omega) ?_
            subst hw
            refine go_i (wr := [(h0, .inr (0, [.ref o0, .ref o1, .ref o2, .ref o3, .ref o4, .int 0])), (o0, .inr (1, [.ref c0, .int (-1), .int 0, .int 0])), (w4, .inl (cA, 8, .inl (fun _ => 0)))]) (tr := [(cA, .int)]) (rV (C := "LineDisk$Workspace") (ci := 3) (q0 := 0) (b := o2) (n := 1) (As := [.int (-1)]) (rest := []) F hkw (c_Wo_numberOf l dC dI o2 w0 w1 w2 w3 w4 w5 H.size) xT_bl (fun _ _ _ => trivial) w_463 w_244 w_245 w_4 w_246 rfl rfl (by decide +kernel) ⟨Nat.le_of_ble_eq_true rfl, Nat.le_of_ble_eq_true rfl⟩ (hP.sub (ws' := [(o2, .inr (3, [.ref w0, .ref w1, .ref w2, .ref w3, .ref w4, .ref w5, .int 0, .int 0, .int 0]))]) [3] rfl) (hD.sub (ws' := [(o2, .inr (3, [.ref w0, .ref w1, .ref w2, .ref w3, .ref w4, .ref w5, .int 0, .int 0, .int 0]))]) [3] (by decide) rfl) (hK.sub (tys' := []) [] rfl) rfl rfl rfl rfl hl.1 rfl (Nat.le_of_ble_eq_true rfl) d_Ld_about_103 ⟨by decide, by decide⟩) hP hD hK hS hA [3] [0, 1, 2] [0] rfl rfl (by decide) (by decide) rfl (fun r u H locs hw hP hD hK hS => ?_)
            have hP : va_P (dC, dI) cls [(h0, .inr (0, [.ref o0, .ref o1, .ref o2, .ref o3, .ref o4, .int 0])), (o0, .inr (1, [.ref c0, .int (-1), .int 0, .int 0])), (w4, .inl (cA, 8, .inl (fun _ => 0))), (o2, .inr (3, [.ref w0, .ref w1, .ref w2, .ref w3, .ref w4, .ref w5, .int 0, .int 0, .int 0]))] H := hP
            have hD : va_D A [(h0, .inr (0, [.ref o0, .ref o1, .ref o2, .ref o3, .ref o4, .int 0])), (o0, .inr (1, [.ref c0, .int (-1), .int 0, .int 0])), (w4, .inl (cA, 8, .inl (fun _ => 0))), (o2, .inr (3, [.ref w0, .ref w1, .ref w2, .ref w3, .ref w4, .ref w5, .int 0, .int 0, .int 0]))] := hD
            have hK : va_K (dC, dI) cls [(cA, .int)] s := hK
            refine W.widen (k := 0) (n := 0) (by omega) (by omega) ?_
            subst hw
            refine W.widen (k := 0) (n := 0) (by decide) (by decide) ?_
            exact W.iret (v := 0) hx hb hr (fun t ht hW => ⟨⟨0, (), rfl, ⟨fun h => absurd h (ab9 e_9), fun _ => rfl⟩, cB.of (hP.sub [] rfl) (hD.sub [] (by decide) rfl) (hK.sub [] rfl) ht hW⟩, hS.F ht⟩) hS.2.2 d_Ld_about_106
          · skip
            by_cases e_10 : x = 10
            · skip
              refine lv_lookup (off := 56) (tgt := 107) hx hb d_Ld_about_51 (by decide) (by rw [e_10]; decide) (by decide) ?_
              refine lv_aload_n hx hb d_Ld_about_107 rfl (lv_at hl 0 rfl) ?_
              refine va_get (D := (dC, dI)) (ci := 0) (v := .ref o2) (C := R_Ld) (T := F_Ld) (N := 6) hx hb hts in_Ld hown hK hP 0 rfl rfl 2 (by decide) (hts _ w_154) (fun _ h9 => h9) rfl d_Ld_about_108 ?_
              refine va_getN (D := (dC, dI)) (ci := 3) (v := .int 0) (C := R_Wo) (T := F_Wo) (N := 9) hx hb hts in_Wo hown hK hP 2 rfl rfl 8 (by decide) (hkw.use v_83 rfl) (fun _ h9 => h9) rfl d_Ld_about_111 ?_
              refine W.widen (k := 0) (n := 0) (by decide) (by decide) ?_
              exact W.iret (v := 0) hx hb hr (fun t ht hW => ⟨⟨0, (), rfl, ⟨fun h => absurd h (ab10 e_10), fun _ => rfl⟩, cB.of (hP.sub [] rfl) (hD.sub [] (by decide) rfl) (hK.sub [] rfl) ht hW⟩, hS.F ht⟩) hS.2.2 d_Ld_about_114
            · skip
              refine lv_lookup (off := 64) (tgt := 115) hx hb d_Ld_about_51 (by decide) (by show Op.lookupswitch.offset [(0, 33), (9, 41), (10, 56)] 64 x.toInt = 64; rw [lv_osw e_0 (by decide), lv_osw e_9 (by decide), lv_osw e_10 (by decide)]; rfl) (by decide) ?_
              refine lv_iconst (v := (-1)) hx hb d_Ld_about_115 (by decide) ?_
              refine W.widen (k := 0) (n := 0) (by decide) (by decide) ?_
              exact W.iret (v := (-1)) hx hb hr (fun t ht hW => ⟨⟨(-1), (), rfl, ⟨fun _ => rfl, fun h => absurd (ab4 h11 (Or.inr hhi) e_0 e_9 e_10) h⟩, cB.of (hP.sub [] rfl) (hD.sub [] (by decide) rfl) (hK.sub [] rfl) ht hW⟩, hS.F ht⟩) hS.2.2 d_Ld_about_116
      · skip
        refine lv_aload_n hx hb d_Ld_about_38 rfl (lv_at hl 0 rfl) ?_
        refine va_get (D := (dC, dI)) (ci := 0) (v := .ref o2) (C := R_Ld) (T := F_Ld) (N := 6) hx hb hts in_Ld hown hK hP 0 rfl rfl 2 (by decide) (hts _ w_154) (fun _ h9 => h9) rfl d_Ld_about_39 ?_
        refine va_getN (D := (dC, dI)) (ci := 3) (v := .ref w4) (C := R_Wo) (T := F_Wo) (N := 9) hx hb hts in_Wo hown hK hP 2 rfl rfl 4 (by decide) (hkw.use v_75 rfl) (fun _ h9 => h9) rfl d_Ld_about_42 ?_
        refine lv_iload_n hx hb d_Ld_about_45 rfl (lv_at hl 1 rfl) ?_
        refine lv_iconst (v := 1) hx hb d_Ld_about_46 (by decide) ?_
        refine lv_isub hx hb d_Ld_about_47 ?_
        refine va_iald hx hb hK hP 3 0 rfl rfl (in8 hlo hhi) d_Ld_about_48 ?_
        refine tv (x2 := 0) (by exact rfl) ?_
        refine W.widen (k := 0) (n := 0) (by decide) (by decide) ?_
        exact W.iret (v := 0) hx hb hr (fun t ht hW => ⟨⟨0, (), rfl, ⟨fun h => absurd h (ab2 hlo hhi), fun _ => rfl⟩, cB.of (hP.sub [] rfl) (hD.sub [] (by decide) rfl) (hK.sub [] rfl) ht hW⟩, hS.F ht⟩) hS.2.2 d_Ld_about_49
  · skip
    refine lv_aload_n hx hb d_Ld_about_6 rfl (lv_at hl 0 rfl) ?_
    refine va_get (D := (dC, dI)) (ci := 0) (v := .ref o0) (C := R_Ld) (T := F_Ld) (N := 6) hx hb hts in_Ld hown hK hP 0 rfl rfl 0 (by decide) (hts _ w_152) (fun _ h9 => h9) rfl d_Ld_about_7 ?_
    refine va_getN (D := (dC, dI)) (ci := 1) (v := .int 0) (C := R_St) (T := F_St) (N := 4) hx hb hts in_St hown hK hP 1 rfl rfl 3 (by decide) (hkw.use v_35 rfl) (fun _ h9 => h9) rfl d_Ld_about_10 ?_
    refine W.widen (k := 0) (n := 0) (by decide) (by decide) ?_
    exact W.iret (v := 0) hx hb hr (fun t ht hW => ⟨⟨0, (), rfl, ⟨fun h => absurd h (ab1 h11), fun _ => rfl⟩, cB.of (hP.sub [] rfl) (hD.sub [] (by decide) rfl) (hK.sub [] rfl) ht hW⟩, hS.F ht⟩) hS.2.2 d_Ld_about_13
def xR (row : Nat) (f : Nat → Int32) (h0 c0 : Nat) : State → Prop := fun U => va_X row 16 f U U.heap ∧ row < U.heap.size ∧ row ≠ h0 ∧ row ≠ c0
theorem xR_bl {row : Nat} {f : Nat → Int32} {h0 c0 : Nat} : xBl (xR row f h0 c0) := fun U g mk a h => ⟨va_X.moved (u := U) (U := U.calling g mk a) (Vm.Alike.refl U.vm) h.1, h.2⟩
theorem xR_of {row : Nat} {f : Nat → Int32} {h0 c0 : Nat} {A : Nat → Prop} {s : State} {H : Heap} {locs : List Loc} {ws : va_W} {i j : Nat} {e0 e1 : va_E} (h1 : va_X row 16 f s s.heap) (h2 : row < s.heap.size) (h3 : ¬ A row) (hS : va_S A s.heap H locs) (hD : va_D A ws) (hi : ws[i]? = some (h0, e0)) (hj : ws[j]? = some (c0, e1)) : ∀ U : State, U.heap = H → s.WarmedH U.vm → xR row f h0 c0 U :=
  fun U hU hW => ⟨by rw [hU]; exact va_X.moved hW.alike (h1.kept (hS.2.1 row h2 h3)), by rw [hU]; exact Nat.lt_of_lt_of_le h2 hS.1, fun e => h3 (by rw [e]; exact hD.2 i _ hi), fun e => h3 (by rw [e]; exact hD.2 j _ hj)⟩
def xF (t1 t2 : Nat) (f1 f2 : Nat → Int32) (ws : va_W) : State → Prop := fun U => va_Z "LineDisk" "EMPTY_BLOCK" "[I" (.ref t1) (va_A ws U.heap.size) U U.heap ∧ va_Z "LineDisk" "FORMATTED_HEAD" "[I" (.ref t2) (va_A ws U.heap.size) U U.heap ∧ va_X t1 16 f1 U U.heap ∧ va_X t2 16 f2 U U.heap ∧ t1 < U.heap.size ∧ t2 < U.heap.size ∧ ¬ va_A ws U.heap.size t1 ∧ ¬ va_A ws U.heap.size t2
theorem xF_bl {t1 t2 : Nat} {f1 f2 : Nat → Int32} {ws : va_W} : xBl (xF t1 t2 f1 f2 ws) := fun U g mk a h => ⟨va_Z.moved (u := U) (U := U.calling g mk a) (Vm.Alike.refl U.vm) h.1, va_Z.moved (u := U) (U := U.calling g mk a) (Vm.Alike.refl U.vm) h.2.1, va_X.moved (u := U) (U := U.calling g mk a) (Vm.Alike.refl U.vm) h.2.2.1, va_X.moved (u := U) (U := U.calling g mk a) (Vm.Alike.refl U.vm) h.2.2.2.1, h.2.2.2.2⟩
set_option maxHeartbeats 4000000 in
set_option maxRecDepth 100000 in
theorem c_St_write (l : Launch) (dC : Nat → ClassId) (dI : Nat → Nat → Nat) (h0 c0 : Nat) (cA : ClassId) (g : Nat → Int32) (wr : Int32) (row : Nat) (f : Nat → Int32) (bk dp : Int32) (hb1 : ¬ bk < 0) (hb2 : ¬ 32 ≤ bk) (hm : bk * 16 = dp) (hd1 : ¬ dp < 0) (hd2 : dp.toNatClampNeg + (16 : Int32).toNatClampNeg ≤ 512) (sz : Nat) : Met l y_St_write (Cond.code y_St_write b_St_write 4 (some .boolean) :: gw) ({ frames := 1, cells := 0, slots := 0, locals := 100 }) (cP (dC, dI) [.ref h0, .int bk, .ref row, .int 0] sz [(h0, .inr (1, [.ref c0, .int (-1), .int 0, .int wr])), (c0, .inl (cA, 512, .inl g))] [(cA, .int)] (xR row f h0 c0)) (va_Qi (fun (r : Int32) (u : Nat → Int32) => r = 1) (fun (u : Nat → Int32) t => cB (dC, dI) (va_A [(h0, .inr (1, [.ref c0, .int (-1), .int 0, .int wr])), (c0, .inl (cA, 512, .inl g))] sz) [(h0, .inr (1, [.ref c0, .int (-1), .int 0, .int (wr + 1)])), (c0, .inl (cA, 512, .inl u))] [(cA, .int)] t) (va_A [(h0, .inr (1, [.ref c0, .int (-1), .int 0, .int wr])), (c0, .inl (cA, 512, .inl g))] sz)) 0 0 (va_A [(h0, .inr (1, [.ref c0, .int (-1), .int 0, .int wr])), (c0, .inl (cA, 512, .inl g))] sz) := by
  refine Met.ofW (cc := b_St_write) (maxL := 4) (ret := (some .boolean)) (by decide) rfl ?_
  intro p e s m args below meth c s₁ B hml hv
  obtain ⟨rfl, hsz, hP, hK, hD0, hkw, hX⟩ := hv
  have hx := B.exec
  have hb := B.bytes
  have hr := B.returns
  have hts := fun w hw => atoms_spec (ws := Cond.code y_St_write b_St_write 4 (some .boolean) :: gw) B.pre w (List.mem_cons_of_mem _ hw)
  have hown : s.vm.findClass "LineDisk$Store" = some m.cls := findClass_of_methodNamed B.named
  have hlocks := B.notSynchronized
  have hin := (name_of_methodNamed B.named B.method).1
  subst hsz
  have hD := hD0.self (sz := s.heap.size)
  generalize hAe : va_A [(h0, .inr (1, [.ref c0, .int (-1), .int 0, .int wr])), (c0, .inl (cA, 512, .inl g))] s.heap.size = A at hD ⊢
  have hA : ∀ q : Nat, s.heap.size ≤ q → A q := fun q h => by rw [← hAe]; exact Or.inr h
  have hS : va_S A s.heap s.heap [] := va_S.rf
  have hl := lv_entry ([.ref h0, .int bk, .ref row, .int 0]) (n := 4) (Nat.le_of_ble_eq_true rfl)
  rw [lg_entry_eq]
  generalize (lg_sl ([.ref h0, .int bk, .ref row, .int 0]) ++ List.replicate (4 - (lg_sl ([.ref h0, .int bk, .ref row, .int 0])).length) Slot.unset).toArray = ls at hl ⊢
  have hl : lv_has ls 4 [(0, .ref h0), (1, .int bk), (2, .ref row), (3, .int 0)] := hl
  have F : CallFix p m c b_St_write 4 s ([.ref h0, .int bk, .ref row, .int 0]).toArray gw "LineDisk$Store" := ⟨hx, hb, hml, hown, hts⟩
  obtain ⟨hXr, hrl, hr1, hr2⟩ := hX
  have hbA : ¬ A row := by
    rw [← hAe]
    rintro (⟨k, e, h⟩ | h)
    · match k, h with
      | 0, h => exact hr1 (by cases h; rfl)
      | 1, h => exact hr2 (by cases h; rfl)
    · omega
  refine lv_aload_n hx hb d_St_write_0 rfl (lv_at hl 0 rfl) ?_
  refine va_get (D := (dC, dI)) (ci := 1) (v := .int (-1)) (C := R_St) (T := F_St) (N := 4) hx hb hts in_St hown hK hP 0 rfl rfl 1 (by decide) (hts _ w_30) (fun _ h9 => h9) rfl d_St_write_1 ?_
  refine lv_if_ne (tgt := 19) hx hb d_St_write_4 (by decide) (fun _ => ?_) (fun h => absurd h (by decide))
  refine lv_aload_n hx hb d_St_write_19 rfl (lv_at hl 0 rfl) ?_
  refine va_get (D := (dC, dI)) (ci := 1) (v := .int (-1)) (C := R_St) (T := F_St) (N := 4) hx hb hts in_St hown hK hP 0 rfl rfl 1 (by decide) (hts _ w_30) (fun _ h9 => h9) rfl d_St_write_20 ?_
  refine lv_if_le (tgt := 36) hx hb d_St_write_23 (by decide) (fun _ => ?_) (fun h => absurd (by decide) h)
  refine lv_iload_n hx hb d_St_write_36 rfl (lv_at hl 1 rfl) ?_
  refine lv_if_lt (tgt := 84) hx hb d_St_write_37 (by decide) (fun h => absurd h (hb1)) (fun _ => ?_)
  refine lv_iload_n hx hb d_St_write_40 rfl (lv_at hl 1 rfl) ?_
  refine lv_bipush (v := 32) hx hb d_St_write_41 (by decide) ?_
  refine lv_icmp_ge (tgt := 84) hx hb d_St_write_43 (by decide) (fun h => absurd h (hb2)) (fun _ => ?_)
  refine lv_iload_n hx hb d_St_write_46 rfl (lv_at hl 3 rfl) ?_
  refine lv_if_lt (tgt := 84) hx hb d_St_write_47 (by decide) (fun h => absurd h (by decide)) (fun _ => ?_)
  refine lv_iload_n hx hb d_St_write_50 rfl (lv_at hl 3 rfl) ?_
  refine lv_aload_n hx hb d_St_write_51 rfl (lv_at hl 2 rfl) ?_
  refine va_slen hx hb hXr hrl hbA hS d_St_write_52 ?_
  refine tv (x2 := 16) (by decide) ?_
  refine lv_bipush (v := 16) hx hb d_St_write_53 (by decide) ?_
  refine lv_isub hx hb d_St_write_55 ?_
  refine tv (x2 := 0) (by decide) ?_
  refine lv_icmp_gt (tgt := 84) hx hb d_St_write_56 (by decide) (fun h => absurd h (by decide)) (fun _ => ?_)
  refine lv_aload_n hx hb d_St_write_59 rfl (lv_at hl 2 rfl) ?_
  refine lv_iload_n hx hb d_St_write_60 rfl (lv_at hl 3 rfl) ?_
  refine lv_aload_n hx hb d_St_write_61 rfl (lv_at hl 0 rfl) ?_
  refine va_get (D := (dC, dI)) (ci := 1) (v := .ref c0) (C := R_St) (T := F_St) (N := 4) hx hb hts in_St hown hK hP 0 rfl rfl 0 (by decide) (hts _ w_29) (fun _ h9 => h9) rfl d_St_write_62 ?_
  refine lv_iload_n hx hb d_St_write_65 rfl (lv_at hl 1 rfl) ?_
  refine lv_bipush (v := 16) hx hb d_St_write_66 (by decide) ?_
  refine lv_imul hx hb d_St_write_68 ?_
  refine tv (x2 := dp) (by exact hm) ?_
  refine lv_bipush (v := 16) hx hb d_St_write_69 (by decide) ?_
  refine va_copyx (rest := []) hx hb (by rw [hml]; exact hl.1.symm) hown (hts _ w_181) (hts _ w_183) (hts _ w_182) (hts _ w_7) hK hP hD hS hXr hrl hbA 1 0 rfl rfl (by decide) hd1 (by decide) (by decide) hd2 (by decide) (by decide) d_St_write_71 (fun H locs hP hD hS => ?_)
  have hP : va_P (dC, dI) cls [(h0, .inr (1, [.ref c0, .int (-1), .int 0, .int wr])), (c0, .inl (cA, 512, .inl (va_cpy f g (0 : Int32).toNatClampNeg dp.toNatClampNeg (16 : Int32).toNatClampNeg)))] H := hP
  have hD : va_D A [(h0, .inr (1, [.ref c0, .int (-1), .int 0, .int wr])), (c0, .inl (cA, 512, .inl (va_cpy f g (0 : Int32).toNatClampNeg dp.toNatClampNeg (16 : Int32).toNatClampNeg)))] := hD
  refine lv_aload_n hx hb d_St_write_74 rfl (lv_at hl 0 rfl) ?_
  refine lv_dup hx hb d_St_write_75 rfl ?_
  refine va_get (D := (dC, dI)) (ci := 1) (v := .int wr) (C := R_St) (T := F_St) (N := 4) hx hb hts in_St hown hK hP 0 rfl rfl 3 (by decide) (hts _ w_34) (fun _ h9 => h9) rfl d_St_write_76 ?_
  refine lv_iconst (v := 1) hx hb d_St_write_79 (by decide) ?_
  refine lv_iadd hx hb d_St_write_80 ?_
  refine va_put (D := (dC, dI)) (ci := 1) (v := .int (wr + 1)) (ty := .int) (C := R_St) (T := F_St) (N := 4) hx hb hts in_St t_St t_St_ok n_St hown hK hP hD hS 0 rfl rfl 3 (by decide) (hts _ w_34) (fun _ h9 => h9) rfl (by decide +kernel) (rfl) (rfl) (Nat.le_of_ble_eq_true rfl) d_St_write_81 (fun H locs hP hD hS => ?_)
  have hP : va_P (dC, dI) cls [(h0, .inr (1, [.ref c0, .int (-1), .int 0, .int (wr + 1)])), (c0, .inl (cA, 512, .inl (va_cpy f g (0 : Int32).toNatClampNeg dp.toNatClampNeg (16 : Int32).toNatClampNeg)))] H := hP
  have hD : va_D A [(h0, .inr (1, [.ref c0, .int (-1), .int 0, .int (wr + 1)])), (c0, .inl (cA, 512, .inl (va_cpy f g (0 : Int32).toNatClampNeg dp.toNatClampNeg (16 : Int32).toNatClampNeg)))] := hD
  refine lv_iconst (v := 1) hx hb d_St_write_84 (by decide) ?_
  refine W.widen (k := 0) (n := 0) (by decide) (by decide) ?_
  exact W.zret (v := 1) hx hb hr rfl (fun t ht hW => ⟨⟨1, va_cpy f g (0 : Int32).toNatClampNeg dp.toNatClampNeg (16 : Int32).toNatClampNeg, rfl, rfl, cB.of (hP.sub [0, 1] rfl) (hD.sub [0, 1] (by decide) rfl) (hK.sub [0] rfl) ht hW⟩, hS.F ht⟩) hS.2.2 d_St_write_85
set_option maxHeartbeats 4000000 in
set_option maxRecDepth 100000 in
theorem c_Ld_format (l : Launch) (dC : Nat → ClassId) (dI : Nat → Nat → Nat) (h0 o0 o1 o2 o3 o4 : Nat) (c0 : Nat) (cA : ClassId) (t1 t2 : Nat) (f1 f2 : Nat → Int32) (sz : Nat) : Met l y_Ld_format (Cond.code y_Ld_format b_Ld_format 2 (some .int) :: gw) ({ frames := 2, cells := 0, slots := 0, locals := 123 }) (cP (dC, dI) [.ref h0] sz [(h0, .inr (0, [.ref o0, .ref o1, .ref o2, .ref o3, .ref o4, .int 0])), (o0, .inr (1, [.ref c0, .int (-1), .int 0, .int 0])), (c0, .inl (cA, 512, .inl (fun _ => 0)))] [(cA, .int)] (xF t1 t2 f1 f2 [(h0, .inr (0, [.ref o0, .ref o1, .ref o2, .ref o3, .ref o4, .int 0])), (o0, .inr (1, [.ref c0, .int (-1), .int 0, .int 0])), (c0, .inl (cA, 512, .inl (fun _ => 0)))])) (va_Qi (fun (r : Int32) (u : Unit) => r = 0) (fun (u : Unit) t => cB (dC, dI) (va_A [(h0, .inr (0, [.ref o0, .ref o1, .ref o2, .ref o3, .ref o4, .int 0])), (o0, .inr (1, [.ref c0, .int (-1), .int 0, .int 0])), (c0, .inl (cA, 512, .inl (fun _ => 0)))] sz) [] [] t) (va_A [(h0, .inr (0, [.ref o0, .ref o1, .ref o2, .ref o3, .ref o4, .int 0])), (o0, .inr (1, [.ref c0, .int (-1), .int 0, .int 0])), (c0, .inl (cA, 512, .inl (fun _ => 0)))] sz)) 0 0 (va_A [(h0, .inr (0, [.ref o0, .ref o1, .ref o2, .ref o3, .ref o4, .int 0])), (o0, .inr (1, [.ref c0, .int (-1), .int 0, .int 0])), (c0, .inl (cA, 512, .inl (fun _ => 0)))] sz) := by
  refine Met.ofW (cc := b_Ld_format) (maxL := 2) (ret := (some .int)) (by decide) rfl ?_
  intro p e s m args below meth c s₁ B hml hv
  obtain ⟨rfl, hsz, hP, hK, hD0, hkw, hX⟩ := hv
  have hx := B.exec
  have hb := B.bytes
  have hr := B.returns
  have hts := fun w hw => atoms_spec (ws := Cond.code y_Ld_format b_Ld_format 2 (some .int) :: gw) B.pre w (List.mem_cons_of_mem _ hw)
  have hown : s.vm.findClass "LineDisk" = some m.cls := findClass_of_methodNamed B.named
  have hlocks := B.notSynchronized
  have hin := (name_of_methodNamed B.named B.method).1
  subst hsz
  have hD := hD0.self (sz := s.heap.size)
  generalize hAe : va_A [(h0, .inr (0, [.ref o0, .ref o1, .ref o2, .ref o3, .ref o4, .int 0])), (o0, .inr (1, [.ref c0, .int (-1), .int 0, .int 0])), (c0, .inl (cA, 512, .inl (fun _ => 0)))] s.heap.size = A at hD ⊢
  have hA : ∀ q : Nat, s.heap.size ≤ q → A q := fun q h => by rw [← hAe]; exact Or.inr h
  have hS : va_S A s.heap s.heap [] := va_S.rf
  have hl := lv_entry ([.ref h0]) (n := 2) (Nat.le_of_ble_eq_true rfl)
  rw [lg_entry_eq]
  generalize (lg_sl ([.ref h0]) ++ List.replicate (2 - (lg_sl ([.ref h0])).length) Slot.unset).toArray = ls at hl ⊢
  have hl : lv_has ls 2 [(0, .ref h0)] := hl
  have F : CallFix p m c b_Ld_format 2 s ([.ref h0]).toArray gw "LineDisk" := ⟨hx, hb, hml, hown, hts⟩
  obtain ⟨hz1, hz2, hx1, hx2, hl1, hl2, hn1, hn2⟩ := hX
  rw [hAe] at hz1 hz2 hn1 hn2
  refine lv_aload_n hx hb d_Ld_format_0 rfl (lv_at hl 0 rfl) ?_
  refine va_get (D := (dC, dI)) (ci := 0) (v := .ref o0) (C := R_Ld) (T := F_Ld) (N := 6) hx hb hts in_Ld hown hK hP 0 rfl rfl 0 (by decide) (hts _ w_152) (fun _ h9 => h9) rfl d_Ld_format_1 ?_
  refine va_getN (D := (dC, dI)) (ci := 1) (v := .int 0) (C := R_St) (T := F_St) (N := 4) hx hb hts in_St hown hK hP 1 rfl rfl 2 (by decide) (hkw.use v_33 rfl) (fun _ h9 => h9) rfl d_Ld_format_4 ?_
  refine lv_if_eq (tgt := 13) hx hb d_Ld_format_7 (by decide) (fun _ => ?_) (fun h => absurd (by decide) h)
  refine lv_aload_n hx hb d_Ld_format_13 rfl (lv_at hl 0 rfl) ?_
  refine va_get (D := (dC, dI)) (ci := 0) (v := .ref o0) (C := R_Ld) (T := F_Ld) (N := 6) hx hb hts in_Ld hown hK hP 0 rfl rfl 0 (by decide) (hts _ w_152) (fun _ h9 => h9) rfl d_Ld_format_14 ?_
  refine lv_iconst (v := 2) hx hb d_Ld_format_17 (by decide) ?_
  refine va_gets (C := "LineDisk") hx hb hz1 hS hown (hts _ w_175) (fun _ h9 => h9) d_Ld_format_18 ?_
  refine lv_iconst (v := 0) hx hb d_Ld_format_21 (by decide) ?_
  refine go_i (wr := [(h0, .inr (0, [.ref o0, .ref o1, .ref o2, .ref o3, .ref o4, .int 0]))]) (tr := []) (rV (C := "LineDisk$Store") (ci := 1) (q0 := 0) (b := o0) (n := 3) (As := [.int 2, .ref t1, .int 0]) (rest := []) F hkw (c_St_write l dC dI o0 c0 cA (fun _ => 0) (0) t1 f1 2 32 (by decide) (by decide) (by decide) (by decide) (by decide) s.heap.size) xR_bl (xR_of hx1 hl1 hn1 hS hD (i := 1) (j := 2) rfl rfl) w_177 w_178 w_179 w_2 w_180 rfl rfl (by decide +kernel) ⟨Nat.le_of_ble_eq_true rfl, Nat.le_of_ble_eq_true rfl⟩ (hP.sub (ws' := [(o0, .inr (1, [.ref c0, .int (-1), .int 0, .int 0])), (c0, .inl (cA, 512, .inl (fun _ => 0)))]) [1, 2] rfl) (hD.sub (ws' := [(o0, .inr (1, [.ref c0, .int (-1), .int 0, .int 0])), (c0, .inl (cA, 512, .inl (fun _ => 0)))]) [1, 2] (by decide) rfl) (hK.sub (tys' := [(cA, .int)]) [0] rfl) rfl rfl rfl rfl hl.1 rfl (Nat.le_of_ble_eq_true rfl) d_Ld_format_22 ⟨by decide, by decide⟩) hP hD hK hS hA [1, 2] [0] [] rfl rfl (by decide) (by decide) rfl (fun r v22 H locs hw hP hD hK hS => ?_)
  have hP : va_P (dC, dI) cls [(h0, .inr (0, [.ref o0, .ref o1, .ref o2, .ref o3, .ref o4, .int 0])), (o0, .inr (1, [.ref c0, .int (-1), .int 0, .int (0 + 1)])), (c0, .inl (cA, 512, .inl v22))] H := hP
  have hD : va_D A [(h0, .inr (0, [.ref o0, .ref o1, .ref o2, .ref o3, .ref o4, .int 0])), (o0, .inr (1, [.ref c0, .int (-1), .int 0, .int (0 + 1)])), (c0, .inl (cA, 512, .inl v22))] := hD
  have hK : va_K (dC, dI) cls [(cA, .int)] s := hK
  refine W.widen (k := 0) (n := 0) (by omega) (by omega) ?_
  subst hw
  refine lv_if_eq (tgt := 62) hx hb d_Ld_format_25 (by decide) (fun h => absurd h (by decide)) (fun _ => ?_)
  refine lv_aload_n hx hb d_Ld_format_28 rfl (lv_at hl 0 rfl) ?_
  refine va_get (D := (dC, dI)) (ci := 0) (v := .ref o0) (C := R_Ld) (T := F_Ld) (N := 6) hx hb hts in_Ld hown hK hP 0 rfl rfl 0 (by decide) (hts _ w_152) (fun _ h9 => h9) rfl d_Ld_format_29 ?_
  refine lv_iconst (v := 1) hx hb d_Ld_format_32 (by decide) ?_
  refine va_gets (C := "LineDisk") hx hb hz1 hS hown (hts _ w_175) (fun _ h9 => h9) d_Ld_format_33 ?_
  refine lv_iconst (v := 0) hx hb d_Ld_format_36 (by decide) ?_
  refine go_i (wr := [(h0, .inr (0, [.ref o0, .ref o1, .ref o2, .ref o3, .ref o4, .int 0]))]) (tr := []) (rV (C := "LineDisk$Store") (ci := 1) (q0 := 0) (b := o0) (n := 3) (As := [.int 1, .ref t1, .int 0]) (rest := []) F hkw (c_St_write l dC dI o0 c0 cA (v22) (0 + 1) t1 f1 1 16 (by decide) (by decide) (by decide) (by decide) (by decide) H.size) xR_bl (xR_of hx1 hl1 hn1 hS hD (i := 1) (j := 2) rfl rfl) w_177 w_178 w_179 w_2 w_180 rfl rfl (by decide +kernel) ⟨Nat.le_of_ble_eq_true rfl, Nat.le_of_ble_eq_true rfl⟩ (hP.sub (ws' := [(o0, .inr (1, [.ref c0, .int (-1), .int 0, .int (0 + 1)])), (c0, .inl (cA, 512, .inl v22))]) [1, 2] rfl) (hD.sub (ws' := [(o0, .inr (1, [.ref c0, .int (-1), .int 0, .int (0 + 1)])), (c0, .inl (cA, 512, .inl v22))]) [1, 2] (by decide) rfl) (hK.sub (tys' := [(cA, .int)]) [0] rfl) rfl rfl rfl rfl hl.1 rfl (Nat.le_of_ble_eq_true rfl) d_Ld_format_37 ⟨by decide, by decide⟩) hP hD hK hS hA [1, 2] [0] [] rfl rfl (by decide) (by decide) rfl (fun r v37 H locs hw hP hD hK hS => ?_)
  have hP : va_P (dC, dI) cls [(h0, .inr (0, [.ref o0, .ref o1, .ref o2, .ref o3, .ref o4, .int 0])), (o0, .inr (1, [.ref c0, .int (-1), .int 0, .int (0 + 1 + 1)])), (c0, .inl (cA, 512, .inl v37))] H := hP
  have hD : va_D A [(h0, .inr (0, [.ref o0, .ref o1, .ref o2, .ref o3, .ref o4, .int 0])), (o0, .inr (1, [.ref c0, .int (-1), .int 0, .int (0 + 1 + 1)])), (c0, .inl (cA, 512, .inl v37))] := hD
  have hK : va_K (dC, dI) cls [(cA, .int)] s := hK
  refine W.widen (k := 0) (n := 0) (by omega) (by omega) ?_
  subst hw
  refine lv_if_eq (tgt := 62) hx hb d_Ld_format_40 (by decide) (fun h => absurd h (by decide)) (fun _ => ?_)
  refine lv_aload_n hx hb d_Ld_format_43 rfl (lv_at hl 0 rfl) ?_
  refine va_get (D := (dC, dI)) (ci := 0) (v := .ref o0) (C := R_Ld) (T := F_Ld) (N := 6) hx hb hts in_Ld hown hK hP 0 rfl rfl 0 (by decide) (hts _ w_152) (fun _ h9 => h9) rfl d_Ld_format_44 ?_
  refine lv_iconst (v := 0) hx hb d_Ld_format_47 (by decide) ?_
  refine va_gets (C := "LineDisk") hx hb hz2 hS hown (hts _ w_184) (fun _ h9 => h9) d_Ld_format_48 ?_
  refine lv_iconst (v := 0) hx hb d_Ld_format_51 (by decide) ?_
  refine go_i (wr := [(h0, .inr (0, [.ref o0, .ref o1, .ref o2, .ref o3, .ref o4, .int 0]))]) (tr := []) (rV (C := "LineDisk$Store") (ci := 1) (q0 := 0) (b := o0) (n := 3) (As := [.int 0, .ref t2, .int 0]) (rest := []) F hkw (c_St_write l dC dI o0 c0 cA (v37) (0 + 1 + 1) t2 f2 0 0 (by decide) (by decide) (by decide) (by decide) (by decide) H.size) xR_bl (xR_of hx2 hl2 hn2 hS hD (i := 1) (j := 2) rfl rfl) w_177 w_178 w_179 w_2 w_180 rfl rfl (by decide +kernel) ⟨Nat.le_of_ble_eq_true rfl, Nat.le_of_ble_eq_true rfl⟩ (hP.sub (ws' := [(o0, .inr (1, [.ref c0, .int (-1), .int 0, .int (0 + 1 + 1)])), (c0, .inl (cA, 512, .inl v37))]) [1, 2] rfl) (hD.sub (ws' := [(o0, .inr (1, [.ref c0, .int (-1), .int 0, .int (0 + 1 + 1)])), (c0, .inl (cA, 512, .inl v37))]) [1, 2] (by decide) rfl) (hK.sub (tys' := [(cA, .int)]) [0] rfl) rfl rfl rfl rfl hl.1 rfl (Nat.le_of_ble_eq_true rfl) d_Ld_format_52 ⟨by decide, by decide⟩) hP hD hK hS hA [1, 2] [0] [] rfl rfl (by decide) (by decide) rfl (fun r v52 H locs hw hP hD hK hS => ?_)
  have hP : va_P (dC, dI) cls [(h0, .inr (0, [.ref o0, .ref o1, .ref o2, .ref o3, .ref o4, .int 0])), (o0, .inr (1, [.ref c0, .int (-1), .int 0, .int (0 + 1 + 1 + 1)])), (c0, .inl (cA, 512, .inl v52))] H := hP
  have hD : va_D A [(h0, .inr (0, [.ref o0, .ref o1, .ref o2, .ref o3, .ref o4, .int 0])), (o0, .inr (1, [.ref c0, .int (-1), .int 0, .int (0 + 1 + 1 + 1)])), (c0, .inl (cA, 512, .inl v52))] := hD
  have hK : va_K (dC, dI) cls [(cA, .int)] s := hK
  refine W.widen (k := 0) (n := 0) (by omega) (by omega) ?_
  subst hw
  refine lv_if_eq (tgt := 62) hx hb d_Ld_format_55 (by decide) (fun h => absurd h (by decide)) (fun _ => ?_)
  refine lv_iconst (v := 1) hx hb d_Ld_format_58 (by decide) ?_
  refine lv_goto (tgt := 63) hx hb d_Ld_format_59 (by decide) ?_
  refine lv_istore_n (i := 1) hx hb d_Ld_format_63 rfl hl (by decide) rfl (fun ls hl => ?_)
  have hl : lv_has ls 2 [(1, .int 1), (0, .ref h0)] := hl
  refine lv_iload_n hx hb d_Ld_format_64 rfl (lv_at hl 0 rfl) ?_
  refine lv_if_eq (tgt := 72) hx hb d_Ld_format_65 (by decide) (fun h => absurd h (by decide)) (fun _ => ?_)
  refine lv_iconst (v := 0) hx hb d_Ld_format_68 (by decide) ?_
  refine lv_goto (tgt := 76) hx hb d_Ld_format_69 (by decide) ?_
  refine W.widen (k := 0) (n := 0) (by decide) (by decide) ?_
  exact W.iret (v := 0) hx hb hr (fun t ht hW => ⟨⟨0, (), rfl, rfl, cB.of (hP.sub [] rfl) (hD.sub [] (by decide) rfl) (hK.sub [] rfl) ht hW⟩, hS.F ht⟩) hS.2.2 d_Ld_format_76
end
section
set_option maxHeartbeats 4000000 in
set_option maxRecDepth 100000 in
theorem c_Mo_thrown (l : Launch) (dC : Nat → ClassId) (dI : Nat → Nat → Nat) (h0 a0 a1 a2 a3 a4 a5 a6 a7 a8 a9 : Nat) (th : Int32) (sz : Nat) : Met l y_Mo_thrown (Cond.code y_Mo_thrown b_Mo_thrown 1 (some .int) :: gw) ({ frames := 0, cells := 0, slots := 0, locals := 0 }) (cP (dC, dI) [.ref h0] sz [(h0, .inr (5, [.int th, .ref a0, .int (-1), .int 0, .int 0, .ref a1, .ref a2, .ref a3, .int 0, .int 0, .ref a4, .int 0, .ref a5, .int 0, .int 0, .int 0, .int 0, .int 0, .int 0, .ref a6, .int 0, .ref a7, .int 0, .ref a8, .ref a9]))] [] xT) (va_Qi (fun (r : Int32) (u : Unit) => r = th) (fun (u : Unit) t => cB (dC, dI) (va_A [(h0, .inr (5, [.int th, .ref a0, .int (-1), .int 0, .int 0, .ref a1, .ref a2, .ref a3, .int 0, .int 0, .ref a4, .int 0, .ref a5, .int 0, .int 0, .int 0, .int 0, .int 0, .int 0, .ref a6, .int 0, .ref a7, .int 0, .ref a8, .ref a9]))] sz) [] [] t) (va_A [(h0, .inr (5, [.int th, .ref a0, .int (-1), .int 0, .int 0, .ref a1, .ref a2, .ref a3, .int 0, .int 0, .ref a4, .int 0, .ref a5, .int 0, .int 0, .int 0, .int 0, .int 0, .int 0, .ref a6, .int 0, .ref a7, .int 0, .ref a8, .ref a9]))] sz)) 0 0 (va_A [(h0, .inr (5, [.int th, .ref a0, .int (-1), .int 0, .int 0, .ref a1, .ref a2, .ref a3, .int 0, .int 0, .ref a4, .int 0, .ref a5, .int 0, .int 0, .int 0, .int 0, .int 0, .int 0, .ref a6, .int 0, .ref a7, .int 0, .ref a8, .ref a9]))] sz) := by
  refine Met.ofW (cc := b_Mo_thrown) (maxL := 1) (ret := (some .int)) (by decide) rfl ?_
  intro p e s m args below meth c s₁ B hml hv
  obtain ⟨rfl, hsz, hP, hK, hD0, hkw, hX⟩ := hv
  have hx := B.exec
  have hb := B.bytes
  have hr := B.returns
  have hts := fun w hw => atoms_spec (ws := Cond.code y_Mo_thrown b_Mo_thrown 1 (some .int) :: gw) B.pre w (List.mem_cons_of_mem _ hw)
  have hown : s.vm.findClass "LineDiskModel" = some m.cls := findClass_of_methodNamed B.named
  have hlocks := B.notSynchronized
  have hin := (name_of_methodNamed B.named B.method).1
  subst hsz
  have hD := hD0.self (sz := s.heap.size)
  generalize hAe : va_A [(h0, .inr (5, [.int th, .ref a0, .int (-1), .int 0, .int 0, .ref a1, .ref a2, .ref a3, .int 0, .int 0, .ref a4, .int 0, .ref a5, .int 0, .int 0, .int 0, .int 0, .int 0, .int 0, .ref a6, .int 0, .ref a7, .int 0, .ref a8, .ref a9]))] s.heap.size = A at hD ⊢
  have hA : ∀ q : Nat, s.heap.size ≤ q → A q := fun q h => by rw [← hAe]; exact Or.inr h
  have hS : va_S A s.heap s.heap [] := va_S.rf
  have hl := lv_entry ([.ref h0]) (n := 1) (Nat.le_of_ble_eq_true rfl)
  rw [lg_entry_eq]
  generalize (lg_sl ([.ref h0]) ++ List.replicate (1 - (lg_sl ([.ref h0])).length) Slot.unset).toArray = ls at hl ⊢
  have hl : lv_has ls 1 [(0, .ref h0)] := hl
  have F : CallFix p m c b_Mo_thrown 1 s ([.ref h0]).toArray gw "LineDiskModel" := ⟨hx, hb, hml, hown, hts⟩
  refine lv_aload_n hx hb d_Mo_thrown_0 rfl (lv_at hl 0 rfl) ?_
  refine va_get (D := (dC, dI)) (ci := 5) (v := .int th) (C := R_Mo) (T := F_Mo) (N := 25) hx hb hts in_Mo hown hK hP 0 rfl rfl 0 (by decide) (hts _ w_593) (fun _ h9 => h9) rfl d_Mo_thrown_1 ?_
  refine W.widen (k := 0) (n := 0) (by decide) (by decide) ?_
  exact W.iret (v := th) hx hb hr (fun t ht hW => ⟨⟨th, (), rfl, rfl, cB.of (hP.sub [] rfl) (hD.sub [] (by decide) rfl) (hK.sub [] rfl) ht hW⟩, hS.F ht⟩) hS.2.2 d_Mo_thrown_4
set_option maxHeartbeats 4000000 in
set_option maxRecDepth 100000 in
theorem c_Mo_outs (l : Launch) (dC : Nat → ClassId) (dI : Nat → Nat → Nat) (h0 a0 a1 a2 a3 a4 a5 a6 a7 a8 a9 : Nat) (sz : Nat) : Met l y_Mo_outs (Cond.code y_Mo_outs b_Mo_outs 1 (some .int) :: gw) ({ frames := 0, cells := 0, slots := 0, locals := 0 }) (cP (dC, dI) [.ref h0] sz [(h0, .inr (5, [.int 0, .ref a0, .int (-1), .int 0, .int 0, .ref a1, .ref a2, .ref a3, .int 0, .int 0, .ref a4, .int 0, .ref a5, .int 0, .int 0, .int 0, .int 0, .int 0, .int 0, .ref a6, .int 0, .ref a7, .int 0, .ref a8, .ref a9]))] [] xT) (va_Qi (fun (r : Int32) (u : Unit) => r = 0) (fun (u : Unit) t => cB (dC, dI) (va_A [(h0, .inr (5, [.int 0, .ref a0, .int (-1), .int 0, .int 0, .ref a1, .ref a2, .ref a3, .int 0, .int 0, .ref a4, .int 0, .ref a5, .int 0, .int 0, .int 0, .int 0, .int 0, .int 0, .ref a6, .int 0, .ref a7, .int 0, .ref a8, .ref a9]))] sz) [] [] t) (va_A [(h0, .inr (5, [.int 0, .ref a0, .int (-1), .int 0, .int 0, .ref a1, .ref a2, .ref a3, .int 0, .int 0, .ref a4, .int 0, .ref a5, .int 0, .int 0, .int 0, .int 0, .int 0, .int 0, .ref a6, .int 0, .ref a7, .int 0, .ref a8, .ref a9]))] sz)) 0 0 (va_A [(h0, .inr (5, [.int 0, .ref a0, .int (-1), .int 0, .int 0, .ref a1, .ref a2, .ref a3, .int 0, .int 0, .ref a4, .int 0, .ref a5, .int 0, .int 0, .int 0, .int 0, .int 0, .int 0, .ref a6, .int 0, .ref a7, .int 0, .ref a8, .ref a9]))] sz) := by
  refine Met.ofW (cc := b_Mo_outs) (maxL := 1) (ret := (some .int)) (by decide) rfl ?_
  intro p e s m args below meth c s₁ B hml hv
  obtain ⟨rfl, hsz, hP, hK, hD0, hkw, hX⟩ := hv
  have hx := B.exec
  have hb := B.bytes
  have hr := B.returns
  have hts := fun w hw => atoms_spec (ws := Cond.code y_Mo_outs b_Mo_outs 1 (some .int) :: gw) B.pre w (List.mem_cons_of_mem _ hw)
  have hown : s.vm.findClass "LineDiskModel" = some m.cls := findClass_of_methodNamed B.named
  have hlocks := B.notSynchronized
  have hin := (name_of_methodNamed B.named B.method).1
  subst hsz
  have hD := hD0.self (sz := s.heap.size)
  generalize hAe : va_A [(h0, .inr (5, [.int 0, .ref a0, .int (-1), .int 0, .int 0, .ref a1, .ref a2, .ref a3, .int 0, .int 0, .ref a4, .int 0, .ref a5, .int 0, .int 0, .int 0, .int 0, .int 0, .int 0, .ref a6, .int 0, .ref a7, .int 0, .ref a8, .ref a9]))] s.heap.size = A at hD ⊢
  have hA : ∀ q : Nat, s.heap.size ≤ q → A q := fun q h => by rw [← hAe]; exact Or.inr h
  have hS : va_S A s.heap s.heap [] := va_S.rf
  have hl := lv_entry ([.ref h0]) (n := 1) (Nat.le_of_ble_eq_true rfl)
  rw [lg_entry_eq]
  generalize (lg_sl ([.ref h0]) ++ List.replicate (1 - (lg_sl ([.ref h0])).length) Slot.unset).toArray = ls at hl ⊢
  have hl : lv_has ls 1 [(0, .ref h0)] := hl
  have F : CallFix p m c b_Mo_outs 1 s ([.ref h0]).toArray gw "LineDiskModel" := ⟨hx, hb, hml, hown, hts⟩
  refine lv_aload_n hx hb d_Mo_outs_0 rfl (lv_at hl 0 rfl) ?_
  refine lv_iconst (v := 0) hx hb d_Mo_outs_1 (by decide) ?_
  refine va_put (D := (dC, dI)) (ci := 5) (v := .int 0) (ty := .int) (C := R_Mo) (T := F_Mo) (N := 25) hx hb hts in_Mo t_Mo t_Mo_ok n_Mo hown hK hP hD hS 0 rfl rfl 0 (by decide) (hts _ w_593) (fun _ h9 => h9) rfl (by decide +kernel) (rfl) (rfl) (Nat.le_of_ble_eq_true rfl) d_Mo_outs_2 (fun H locs hP hD hS => ?_)
  have hP : va_P (dC, dI) cls [(h0, .inr (5, [.int 0, .ref a0, .int (-1), .int 0, .int 0, .ref a1, .ref a2, .ref a3, .int 0, .int 0, .ref a4, .int 0, .ref a5, .int 0, .int 0, .int 0, .int 0, .int 0, .int 0, .ref a6, .int 0, .ref a7, .int 0, .ref a8, .ref a9]))] H := hP
  have hD : va_D A [(h0, .inr (5, [.int 0, .ref a0, .int (-1), .int 0, .int 0, .ref a1, .ref a2, .ref a3, .int 0, .int 0, .ref a4, .int 0, .ref a5, .int 0, .int 0, .int 0, .int 0, .int 0, .int 0, .ref a6, .int 0, .ref a7, .int 0, .ref a8, .ref a9]))] := hD
  refine lv_aload_n hx hb d_Mo_outs_5 rfl (lv_at hl 0 rfl) ?_
  refine va_get (D := (dC, dI)) (ci := 5) (v := .int 0) (C := R_Mo) (T := F_Mo) (N := 25) hx hb hts in_Mo hown hK hP 0 rfl rfl 9 (by decide) (hts _ w_602) (fun _ h9 => h9) rfl d_Mo_outs_6 ?_
  refine W.widen (k := 0) (n := 0) (by decide) (by decide) ?_
  exact W.iret (v := 0) hx hb hr (fun t ht hW => ⟨⟨0, (), rfl, rfl, cB.of (hP.sub [] rfl) (hD.sub [] (by decide) rfl) (hK.sub [] rfl) ht hW⟩, hS.F ht⟩) hS.2.2 d_Mo_outs_9
set_option maxHeartbeats 4000000 in
set_option maxRecDepth 100000 in
theorem c_Mo_arm1 (l : Launch) (dC : Nat → ClassId) (dI : Nat → Nat → Nat) (h0 a0 a1 a2 a3 a4 a5 a6 a7 a8 a9 : Nat) (x : Int32) (h1 : x < 0) (sz : Nat) : Met l y_Mo_arm (Cond.code y_Mo_arm b_Mo_arm 2 (some .boolean) :: gw) ({ frames := 0, cells := 0, slots := 0, locals := 0 }) (cP (dC, dI) [.ref h0, .int x] sz [(h0, .inr (5, [.int 0, .ref a0, .int (-1), .int 0, .int 0, .ref a1, .ref a2, .ref a3, .int 0, .int 0, .ref a4, .int 0, .ref a5, .int 0, .int 0, .int 0, .int 0, .int 0, .int 0, .ref a6, .int 0, .ref a7, .int 0, .ref a8, .ref a9]))] [] xT) (va_Qi (fun (r : Int32) (u : Unit) => r = 0) (fun (u : Unit) t => cB (dC, dI) (va_A [(h0, .inr (5, [.int 0, .ref a0, .int (-1), .int 0, .int 0, .ref a1, .ref a2, .ref a3, .int 0, .int 0, .ref a4, .int 0, .ref a5, .int 0, .int 0, .int 0, .int 0, .int 0, .int 0, .ref a6, .int 0, .ref a7, .int 0, .ref a8, .ref a9]))] sz) [(h0, .inr (5, [.int 1, .ref a0, .int (-1), .int 0, .int 0, .ref a1, .ref a2, .ref a3, .int 0, .int 0, .ref a4, .int 0, .ref a5, .int 0, .int 0, .int 0, .int 0, .int 0, .int 0, .ref a6, .int 0, .ref a7, .int 0, .ref a8, .ref a9]))] [] t) (va_A [(h0, .inr (5, [.int 0, .ref a0, .int (-1), .int 0, .int 0, .ref a1, .ref a2, .ref a3, .int 0, .int 0, .ref a4, .int 0, .ref a5, .int 0, .int 0, .int 0, .int 0, .int 0, .int 0, .ref a6, .int 0, .ref a7, .int 0, .ref a8, .ref a9]))] sz)) 0 0 (va_A [(h0, .inr (5, [.int 0, .ref a0, .int (-1), .int 0, .int 0, .ref a1, .ref a2, .ref a3, .int 0, .int 0, .ref a4, .int 0, .ref a5, .int 0, .int 0, .int 0, .int 0, .int 0, .int 0, .ref a6, .int 0, .ref a7, .int 0, .ref a8, .ref a9]))] sz) := by
  refine Met.ofW (cc := b_Mo_arm) (maxL := 2) (ret := (some .boolean)) (by decide) rfl ?_
  intro p e s m args below meth c s₁ B hml hv
  obtain ⟨rfl, hsz, hP, hK, hD0, hkw, hX⟩ := hv
  have hx := B.exec
  have hb := B.bytes
  have hr := B.returns
  have hts := fun w hw => atoms_spec (ws := Cond.code y_Mo_arm b_Mo_arm 2 (some .boolean) :: gw) B.pre w (List.mem_cons_of_mem _ hw)
  have hown : s.vm.findClass "LineDiskModel" = some m.cls := findClass_of_methodNamed B.named
  have hlocks := B.notSynchronized
  have hin := (name_of_methodNamed B.named B.method).1
  subst hsz
  have hD := hD0.self (sz := s.heap.size)
  generalize hAe : va_A [(h0, .inr (5, [.int 0, .ref a0, .int (-1), .int 0, .int 0, .ref a1, .ref a2, .ref a3, .int 0, .int 0, .ref a4, .int 0, .ref a5, .int 0, .int 0, .int 0, .int 0, .int 0, .int 0, .ref a6, .int 0, .ref a7, .int 0, .ref a8, .ref a9]))] s.heap.size = A at hD ⊢
  have hA : ∀ q : Nat, s.heap.size ≤ q → A q := fun q h => by rw [← hAe]; exact Or.inr h
  have hS : va_S A s.heap s.heap [] := va_S.rf
  have hl := lv_entry ([.ref h0, .int x]) (n := 2) (Nat.le_of_ble_eq_true rfl)
  rw [lg_entry_eq]
  generalize (lg_sl ([.ref h0, .int x]) ++ List.replicate (2 - (lg_sl ([.ref h0, .int x])).length) Slot.unset).toArray = ls at hl ⊢
  have hl : lv_has ls 2 [(0, .ref h0), (1, .int x)] := hl
  have F : CallFix p m c b_Mo_arm 2 s ([.ref h0, .int x]).toArray gw "LineDiskModel" := ⟨hx, hb, hml, hown, hts⟩
  refine lv_aload_n hx hb d_Mo_arm_0 rfl (lv_at hl 0 rfl) ?_
  refine lv_iload_n hx hb d_Mo_arm_1 rfl (lv_at hl 1 rfl) ?_
  refine lv_if_lt (tgt := 12) hx hb d_Mo_arm_2 (by decide) (fun _ => ?_) (fun h => absurd (h1) h)
  refine lv_iconst (v := 1) hx hb d_Mo_arm_12 (by decide) ?_
  refine lv_goto (tgt := 17) hx hb d_Mo_arm_13 (by decide) ?_
  refine va_put (D := (dC, dI)) (ci := 5) (v := .int 1) (ty := .int) (C := R_Mo) (T := F_Mo) (N := 25) hx hb hts in_Mo t_Mo t_Mo_ok n_Mo hown hK hP hD hS 0 rfl rfl 0 (by decide) (hts _ w_593) (fun _ h9 => h9) rfl (by decide +kernel) (rfl) (rfl) (Nat.le_of_ble_eq_true rfl) d_Mo_arm_17 (fun H locs hP hD hS => ?_)
  have hP : va_P (dC, dI) cls [(h0, .inr (5, [.int 1, .ref a0, .int (-1), .int 0, .int 0, .ref a1, .ref a2, .ref a3, .int 0, .int 0, .ref a4, .int 0, .ref a5, .int 0, .int 0, .int 0, .int 0, .int 0, .int 0, .ref a6, .int 0, .ref a7, .int 0, .ref a8, .ref a9]))] H := hP
  have hD : va_D A [(h0, .inr (5, [.int 1, .ref a0, .int (-1), .int 0, .int 0, .ref a1, .ref a2, .ref a3, .int 0, .int 0, .ref a4, .int 0, .ref a5, .int 0, .int 0, .int 0, .int 0, .int 0, .int 0, .ref a6, .int 0, .ref a7, .int 0, .ref a8, .ref a9]))] := hD
  refine lv_aload_n hx hb d_Mo_arm_20 rfl (lv_at hl 0 rfl) ?_
  refine va_get (D := (dC, dI)) (ci := 5) (v := .int 1) (C := R_Mo) (T := F_Mo) (N := 25) hx hb hts in_Mo hown hK hP 0 rfl rfl 0 (by decide) (hts _ w_593) (fun _ h9 => h9) rfl d_Mo_arm_21 ?_
  refine lv_if_le (tgt := 29) hx hb d_Mo_arm_24 (by decide) (fun h => absurd h (by decide)) (fun _ => ?_)
  refine lv_iconst (v := 0) hx hb d_Mo_arm_27 (by decide) ?_
  refine W.widen (k := 0) (n := 0) (by decide) (by decide) ?_
  exact W.zret (v := 0) hx hb hr rfl (fun t ht hW => ⟨⟨0, (), rfl, rfl, cB.of (hP.sub [0] rfl) (hD.sub [0] (by decide) rfl) (hK.sub [] rfl) ht hW⟩, hS.F ht⟩) hS.2.2 d_Mo_arm_28
set_option maxHeartbeats 4000000 in
set_option maxRecDepth 100000 in
theorem c_Mo_arm2 (l : Launch) (dC : Nat → ClassId) (dI : Nat → Nat → Nat) (h0 a0 a1 a2 a3 a4 a5 a6 a7 a8 a9 : Nat) (x : Int32) (h1 : ¬ x < 0) (h2 : ¬ x ≤ 1000) (sz : Nat) : Met l y_Mo_arm (Cond.code y_Mo_arm b_Mo_arm 2 (some .boolean) :: gw) ({ frames := 0, cells := 0, slots := 0, locals := 0 }) (cP (dC, dI) [.ref h0, .int x] sz [(h0, .inr (5, [.int 0, .ref a0, .int (-1), .int 0, .int 0, .ref a1, .ref a2, .ref a3, .int 0, .int 0, .ref a4, .int 0, .ref a5, .int 0, .int 0, .int 0, .int 0, .int 0, .int 0, .ref a6, .int 0, .ref a7, .int 0, .ref a8, .ref a9]))] [] xT) (va_Qi (fun (r : Int32) (u : Unit) => r = 0) (fun (u : Unit) t => cB (dC, dI) (va_A [(h0, .inr (5, [.int 0, .ref a0, .int (-1), .int 0, .int 0, .ref a1, .ref a2, .ref a3, .int 0, .int 0, .ref a4, .int 0, .ref a5, .int 0, .int 0, .int 0, .int 0, .int 0, .int 0, .ref a6, .int 0, .ref a7, .int 0, .ref a8, .ref a9]))] sz) [(h0, .inr (5, [.int 1, .ref a0, .int (-1), .int 0, .int 0, .ref a1, .ref a2, .ref a3, .int 0, .int 0, .ref a4, .int 0, .ref a5, .int 0, .int 0, .int 0, .int 0, .int 0, .int 0, .ref a6, .int 0, .ref a7, .int 0, .ref a8, .ref a9]))] [] t) (va_A [(h0, .inr (5, [.int 0, .ref a0, .int (-1), .int 0, .int 0, .ref a1, .ref a2, .ref a3, .int 0, .int 0, .ref a4, .int 0, .ref a5, .int 0, .int 0, .int 0, .int 0, .int 0, .int 0, .ref a6, .int 0, .ref a7, .int 0, .ref a8, .ref a9]))] sz)) 0 0 (va_A [(h0, .inr (5, [.int 0, .ref a0, .int (-1), .int 0, .int 0, .ref a1, .ref a2, .ref a3, .int 0, .int 0, .ref a4, .int 0, .ref a5, .int 0, .int 0, .int 0, .int 0, .int 0, .int 0, .ref a6, .int 0, .ref a7, .int 0, .ref a8, .ref a9]))] sz) := by
  refine Met.ofW (cc := b_Mo_arm) (maxL := 2) (ret := (some .boolean)) (by decide) rfl ?_
  intro p e s m args below meth c s₁ B hml hv
  obtain ⟨rfl, hsz, hP, hK, hD0, hkw, hX⟩ := hv
  have hx := B.exec
  have hb := B.bytes
  have hr := B.returns
  have hts := fun w hw => atoms_spec (ws := Cond.code y_Mo_arm b_Mo_arm 2 (some .boolean) :: gw) B.pre w (List.mem_cons_of_mem _ hw)
  have hown : s.vm.findClass "LineDiskModel" = some m.cls := findClass_of_methodNamed B.named
  have hlocks := B.notSynchronized
  have hin := (name_of_methodNamed B.named B.method).1
  subst hsz
  have hD := hD0.self (sz := s.heap.size)
  generalize hAe : va_A [(h0, .inr (5, [.int 0, .ref a0, .int (-1), .int 0, .int 0, .ref a1, .ref a2, .ref a3, .int 0, .int 0, .ref a4, .int 0, .ref a5, .int 0, .int 0, .int 0, .int 0, .int 0, .int 0, .ref a6, .int 0, .ref a7, .int 0, .ref a8, .ref a9]))] s.heap.size = A at hD ⊢
  have hA : ∀ q : Nat, s.heap.size ≤ q → A q := fun q h => by rw [← hAe]; exact Or.inr h
  have hS : va_S A s.heap s.heap [] := va_S.rf
  have hl := lv_entry ([.ref h0, .int x]) (n := 2) (Nat.le_of_ble_eq_true rfl)
  rw [lg_entry_eq]
  generalize (lg_sl ([.ref h0, .int x]) ++ List.replicate (2 - (lg_sl ([.ref h0, .int x])).length) Slot.unset).toArray = ls at hl ⊢
  have hl : lv_has ls 2 [(0, .ref h0), (1, .int x)] := hl
  have F : CallFix p m c b_Mo_arm 2 s ([.ref h0, .int x]).toArray gw "LineDiskModel" := ⟨hx, hb, hml, hown, hts⟩
  refine lv_aload_n hx hb d_Mo_arm_0 rfl (lv_at hl 0 rfl) ?_
  refine lv_iload_n hx hb d_Mo_arm_1 rfl (lv_at hl 1 rfl) ?_
  refine lv_if_lt (tgt := 12) hx hb d_Mo_arm_2 (by decide) (fun h => absurd h (h1)) (fun _ => ?_)
  refine lv_iload_n hx hb d_Mo_arm_5 rfl (lv_at hl 1 rfl) ?_
  refine lv_sipush (v := 1000) hx hb d_Mo_arm_6 (by decide) ?_
  refine lv_icmp_le (tgt := 16) hx hb d_Mo_arm_9 (by decide) (fun h => absurd h (h2)) (fun _ => ?_)
  refine lv_iconst (v := 1) hx hb d_Mo_arm_12 (by decide) ?_
  refine lv_goto (tgt := 17) hx hb d_Mo_arm_13 (by decide) ?_
  refine va_put (D := (dC, dI)) (ci := 5) (v := .int 1) (ty := .int) (C := R_Mo) (T := F_Mo) (N := 25) hx hb hts in_Mo t_Mo t_Mo_ok n_Mo hown hK hP hD hS 0 rfl rfl 0 (by decide) (hts _ w_593) (fun _ h9 => h9) rfl (by decide +kernel) (rfl) (rfl) (Nat.le_of_ble_eq_true rfl) d_Mo_arm_17 (fun H locs hP hD hS => ?_)
  have hP : va_P (dC, dI) cls [(h0, .inr (5, [.int 1, .ref a0, .int (-1), .int 0, .int 0, .ref a1, .ref a2, .ref a3, .int 0, .int 0, .ref a4, .int 0, .ref a5, .int 0, .int 0, .int 0, .int 0, .int 0, .int 0, .ref a6, .int 0, .ref a7, .int 0, .ref a8, .ref a9]))] H := hP
  have hD : va_D A [(h0, .inr (5, [.int 1, .ref a0, .int (-1), .int 0, .int 0, .ref a1, .ref a2, .ref a3, .int 0, .int 0, .ref a4, .int 0, .ref a5, .int 0, .int 0, .int 0, .int 0, .int 0, .int 0, .ref a6, .int 0, .ref a7, .int 0, .ref a8, .ref a9]))] := hD
  refine lv_aload_n hx hb d_Mo_arm_20 rfl (lv_at hl 0 rfl) ?_
  refine va_get (D := (dC, dI)) (ci := 5) (v := .int 1) (C := R_Mo) (T := F_Mo) (N := 25) hx hb hts in_Mo hown hK hP 0 rfl rfl 0 (by decide) (hts _ w_593) (fun _ h9 => h9) rfl d_Mo_arm_21 ?_
  refine lv_if_le (tgt := 29) hx hb d_Mo_arm_24 (by decide) (fun h => absurd h (by decide)) (fun _ => ?_)
  refine lv_iconst (v := 0) hx hb d_Mo_arm_27 (by decide) ?_
  refine W.widen (k := 0) (n := 0) (by decide) (by decide) ?_
  exact W.zret (v := 0) hx hb hr rfl (fun t ht hW => ⟨⟨0, (), rfl, rfl, cB.of (hP.sub [0] rfl) (hD.sub [0] (by decide) rfl) (hK.sub [] rfl) ht hW⟩, hS.F ht⟩) hS.2.2 d_Mo_arm_28
set_option maxHeartbeats 4000000 in
set_option maxRecDepth 100000 in
theorem c_Mo_arm3 (l : Launch) (dC : Nat → ClassId) (dI : Nat → Nat → Nat) (h0 a0 a1 a2 a3 a4 a5 a6 a7 a8 a9 : Nat) (x : Int32) (h1 : ¬ x < 0) (h2 : x ≤ 1000) (sz : Nat) : Met l y_Mo_arm (Cond.code y_Mo_arm b_Mo_arm 2 (some .boolean) :: gw) ({ frames := 0, cells := 0, slots := 0, locals := 0 }) (cP (dC, dI) [.ref h0, .int x] sz [(h0, .inr (5, [.int 0, .ref a0, .int (-1), .int 0, .int 0, .ref a1, .ref a2, .ref a3, .int 0, .int 0, .ref a4, .int 0, .ref a5, .int 0, .int 0, .int 0, .int 0, .int 0, .int 0, .ref a6, .int 0, .ref a7, .int 0, .ref a8, .ref a9]))] [] xT) (va_Qi (fun (r : Int32) (u : Unit) => r = 1) (fun (u : Unit) t => cB (dC, dI) (va_A [(h0, .inr (5, [.int 0, .ref a0, .int (-1), .int 0, .int 0, .ref a1, .ref a2, .ref a3, .int 0, .int 0, .ref a4, .int 0, .ref a5, .int 0, .int 0, .int 0, .int 0, .int 0, .int 0, .ref a6, .int 0, .ref a7, .int 0, .ref a8, .ref a9]))] sz) [(h0, .inr (5, [.int 0, .ref a0, .int x, .int 0, .int 0, .ref a1, .ref a2, .ref a3, .int 0, .int 0, .ref a4, .int 0, .ref a5, .int 0, .int 0, .int 0, .int 0, .int 0, .int 0, .ref a6, .int 0, .ref a7, .int 0, .ref a8, .ref a9]))] [] t) (va_A [(h0, .inr (5, [.int 0, .ref a0, .int (-1), .int 0, .int 0, .ref a1, .ref a2, .ref a3, .int 0, .int 0, .ref a4, .int 0, .ref a5, .int 0, .int 0, .int 0, .int 0, .int 0, .int 0, .ref a6, .int 0, .ref a7, .int 0, .ref a8, .ref a9]))] sz)) 0 0 (va_A [(h0, .inr (5, [.int 0, .ref a0, .int (-1), .int 0, .int 0, .ref a1, .ref a2, .ref a3, .int 0, .int 0, .ref a4, .int 0, .ref a5, .int 0, .int 0, .int 0, .int 0, .int 0, .int 0, .ref a6, .int 0, .ref a7, .int 0, .ref a8, .ref a9]))] sz) := by
  refine Met.ofW (cc := b_Mo_arm) (maxL := 2) (ret := (some .boolean)) (by decide) rfl ?_
  intro p e s m args below meth c s₁ B hml hv
  obtain ⟨rfl, hsz, hP, hK, hD0, hkw, hX⟩ := hv
  have hx := B.exec
  have hb := B.bytes
  have hr := B.returns
  have hts := fun w hw => atoms_spec (ws := Cond.code y_Mo_arm b_Mo_arm 2 (some .boolean) :: gw) B.pre w (List.mem_cons_of_mem _ hw)
  have hown : s.vm.findClass "LineDiskModel" = some m.cls := findClass_of_methodNamed B.named
  have hlocks := B.notSynchronized
  have hin := (name_of_methodNamed B.named B.method).1
  subst hsz
  have hD := hD0.self (sz := s.heap.size)
  generalize hAe : va_A [(h0, .inr (5, [.int 0, .ref a0, .int (-1), .int 0, .int 0, .ref a1, .ref a2, .ref a3, .int 0, .int 0, .ref a4, .int 0, .ref a5, .int 0, .int 0, .int 0, .int 0, .int 0, .int 0, .ref a6, .int 0, .ref a7, .int 0, .ref a8, .ref a9]))] s.heap.size = A at hD ⊢
  have hA : ∀ q : Nat, s.heap.size ≤ q → A q := fun q h => by rw [← hAe]; exact Or.inr h
  have hS : va_S A s.heap s.heap [] := va_S.rf
  have hl := lv_entry ([.ref h0, .int x]) (n := 2) (Nat.le_of_ble_eq_true rfl)
  rw [lg_entry_eq]
  generalize (lg_sl ([.ref h0, .int x]) ++ List.replicate (2 - (lg_sl ([.ref h0, .int x])).length) Slot.unset).toArray = ls at hl ⊢
  have hl : lv_has ls 2 [(0, .ref h0), (1, .int x)] := hl
  have F : CallFix p m c b_Mo_arm 2 s ([.ref h0, .int x]).toArray gw "LineDiskModel" := ⟨hx, hb, hml, hown, hts⟩
  refine lv_aload_n hx hb d_Mo_arm_0 rfl (lv_at hl 0 rfl) ?_
  refine lv_iload_n hx hb d_Mo_arm_1 rfl (lv_at hl 1 rfl) ?_
  refine lv_if_lt (tgt := 12) hx hb d_Mo_arm_2 (by decide) (fun h => absurd h (h1)) (fun _ => ?_)
  refine lv_iload_n hx hb d_Mo_arm_5 rfl (lv_at hl 1 rfl) ?_
  refine lv_sipush (v := 1000) hx hb d_Mo_arm_6 (by decide) ?_
  refine lv_icmp_le (tgt := 16) hx hb d_Mo_arm_9 (by decide) (fun _ => ?_) (fun h => absurd (h2) h)
  refine lv_iconst (v := 0) hx hb d_Mo_arm_16 (by decide) ?_
  refine va_put (D := (dC, dI)) (ci := 5) (v := .int 0) (ty := .int) (C := R_Mo) (T := F_Mo) (N := 25) hx hb hts in_Mo t_Mo t_Mo_ok n_Mo hown hK hP hD hS 0 rfl rfl 0 (by decide) (hts _ w_593) (fun _ h9 => h9) rfl (by decide +kernel) (rfl) (rfl) (Nat.le_of_ble_eq_true rfl) d_Mo_arm_17 (fun H locs hP hD hS => ?_)
  have hP : va_P (dC, dI) cls [(h0, .inr (5, [.int 0, .ref a0, .int (-1), .int 0, .int 0, .ref a1, .ref a2, .ref a3, .int 0, .int 0, .ref a4, .int 0, .ref a5, .int 0, .int 0, .int 0, .int 0, .int 0, .int 0, .ref a6, .int 0, .ref a7, .int 0, .ref a8, .ref a9]))] H := hP
  have hD : va_D A [(h0, .inr (5, [.int 0, .ref a0, .int (-1), .int 0, .int 0, .ref a1, .ref a2, .ref a3, .int 0, .int 0, .ref a4, .int 0, .ref a5, .int 0, .int 0, .int 0, .int 0, .int 0, .int 0, .ref a6, .int 0, .ref a7, .int 0, .ref a8, .ref a9]))] := hD
  refine lv_aload_n hx hb d_Mo_arm_20 rfl (lv_at hl 0 rfl) ?_
  refine va_get (D := (dC, dI)) (ci := 5) (v := .int 0) (C := R_Mo) (T := F_Mo) (N := 25) hx hb hts in_Mo hown hK hP 0 rfl rfl 0 (by decide) (hts _ w_593) (fun _ h9 => h9) rfl d_Mo_arm_21 ?_
  refine lv_if_le (tgt := 29) hx hb d_Mo_arm_24 (by decide) (fun _ => ?_) (fun h => absurd (by decide) h)
  refine lv_aload_n hx hb d_Mo_arm_29 rfl (lv_at hl 0 rfl) ?_
  refine lv_iload_n hx hb d_Mo_arm_30 rfl (lv_at hl 1 rfl) ?_
  refine va_put (D := (dC, dI)) (ci := 5) (v := .int x) (ty := .int) (C := R_Mo) (T := F_Mo) (N := 25) hx hb hts in_Mo t_Mo t_Mo_ok n_Mo hown hK hP hD hS 0 rfl rfl 2 (by decide) (hts _ w_595) (fun _ h9 => h9) rfl (by decide +kernel) (rfl) (rfl) (Nat.le_of_ble_eq_true rfl) d_Mo_arm_31 (fun H locs hP hD hS => ?_)
  have hP : va_P (dC, dI) cls [(h0, .inr (5, [.int 0, .ref a0, .int x, .int 0, .int 0, .ref a1, .ref a2, .ref a3, .int 0, .int 0, .ref a4, .int 0, .ref a5, .int 0, .int 0, .int 0, .int 0, .int 0, .int 0, .ref a6, .int 0, .ref a7, .int 0, .ref a8, .ref a9]))] H := hP
  have hD : va_D A [(h0, .inr (5, [.int 0, .ref a0, .int x, .int 0, .int 0, .ref a1, .ref a2, .ref a3, .int 0, .int 0, .ref a4, .int 0, .ref a5, .int 0, .int 0, .int 0, .int 0, .int 0, .int 0, .ref a6, .int 0, .ref a7, .int 0, .ref a8, .ref a9]))] := hD
  refine lv_iconst (v := 1) hx hb d_Mo_arm_34 (by decide) ?_
  refine W.widen (k := 0) (n := 0) (by decide) (by decide) ?_
  exact W.zret (v := 1) hx hb hr rfl (fun t ht hW => ⟨⟨1, (), rfl, rfl, cB.of (hP.sub [0] rfl) (hD.sub [0] (by decide) rfl) (hK.sub [] rfl) ht hW⟩, hS.F ht⟩) hS.2.2 d_Mo_arm_35
set_option maxHeartbeats 4000000 in
set_option maxRecDepth 100000 in
theorem c_Mo_out1 (l : Launch) (dC : Nat → ClassId) (dI : Nat → Nat → Nat) (h0 a0 a1 a2 a3 a4 a5 a6 a7 a8 a9 : Nat) (x : Int32) (h1 : x < 0) (sz : Nat) : Met l y_Mo_out (Cond.code y_Mo_out b_Mo_out 2 (some .int) :: gw) ({ frames := 0, cells := 0, slots := 0, locals := 0 }) (cP (dC, dI) [.ref h0, .int x] sz [(h0, .inr (5, [.int 0, .ref a0, .int (-1), .int 0, .int 0, .ref a1, .ref a2, .ref a3, .int 0, .int 0, .ref a4, .int 0, .ref a5, .int 0, .int 0, .int 0, .int 0, .int 0, .int 0, .ref a6, .int 0, .ref a7, .int 0, .ref a8, .ref a9]))] [] xT) (va_Qi (fun (r : Int32) (u : Unit) => r = 0) (fun (u : Unit) t => cB (dC, dI) (va_A [(h0, .inr (5, [.int 0, .ref a0, .int (-1), .int 0, .int 0, .ref a1, .ref a2, .ref a3, .int 0, .int 0, .ref a4, .int 0, .ref a5, .int 0, .int 0, .int 0, .int 0, .int 0, .int 0, .ref a6, .int 0, .ref a7, .int 0, .ref a8, .ref a9]))] sz) [(h0, .inr (5, [.int 1, .ref a0, .int (-1), .int 0, .int 0, .ref a1, .ref a2, .ref a3, .int 0, .int 0, .ref a4, .int 0, .ref a5, .int 0, .int 0, .int 0, .int 0, .int 0, .int 0, .ref a6, .int 0, .ref a7, .int 0, .ref a8, .ref a9]))] [] t) (va_A [(h0, .inr (5, [.int 0, .ref a0, .int (-1), .int 0, .int 0, .ref a1, .ref a2, .ref a3, .int 0, .int 0, .ref a4, .int 0, .ref a5, .int 0, .int 0, .int 0, .int 0, .int 0, .int 0, .ref a6, .int 0, .ref a7, .int 0, .ref a8, .ref a9]))] sz)) 0 0 (va_A [(h0, .inr (5, [.int 0, .ref a0, .int (-1), .int 0, .int 0, .ref a1, .ref a2, .ref a3, .int 0, .int 0, .ref a4, .int 0, .ref a5, .int 0, .int 0, .int 0, .int 0, .int 0, .int 0, .ref a6, .int 0, .ref a7, .int 0, .ref a8, .ref a9]))] sz) := by
  refine Met.ofW (cc := b_Mo_out) (maxL := 2) (ret := (some .int)) (by decide) rfl ?_
  intro p e s m args below meth c s₁ B hml hv
  obtain ⟨rfl, hsz, hP, hK, hD0, hkw, hX⟩ := hv
  have hx := B.exec
  have hb := B.bytes
  have hr := B.returns
  have hts := fun w hw => atoms_spec (ws := Cond.code y_Mo_out b_Mo_out 2 (some .int) :: gw) B.pre w (List.mem_cons_of_mem _ hw)
  have hown : s.vm.findClass "LineDiskModel" = some m.cls := findClass_of_methodNamed B.named
  have hlocks := B.notSynchronized
  have hin := (name_of_methodNamed B.named B.method).1
  subst hsz
  have hD := hD0.self (sz := s.heap.size)
  generalize hAe : va_A [(h0, .inr (5, [.int 0, .ref a0, .int (-1), .int 0, .int 0, .ref a1, .ref a2, .ref a3, .int 0, .int 0, .ref a4, .int 0, .ref a5, .int 0, .int 0, .int 0, .int 0, .int 0, .int 0, .ref a6, .int 0, .ref a7, .int 0, .ref a8, .ref a9]))] s.heap.size = A at hD ⊢
  have hA : ∀ q : Nat, s.heap.size ≤ q → A q := fun q h => by rw [← hAe]; exact Or.inr h
  have hS : va_S A s.heap s.heap [] := va_S.rf
  have hl := lv_entry ([.ref h0, .int x]) (n := 2) (Nat.le_of_ble_eq_true rfl)
  rw [lg_entry_eq]
  generalize (lg_sl ([.ref h0, .int x]) ++ List.replicate (2 - (lg_sl ([.ref h0, .int x])).length) Slot.unset).toArray = ls at hl ⊢
  have hl : lv_has ls 2 [(0, .ref h0), (1, .int x)] := hl
  have F : CallFix p m c b_Mo_out 2 s ([.ref h0, .int x]).toArray gw "LineDiskModel" := ⟨hx, hb, hml, hown, hts⟩
  refine lv_aload_n hx hb d_Mo_out_0 rfl (lv_at hl 0 rfl) ?_
  refine lv_iload_n hx hb d_Mo_out_1 rfl (lv_at hl 1 rfl) ?_
  refine lv_if_lt (tgt := 19) hx hb d_Mo_out_2 (by decide) (fun _ => ?_) (fun h => absurd (h1) h)
  refine lv_iconst (v := 1) hx hb d_Mo_out_19 (by decide) ?_
  refine lv_goto (tgt := 24) hx hb d_Mo_out_20 (by decide) ?_
  refine va_put (D := (dC, dI)) (ci := 5) (v := .int 1) (ty := .int) (C := R_Mo) (T := F_Mo) (N := 25) hx hb hts in_Mo t_Mo t_Mo_ok n_Mo hown hK hP hD hS 0 rfl rfl 0 (by decide) (hts _ w_593) (fun _ h9 => h9) rfl (by decide +kernel) (rfl) (rfl) (Nat.le_of_ble_eq_true rfl) d_Mo_out_24 (fun H locs hP hD hS => ?_)
  have hP : va_P (dC, dI) cls [(h0, .inr (5, [.int 1, .ref a0, .int (-1), .int 0, .int 0, .ref a1, .ref a2, .ref a3, .int 0, .int 0, .ref a4, .int 0, .ref a5, .int 0, .int 0, .int 0, .int 0, .int 0, .int 0, .ref a6, .int 0, .ref a7, .int 0, .ref a8, .ref a9]))] H := hP
  have hD : va_D A [(h0, .inr (5, [.int 1, .ref a0, .int (-1), .int 0, .int 0, .ref a1, .ref a2, .ref a3, .int 0, .int 0, .ref a4, .int 0, .ref a5, .int 0, .int 0, .int 0, .int 0, .int 0, .int 0, .ref a6, .int 0, .ref a7, .int 0, .ref a8, .ref a9]))] := hD
  refine lv_aload_n hx hb d_Mo_out_27 rfl (lv_at hl 0 rfl) ?_
  refine va_get (D := (dC, dI)) (ci := 5) (v := .int 1) (C := R_Mo) (T := F_Mo) (N := 25) hx hb hts in_Mo hown hK hP 0 rfl rfl 0 (by decide) (hts _ w_593) (fun _ h9 => h9) rfl d_Mo_out_28 ?_
  refine lv_if_le (tgt := 38) hx hb d_Mo_out_31 (by decide) (fun h => absurd h (by decide)) (fun _ => ?_)
  refine lv_iconst (v := 0) hx hb d_Mo_out_34 (by decide) ?_
  refine lv_goto (tgt := 44) hx hb d_Mo_out_35 (by decide) ?_
  refine W.widen (k := 0) (n := 0) (by decide) (by decide) ?_
  exact W.iret (v := 0) hx hb hr (fun t ht hW => ⟨⟨0, (), rfl, rfl, cB.of (hP.sub [0] rfl) (hD.sub [0] (by decide) rfl) (hK.sub [] rfl) ht hW⟩, hS.F ht⟩) hS.2.2 d_Mo_out_44
set_option maxHeartbeats 4000000 in
set_option maxRecDepth 100000 in
theorem c_Mo_out2 (l : Launch) (dC : Nat → ClassId) (dI : Nat → Nat → Nat) (h0 a0 a1 a2 a3 a4 a5 a6 a7 a8 a9 : Nat) (x : Int32) (h1 : ¬ x < 0) (sz : Nat) : Met l y_Mo_out (Cond.code y_Mo_out b_Mo_out 2 (some .int) :: gw) ({ frames := 0, cells := 0, slots := 0, locals := 0 }) (cP (dC, dI) [.ref h0, .int x] sz [(h0, .inr (5, [.int 0, .ref a0, .int (-1), .int 0, .int 0, .ref a1, .ref a2, .ref a3, .int 0, .int 0, .ref a4, .int 0, .ref a5, .int 0, .int 0, .int 0, .int 0, .int 0, .int 0, .ref a6, .int 0, .ref a7, .int 0, .ref a8, .ref a9]))] [] xT) (va_Qi (fun (r : Int32) (u : Unit) => r = 0) (fun (u : Unit) t => cB (dC, dI) (va_A [(h0, .inr (5, [.int 0, .ref a0, .int (-1), .int 0, .int 0, .ref a1, .ref a2, .ref a3, .int 0, .int 0, .ref a4, .int 0, .ref a5, .int 0, .int 0, .int 0, .int 0, .int 0, .int 0, .ref a6, .int 0, .ref a7, .int 0, .ref a8, .ref a9]))] sz) [(h0, .inr (5, [.int 1, .ref a0, .int (-1), .int 0, .int 0, .ref a1, .ref a2, .ref a3, .int 0, .int 0, .ref a4, .int 0, .ref a5, .int 0, .int 0, .int 0, .int 0, .int 0, .int 0, .ref a6, .int 0, .ref a7, .int 0, .ref a8, .ref a9]))] [] t) (va_A [(h0, .inr (5, [.int 0, .ref a0, .int (-1), .int 0, .int 0, .ref a1, .ref a2, .ref a3, .int 0, .int 0, .ref a4, .int 0, .ref a5, .int 0, .int 0, .int 0, .int 0, .int 0, .int 0, .ref a6, .int 0, .ref a7, .int 0, .ref a8, .ref a9]))] sz)) 0 0 (va_A [(h0, .inr (5, [.int 0, .ref a0, .int (-1), .int 0, .int 0, .ref a1, .ref a2, .ref a3, .int 0, .int 0, .ref a4, .int 0, .ref a5, .int 0, .int 0, .int 0, .int 0, .int 0, .int 0, .ref a6, .int 0, .ref a7, .int 0, .ref a8, .ref a9]))] sz) := by
  refine Met.ofW (cc := b_Mo_out) (maxL := 2) (ret := (some .int)) (by decide) rfl ?_
  intro p e s m args below meth c s₁ B hml hv
  obtain ⟨rfl, hsz, hP, hK, hD0, hkw, hX⟩ := hv
  have hx := B.exec
  have hb := B.bytes
  have hr := B.returns
  have hts := fun w hw => atoms_spec (ws := Cond.code y_Mo_out b_Mo_out 2 (some .int) :: gw) B.pre w (List.mem_cons_of_mem _ hw)
  have hown : s.vm.findClass "LineDiskModel" = some m.cls := findClass_of_methodNamed B.named
  have hlocks := B.notSynchronized
  have hin := (name_of_methodNamed B.named B.method).1
  subst hsz
  have hD := hD0.self (sz := s.heap.size)
  generalize hAe : va_A [(h0, .inr (5, [.int 0, .ref a0, .int (-1), .int 0, .int 0, .ref a1, .ref a2, .ref a3, .int 0, .int 0, .ref a4, .int 0, .ref a5, .int 0, .int 0, .int 0, .int 0, .int 0, .int 0, .ref a6, .int 0, .ref a7, .int 0, .ref a8, .ref a9]))] s.heap.size = A at hD ⊢
  have hA : ∀ q : Nat, s.heap.size ≤ q → A q := fun q h => by rw [← hAe]; exact Or.inr h
  have hS : va_S A s.heap s.heap [] := va_S.rf
  have hl := lv_entry ([.ref h0, .int x]) (n := 2) (Nat.le_of_ble_eq_true rfl)
  rw [lg_entry_eq]
  generalize (lg_sl ([.ref h0, .int x]) ++ List.replicate (2 - (lg_sl ([.ref h0, .int x])).length) Slot.unset).toArray = ls at hl ⊢
  have hl : lv_has ls 2 [(0, .ref h0), (1, .int x)] := hl
  have F : CallFix p m c b_Mo_out 2 s ([.ref h0, .int x]).toArray gw "LineDiskModel" := ⟨hx, hb, hml, hown, hts⟩
  refine lv_aload_n hx hb d_Mo_out_0 rfl (lv_at hl 0 rfl) ?_
  refine lv_iload_n hx hb d_Mo_out_1 rfl (lv_at hl 1 rfl) ?_
  refine lv_if_lt (tgt := 19) hx hb d_Mo_out_2 (by decide) (fun h => absurd h (h1)) (fun _ => ?_)
  refine lv_iload_n hx hb d_Mo_out_5 rfl (lv_at hl 1 rfl) ?_
  refine lv_aload_n hx hb d_Mo_out_6 rfl (lv_at hl 0 rfl) ?_
  refine va_get (D := (dC, dI)) (ci := 5) (v := .int 0) (C := R_Mo) (T := F_Mo) (N := 25) hx hb hts in_Mo hown hK hP 0 rfl rfl 9 (by decide) (hts _ w_602) (fun _ h9 => h9) rfl d_Mo_out_7 ?_
  refine lv_icmp_ge (tgt := 19) hx hb d_Mo_out_10 (by decide) (fun _ => ?_) (fun h => absurd (Int32.not_lt.mp h1) h)
  refine lv_iconst (v := 1) hx hb d_Mo_out_19 (by decide) ?_
  refine lv_goto (tgt := 24) hx hb d_Mo_out_20 (by decide) ?_
  refine va_put (D := (dC, dI)) (ci := 5) (v := .int 1) (ty := .int) (C := R_Mo) (T := F_Mo) (N := 25) hx hb hts in_Mo t_Mo t_Mo_ok n_Mo hown hK hP hD hS 0 rfl rfl 0 (by decide) (hts _ w_593) (fun _ h9 => h9) rfl (by decide +kernel) (rfl) (rfl) (Nat.le_of_ble_eq_true rfl) d_Mo_out_24 (fun H locs hP hD hS => ?_)
  have hP : va_P (dC, dI) cls [(h0, .inr (5, [.int 1, .ref a0, .int (-1), .int 0, .int 0, .ref a1, .ref a2, .ref a3, .int 0, .int 0, .ref a4, .int 0, .ref a5, .int 0, .int 0, .int 0, .int 0, .int 0, .int 0, .ref a6, .int 0, .ref a7, .int 0, .ref a8, .ref a9]))] H := hP
  have hD : va_D A [(h0, .inr (5, [.int 1, .ref a0, .int (-1), .int 0, .int 0, .ref a1, .ref a2, .ref a3, .int 0, .int 0, .ref a4, .int 0, .ref a5, .int 0, .int 0, .int 0, .int 0, .int 0, .int 0, .ref a6, .int 0, .ref a7, .int 0, .ref a8, .ref a9]))] := hD
  refine lv_aload_n hx hb d_Mo_out_27 rfl (lv_at hl 0 rfl) ?_
  refine va_get (D := (dC, dI)) (ci := 5) (v := .int 1) (C := R_Mo) (T := F_Mo) (N := 25) hx hb hts in_Mo hown hK hP 0 rfl rfl 0 (by decide) (hts _ w_593) (fun _ h9 => h9) rfl d_Mo_out_28 ?_
  refine lv_if_le (tgt := 38) hx hb d_Mo_out_31 (by decide) (fun h => absurd h (by decide)) (fun _ => ?_)
  refine lv_iconst (v := 0) hx hb d_Mo_out_34 (by decide) ?_
  refine lv_goto (tgt := 44) hx hb d_Mo_out_35 (by decide) ?_
  refine W.widen (k := 0) (n := 0) (by decide) (by decide) ?_
  exact W.iret (v := 0) hx hb hr (fun t ht hW => ⟨⟨0, (), rfl, rfl, cB.of (hP.sub [0] rfl) (hD.sub [0] (by decide) rfl) (hK.sub [] rfl) ht hW⟩, hS.F ht⟩) hS.2.2 d_Mo_out_44
theorem in511 {x : Int32} (h1 : ¬ x < 0) (h2 : x ≤ 511) : vp_in x 512 := by
  rw [vp_in_iff]
  have a := Int32.not_lt.mp h1
  rw [Int32.le_iff_toInt_le] at a h2
  have e1 : (511 : Int32).toInt = 511 := by decide
  have e0 : (0 : Int32).toInt = 0 := by decide
  rw [e1] at h2
  rw [e0] at a
  omega
set_option maxHeartbeats 4000000 in
set_option maxRecDepth 100000 in
theorem c_Mo_disk1 (l : Launch) (dC : Nat → ClassId) (dI : Nat → Nat → Nat) (h0 a0 a1 a2 a3 a4 a5 a6 a7 a8 a9 : Nat) (cA : ClassId) (x : Int32) (h1 : x < 0) (sz : Nat) : Met l y_Mo_disk (Cond.code y_Mo_disk b_Mo_disk 2 (some .int) :: gw) ({ frames := 0, cells := 0, slots := 0, locals := 0 }) (cP (dC, dI) [.ref h0, .int x] sz [(h0, .inr (5, [.int 0, .ref a0, .int (-1), .int 0, .int 0, .ref a1, .ref a2, .ref a3, .int 0, .int 0, .ref a4, .int 0, .ref a5, .int 0, .int 0, .int 0, .int 0, .int 0, .int 0, .ref a6, .int 0, .ref a7, .int 0, .ref a8, .ref a9])), (a0, .inl (cA, 512, .inl (fun _ => 0)))] [(cA, .int)] xT) (va_Qi (fun (r : Int32) (u : Unit) => r = 0) (fun (u : Unit) t => cB (dC, dI) (va_A [(h0, .inr (5, [.int 0, .ref a0, .int (-1), .int 0, .int 0, .ref a1, .ref a2, .ref a3, .int 0, .int 0, .ref a4, .int 0, .ref a5, .int 0, .int 0, .int 0, .int 0, .int 0, .int 0, .ref a6, .int 0, .ref a7, .int 0, .ref a8, .ref a9])), (a0, .inl (cA, 512, .inl (fun _ => 0)))] sz) [(h0, .inr (5, [.int 1, .ref a0, .int (-1), .int 0, .int 0, .ref a1, .ref a2, .ref a3, .int 0, .int 0, .ref a4, .int 0, .ref a5, .int 0, .int 0, .int 0, .int 0, .int 0, .int 0, .ref a6, .int 0, .ref a7, .int 0, .ref a8, .ref a9])), (a0, .inl (cA, 512, .inl (fun _ => 0)))] [(cA, .int)] t) (va_A [(h0, .inr (5, [.int 0, .ref a0, .int (-1), .int 0, .int 0, .ref a1, .ref a2, .ref a3, .int 0, .int 0, .ref a4, .int 0, .ref a5, .int 0, .int 0, .int 0, .int 0, .int 0, .int 0, .ref a6, .int 0, .ref a7, .int 0, .ref a8, .ref a9])), (a0, .inl (cA, 512, .inl (fun _ => 0)))] sz)) 0 0 (va_A [(h0, .inr (5, [.int 0, .ref a0, .int (-1), .int 0, .int 0, .ref a1, .ref a2, .ref a3, .int 0, .int 0, .ref a4, .int 0, .ref a5, .int 0, .int 0, .int 0, .int 0, .int 0, .int 0, .ref a6, .int 0, .ref a7, .int 0, .ref a8, .ref a9])), (a0, .inl (cA, 512, .inl (fun _ => 0)))] sz) := by
  refine Met.ofW (cc := b_Mo_disk) (maxL := 2) (ret := (some .int)) (by decide) rfl ?_
  intro p e s m args below meth c s₁ B hml hv
  obtain ⟨rfl, hsz, hP, hK, hD0, hkw, hX⟩ := hv
  have hx := B.exec
  have hb := B.bytes
  have hr := B.returns
  have hts := fun w hw => atoms_spec (ws := Cond.code y_Mo_disk b_Mo_disk 2 (some .int) :: gw) B.pre w (List.mem_cons_of_mem _ hw)
  have hown : s.vm.findClass "LineDiskModel" = some m.cls := findClass_of_methodNamed B.named
  have hlocks := B.notSynchronized
  have hin := (name_of_methodNamed B.named B.method).1
  subst hsz
  have hD := hD0.self (sz := s.heap.size)
  generalize hAe : va_A [(h0, .inr (5, [.int 0, .ref a0, .int (-1), .int 0, .int 0, .ref a1, .ref a2, .ref a3, .int 0, .int 0, .ref a4, .int 0, .ref a5, .int 0, .int 0, .int 0, .int 0, .int 0, .int 0, .ref a6, .int 0, .ref a7, .int 0, .ref a8, .ref a9])), (a0, .inl (cA, 512, .inl (fun _ => 0)))] s.heap.size = A at hD ⊢
  have hA : ∀ q : Nat, s.heap.size ≤ q → A q := fun q h => by rw [← hAe]; exact Or.inr h
  have hS : va_S A s.heap s.heap [] := va_S.rf
  have hl := lv_entry ([.ref h0, .int x]) (n := 2) (Nat.le_of_ble_eq_true rfl)
  rw [lg_entry_eq]
  generalize (lg_sl ([.ref h0, .int x]) ++ List.replicate (2 - (lg_sl ([.ref h0, .int x])).length) Slot.unset).toArray = ls at hl ⊢
  have hl : lv_has ls 2 [(0, .ref h0), (1, .int x)] := hl
  have F : CallFix p m c b_Mo_disk 2 s ([.ref h0, .int x]).toArray gw "LineDiskModel" := ⟨hx, hb, hml, hown, hts⟩
  refine lv_aload_n hx hb d_Mo_disk_0 rfl (lv_at hl 0 rfl) ?_
  refine lv_iload_n hx hb d_Mo_disk_1 rfl (lv_at hl 1 rfl) ?_
  refine lv_if_lt (tgt := 12) hx hb d_Mo_disk_2 (by decide) (fun _ => ?_) (fun h => absurd (h1) h)
  refine lv_iconst (v := 1) hx hb d_Mo_disk_12 (by decide) ?_
  refine lv_goto (tgt := 17) hx hb d_Mo_disk_13 (by decide) ?_
  refine va_put (D := (dC, dI)) (ci := 5) (v := .int 1) (ty := .int) (C := R_Mo) (T := F_Mo) (N := 25) hx hb hts in_Mo t_Mo t_Mo_ok n_Mo hown hK hP hD hS 0 rfl rfl 0 (by decide) (hts _ w_593) (fun _ h9 => h9) rfl (by decide +kernel) (rfl) (rfl) (Nat.le_of_ble_eq_true rfl) d_Mo_disk_17 (fun H locs hP hD hS => ?_)
  have hP : va_P (dC, dI) cls [(h0, .inr (5, [.int 1, .ref a0, .int (-1), .int 0, .int 0, .ref a1, .ref a2, .ref a3, .int 0, .int 0, .ref a4, .int 0, .ref a5, .int 0, .int 0, .int 0, .int 0, .int 0, .int 0, .ref a6, .int 0, .ref a7, .int 0, .ref a8, .ref a9])), (a0, .inl (cA, 512, .inl (fun _ => 0)))] H := hP
  have hD : va_D A [(h0, .inr (5, [.int 1, .ref a0, .int (-1), .int 0, .int 0, .ref a1, .ref a2, .ref a3, .int 0, .int 0, .ref a4, .int 0, .ref a5, .int 0, .int 0, .int 0, .int 0, .int 0, .int 0, .ref a6, .int 0, .ref a7, .int 0, .ref a8, .ref a9])), (a0, .inl (cA, 512, .inl (fun _ => 0)))] := hD
  refine lv_aload_n hx hb d_Mo_disk_20 rfl (lv_at hl 0 rfl) ?_
  refine va_get (D := (dC, dI)) (ci := 5) (v := .int 1) (C := R_Mo) (T := F_Mo) (N := 25) hx hb hts in_Mo hown hK hP 0 rfl rfl 0 (by decide) (hts _ w_593) (fun _ h9 => h9) rfl d_Mo_disk_21 ?_
  refine lv_if_le (tgt := 31) hx hb d_Mo_disk_24 (by decide) (fun h => absurd h (by decide)) (fun _ => ?_)
  refine lv_iconst (v := 0) hx hb d_Mo_disk_27 (by decide) ?_
  refine lv_goto (tgt := 37) hx hb d_Mo_disk_28 (by decide) ?_
  refine W.widen (k := 0) (n := 0) (by decide) (by decide) ?_
  exact W.iret (v := 0) hx hb hr (fun t ht hW => ⟨⟨0, (), rfl, rfl, cB.of (hP.sub [0, 1] rfl) (hD.sub [0, 1] (by decide) rfl) (hK.sub [0] rfl) ht hW⟩, hS.F ht⟩) hS.2.2 d_Mo_disk_37
set_option maxHeartbeats 4000000 in
set_option maxRecDepth 100000 in
theorem c_Mo_disk2 (l : Launch) (dC : Nat → ClassId) (dI : Nat → Nat → Nat) (h0 a0 a1 a2 a3 a4 a5 a6 a7 a8 a9 : Nat) (cA : ClassId) (x : Int32) (h1 : ¬ x < 0) (h2 : ¬ x ≤ 511) (sz : Nat) : Met l y_Mo_disk (Cond.code y_Mo_disk b_Mo_disk 2 (some .int) :: gw) ({ frames := 0, cells := 0, slots := 0, locals := 0 }) (cP (dC, dI) [.ref h0, .int x] sz [(h0, .inr (5, [.int 0, .ref a0, .int (-1), .int 0, .int 0, .ref a1, .ref a2, .ref a3, .int 0, .int 0, .ref a4, .int 0, .ref a5, .int 0, .int 0, .int 0, .int 0, .int 0, .int 0, .ref a6, .int 0, .ref a7, .int 0, .ref a8, .ref a9])), (a0, .inl (cA, 512, .inl (fun _ => 0)))] [(cA, .int)] xT) (va_Qi (fun (r : Int32) (u : Unit) => r = 0) (fun (u : Unit) t => cB (dC, dI) (va_A [(h0, .inr (5, [.int 0, .ref a0, .int (-1), .int 0, .int 0, .ref a1, .ref a2, .ref a3, .int 0, .int 0, .ref a4, .int 0, .ref a5, .int 0, .int 0, .int 0, .int 0, .int 0, .int 0, .ref a6, .int 0, .ref a7, .int 0, .ref a8, .ref a9])), (a0, .inl (cA, 512, .inl (fun _ => 0)))] sz) [(h0, .inr (5, [.int 1, .ref a0, .int (-1), .int 0, .int 0, .ref a1, .ref a2, .ref a3, .int 0, .int 0, .ref a4, .int 0, .ref a5, .int 0, .int 0, .int 0, .int 0, .int 0, .int 0, .ref a6, .int 0, .ref a7, .int 0, .ref a8, .ref a9])), (a0, .inl (cA, 512, .inl (fun _ => 0)))] [(cA, .int)] t) (va_A [(h0, .inr (5, [.int 0, .ref a0, .int (-1), .int 0, .int 0, .ref a1, .ref a2, .ref a3, .int 0, .int 0, .ref a4, .int 0, .ref a5, .int 0, .int 0, .int 0, .int 0, .int 0, .int 0, .ref a6, .int 0, .ref a7, .int 0, .ref a8, .ref a9])), (a0, .inl (cA, 512, .inl (fun _ => 0)))] sz)) 0 0 (va_A [(h0, .inr (5, [.int 0, .ref a0, .int (-1), .int 0, .int 0, .ref a1, .ref a2, .ref a3, .int 0, .int 0, .ref a4, .int 0, .ref a5, .int 0, .int 0, .int 0, .int 0, .int 0, .int 0, .ref a6, .int 0, .ref a7, .int 0, .ref a8, .ref a9])), (a0, .inl (cA, 512, .inl (fun _ => 0)))] sz) := by
  refine Met.ofW (cc := b_Mo_disk) (maxL := 2) (ret := (some .int)) (by decide) rfl ?_
  intro p e s m args below meth c s₁ B hml hv
  obtain ⟨rfl, hsz, hP, hK, hD0, hkw, hX⟩ := hv
  have hx := B.exec
  have hb := B.bytes
  have hr := B.returns
  have hts := fun w hw => atoms_spec (ws := Cond.code y_Mo_disk b_Mo_disk 2 (some .int) :: gw) B.pre w (List.mem_cons_of_mem _ hw)
  have hown : s.vm.findClass "LineDiskModel" = some m.cls := findClass_of_methodNamed B.named
  have hlocks := B.notSynchronized
  have hin := (name_of_methodNamed B.named B.method).1
  subst hsz
  have hD := hD0.self (sz := s.heap.size)
  generalize hAe : va_A [(h0, .inr (5, [.int 0, .ref a0, .int (-1), .int 0, .int 0, .ref a1, .ref a2, .ref a3, .int 0, .int 0, .ref a4, .int 0, .ref a5, .int 0, .int 0, .int 0, .int 0, .int 0, .int 0, .ref a6, .int 0, .ref a7, .int 0, .ref a8, .ref a9])), (a0, .inl (cA, 512, .inl (fun _ => 0)))] s.heap.size = A at hD ⊢
  have hA : ∀ q : Nat, s.heap.size ≤ q → A q := fun q h => by rw [← hAe]; exact Or.inr h
  have hS : va_S A s.heap s.heap [] := va_S.rf
  have hl := lv_entry ([.ref h0, .int x]) (n := 2) (Nat.le_of_ble_eq_true rfl)
  rw [lg_entry_eq]
  generalize (lg_sl ([.ref h0, .int x]) ++ List.replicate (2 - (lg_sl ([.ref h0, .int x])).length) Slot.unset).toArray = ls at hl ⊢
  have hl : lv_has ls 2 [(0, .ref h0), (1, .int x)] := hl
  have F : CallFix p m c b_Mo_disk 2 s ([.ref h0, .int x]).toArray gw "LineDiskModel" := ⟨hx, hb, hml, hown, hts⟩
  refine lv_aload_n hx hb d_Mo_disk_0 rfl (lv_at hl 0 rfl) ?_
  refine lv_iload_n hx hb d_Mo_disk_1 rfl (lv_at hl 1 rfl) ?_
  refine lv_if_lt (tgt := 12) hx hb d_Mo_disk_2 (by decide) (fun h => absurd h (h1)) (fun _ => ?_)
  refine lv_iload_n hx hb d_Mo_disk_5 rfl (lv_at hl 1 rfl) ?_
  refine lv_sipush (v := 511) hx hb d_Mo_disk_6 (by decide) ?_
  refine lv_icmp_le (tgt := 16) hx hb d_Mo_disk_9 (by decide) (fun h => absurd h (h2)) (fun _ => ?_)
  refine lv_iconst (v := 1) hx hb d_Mo_disk_12 (by decide) ?_
  refine lv_goto (tgt := 17) hx hb d_Mo_disk_13 (by decide) ?_
  refine va_put (D := (dC, dI)) (ci := 5) (v := .int 1) (ty := .int) (C := R_Mo) (T := F_Mo) (N := 25) hx hb hts in_Mo t_Mo t_Mo_ok n_Mo hown hK hP hD hS 0 rfl rfl 0 (by decide) (hts _ w_593) (fun _ h9 => h9) rfl (by decide +kernel) (rfl) (rfl) (Nat.le_of_ble_eq_true rfl) d_Mo_disk_17 (fun H locs hP hD hS => ?_)
  have hP : va_P (dC, dI) cls [(h0, .inr (5, [.int 1, .ref a0, .int (-1), .int 0, .int 0, .ref a1, .ref a2, .ref a3, .int 0, .int 0, .ref a4, .int 0, .ref a5, .int 0, .int 0, .int 0, .int 0, .int 0, .int 0, .ref a6, .int 0, .ref a7, .int 0, .ref a8, .ref a9])), (a0, .inl (cA, 512, .inl (fun _ => 0)))] H := hP
  have hD : va_D A [(h0, .inr (5, [.int 1, .ref a0, .int (-1), .int 0, .int 0, .ref a1, .ref a2, .ref a3, .int 0, .int 0, .ref a4, .int 0, .ref a5, .int 0, .int 0, .int 0, .int 0, .int 0, .int 0, .ref a6, .int 0, .ref a7, .int 0, .ref a8, .ref a9])), (a0, .inl (cA, 512, .inl (fun _ => 0)))] := hD
  refine lv_aload_n hx hb d_Mo_disk_20 rfl (lv_at hl 0 rfl) ?_
  refine va_get (D := (dC, dI)) (ci := 5) (v := .int 1) (C := R_Mo) (T := F_Mo) (N := 25) hx hb hts in_Mo hown hK hP 0 rfl rfl 0 (by decide) (hts _ w_593) (fun _ h9 => h9) rfl d_Mo_disk_21 ?_
  refine lv_if_le (tgt := 31) hx hb d_Mo_disk_24 (by decide) (fun h => absurd h (by decide)) (fun _ => ?_)
  refine lv_iconst (v := 0) hx hb d_Mo_disk_27 (by decide) ?_
  refine lv_goto (tgt := 37) hx hb d_Mo_disk_28 (by decide) ?_
  refine W.widen (k := 0) (n := 0) (by decide) (by decide) ?_
  exact W.iret (v := 0) hx hb hr (fun t ht hW => ⟨⟨0, (), rfl, rfl, cB.of (hP.sub [0, 1] rfl) (hD.sub [0, 1] (by decide) rfl) (hK.sub [0] rfl) ht hW⟩, hS.F ht⟩) hS.2.2 d_Mo_disk_37
set_option maxHeartbeats 4000000 in
set_option maxRecDepth 100000 in
theorem c_Mo_disk3 (l : Launch) (dC : Nat → ClassId) (dI : Nat → Nat → Nat) (h0 a0 a1 a2 a3 a4 a5 a6 a7 a8 a9 : Nat) (cA : ClassId) (x : Int32) (h1 : ¬ x < 0) (h2 : x ≤ 511) (sz : Nat) : Met l y_Mo_disk (Cond.code y_Mo_disk b_Mo_disk 2 (some .int) :: gw) ({ frames := 0, cells := 0, slots := 0, locals := 0 }) (cP (dC, dI) [.ref h0, .int x] sz [(h0, .inr (5, [.int 0, .ref a0, .int (-1), .int 0, .int 0, .ref a1, .ref a2, .ref a3, .int 0, .int 0, .ref a4, .int 0, .ref a5, .int 0, .int 0, .int 0, .int 0, .int 0, .int 0, .ref a6, .int 0, .ref a7, .int 0, .ref a8, .ref a9])), (a0, .inl (cA, 512, .inl (fun _ => 0)))] [(cA, .int)] xT) (va_Qi (fun (r : Int32) (u : Unit) => r = 0) (fun (u : Unit) t => cB (dC, dI) (va_A [(h0, .inr (5, [.int 0, .ref a0, .int (-1), .int 0, .int 0, .ref a1, .ref a2, .ref a3, .int 0, .int 0, .ref a4, .int 0, .ref a5, .int 0, .int 0, .int 0, .int 0, .int 0, .int 0, .ref a6, .int 0, .ref a7, .int 0, .ref a8, .ref a9])), (a0, .inl (cA, 512, .inl (fun _ => 0)))] sz) [(h0, .inr (5, [.int 0, .ref a0, .int (-1), .int 0, .int 0, .ref a1, .ref a2, .ref a3, .int 0, .int 0, .ref a4, .int 0, .ref a5, .int 0, .int 0, .int 0, .int 0, .int 0, .int 0, .ref a6, .int 0, .ref a7, .int 0, .ref a8, .ref a9])), (a0, .inl (cA, 512, .inl (fun _ => 0)))] [(cA, .int)] t) (va_A [(h0, .inr (5, [.int 0, .ref a0, .int (-1), .int 0, .int 0, .ref a1, .ref a2, .ref a3, .int 0, .int 0, .ref a4, .int 0, .ref a5, .int 0, .int 0, .int 0, .int 0, .int 0, .int 0, .ref a6, .int 0, .ref a7, .int 0, .ref a8, .ref a9])), (a0, .inl (cA, 512, .inl (fun _ => 0)))] sz)) 0 0 (va_A [(h0, .inr (5, [.int 0, .ref a0, .int (-1), .int 0, .int 0, .ref a1, .ref a2, .ref a3, .int 0, .int 0, .ref a4, .int 0, .ref a5, .int 0, .int 0, .int 0, .int 0, .int 0, .int 0, .ref a6, .int 0, .ref a7, .int 0, .ref a8, .ref a9])), (a0, .inl (cA, 512, .inl (fun _ => 0)))] sz) := by
  refine Met.ofW (cc := b_Mo_disk) (maxL := 2) (ret := (some .int)) (by decide) rfl ?_
  intro p e s m args below meth c s₁ B hml hv
  obtain ⟨rfl, hsz, hP, hK, hD0, hkw, hX⟩ := hv
  have hx := B.exec
  have hb := B.bytes
  have hr := B.returns
  have hts := fun w hw => atoms_spec (ws := Cond.code y_Mo_disk b_Mo_disk 2 (some .int) :: gw) B.pre w (List.mem_cons_of_mem _ hw)
  have hown : s.vm.findClass "LineDiskModel" = some m.cls := findClass_of_methodNamed B.named
  have hlocks := B.notSynchronized
  have hin := (name_of_methodNamed B.named B.method).1
  subst hsz
  have hD := hD0.self (sz := s.heap.size)
  generalize hAe : va_A [(h0, .inr (5, [.int 0, .ref a0, .int (-1), .int 0, .int 0, .ref a1, .ref a2, .ref a3, .int 0, .int 0, .ref a4, .int 0, .ref a5, .int 0, .int 0, .int 0, .int 0, .int 0, .int 0, .ref a6, .int 0, .ref a7, .int 0, .ref a8, .ref a9])), (a0, .inl (cA, 512, .inl (fun _ => 0)))] s.heap.size = A at hD ⊢
  have hA : ∀ q : Nat, s.heap.size ≤ q → A q := fun q h => by rw [← hAe]; exact Or.inr h
  have hS : va_S A s.heap s.heap [] := va_S.rf
  have hl := lv_entry ([.ref h0, .int x]) (n := 2) (Nat.le_of_ble_eq_true rfl)
  rw [lg_entry_eq]
  generalize (lg_sl ([.ref h0, .int x]) ++ List.replicate (2 - (lg_sl ([.ref h0, .int x])).length) Slot.unset).toArray = ls at hl ⊢
  have hl : lv_has ls 2 [(0, .ref h0), (1, .int x)] := hl
  have F : CallFix p m c b_Mo_disk 2 s ([.ref h0, .int x]).toArray gw "LineDiskModel" := ⟨hx, hb, hml, hown, hts⟩
  refine lv_aload_n hx hb d_Mo_disk_0 rfl (lv_at hl 0 rfl) ?_
  refine lv_iload_n hx hb d_Mo_disk_1 rfl (lv_at hl 1 rfl) ?_
  refine lv_if_lt (tgt := 12) hx hb d_Mo_disk_2 (by decide) (fun h => absurd h (h1)) (fun _ => ?_)
  refine lv_iload_n hx hb d_Mo_disk_5 rfl (lv_at hl 1 rfl) ?_
  refine lv_sipush (v := 511) hx hb d_Mo_disk_6 (by decide) ?_
  refine lv_icmp_le (tgt := 16) hx hb d_Mo_disk_9 (by decide) (fun _ => ?_) (fun h => absurd (h2) h)
  refine lv_iconst (v := 0) hx hb d_Mo_disk_16 (by decide) ?_
  refine va_put (D := (dC, dI)) (ci := 5) (v := .int 0) (ty := .int) (C := R_Mo) (T := F_Mo) (N := 25) hx hb hts in_Mo t_Mo t_Mo_ok n_Mo hown hK hP hD hS 0 rfl rfl 0 (by decide) (hts _ w_593) (fun _ h9 => h9) rfl (by decide +kernel) (rfl) (rfl) (Nat.le_of_ble_eq_true rfl) d_Mo_disk_17 (fun H locs hP hD hS => ?_)
  have hP : va_P (dC, dI) cls [(h0, .inr (5, [.int 0, .ref a0, .int (-1), .int 0, .int 0, .ref a1, .ref a2, .ref a3, .int 0, .int 0, .ref a4, .int 0, .ref a5, .int 0, .int 0, .int 0, .int 0, .int 0, .int 0, .ref a6, .int 0, .ref a7, .int 0, .ref a8, .ref a9])), (a0, .inl (cA, 512, .inl (fun _ => 0)))] H := hP
  have hD : va_D A [(h0, .inr (5, [.int 0, .ref a0, .int (-1), .int 0, .int 0, .ref a1, .ref a2, .ref a3, .int 0, .int 0, .ref a4, .int 0, .ref a5, .int 0, .int 0, .int 0, .int 0, .int 0, .int 0, .ref a6, .int 0, .ref a7, .int 0, .ref a8, .ref a9])), (a0, .inl (cA, 512, .inl (fun _ => 0)))] := hD
  refine lv_aload_n hx hb d_Mo_disk_20 rfl (lv_at hl 0 rfl) ?_
  refine va_get (D := (dC, dI)) (ci := 5) (v := .int 0) (C := R_Mo) (T := F_Mo) (N := 25) hx hb hts in_Mo hown hK hP 0 rfl rfl 0 (by decide) (hts _ w_593) (fun _ h9 => h9) rfl d_Mo_disk_21 ?_
  refine lv_if_le (tgt := 31) hx hb d_Mo_disk_24 (by decide) (fun _ => ?_) (fun h => absurd (by decide) h)
  refine lv_aload_n hx hb d_Mo_disk_31 rfl (lv_at hl 0 rfl) ?_
  refine va_get (D := (dC, dI)) (ci := 5) (v := .ref a0) (C := R_Mo) (T := F_Mo) (N := 25) hx hb hts in_Mo hown hK hP 0 rfl rfl 1 (by decide) (hts _ w_594) (fun _ h9 => h9) rfl d_Mo_disk_32 ?_
  refine lv_iload_n hx hb d_Mo_disk_35 rfl (lv_at hl 1 rfl) ?_
  refine va_iald hx hb hK hP 1 0 rfl rfl (in511 h1 h2) d_Mo_disk_36 ?_
  refine tv (x2 := 0) (by exact rfl) ?_
  refine W.widen (k := 0) (n := 0) (by decide) (by decide) ?_
  exact W.iret (v := 0) hx hb hr (fun t ht hW => ⟨⟨0, (), rfl, rfl, cB.of (hP.sub [0, 1] rfl) (hD.sub [0, 1] (by decide) rfl) (hK.sub [0] rfl) ht hW⟩, hS.F ht⟩) hS.2.2 d_Mo_disk_37
set_option maxHeartbeats 4000000 in
set_option maxRecDepth 100000 in
theorem c_Mo_feed (l : Launch) (dC : Nat → ClassId) (dI : Nat → Nat → Nat) (h0 a0 a1 a2 a3 a4 a5 a6 a7 a8 a9 : Nat) (cA : ClassId) (x : Int32) (sz : Nat) : Met l y_Mo_feed (Cond.code y_Mo_feed b_Mo_feed 3 (some .int) :: gw) ({ frames := 0, cells := 0, slots := 0, locals := 0 }) (cP (dC, dI) [.ref h0, .int x] sz [(h0, .inr (5, [.int 0, .ref a0, .int (-1), .int 0, .int 0, .ref a1, .ref a2, .ref a3, .int 0, .int 0, .ref a4, .int 0, .ref a5, .int 0, .int 0, .int 0, .int 0, .int 0, .int 0, .ref a6, .int 0, .ref a7, .int 0, .ref a8, .ref a9])), (a5, .inl (cA, 15, .inl (fun _ => 0)))] [(cA, .int)] xT) (va_Qi (fun (r : Int32) (u : Unit) => r = 0) (fun (u : Unit) t => cB (dC, dI) (va_A [(h0, .inr (5, [.int 0, .ref a0, .int (-1), .int 0, .int 0, .ref a1, .ref a2, .ref a3, .int 0, .int 0, .ref a4, .int 0, .ref a5, .int 0, .int 0, .int 0, .int 0, .int 0, .int 0, .ref a6, .int 0, .ref a7, .int 0, .ref a8, .ref a9])), (a5, .inl (cA, 15, .inl (fun _ => 0)))] sz) [] [] t) (va_A [(h0, .inr (5, [.int 0, .ref a0, .int (-1), .int 0, .int 0, .ref a1, .ref a2, .ref a3, .int 0, .int 0, .ref a4, .int 0, .ref a5, .int 0, .int 0, .int 0, .int 0, .int 0, .int 0, .ref a6, .int 0, .ref a7, .int 0, .ref a8, .ref a9])), (a5, .inl (cA, 15, .inl (fun _ => 0)))] sz)) 0 0 (va_A [(h0, .inr (5, [.int 0, .ref a0, .int (-1), .int 0, .int 0, .ref a1, .ref a2, .ref a3, .int 0, .int 0, .ref a4, .int 0, .ref a5, .int 0, .int 0, .int 0, .int 0, .int 0, .int 0, .ref a6, .int 0, .ref a7, .int 0, .ref a8, .ref a9])), (a5, .inl (cA, 15, .inl (fun _ => 0)))] sz) := by
  refine Met.ofW (cc := b_Mo_feed) (maxL := 3) (ret := (some .int)) (by decide) rfl ?_
  intro p e s m args below meth c s₁ B hml hv
  obtain ⟨rfl, hsz, hP, hK, hD0, hkw, hX⟩ := hv
  have hx := B.exec
  have hb := B.bytes
  have hr := B.returns
  have hts := fun w hw => atoms_spec (ws := Cond.code y_Mo_feed b_Mo_feed 3 (some .int) :: gw) B.pre w (List.mem_cons_of_mem _ hw)
  have hown : s.vm.findClass "LineDiskModel" = some m.cls := findClass_of_methodNamed B.named
  have hlocks := B.notSynchronized
  have hin := (name_of_methodNamed B.named B.method).1
  subst hsz
  have hD := hD0.self (sz := s.heap.size)
  generalize hAe : va_A [(h0, .inr (5, [.int 0, .ref a0, .int (-1), .int 0, .int 0, .ref a1, .ref a2, .ref a3, .int 0, .int 0, .ref a4, .int 0, .ref a5, .int 0, .int 0, .int 0, .int 0, .int 0, .int 0, .ref a6, .int 0, .ref a7, .int 0, .ref a8, .ref a9])), (a5, .inl (cA, 15, .inl (fun _ => 0)))] s.heap.size = A at hD ⊢
  have hA : ∀ q : Nat, s.heap.size ≤ q → A q := fun q h => by rw [← hAe]; exact Or.inr h
  have hS : va_S A s.heap s.heap [] := va_S.rf
  have hl := lv_entry ([.ref h0, .int x]) (n := 3) (Nat.le_of_ble_eq_true rfl)
  rw [lg_entry_eq]
  generalize (lg_sl ([.ref h0, .int x]) ++ List.replicate (3 - (lg_sl ([.ref h0, .int x])).length) Slot.unset).toArray = ls at hl ⊢
  have hl : lv_has ls 3 [(0, .ref h0), (1, .int x)] := hl
  have F : CallFix p m c b_Mo_feed 3 s ([.ref h0, .int x]).toArray gw "LineDiskModel" := ⟨hx, hb, hml, hown, hts⟩
  refine lv_aload_n hx hb d_Mo_feed_0 rfl (lv_at hl 0 rfl) ?_
  refine lv_iconst (v := 0) hx hb d_Mo_feed_1 (by decide) ?_
  refine va_put (D := (dC, dI)) (ci := 5) (v := .int 0) (ty := .int) (C := R_Mo) (T := F_Mo) (N := 25) hx hb hts in_Mo t_Mo t_Mo_ok n_Mo hown hK hP hD hS 0 rfl rfl 0 (by decide) (hts _ w_593) (fun _ h9 => h9) rfl (by decide +kernel) (rfl) (rfl) (Nat.le_of_ble_eq_true rfl) d_Mo_feed_2 (fun H locs hP hD hS => ?_)
  have hP : va_P (dC, dI) cls [(h0, .inr (5, [.int 0, .ref a0, .int (-1), .int 0, .int 0, .ref a1, .ref a2, .ref a3, .int 0, .int 0, .ref a4, .int 0, .ref a5, .int 0, .int 0, .int 0, .int 0, .int 0, .int 0, .ref a6, .int 0, .ref a7, .int 0, .ref a8, .ref a9])), (a5, .inl (cA, 15, .inl (fun _ => 0)))] H := hP
  have hD : va_D A [(h0, .inr (5, [.int 0, .ref a0, .int (-1), .int 0, .int 0, .ref a1, .ref a2, .ref a3, .int 0, .int 0, .ref a4, .int 0, .ref a5, .int 0, .int 0, .int 0, .int 0, .int 0, .int 0, .ref a6, .int 0, .ref a7, .int 0, .ref a8, .ref a9])), (a5, .inl (cA, 15, .inl (fun _ => 0)))] := hD
  refine lv_aload_n hx hb d_Mo_feed_5 rfl (lv_at hl 0 rfl) ?_
  refine va_get (D := (dC, dI)) (ci := 5) (v := .int 0) (C := R_Mo) (T := F_Mo) (N := 25) hx hb hts in_Mo hown hK hP 0 rfl rfl 3 (by decide) (hts _ w_596) (fun _ h9 => h9) rfl d_Mo_feed_6 ?_
  refine lv_if_eq (tgt := 15) hx hb d_Mo_feed_9 (by decide) (fun _ => ?_) (fun h => absurd (by decide) h)
  refine lv_iload_n hx hb d_Mo_feed_15 rfl (lv_at hl 1 rfl) ?_
  refine lv_bipush (v := 10) hx hb d_Mo_feed_16 (by decide) ?_
  refine lv_icmp_eq (tgt := 52) hx hb d_Mo_feed_18 (by decide) (fun h10 => ?_) (fun h10 => ?_)
  · skip
    refine lv_aload_n hx hb d_Mo_feed_52 rfl (lv_at hl 0 rfl) ?_
    refine va_get (D := (dC, dI)) (ci := 5) (v := .int 0) (C := R_Mo) (T := F_Mo) (N := 25) hx hb hts in_Mo hown hK hP 0 rfl rfl 11 (by decide) (hts _ w_604) (fun _ h9 => h9) rfl d_Mo_feed_53 ?_
    refine lv_if_ne (tgt := 63) hx hb d_Mo_feed_56 (by decide) (fun h => absurd (by decide) h) (fun _ => ?_)
    refine lv_iconst (v := 0) hx hb d_Mo_feed_59 (by decide) ?_
    refine lv_goto (tgt := 86) hx hb d_Mo_feed_60 (by decide) ?_
    refine lv_istore_n (i := 2) hx hb d_Mo_feed_86 rfl hl (by decide) rfl (fun ls hl => ?_)
    have hl : lv_has ls 3 [(2, .int 0), (0, .ref h0), (1, .int x)] := hl
    refine lv_aload_n hx hb d_Mo_feed_87 rfl (lv_at hl 1 rfl) ?_
    refine lv_iconst (v := 0) hx hb d_Mo_feed_88 (by decide) ?_
    refine va_put (D := (dC, dI)) (ci := 5) (v := .int 0) (ty := .int) (C := R_Mo) (T := F_Mo) (N := 25) hx hb hts in_Mo t_Mo t_Mo_ok n_Mo hown hK hP hD hS 0 rfl rfl 11 (by decide) (hts _ w_604) (fun _ h9 => h9) rfl (by decide +kernel) (rfl) (rfl) (Nat.le_of_ble_eq_true rfl) d_Mo_feed_89 (fun H locs hP hD hS => ?_)
    have hP : va_P (dC, dI) cls [(h0, .inr (5, [.int 0, .ref a0, .int (-1), .int 0, .int 0, .ref a1, .ref a2, .ref a3, .int 0, .int 0, .ref a4, .int 0, .ref a5, .int 0, .int 0, .int 0, .int 0, .int 0, .int 0, .ref a6, .int 0, .ref a7, .int 0, .ref a8, .ref a9])), (a5, .inl (cA, 15, .inl (fun _ => 0)))] H := hP
    have hD : va_D A [(h0, .inr (5, [.int 0, .ref a0, .int (-1), .int 0, .int 0, .ref a1, .ref a2, .ref a3, .int 0, .int 0, .ref a4, .int 0, .ref a5, .int 0, .int 0, .int 0, .int 0, .int 0, .int 0, .ref a6, .int 0, .ref a7, .int 0, .ref a8, .ref a9])), (a5, .inl (cA, 15, .inl (fun _ => 0)))] := hD
    refine lv_iload_n hx hb d_Mo_feed_92 rfl (lv_at hl 0 rfl) ?_
    refine W.widen (k := 0) (n := 0) (by decide) (by decide) ?_
    exact W.iret (v := 0) hx hb hr (fun t ht hW => ⟨⟨0, (), rfl, rfl, cB.of (hP.sub [] rfl) (hD.sub [] (by decide) rfl) (hK.sub [] rfl) ht hW⟩, hS.F ht⟩) hS.2.2 d_Mo_feed_93
  · skip
    refine lv_aload_n hx hb d_Mo_feed_21 rfl (lv_at hl 0 rfl) ?_
    refine va_get (D := (dC, dI)) (ci := 5) (v := .int 0) (C := R_Mo) (T := F_Mo) (N := 25) hx hb hts in_Mo hown hK hP 0 rfl rfl 11 (by decide) (hts _ w_604) (fun _ h9 => h9) rfl d_Mo_feed_22 ?_
    refine lv_bipush (v := 15) hx hb d_Mo_feed_25 (by decide) ?_
    refine lv_icmp_ge (tgt := 50) hx hb d_Mo_feed_27 (by decide) (fun h => absurd h (by decide)) (fun _ => ?_)
    refine lv_aload_n hx hb d_Mo_feed_30 rfl (lv_at hl 0 rfl) ?_
    refine va_get (D := (dC, dI)) (ci := 5) (v := .ref a5) (C := R_Mo) (T := F_Mo) (N := 25) hx hb hts in_Mo hown hK hP 0 rfl rfl 12 (by decide) (hts _ w_605) (fun _ h9 => h9) rfl d_Mo_feed_31 ?_
    refine lv_aload_n hx hb d_Mo_feed_34 rfl (lv_at hl 0 rfl) ?_
    refine va_get (D := (dC, dI)) (ci := 5) (v := .int 0) (C := R_Mo) (T := F_Mo) (N := 25) hx hb hts in_Mo hown hK hP 0 rfl rfl 11 (by decide) (hts _ w_604) (fun _ h9 => h9) rfl d_Mo_feed_35 ?_
    refine lv_iload_n hx hb d_Mo_feed_38 rfl (lv_at hl 1 rfl) ?_
    refine va_iast hx hb hK hP hD hS 1 0 rfl rfl (vp_in_iff.mpr (by decide)) d_Mo_feed_39 (fun H locs hP hD hS => ?_)
    have hP : va_P (dC, dI) cls [(h0, .inr (5, [.int 0, .ref a0, .int (-1), .int 0, .int 0, .ref a1, .ref a2, .ref a3, .int 0, .int 0, .ref a4, .int 0, .ref a5, .int 0, .int 0, .int 0, .int 0, .int 0, .int 0, .ref a6, .int 0, .ref a7, .int 0, .ref a8, .ref a9])), (a5, .inl (cA, 15, .inl (upd (fun _ => 0) (0 : Int32).toNatClampNeg x)))] H := hP
    have hD : va_D A [(h0, .inr (5, [.int 0, .ref a0, .int (-1), .int 0, .int 0, .ref a1, .ref a2, .ref a3, .int 0, .int 0, .ref a4, .int 0, .ref a5, .int 0, .int 0, .int 0, .int 0, .int 0, .int 0, .ref a6, .int 0, .ref a7, .int 0, .ref a8, .ref a9])), (a5, .inl (cA, 15, .inl (upd (fun _ => 0) (0 : Int32).toNatClampNeg x)))] := hD
    refine lv_aload_n hx hb d_Mo_feed_40 rfl (lv_at hl 0 rfl) ?_
    refine lv_dup hx hb d_Mo_feed_41 rfl ?_
    refine va_get (D := (dC, dI)) (ci := 5) (v := .int 0) (C := R_Mo) (T := F_Mo) (N := 25) hx hb hts in_Mo hown hK hP 0 rfl rfl 11 (by decide) (hts _ w_604) (fun _ h9 => h9) rfl d_Mo_feed_42 ?_
    refine lv_iconst (v := 1) hx hb d_Mo_feed_45 (by decide) ?_
    refine lv_iadd hx hb d_Mo_feed_46 ?_
    refine tv (x2 := 1) (by decide) ?_
    refine va_put (D := (dC, dI)) (ci := 5) (v := .int 1) (ty := .int) (C := R_Mo) (T := F_Mo) (N := 25) hx hb hts in_Mo t_Mo t_Mo_ok n_Mo hown hK hP hD hS 0 rfl rfl 11 (by decide) (hts _ w_604) (fun _ h9 => h9) rfl (by decide +kernel) (rfl) (rfl) (Nat.le_of_ble_eq_true rfl) d_Mo_feed_47 (fun H locs hP hD hS => ?_)
    have hP : va_P (dC, dI) cls [(h0, .inr (5, [.int 0, .ref a0, .int (-1), .int 0, .int 0, .ref a1, .ref a2, .ref a3, .int 0, .int 0, .ref a4, .int 1, .ref a5, .int 0, .int 0, .int 0, .int 0, .int 0, .int 0, .ref a6, .int 0, .ref a7, .int 0, .ref a8, .ref a9])), (a5, .inl (cA, 15, .inl (upd (fun _ => 0) (0 : Int32).toNatClampNeg x)))] H := hP
    have hD : va_D A [(h0, .inr (5, [.int 0, .ref a0, .int (-1), .int 0, .int 0, .ref a1, .ref a2, .ref a3, .int 0, .int 0, .ref a4, .int 1, .ref a5, .int 0, .int 0, .int 0, .int 0, .int 0, .int 0, .ref a6, .int 0, .ref a7, .int 0, .ref a8, .ref a9])), (a5, .inl (cA, 15, .inl (upd (fun _ => 0) (0 : Int32).toNatClampNeg x)))] := hD
    refine lv_iconst (v := 0) hx hb d_Mo_feed_50 (by decide) ?_
    refine W.widen (k := 0) (n := 0) (by decide) (by decide) ?_
    exact W.iret (v := 0) hx hb hr (fun t ht hW => ⟨⟨0, (), rfl, rfl, cB.of (hP.sub [] rfl) (hD.sub [] (by decide) rfl) (hK.sub [] rfl) ht hW⟩, hS.F ht⟩) hS.2.2 d_Mo_feed_51
set_option maxHeartbeats 4000000 in
set_option maxRecDepth 100000 in
theorem c_Mo_formatted (l : Launch) (dC : Nat → ClassId) (dI : Nat → Nat → Nat) (h0 a0 a1 a2 a3 a4 a5 a6 a7 a8 a9 : Nat) (cA : ClassId) (sz : Nat) : Met l y_Mo_formatted (Cond.code y_Mo_formatted b_Mo_formatted 1 (some .boolean) :: gw) ({ frames := 0, cells := 0, slots := 0, locals := 0 }) (cP (dC, dI) [.ref h0] sz [(h0, .inr (5, [.int 0, .ref a0, .int (-1), .int 0, .int 0, .ref a1, .ref a2, .ref a3, .int 0, .int 0, .ref a4, .int 0, .ref a5, .int 0, .int 0, .int 0, .int 0, .int 0, .int 0, .ref a6, .int 0, .ref a7, .int 0, .ref a8, .ref a9])), (a0, .inl (cA, 512, .inl (fun _ => 0)))] [(cA, .int)] xT) (va_Qi (fun (r : Int32) (u : Unit) => r = 0) (fun (u : Unit) t => cB (dC, dI) (va_A [(h0, .inr (5, [.int 0, .ref a0, .int (-1), .int 0, .int 0, .ref a1, .ref a2, .ref a3, .int 0, .int 0, .ref a4, .int 0, .ref a5, .int 0, .int 0, .int 0, .int 0, .int 0, .int 0, .ref a6, .int 0, .ref a7, .int 0, .ref a8, .ref a9])), (a0, .inl (cA, 512, .inl (fun _ => 0)))] sz) [(h0, .inr (5, [.int 0, .ref a0, .int (-1), .int 0, .int 0, .ref a1, .ref a2, .ref a3, .int 0, .int 0, .ref a4, .int 0, .ref a5, .int 0, .int 0, .int 0, .int 0, .int 0, .int 0, .ref a6, .int 0, .ref a7, .int 0, .ref a8, .ref a9])), (a0, .inl (cA, 512, .inl (fun _ => 0)))] [(cA, .int)] t) (va_A [(h0, .inr (5, [.int 0, .ref a0, .int (-1), .int 0, .int 0, .ref a1, .ref a2, .ref a3, .int 0, .int 0, .ref a4, .int 0, .ref a5, .int 0, .int 0, .int 0, .int 0, .int 0, .int 0, .ref a6, .int 0, .ref a7, .int 0, .ref a8, .ref a9])), (a0, .inl (cA, 512, .inl (fun _ => 0)))] sz)) 0 0 (va_A [(h0, .inr (5, [.int 0, .ref a0, .int (-1), .int 0, .int 0, .ref a1, .ref a2, .ref a3, .int 0, .int 0, .ref a4, .int 0, .ref a5, .int 0, .int 0, .int 0, .int 0, .int 0, .int 0, .ref a6, .int 0, .ref a7, .int 0, .ref a8, .ref a9])), (a0, .inl (cA, 512, .inl (fun _ => 0)))] sz) := by
  refine Met.ofW (cc := b_Mo_formatted) (maxL := 1) (ret := (some .boolean)) (by decide) rfl ?_
  intro p e s m args below meth c s₁ B hml hv
  obtain ⟨rfl, hsz, hP, hK, hD0, hkw, hX⟩ := hv
  have hx := B.exec
  have hb := B.bytes
  have hr := B.returns
  have hts := fun w hw => atoms_spec (ws := Cond.code y_Mo_formatted b_Mo_formatted 1 (some .boolean) :: gw) B.pre w (List.mem_cons_of_mem _ hw)
  have hown : s.vm.findClass "LineDiskModel" = some m.cls := findClass_of_methodNamed B.named
  have hlocks := B.notSynchronized
  have hin := (name_of_methodNamed B.named B.method).1
  subst hsz
  have hD := hD0.self (sz := s.heap.size)
  generalize hAe : va_A [(h0, .inr (5, [.int 0, .ref a0, .int (-1), .int 0, .int 0, .ref a1, .ref a2, .ref a3, .int 0, .int 0, .ref a4, .int 0, .ref a5, .int 0, .int 0, .int 0, .int 0, .int 0, .int 0, .ref a6, .int 0, .ref a7, .int 0, .ref a8, .ref a9])), (a0, .inl (cA, 512, .inl (fun _ => 0)))] s.heap.size = A at hD ⊢
  have hA : ∀ q : Nat, s.heap.size ≤ q → A q := fun q h => by rw [← hAe]; exact Or.inr h
  have hS : va_S A s.heap s.heap [] := va_S.rf
  have hl := lv_entry ([.ref h0]) (n := 1) (Nat.le_of_ble_eq_true rfl)
  rw [lg_entry_eq]
  generalize (lg_sl ([.ref h0]) ++ List.replicate (1 - (lg_sl ([.ref h0])).length) Slot.unset).toArray = ls at hl ⊢
  have hl : lv_has ls 1 [(0, .ref h0)] := hl
  have F : CallFix p m c b_Mo_formatted 1 s ([.ref h0]).toArray gw "LineDiskModel" := ⟨hx, hb, hml, hown, hts⟩
  refine lv_aload_n hx hb d_Mo_formatted_0 rfl (lv_at hl 0 rfl) ?_
  refine va_get (D := (dC, dI)) (ci := 5) (v := .ref a0) (C := R_Mo) (T := F_Mo) (N := 25) hx hb hts in_Mo hown hK hP 0 rfl rfl 1 (by decide) (hts _ w_594) (fun _ h9 => h9) rfl d_Mo_formatted_1 ?_
  refine lv_iconst (v := 0) hx hb d_Mo_formatted_4 (by decide) ?_
  refine va_iald hx hb hK hP 1 0 rfl rfl (vp_in_iff.mpr (by decide)) d_Mo_formatted_5 ?_
  refine tv (x2 := 0) (by exact rfl) ?_
  refine lv_sipush (v := 7077) hx hb d_Mo_formatted_6 (by decide) ?_
  refine lv_icmp_ne (tgt := 16) hx hb d_Mo_formatted_9 (by decide) (fun _ => ?_) (fun h => absurd h (by decide))
  refine lv_iconst (v := 0) hx hb d_Mo_formatted_16 (by decide) ?_
  refine W.widen (k := 0) (n := 0) (by decide) (by decide) ?_
  exact W.zret (v := 0) hx hb hr rfl (fun t ht hW => ⟨⟨0, (), rfl, rfl, cB.of (hP.sub [0, 1] rfl) (hD.sub [0, 1] (by decide) rfl) (hK.sub [0] rfl) ht hW⟩, hS.F ht⟩) hS.2.2 d_Mo_formatted_17
set_option maxHeartbeats 4000000 in
set_option maxRecDepth 100000 in
theorem c_Mo_sizeOf (l : Launch) (dC : Nat → ClassId) (dI : Nat → Nat → Nat) (h0 a0 a1 a2 a3 a4 a5 a6 a7 a8 a9 : Nat) (cA : ClassId) (x : Int32) (hin0 : vp_in (16 + 2 * x) 512) (sz : Nat) : Met l y_Mo_sizeOf (Cond.code y_Mo_sizeOf b_Mo_sizeOf 2 (some .int) :: gw) ({ frames := 0, cells := 0, slots := 0, locals := 0 }) (cP (dC, dI) [.ref h0, .int x] sz [(h0, .inr (5, [.int 0, .ref a0, .int (-1), .int 0, .int 0, .ref a1, .ref a2, .ref a3, .int 0, .int 0, .ref a4, .int 0, .ref a5, .int 0, .int 0, .int 0, .int 0, .int 0, .int 0, .ref a6, .int 0, .ref a7, .int 0, .ref a8, .ref a9])), (a0, .inl (cA, 512, .inl (fun _ => 0)))] [(cA, .int)] xT) (va_Qi (fun (r : Int32) (u : Unit) => r = 0) (fun (u : Unit) t => cB (dC, dI) (va_A [(h0, .inr (5, [.int 0, .ref a0, .int (-1), .int 0, .int 0, .ref a1, .ref a2, .ref a3, .int 0, .int 0, .ref a4, .int 0, .ref a5, .int 0, .int 0, .int 0, .int 0, .int 0, .int 0, .ref a6, .int 0, .ref a7, .int 0, .ref a8, .ref a9])), (a0, .inl (cA, 512, .inl (fun _ => 0)))] sz) [(h0, .inr (5, [.int 0, .ref a0, .int (-1), .int 0, .int 0, .ref a1, .ref a2, .ref a3, .int 0, .int 0, .ref a4, .int 0, .ref a5, .int 0, .int 0, .int 0, .int 0, .int 0, .int 0, .ref a6, .int 0, .ref a7, .int 0, .ref a8, .ref a9])), (a0, .inl (cA, 512, .inl (fun _ => 0)))] [(cA, .int)] t) (va_A [(h0, .inr (5, [.int 0, .ref a0, .int (-1), .int 0, .int 0, .ref a1, .ref a2, .ref a3, .int 0, .int 0, .ref a4, .int 0, .ref a5, .int 0, .int 0, .int 0, .int 0, .int 0, .int 0, .ref a6, .int 0, .ref a7, .int 0, .ref a8, .ref a9])), (a0, .inl (cA, 512, .inl (fun _ => 0)))] sz)) 0 0 (va_A [(h0, .inr (5, [.int 0, .ref a0, .int (-1), .int 0, .int 0, .ref a1, .ref a2, .ref a3, .int 0, .int 0, .ref a4, .int 0, .ref a5, .int 0, .int 0, .int 0, .int 0, .int 0, .int 0, .ref a6, .int 0, .ref a7, .int 0, .ref a8, .ref a9])), (a0, .inl (cA, 512, .inl (fun _ => 0)))] sz) := by
  refine Met.ofW (cc := b_Mo_sizeOf) (maxL := 2) (ret := (some .int)) (by decide) rfl ?_
  intro p e s m args below meth c s₁ B hml hv
  obtain ⟨rfl, hsz, hP, hK, hD0, hkw, hX⟩ := hv
  have hx := B.exec
  have hb := B.bytes
  have hr := B.returns
  have hts := fun w hw => atoms_spec (ws := Cond.code y_Mo_sizeOf b_Mo_sizeOf 2 (some .int) :: gw) B.pre w (List.mem_cons_of_mem _ hw)
  have hown : s.vm.findClass "LineDiskModel" = some m.cls := findClass_of_methodNamed B.named
  have hlocks := B.notSynchronized
  have hin := (name_of_methodNamed B.named B.method).1
  subst hsz
  have hD := hD0.self (sz := s.heap.size)
  generalize hAe : va_A [(h0, .inr (5, [.int 0, .ref a0, .int (-1), .int 0, .int 0, .ref a1, .ref a2, .ref a3, .int 0, .int 0, .ref a4, .int 0, .ref a5, .int 0, .int 0, .int 0, .int 0, .int 0, .int 0, .ref a6, .int 0, .ref a7, .int 0, .ref a8, .ref a9])), (a0, .inl (cA, 512, .inl (fun _ => 0)))] s.heap.size = A at hD ⊢
  have hA : ∀ q : Nat, s.heap.size ≤ q → A q := fun q h => by rw [← hAe]; exact Or.inr h
  have hS : va_S A s.heap s.heap [] := va_S.rf
  have hl := lv_entry ([.ref h0, .int x]) (n := 2) (Nat.le_of_ble_eq_true rfl)
  rw [lg_entry_eq]
  generalize (lg_sl ([.ref h0, .int x]) ++ List.replicate (2 - (lg_sl ([.ref h0, .int x])).length) Slot.unset).toArray = ls at hl ⊢
  have hl : lv_has ls 2 [(0, .ref h0), (1, .int x)] := hl
  have F : CallFix p m c b_Mo_sizeOf 2 s ([.ref h0, .int x]).toArray gw "LineDiskModel" := ⟨hx, hb, hml, hown, hts⟩
  refine lv_aload_n hx hb d_Mo_sizeOf_0 rfl (lv_at hl 0 rfl) ?_
  refine va_get (D := (dC, dI)) (ci := 5) (v := .ref a0) (C := R_Mo) (T := F_Mo) (N := 25) hx hb hts in_Mo hown hK hP 0 rfl rfl 1 (by decide) (hts _ w_594) (fun _ h9 => h9) rfl d_Mo_sizeOf_1 ?_
  refine lv_bipush (v := 16) hx hb d_Mo_sizeOf_4 (by decide) ?_
  refine lv_iconst (v := 2) hx hb d_Mo_sizeOf_6 (by decide) ?_
  refine lv_iload_n hx hb d_Mo_sizeOf_7 rfl (lv_at hl 1 rfl) ?_
  refine lv_imul hx hb d_Mo_sizeOf_8 ?_
  refine lv_iadd hx hb d_Mo_sizeOf_9 ?_
  refine va_iald hx hb hK hP 1 0 rfl rfl (hin0) d_Mo_sizeOf_10 ?_
  refine tv (x2 := 0) (by exact rfl) ?_
  refine W.widen (k := 0) (n := 0) (by decide) (by decide) ?_
  exact W.iret (v := 0) hx hb hr (fun t ht hW => ⟨⟨0, (), rfl, rfl, cB.of (hP.sub [0, 1] rfl) (hD.sub [0, 1] (by decide) rfl) (hK.sub [0] rfl) ht hW⟩, hS.F ht⟩) hS.2.2 d_Mo_sizeOf_11
set_option maxHeartbeats 4000000 in
set_option maxRecDepth 100000 in
theorem c_Mo_files (l : Launch) (dC : Nat → ClassId) (dI : Nat → Nat → Nat) (h0 a0 a1 a2 a3 a4 a5 a6 a7 a8 a9 : Nat) (cA : ClassId) (sz : Nat) : Met l y_Mo_files (Cond.code y_Mo_files b_Mo_files 3 (some .int) :: gw) ({ frames := 1, cells := 0, slots := 0, locals := 21 }) (cP (dC, dI) [.ref h0] sz [(h0, .inr (5, [.int 0, .ref a0, .int (-1), .int 0, .int 0, .ref a1, .ref a2, .ref a3, .int 0, .int 0, .ref a4, .int 0, .ref a5, .int 0, .int 0, .int 0, .int 0, .int 0, .int 0, .ref a6, .int 0, .ref a7, .int 0, .ref a8, .ref a9])), (a0, .inl (cA, 512, .inl (fun _ => 0)))] [(cA, .int)] xT) (va_Qi (fun (r : Int32) (u : Unit) => r = 8) (fun (u : Unit) t => cB (dC, dI) (va_A [(h0, .inr (5, [.int 0, .ref a0, .int (-1), .int 0, .int 0, .ref a1, .ref a2, .ref a3, .int 0, .int 0, .ref a4, .int 0, .ref a5, .int 0, .int 0, .int 0, .int 0, .int 0, .int 0, .ref a6, .int 0, .ref a7, .int 0, .ref a8, .ref a9])), (a0, .inl (cA, 512, .inl (fun _ => 0)))] sz) [] [] t) (va_A [(h0, .inr (5, [.int 0, .ref a0, .int (-1), .int 0, .int 0, .ref a1, .ref a2, .ref a3, .int 0, .int 0, .ref a4, .int 0, .ref a5, .int 0, .int 0, .int 0, .int 0, .int 0, .int 0, .ref a6, .int 0, .ref a7, .int 0, .ref a8, .ref a9])), (a0, .inl (cA, 512, .inl (fun _ => 0)))] sz)) 0 0 (va_A [(h0, .inr (5, [.int 0, .ref a0, .int (-1), .int 0, .int 0, .ref a1, .ref a2, .ref a3, .int 0, .int 0, .ref a4, .int 0, .ref a5, .int 0, .int 0, .int 0, .int 0, .int 0, .int 0, .ref a6, .int 0, .ref a7, .int 0, .ref a8, .ref a9])), (a0, .inl (cA, 512, .inl (fun _ => 0)))] sz) := by
  refine Met.ofW (cc := b_Mo_files) (maxL := 3) (ret := (some .int)) (by decide) rfl ?_
  intro p e s m args below meth c s₁ B hml hv
  obtain ⟨rfl, hsz, hP, hK, hD0, hkw, hX⟩ := hv
  have hx := B.exec
  have hb := B.bytes
  have hr := B.returns
  have hts := fun w hw => atoms_spec (ws := Cond.code y_Mo_files b_Mo_files 3 (some .int) :: gw) B.pre w (List.mem_cons_of_mem _ hw)
  have hown : s.vm.findClass "LineDiskModel" = some m.cls := findClass_of_methodNamed B.named
  have hlocks := B.notSynchronized
  have hin := (name_of_methodNamed B.named B.method).1
  subst hsz
  have hD := hD0.self (sz := s.heap.size)
  generalize hAe : va_A [(h0, .inr (5, [.int 0, .ref a0, .int (-1), .int 0, .int 0, .ref a1, .ref a2, .ref a3, .int 0, .int 0, .ref a4, .int 0, .ref a5, .int 0, .int 0, .int 0, .int 0, .int 0, .int 0, .ref a6, .int 0, .ref a7, .int 0, .ref a8, .ref a9])), (a0, .inl (cA, 512, .inl (fun _ => 0)))] s.heap.size = A at hD ⊢
  have hA : ∀ q : Nat, s.heap.size ≤ q → A q := fun q h => by rw [← hAe]; exact Or.inr h
  have hS : va_S A s.heap s.heap [] := va_S.rf
  have hl := lv_entry ([.ref h0]) (n := 3) (Nat.le_of_ble_eq_true rfl)
  rw [lg_entry_eq]
  generalize (lg_sl ([.ref h0]) ++ List.replicate (3 - (lg_sl ([.ref h0])).length) Slot.unset).toArray = ls at hl ⊢
  have hl : lv_has ls 3 [(0, .ref h0)] := hl
  have F : CallFix p m c b_Mo_files 3 s ([.ref h0]).toArray gw "LineDiskModel" := ⟨hx, hb, hml, hown, hts⟩
  refine lv_aload_n hx hb d_Mo_files_0 rfl (lv_at hl 0 rfl) ?_
  refine lv_iconst (v := 0) hx hb d_Mo_files_1 (by decide) ?_
  refine va_put (D := (dC, dI)) (ci := 5) (v := .int 0) (ty := .int) (C := R_Mo) (T := F_Mo) (N := 25) hx hb hts in_Mo t_Mo t_Mo_ok n_Mo hown hK hP hD hS 0 rfl rfl 0 (by decide) (hts _ w_593) (fun _ h9 => h9) rfl (by decide +kernel) (rfl) (rfl) (Nat.le_of_ble_eq_true rfl) d_Mo_files_2 (fun H locs hP hD hS => ?_)
  have hP : va_P (dC, dI) cls [(h0, .inr (5, [.int 0, .ref a0, .int (-1), .int 0, .int 0, .ref a1, .ref a2, .ref a3, .int 0, .int 0, .ref a4, .int 0, .ref a5, .int 0, .int 0, .int 0, .int 0, .int 0, .int 0, .ref a6, .int 0, .ref a7, .int 0, .ref a8, .ref a9])), (a0, .inl (cA, 512, .inl (fun _ => 0)))] H := hP
  have hD : va_D A [(h0, .inr (5, [.int 0, .ref a0, .int (-1), .int 0, .int 0, .ref a1, .ref a2, .ref a3, .int 0, .int 0, .ref a4, .int 0, .ref a5, .int 0, .int 0, .int 0, .int 0, .int 0, .int 0, .ref a6, .int 0, .ref a7, .int 0, .ref a8, .ref a9])), (a0, .inl (cA, 512, .inl (fun _ => 0)))] := hD
  refine lv_aload_n hx hb d_Mo_files_5 rfl (lv_at hl 0 rfl) ?_
  refine va_get (D := (dC, dI)) (ci := 5) (v := .int 0) (C := R_Mo) (T := F_Mo) (N := 25) hx hb hts in_Mo hown hK hP 0 rfl rfl 3 (by decide) (hts _ w_596) (fun _ h9 => h9) rfl d_Mo_files_6 ?_
  refine lv_if_eq (tgt := 15) hx hb d_Mo_files_9 (by decide) (fun _ => ?_) (fun h => absurd (by decide) h)
  refine lv_iconst (v := 0) hx hb d_Mo_files_15 (by decide) ?_
  refine lv_istore_n (i := 1) hx hb d_Mo_files_16 rfl hl (by decide) rfl (fun ls hl => ?_)
  have hl : lv_has ls 3 [(1, .int 0), (0, .ref h0)] := hl
  refine lv_iconst (v := 0) hx hb d_Mo_files_17 (by decide) ?_
  refine lv_istore_n (i := 2) hx hb d_Mo_files_18 rfl hl (by decide) rfl (fun ls hl => ?_)
  have hl : lv_has ls 3 [(2, .int 0), (1, .int 0), (0, .ref h0)] := hl
  refine lv_iload_n hx hb d_Mo_files_19 rfl (lv_at hl 0 rfl) ?_
  refine lv_bipush (v := 8) hx hb d_Mo_files_20 (by decide) ?_
  refine lv_icmp_ge (tgt := 47) hx hb d_Mo_files_22 (by decide) (fun h => absurd h (by decide)) (fun _ => ?_)
  refine lv_iload_n hx hb d_Mo_files_25 rfl (lv_at hl 1 rfl) ?_
  refine lv_aload_n hx hb d_Mo_files_26 rfl (lv_at hl 2 rfl) ?_
  refine lv_iload_n hx hb d_Mo_files_27 rfl (lv_at hl 0 rfl) ?_
  refine go_i (wr := []) (tr := []) (rV (C := "LineDiskModel") (ci := 5) (q0 := 0) (b := h0) (n := 1) (As := [.int 0]) (rest := [.int 0]) F hkw (c_Mo_sizeOf l dC dI h0 a0 a1 a2 a3 a4 a5 a6 a7 a8 a9 cA 0 (vp_in_iff.mpr (by decide)) H.size) xT_bl (fun _ _ _ => trivial) w_758 w_760 ws_50 w_6 w_761 rfl rfl (by decide +kernel) ⟨Nat.le_of_ble_eq_true rfl, Nat.le_of_ble_eq_true rfl⟩ (hP.sub (ws' := [(h0, .inr (5, [.int 0, .ref a0, .int (-1), .int 0, .int 0, .ref a1, .ref a2, .ref a3, .int 0, .int 0, .ref a4, .int 0, .ref a5, .int 0, .int 0, .int 0, .int 0, .int 0, .int 0, .ref a6, .int 0, .ref a7, .int 0, .ref a8, .ref a9])), (a0, .inl (cA, 512, .inl (fun _ => 0)))]) [0, 1] rfl) (hD.sub (ws' := [(h0, .inr (5, [.int 0, .ref a0, .int (-1), .int 0, .int 0, .ref a1, .ref a2, .ref a3, .int 0, .int 0, .ref a4, .int 0, .ref a5, .int 0, .int 0, .int 0, .int 0, .int 0, .int 0, .ref a6, .int 0, .ref a7, .int 0, .ref a8, .ref a9])), (a0, .inl (cA, 512, .inl (fun _ => 0)))]) [0, 1] (by decide) rfl) (hK.sub (tys' := [(cA, .int)]) [0] rfl) rfl rfl rfl rfl hl.1 rfl (Nat.le_of_ble_eq_true rfl) d_Mo_files_28 ⟨by decide, by decide⟩) hP hD hK hS hA [0, 1] [] [] rfl rfl (by decide) (by decide) rfl (fun r u H locs hw hP hD hK hS => ?_)
  have hP : va_P (dC, dI) cls [(h0, .inr (5, [.int 0, .ref a0, .int (-1), .int 0, .int 0, .ref a1, .ref a2, .ref a3, .int 0, .int 0, .ref a4, .int 0, .ref a5, .int 0, .int 0, .int 0, .int 0, .int 0, .int 0, .ref a6, .int 0, .ref a7, .int 0, .ref a8, .ref a9])), (a0, .inl (cA, 512, .inl (fun _ => 0)))] H := hP
  have hD : va_D A [(h0, .inr (5, [.int 0, .ref a0, .int (-1), .int 0, .int 0, .ref a1, .ref a2, .ref a3, .int 0, .int 0, .ref a4, .int 0, .ref a5, .int 0, .int 0, .int 0, .int 0, .int 0, .int 0, .ref a6, .int 0, .ref a7, .int 0, .ref a8, .ref a9])), (a0, .inl (cA, 512, .inl (fun _ => 0)))] := hD
  have hK : va_K (dC, dI) cls [(cA, .int)] s := hK
  refine W.widen (k := 0) (n := 0) (by omega) (by omega) ?_
  subst hw
  refine lv_if_eq (tgt := 38) hx hb d_Mo_files_31 (by decide) (fun _ => ?_) (fun h => absurd (by decide) h)
  refine lv_iconst (v := 0) hx hb d_Mo_files_38 (by decide) ?_
  refine lv_iadd hx hb d_Mo_files_39 ?_
  refine tv (x2 := 0) (by decide) ?_
  refine lv_istore_n (i := 1) hx hb d_Mo_files_40 rfl hl (by decide) rfl (fun ls hl => ?_)
  have hl : lv_has ls 3 [(1, .int 0), (2, .int 0), (0, .ref h0)] := hl
  refine lv_iinc (k := 1) (v := 1) hx hb d_Mo_files_41 hl rfl (by decide) (by decide) rfl (fun ls hl => ?_)
  have hl : lv_has ls 3 [(2, .int 1), (1, .int 0), (0, .ref h0)] := hl
  refine lv_goto (tgt := 19) hx hb d_Mo_files_44 (by decide) ?_
  refine lv_iload_n hx hb d_Mo_files_19 rfl (lv_at hl 0 rfl) ?_
  refine lv_bipush (v := 8) hx hb d_Mo_files_20 (by decide) ?_
  refine lv_icmp_ge (tgt := 47) hx hb d_Mo_files_22 (by decide) (fun h => absurd h (by decide)) (fun _ => ?_)
  refine lv_iload_n hx hb d_Mo_files_25 rfl (lv_at hl 1 rfl) ?_
  refine lv_aload_n hx hb d_Mo_files_26 rfl (lv_at hl 2 rfl) ?_
  refine lv_iload_n hx hb d_Mo_files_27 rfl (lv_at hl 0 rfl) ?_
  refine go_i (wr := []) (tr := []) (rV (C := "LineDiskModel") (ci := 5) (q0 := 0) (b := h0) (n := 1) (As := [.int 1]) (rest := [.int 0]) F hkw (c_Mo_sizeOf l dC dI h0 a0 a1 a2 a3 a4 a5 a6 a7 a8 a9 cA 1 (vp_in_iff.mpr (by decide)) H.size) xT_bl (fun _ _ _ => trivial) w_758 w_760 ws_50 w_6 w_761 rfl rfl (by decide +kernel) ⟨Nat.le_of_ble_eq_true rfl, Nat.le_of_ble_eq_true rfl⟩ (hP.sub (ws' := [(h0, .inr (5, [.int 0, .ref a0, .int (-1), .int 0, .int 0, .ref a1, .ref a2, .ref a3, .int 0, .int 0, .ref a4, .int 0, .ref a5, .int 0, .int 0, .int 0, .int 0, .int 0, .int 0, .ref a6, .int 0, .ref a7, .int 0, .ref a8, .ref a9])), (a0, .inl (cA, 512, .inl (fun _ => 0)))]) [0, 1] rfl) (hD.sub (ws' := [(h0, .inr (5, [.int 0, .ref a0, .int (-1), .int 0, .int 0, .ref a1, .ref a2, .ref a3, .int 0, .int 0, .ref a4, .int 0, .ref a5, .int 0, .int 0, .int 0, .int 0, .int 0, .int 0, .ref a6, .int 0, .ref a7, .int 0, .ref a8, .ref a9])), (a0, .inl (cA, 512, .inl (fun _ => 0)))]) [0, 1] (by decide) rfl) (hK.sub (tys' := [(cA, .int)]) [0] rfl) rfl rfl rfl rfl hl.1 rfl (Nat.le_of_ble_eq_true rfl) d_Mo_files_28 ⟨by decide, by decide⟩) hP hD hK hS hA [0, 1] [] [] rfl rfl (by decide) (by decide) rfl (fun r u H locs hw hP hD hK hS => ?_)
  have hP : va_P (dC, dI) cls [(h0, .inr (5, [.int 0, .ref a0, .int (-1), .int 0, .int 0, .ref a1, .ref a2, .ref a3, .int 0, .int 0, .ref a4, .int 0, .ref a5, .int 0, .int 0, .int 0, .int 0, .int 0, .int 0, .ref a6, .int 0, .ref a7, .int 0, .ref a8, .ref a9])), (a0, .inl (cA, 512, .inl (fun _ => 0)))] H := hP
  have hD : va_D A [(h0, .inr (5, [.int 0, .ref a0, .int (-1), .int 0, .int 0, .ref a1, .ref a2, .ref a3, .int 0, .int 0, .ref a4, .int 0, .ref a5, .int 0, .int 0, .int 0, .int 0, .int 0, .int 0, .ref a6, .int 0, .ref a7, .int 0, .ref a8, .ref a9])), (a0, .inl (cA, 512, .inl (fun _ => 0)))] := hD
  have hK : va_K (dC, dI) cls [(cA, .int)] s := hK
  refine W.widen (k := 0) (n := 0) (by omega) (by omega) ?_
  subst hw
  refine lv_if_eq (tgt := 38) hx hb d_Mo_files_31 (by decide) (fun _ => ?_) (fun h => absurd (by decide) h)
  refine lv_iconst (v := 0) hx hb d_Mo_files_38 (by decide) ?_
  refine lv_iadd hx hb d_Mo_files_39 ?_
  refine tv (x2 := 0) (by decide) ?_
  refine lv_istore_n (i := 1) hx hb d_Mo_files_40 rfl hl (by decide) rfl (fun ls hl => ?_)
  have hl : lv_has ls 3 [(1, .int 0), (2, .int 1), (0, .ref h0)] := hl
  refine lv_iinc (k := 1) (v := 2) hx hb d_Mo_files_41 hl rfl (by decide) (by decide) rfl (fun ls hl => ?_)
  have hl : lv_has ls 3 [(2, .int 2), (1, .int 0), (0, .ref h0)] := hl
  refine lv_goto (tgt := 19) hx hb d_Mo_files_44 (by decide) ?_
  refine lv_iload_n hx hb d_Mo_files_19 rfl (lv_at hl 0 rfl) ?_
  refine lv_bipush (v := 8) hx hb d_Mo_files_20 (by decide) ?_
  refine lv_icmp_ge (tgt := 47) hx hb d_Mo_files_22 (by decide) (fun h => absurd h (by decide)) (fun _ => ?_)
  refine lv_iload_n hx hb d_Mo_files_25 rfl (lv_at hl 1 rfl) ?_
  refine lv_aload_n hx hb d_Mo_files_26 rfl (lv_at hl 2 rfl) ?_
  refine lv_iload_n hx hb d_Mo_files_27 rfl (lv_at hl 0 rfl) ?_
  refine go_i (wr := []) (tr := []) (rV (C := "LineDiskModel") (ci := 5) (q0 := 0) (b := h0) (n := 1) (As := [.int 2]) (rest := [.int 0]) F hkw (c_Mo_sizeOf l dC dI h0 a0 a1 a2 a3 a4 a5 a6 a7 a8 a9 cA 2 (vp_in_iff.mpr (by decide)) H.size) xT_bl (fun _ _ _ => trivial) w_758 w_760 ws_50 w_6 w_761 rfl rfl (by decide +kernel) ⟨Nat.le_of_ble_eq_true rfl, Nat.le_of_ble_eq_true rfl⟩ (hP.sub (ws' := [(h0, .inr (5, [.int 0, .ref a0, .int (-1), .int 0, .int 0, .ref a1, .ref a2, .ref a3, .int 0, .int 0, .ref a4, .int 0, .ref a5, .int 0, .int 0, .int 0, .int 0, .int 0, .int 0, .ref a6, .int 0, .ref a7, .int 0, .ref a8, .ref a9])), (a0, .inl (cA, 512, .inl (fun _ => 0)))]) [0, 1] rfl) (hD.sub (ws' := [(h0, .inr (5, [.int 0, .ref a0, .int (-1), .int 0, .int 0, .ref a1, .ref a2, .ref a3, .int 0, .int 0, .ref a4, .int 0, .ref a5, .int 0, .int 0, .int 0, .int 0, .int 0, .int 0, .ref a6, .int 0, .ref a7, .int 0, .ref a8, .ref a9])), (a0, .inl (cA, 512, .inl (fun _ => 0)))]) [0, 1] (by decide) rfl) (hK.sub (tys' := [(cA, .int)]) [0] rfl) rfl rfl rfl rfl hl.1 rfl (Nat.le_of_ble_eq_true rfl) d_Mo_files_28 ⟨by decide, by decide⟩) hP hD hK hS hA [0, 1] [] [] rfl rfl (by decide) (by decide) rfl (fun r u H locs hw hP hD hK hS => ?_)
  have hP : va_P (dC, dI) cls [(h0, .inr (5, [.int 0, .ref a0, .int (-1), .int 0, .int 0, .ref a1, .ref a2, .ref a3, .int 0, .int 0, .ref a4, .int 0, .ref a5, .int 0, .int 0, .int 0, .int 0, .int 0, .int 0, .ref a6, .int 0, .ref a7, .int 0, .ref a8, .ref a9])), (a0, .inl (cA, 512, .inl (fun _ => 0)))] H := hP
  have hD : va_D A [(h0, .inr (5, [.int 0, .ref a0, .int (-1), .int 0, .int 0, .ref a1, .ref a2, .ref a3, .int 0, .int 0, .ref a4, .int 0, .ref a5, .int 0, .int 0, .int 0, .int 0, .int 0, .int 0, .ref a6, .int 0, .ref a7, .int 0, .ref a8, .ref a9])), (a0, .inl (cA, 512, .inl (fun _ => 0)))] := hD
  have hK : va_K (dC, dI) cls [(cA, .int)] s := hK
  refine W.widen (k := 0) (n := 0) (by omega) (by omega) ?_
  subst hw
  refine lv_if_eq (tgt := 38) hx hb d_Mo_files_31 (by decide) (fun _ => ?_) (fun h => absurd (by decide) h)
  refine lv_iconst (v := 0) hx hb d_Mo_files_38 (by decide) ?_
  refine lv_iadd hx hb d_Mo_files_39 ?_
  refine tv (x2 := 0) (by decide) ?_
  refine lv_istore_n (i := 1) hx hb d_Mo_files_40 rfl hl (by decide) rfl (fun ls hl => ?_)
  have hl : lv_has ls 3 [(1, .int 0), (2, .int 2), (0, .ref h0)] := hl
  refine lv_iinc (k := 1) (v := 3) hx hb d_Mo_files_41 hl rfl (by decide) (by decide) rfl (fun ls hl => ?_)
  have hl : lv_has ls 3 [(2, .int 3), (1, .int 0), (0, .ref h0)] := hl
  refine lv_goto (tgt := 19) hx hb d_Mo_files_44 (by decide) ?_
  refine lv_iload_n hx hb d_Mo_files_19 rfl (lv_at hl 0 rfl) ?_
  refine lv_bipush (v := 8) hx hb d_Mo_files_20 (by decide) ?_
  refine lv_icmp_ge (tgt := 47) hx hb d_Mo_files_22 (by decide) (fun h => absurd h (by decide)) (fun _ => ?_)
  refine lv_iload_n hx hb d_Mo_files_25 rfl (lv_at hl 1 rfl) ?_
  refine lv_aload_n hx hb d_Mo_files_26 rfl (lv_at hl 2 rfl) ?_
  refine lv_iload_n hx hb d_Mo_files_27 rfl (lv_at hl 0 rfl) ?_
  refine go_i (wr := []) (tr := []) (rV (C := "LineDiskModel") (ci := 5) (q0 := 0) (b := h0) (n := 1) (As := [.int 3]) (rest := [.int 0]) F hkw (c_Mo_sizeOf l dC dI h0 a0 a1 a2 a3 a4 a5 a6 a7 a8 a9 cA 3 (vp_in_iff.mpr (by decide)) H.size) xT_bl (fun _ _ _ => trivial) w_758 w_760 ws_50 w_6 w_761 rfl rfl (by decide +kernel) ⟨Nat.le_of_ble_eq_true rfl, Nat.le_of_ble_eq_true rfl⟩ (hP.sub (ws' := [(h0, .inr (5, [.int 0, .ref a0, .int (-1), .int 0, .int 0, .ref a1, .ref a2, .ref a3, .int 0, .int 0, .ref a4, .int 0, .ref a5, .int 0, .int 0, .int 0, .int 0, .int 0, .int 0, .ref a6, .int 0, .ref a7, .int 0, .ref a8, .ref a9])), (a0, .inl (cA, 512, .inl (fun _ => 0)))]) [0, 1] rfl) (hD.sub (ws' := [(h0, .inr (5, [.int 0, .ref a0, .int (-1), .int 0, .int 0, .ref a1, .ref a2, .ref a3, .int 0, .int 0, .ref a4, .int 0, .ref a5, .int 0, .int 0, .int 0, .int 0, .int 0, .int 0, .ref a6, .int 0, .ref a7, .int 0, .ref a8, .ref a9])), (a0, .inl (cA, 512, .inl (fun _ => 0)))]) [0, 1] (by decide) rfl) (hK.sub (tys' := [(cA, .int)]) [0] rfl) rfl rfl rfl rfl hl.1 rfl (Nat.le_of_ble_eq_true rfl) d_Mo_files_28 ⟨by decide, by decide⟩) hP hD hK hS hA [0, 1] [] [] rfl rfl (by decide) (by decide) rfl (fun r u H locs hw hP hD hK hS => ?_)
  have hP : va_P (dC, dI) cls [(h0, .inr (5, [.int 0, .ref a0, .int (-1), .int 0, .int 0, .ref a1, .ref a2, .ref a3, .int 0, .int 0, .ref a4, .int 0, .ref a5, .int 0, .int 0, .int 0, .int 0, .int 0, .int 0, .ref a6, .int 0, .ref a7, .int 0, .ref a8, .ref a9])), (a0, .inl (cA, 512, .inl (fun _ => 0)))] H := hP
  have hD : va_D A [(h0, .inr (5, [.int 0, .ref a0, .int (-1), .int 0, .int 0, .ref a1, .ref a2, .ref a3, .int 0, .int 0, .ref a4, .int 0, .ref a5, .int 0, .int 0, .int 0, .int 0, .int 0, .int 0, .ref a6, .int 0, .ref a7, .int 0, .ref a8, .ref a9])), (a0, .inl (cA, 512, .inl (fun _ => 0)))] := hD
  have hK : va_K (dC, dI) cls [(cA, .int)] s := hK
  refine W.widen (k := 0) (n := 0) (by omega) (by omega) ?_
  subst hw
  refine lv_if_eq (tgt := 38) hx hb d_Mo_files_31 (by decide) (fun _ => ?_) (fun h => absurd (by decide) h)
  refine lv_iconst (v := 0) hx hb d_Mo_files_38 (by decide) ?_
  refine lv_iadd hx hb d_Mo_files_39 ?_
  refine tv (x2 := 0) (by decide) ?_
  refine lv_istore_n (i := 1) hx hb d_Mo_files_40 rfl hl (by decide) rfl (fun ls hl => ?_)
  have hl : lv_has ls 3 [(1, .int 0), (2, .int 3), (0, .ref h0)] := hl
  refine lv_iinc (k := 1) (v := 4) hx hb d_Mo_files_41 hl rfl (by decide) (by decide) rfl (fun ls hl => ?_)
  have hl : lv_has ls 3 [(2, .int 4), (1, .int 0), (0, .ref h0)] := hl
  refine lv_goto (tgt := 19) hx hb d_Mo_files_44 (by decide) ?_
  refine lv_iload_n hx hb d_Mo_files_19 rfl (lv_at hl 0 rfl) ?_
  refine lv_bipush (v := 8) hx hb d_Mo_files_20 (by decide) ?_
  refine lv_icmp_ge (tgt := 47) hx hb d_Mo_files_22 (by decide) (fun h => absurd h (by decide)) (fun _ => ?_)
  refine lv_iload_n hx hb d_Mo_files_25 rfl (lv_at hl 1 rfl) ?_
  refine lv_aload_n hx hb d_Mo_files_26 rfl (lv_at hl 2 rfl) ?_
  refine lv_iload_n hx hb d_Mo_files_27 rfl (lv_at hl 0 rfl) ?_
  refine go_i (wr := []) (tr := []) (rV (C := "LineDiskModel") (ci := 5) (q0 := 0) (b := h0) (n := 1) (As := [.int 4]) (rest := [.int 0]) F hkw (c_Mo_sizeOf l dC dI h0 a0 a1 a2 a3 a4 a5 a6 a7 a8 a9 cA 4 (vp_in_iff.mpr (by decide)) H.size) xT_bl (fun _ _ _ => trivial) w_758 w_760 ws_50 w_6 w_761 rfl rfl (by decide +kernel) ⟨Nat.le_of_ble_eq_true rfl, Nat.le_of_ble_eq_true rfl⟩ (hP.sub (ws' := [(h0, .inr (5, [.int 0, .ref a0, .int (-1), .int 0, .int 0, .ref a1, .ref a2, .ref a3, .int 0, .int 0, .ref a4, .int 0, .ref a5, .int 0, .int 0, .int 0, .int 0, .int 0, .int 0, .ref a6, .int 0, .ref a7, .int 0, .ref a8, .ref a9])), (a0, .inl (cA, 512, .inl (fun _ => 0)))]) [0, 1] rfl) (hD.sub (ws' := [(h0, .inr (5, [.int 0, .ref a0, .int (-1), .int 0, .int 0, .ref a1, .ref a2, .ref a3, .int 0, .int 0, .ref a4, .int 0, .ref a5, .int 0, .int 0, .int 0, .int 0, .int 0, .int 0, .ref a6, .int 0, .ref a7, .int 0, .ref a8, .ref a9])), (a0, .inl (cA, 512, .inl (fun _ => 0)))]) [0, 1] (by decide) rfl) (hK.sub (tys' := [(cA, .int)]) [0] rfl) rfl rfl rfl rfl hl.1 rfl (Nat.le_of_ble_eq_true rfl) d_Mo_files_28 ⟨by decide, by decide⟩) hP hD hK hS hA [0, 1] [] [] rfl rfl (by decide) (by decide) rfl (fun r u H locs hw hP hD hK hS => ?_)
  have hP : va_P (dC, dI) cls [(h0, .inr (5, [.int 0, .ref a0, .int (-1), .int 0, .int 0, .ref a1, .ref a2, .ref a3, .int 0, .int 0, .ref a4, .int 0, .ref a5, .int 0, .int 0, .int 0, .int 0, .int 0, .int 0, .ref a6, .int 0, .ref a7, .int 0, .ref a8, .ref a9])), (a0, .inl (cA, 512, .inl (fun _ => 0)))] H := hP
  have hD : va_D A [(h0, .inr (5, [.int 0, .ref a0, .int (-1), .int 0, .int 0, .ref a1, .ref a2, .ref a3, .int 0, .int 0, .ref a4, .int 0, .ref a5, .int 0, .int 0, .int 0, .int 0, .int 0, .int 0, .ref a6, .int 0, .ref a7, .int 0, .ref a8, .ref a9])), (a0, .inl (cA, 512, .inl (fun _ => 0)))] := hD
  have hK : va_K (dC, dI) cls [(cA, .int)] s := hK
  refine W.widen (k := 0) (n := 0) (by omega) (by omega) ?_
  subst hw
  refine lv_if_eq (tgt := 38) hx hb d_Mo_files_31 (by decide) (fun _ => ?_) (fun h => absurd (by decide) h)
  refine lv_iconst (v := 0) hx hb d_Mo_files_38 (by decide) ?_
  refine lv_iadd hx hb d_Mo_files_39 ?_
  refine tv (x2 := 0) (by decide) ?_
  refine lv_istore_n (i := 1) hx hb d_Mo_files_40 rfl hl (by decide) rfl (fun ls hl => ?_)
  have hl : lv_has ls 3 [(1, .int 0), (2, .int 4), (0, .ref h0)] := hl
  refine lv_iinc (k := 1) (v := 5) hx hb d_Mo_files_41 hl rfl (by decide) (by decide) rfl (fun ls hl => ?_)
  have hl : lv_has ls 3 [(2, .int 5), (1, .int 0), (0, .ref h0)] := hl
  refine lv_goto (tgt := 19) hx hb d_Mo_files_44 (by decide) ?_
  refine lv_iload_n hx hb d_Mo_files_19 rfl (lv_at hl 0 rfl) ?_
  refine lv_bipush (v := 8) hx hb d_Mo_files_20 (by decide) ?_
  refine lv_icmp_ge (tgt := 47) hx hb d_Mo_files_22 (by decide) (fun h => absurd h (by decide)) (fun _ => ?_)
  refine lv_iload_n hx hb d_Mo_files_25 rfl (lv_at hl 1 rfl) ?_
  refine lv_aload_n hx hb d_Mo_files_26 rfl (lv_at hl 2 rfl) ?_
  refine lv_iload_n hx hb d_Mo_files_27 rfl (lv_at hl 0 rfl) ?_
  refine go_i (wr := []) (tr := []) (rV (C := "LineDiskModel") (ci := 5) (q0 := 0) (b := h0) (n := 1) (As := [.int 5]) (rest := [.int 0]) F hkw (c_Mo_sizeOf l dC dI h0 a0 a1 a2 a3 a4 a5 a6 a7 a8 a9 cA 5 (vp_in_iff.mpr (by decide)) H.size) xT_bl (fun _ _ _ => trivial) w_758 w_760 ws_50 w_6 w_761 rfl rfl (by decide +kernel) ⟨Nat.le_of_ble_eq_true rfl, Nat.le_of_ble_eq_true rfl⟩ (hP.sub (ws' := [(h0, .inr (5, [.int 0, .ref a0, .int (-1), .int 0, .int 0, .ref a1, .ref a2, .ref a3, .int 0, .int 0, .ref a4, .int 0, .ref a5, .int 0, .int 0, .int 0, .int 0, .int 0, .int 0, .ref a6, .int 0, .ref a7, .int 0, .ref a8, .ref a9])), (a0, .inl (cA, 512, .inl (fun _ => 0)))]) [0, 1] rfl) (hD.sub (ws' := [(h0, .inr (5, [.int 0, .ref a0, .int (-1), .int 0, .int 0, .ref a1, .ref a2, .ref a3, .int 0, .int 0, .ref a4, .int 0, .ref a5, .int 0, .int 0, .int 0, .int 0, .int 0, .int 0, .ref a6, .int 0, .ref a7, .int 0, .ref a8, .ref a9])), (a0, .inl (cA, 512, .inl (fun _ => 0)))]) [0, 1] (by decide) rfl) (hK.sub (tys' := [(cA, .int)]) [0] rfl) rfl rfl rfl rfl hl.1 rfl (Nat.le_of_ble_eq_true rfl) d_Mo_files_28 ⟨by decide, by decide⟩) hP hD hK hS hA [0, 1] [] [] rfl rfl (by decide) (by decide) rfl (fun r u H locs hw hP hD hK hS => ?_)
  have hP : va_P (dC, dI) cls [(h0, .inr (5, [.int 0, .ref a0, .int (-1), .int 0, .int 0, .ref a1, .ref a2, .ref a3, .int 0, .int 0, .ref a4, .int 0, .ref a5, .int 0, .int 0, .int 0, .int 0, .int 0, .int 0, .ref a6, .int 0, .ref a7, .int 0, .ref a8, .ref a9])), (a0, .inl (cA, 512, .inl (fun _ => 0)))] H := hP
  have hD : va_D A [(h0, .inr (5, [.int 0, .ref a0, .int (-1), .int 0, .int 0, .ref a1, .ref a2, .ref a3, .int 0, .int 0, .ref a4, .int 0, .ref a5, .int 0, .int 0, .int 0, .int 0, .int 0, .int 0, .ref a6, .int 0, .ref a7, .int 0, .ref a8, .ref a9])), (a0, .inl (cA, 512, .inl (fun _ => 0)))] := hD
  have hK : va_K (dC, dI) cls [(cA, .int)] s := hK
  refine W.widen (k := 0) (n := 0) (by omega) (by omega) ?_
  subst hw
  refine lv_if_eq (tgt := 38) hx hb d_Mo_files_31 (by decide) (fun _ => ?_) (fun h => absurd (by decide) h)
  refine lv_iconst (v := 0) hx hb d_Mo_files_38 (by decide) ?_
  refine lv_iadd hx hb d_Mo_files_39 ?_
  refine tv (x2 := 0) (by decide) ?_
  refine lv_istore_n (i := 1) hx hb d_Mo_files_40 rfl hl (by decide) rfl (fun ls hl => ?_)
  have hl : lv_has ls 3 [(1, .int 0), (2, .int 5), (0, .ref h0)] := hl
  refine lv_iinc (k := 1) (v := 6) hx hb d_Mo_files_41 hl rfl (by decide) (by decide) rfl (fun ls hl => ?_)
  have hl : lv_has ls 3 [(2, .int 6), (1, .int 0), (0, .ref h0)] := hl
  refine lv_goto (tgt := 19) hx hb d_Mo_files_44 (by decide) ?_
  refine lv_iload_n hx hb d_Mo_files_19 rfl (lv_at hl 0 rfl) ?_
  refine lv_bipush (v := 8) hx hb d_Mo_files_20 (by decide) ?_
  refine lv_icmp_ge (tgt := 47) hx hb d_Mo_files_22 (by decide) (fun h => absurd h (by decide)) (fun _ => ?_)
  refine lv_iload_n hx hb d_Mo_files_25 rfl (lv_at hl 1 rfl) ?_
  refine lv_aload_n hx hb d_Mo_files_26 rfl (lv_at hl 2 rfl) ?_
  refine lv_iload_n hx hb d_Mo_files_27 rfl (lv_at hl 0 rfl) ?_
  refine go_i (wr := []) (tr := []) (rV (C := "LineDiskModel") (ci := 5) (q0 := 0) (b := h0) (n := 1) (As := [.int 6]) (rest := [.int 0]) F hkw (c_Mo_sizeOf l dC dI h0 a0 a1 a2 a3 a4 a5 a6 a7 a8 a9 cA 6 (vp_in_iff.mpr (by decide)) H.size) xT_bl (fun _ _ _ => trivial) w_758 w_760 ws_50 w_6 w_761 rfl rfl (by decide +kernel) ⟨Nat.le_of_ble_eq_true rfl, Nat.le_of_ble_eq_true rfl⟩ (hP.sub (ws' := [(h0, .inr (5, [.int 0, .ref a0, .int (-1), .int 0, .int 0, .ref a1, .ref a2, .ref a3, .int 0, .int 0, .ref a4, .int 0, .ref a5, .int 0, .int 0, .int 0, .int 0, .int 0, .int 0, .ref a6, .int 0, .ref a7, .int 0, .ref a8, .ref a9])), (a0, .inl (cA, 512, .inl (fun _ => 0)))]) [0, 1] rfl) (hD.sub (ws' := [(h0, .inr (5, [.int 0, .ref a0, .int (-1), .int 0, .int 0, .ref a1, .ref a2, .ref a3, .int 0, .int 0, .ref a4, .int 0, .ref a5, .int 0, .int 0, .int 0, .int 0, .int 0, .int 0, .ref a6, .int 0, .ref a7, .int 0, .ref a8, .ref a9])), (a0, .inl (cA, 512, .inl (fun _ => 0)))]) [0, 1] (by decide) rfl) (hK.sub (tys' := [(cA, .int)]) [0] rfl) rfl rfl rfl rfl hl.1 rfl (Nat.le_of_ble_eq_true rfl) d_Mo_files_28 ⟨by decide, by decide⟩) hP hD hK hS hA [0, 1] [] [] rfl rfl (by decide) (by decide) rfl (fun r u H locs hw hP hD hK hS => ?_)
  have hP : va_P (dC, dI) cls [(h0, .inr (5, [.int 0, .ref a0, .int (-1), .int 0, .int 0, .ref a1, .ref a2, .ref a3, .int 0, .int 0, .ref a4, .int 0, .ref a5, .int 0, .int 0, .int 0, .int 0, .int 0, .int 0, .ref a6, .int 0, .ref a7, .int 0, .ref a8, .ref a9])), (a0, .inl (cA, 512, .inl (fun _ => 0)))] H := hP
  have hD : va_D A [(h0, .inr (5, [.int 0, .ref a0, .int (-1), .int 0, .int 0, .ref a1, .ref a2, .ref a3, .int 0, .int 0, .ref a4, .int 0, .ref a5, .int 0, .int 0, .int 0, .int 0, .int 0, .int 0, .ref a6, .int 0, .ref a7, .int 0, .ref a8, .ref a9])), (a0, .inl (cA, 512, .inl (fun _ => 0)))] := hD
  have hK : va_K (dC, dI) cls [(cA, .int)] s := hK
  refine W.widen (k := 0) (n := 0) (by omega) (by omega) ?_
  subst hw
  refine lv_if_eq (tgt := 38) hx hb d_Mo_files_31 (by decide) (fun _ => ?_) (fun h => absurd (by decide) h)
  refine lv_iconst (v := 0) hx hb d_Mo_files_38 (by decide) ?_
  refine lv_iadd hx hb d_Mo_files_39 ?_
  refine tv (x2 := 0) (by decide) ?_
  refine lv_istore_n (i := 1) hx hb d_Mo_files_40 rfl hl (by decide) rfl (fun ls hl => ?_)
  have hl : lv_has ls 3 [(1, .int 0), (2, .int 6), (0, .ref h0)] := hl
  refine lv_iinc (k := 1) (v := 7) hx hb d_Mo_files_41 hl rfl (by decide) (by decide) rfl (fun ls hl => ?_)
  have hl : lv_has ls 3 [(2, .int 7), (1, .int 0), (0, .ref h0)] := hl
  refine lv_goto (tgt := 19) hx hb d_Mo_files_44 (by decide) ?_
  refine lv_iload_n hx hb d_Mo_files_19 rfl (lv_at hl 0 rfl) ?_
  refine lv_bipush (v := 8) hx hb d_Mo_files_20 (by decide) ?_
  refine lv_icmp_ge (tgt := 47) hx hb d_Mo_files_22 (by decide) (fun h => absurd h (by decide)) (fun _ => ?_)
  refine lv_iload_n hx hb d_Mo_files_25 rfl (lv_at hl 1 rfl) ?_
  refine lv_aload_n hx hb d_Mo_files_26 rfl (lv_at hl 2 rfl) ?_
  refine lv_iload_n hx hb d_Mo_files_27 rfl (lv_at hl 0 rfl) ?_
  refine go_i (wr := []) (tr := []) (rV (C := "LineDiskModel") (ci := 5) (q0 := 0) (b := h0) (n := 1) (As := [.int 7]) (rest := [.int 0]) F hkw (c_Mo_sizeOf l dC dI h0 a0 a1 a2 a3 a4 a5 a6 a7 a8 a9 cA 7 (vp_in_iff.mpr (by decide)) H.size) xT_bl (fun _ _ _ => trivial) w_758 w_760 ws_50 w_6 w_761 rfl rfl (by decide +kernel) ⟨Nat.le_of_ble_eq_true rfl, Nat.le_of_ble_eq_true rfl⟩ (hP.sub (ws' := [(h0, .inr (5, [.int 0, .ref a0, .int (-1), .int 0, .int 0, .ref a1, .ref a2, .ref a3, .int 0, .int 0, .ref a4, .int 0, .ref a5, .int 0, .int 0, .int 0, .int 0, .int 0, .int 0, .ref a6, .int 0, .ref a7, .int 0, .ref a8, .ref a9])), (a0, .inl (cA, 512, .inl (fun _ => 0)))]) [0, 1] rfl) (hD.sub (ws' := [(h0, .inr (5, [.int 0, .ref a0, .int (-1), .int 0, .int 0, .ref a1, .ref a2, .ref a3, .int 0, .int 0, .ref a4, .int 0, .ref a5, .int 0, .int 0, .int 0, .int 0, .int 0, .int 0, .ref a6, .int 0, .ref a7, .int 0, .ref a8, .ref a9])), (a0, .inl (cA, 512, .inl (fun _ => 0)))]) [0, 1] (by decide) rfl) (hK.sub (tys' := [(cA, .int)]) [0] rfl) rfl rfl rfl rfl hl.1 rfl (Nat.le_of_ble_eq_true rfl) d_Mo_files_28 ⟨by decide, by decide⟩) hP hD hK hS hA [0, 1] [] [] rfl rfl (by decide) (by decide) rfl (fun r u H locs hw hP hD hK hS => ?_)
  have hP : va_P (dC, dI) cls [(h0, .inr (5, [.int 0, .ref a0, .int (-1), .int 0, .int 0, .ref a1, .ref a2, .ref a3, .int 0, .int 0, .ref a4, .int 0, .ref a5, .int 0, .int 0, .int 0, .int 0, .int 0, .int 0, .ref a6, .int 0, .ref a7, .int 0, .ref a8, .ref a9])), (a0, .inl (cA, 512, .inl (fun _ => 0)))] H := hP
  have hD : va_D A [(h0, .inr (5, [.int 0, .ref a0, .int (-1), .int 0, .int 0, .ref a1, .ref a2, .ref a3, .int 0, .int 0, .ref a4, .int 0, .ref a5, .int 0, .int 0, .int 0, .int 0, .int 0, .int 0, .ref a6, .int 0, .ref a7, .int 0, .ref a8, .ref a9])), (a0, .inl (cA, 512, .inl (fun _ => 0)))] := hD
  have hK : va_K (dC, dI) cls [(cA, .int)] s := hK
  refine W.widen (k := 0) (n := 0) (by omega) (by omega) ?_
  subst hw
  refine lv_if_eq (tgt := 38) hx hb d_Mo_files_31 (by decide) (fun _ => ?_) (fun h => absurd (by decide) h)
  refine lv_iconst (v := 0) hx hb d_Mo_files_38 (by decide) ?_
  refine lv_iadd hx hb d_Mo_files_39 ?_
  refine tv (x2 := 0) (by decide) ?_
  refine lv_istore_n (i := 1) hx hb d_Mo_files_40 rfl hl (by decide) rfl (fun ls hl => ?_)
  have hl : lv_has ls 3 [(1, .int 0), (2, .int 7), (0, .ref h0)] := hl
  refine lv_iinc (k := 1) (v := 8) hx hb d_Mo_files_41 hl rfl (by decide) (by decide) rfl (fun ls hl => ?_)
  have hl : lv_has ls 3 [(2, .int 8), (1, .int 0), (0, .ref h0)] := hl
  refine lv_goto (tgt := 19) hx hb d_Mo_files_44 (by decide) ?_
  refine lv_iload_n hx hb d_Mo_files_19 rfl (lv_at hl 0 rfl) ?_
  refine lv_bipush (v := 8) hx hb d_Mo_files_20 (by decide) ?_
  refine lv_icmp_ge (tgt := 47) hx hb d_Mo_files_22 (by decide) (fun _ => ?_) (fun h => absurd (by decide) h)
  refine lv_aload_n hx hb d_Mo_files_47 rfl (lv_at hl 2 rfl) ?_
  refine go_i (wr := []) (tr := []) (rV (C := "LineDiskModel") (ci := 5) (q0 := 0) (b := h0) (n := 0) (As := []) (rest := []) F hkw (c_Mo_formatted l dC dI h0 a0 a1 a2 a3 a4 a5 a6 a7 a8 a9 cA H.size) xT_bl (fun _ _ _ => trivial) w_689 w_691 ws_36 w_6 w_692 rfl rfl (by decide +kernel) ⟨Nat.le_of_ble_eq_true rfl, Nat.le_of_ble_eq_true rfl⟩ (hP.sub (ws' := [(h0, .inr (5, [.int 0, .ref a0, .int (-1), .int 0, .int 0, .ref a1, .ref a2, .ref a3, .int 0, .int 0, .ref a4, .int 0, .ref a5, .int 0, .int 0, .int 0, .int 0, .int 0, .int 0, .ref a6, .int 0, .ref a7, .int 0, .ref a8, .ref a9])), (a0, .inl (cA, 512, .inl (fun _ => 0)))]) [0, 1] rfl) (hD.sub (ws' := [(h0, .inr (5, [.int 0, .ref a0, .int (-1), .int 0, .int 0, .ref a1, .ref a2, .ref a3, .int 0, .int 0, .ref a4, .int 0, .ref a5, .int 0, .int 0, .int 0, .int 0, .int 0, .int 0, .ref a6, .int 0, .ref a7, .int 0, .ref a8, .ref a9])), (a0, .inl (cA, 512, .inl (fun _ => 0)))]) [0, 1] (by decide) rfl) (hK.sub (tys' := [(cA, .int)]) [0] rfl) rfl rfl rfl rfl hl.1 rfl (Nat.le_of_ble_eq_true rfl) d_Mo_files_48 ⟨by decide, by decide⟩) hP hD hK hS hA [0, 1] [] [] rfl rfl (by decide) (by decide) rfl (fun r u H locs hw hP hD hK hS => ?_)
  have hP : va_P (dC, dI) cls [(h0, .inr (5, [.int 0, .ref a0, .int (-1), .int 0, .int 0, .ref a1, .ref a2, .ref a3, .int 0, .int 0, .ref a4, .int 0, .ref a5, .int 0, .int 0, .int 0, .int 0, .int 0, .int 0, .ref a6, .int 0, .ref a7, .int 0, .ref a8, .ref a9])), (a0, .inl (cA, 512, .inl (fun _ => 0)))] H := hP
  have hD : va_D A [(h0, .inr (5, [.int 0, .ref a0, .int (-1), .int 0, .int 0, .ref a1, .ref a2, .ref a3, .int 0, .int 0, .ref a4, .int 0, .ref a5, .int 0, .int 0, .int 0, .int 0, .int 0, .int 0, .ref a6, .int 0, .ref a7, .int 0, .ref a8, .ref a9])), (a0, .inl (cA, 512, .inl (fun _ => 0)))] := hD
  have hK : va_K (dC, dI) cls [(cA, .int)] s := hK
  refine W.widen (k := 0) (n := 0) (by omega) (by omega) ?_
  subst hw
  refine lv_if_eq (tgt := 58) hx hb d_Mo_files_51 (by decide) (fun _ => ?_) (fun h => absurd (by decide) h)
  refine lv_bipush (v := 8) hx hb d_Mo_files_58 (by decide) ?_
  refine W.widen (k := 0) (n := 0) (by decide) (by decide) ?_
  exact W.iret (v := 8) hx hb hr (fun t ht hW => ⟨⟨8, (), rfl, rfl, cB.of (hP.sub [] rfl) (hD.sub [] (by decide) rfl) (hK.sub [] rfl) ht hW⟩, hS.F ht⟩) hS.2.2 d_Mo_files_60
set_option maxHeartbeats 4000000 in
set_option maxRecDepth 100000 in
theorem lp_Mo_nextLine {p : Program} {l : Launch} {e : Env} {R : Room} {s : State} {m : MethodId} {args : Array Value} {below : List Frame} {meth : Method} {c : Code} {cells slots : Nat} {Q : State → Prop} {A : Nat → Prop} {dC : Nat → ClassId} {dI : Nat → Nat → Nat} (hx : p.tables.exec = Jvm.exec) (hb : c.code = b_Mo_nextLine) (hts : ∀ w ∈ gw, w.before args s = true) (hown : s.vm.findClass "LineDiskModel" = some m.cls) (hkw : kw s) (h0 a0 a1 a2 a3 a4 a5 a6 a7 a8 a9 : Nat) (cL : ClassId) (f : Nat → Int32) (hF : ∀ i, i < 100 → f i = -1) (hK : va_K (dC, dI) cls [(cL, .int)] s)  (kk : ∀ (ls : Array Slot) (H : Heap) (locs : List Loc), lv_has ls 2 [(1, .int (nI 100)), (0, .ref h0)] → va_P (dC, dI) cls [(h0, .inr (5, [.int 0, .ref a0, .int (-1), .int 0, .int 0, .ref a1, .ref a2, .ref a3, .int 0, .int 0, .ref a4, .int 0, .ref a5, .int 0, .int 0, .int 0, .int 0, .int 0, .int 0, .ref a6, .int 0, .ref a7, .int 0, .ref a8, .ref a9])), (a1, .inl (cL, 100, .inl f))] H → va_D A [(h0, .inr (5, [.int 0, .ref a0, .int (-1), .int 0, .int 0, .ref a1, .ref a2, .ref a3, .int 0, .int 0, .ref a4, .int 0, .ref a5, .int 0, .int 0, .int 0, .int 0, .int 0, .int 0, .ref a6, .int 0, .ref a7, .int 0, .ref a8, .ref a9])), (a1, .inl (cL, 100, .inl f))] → va_S A s.heap H locs → (True) → W p l e R s m args below meth c H locs cells slots Q (F0 m 41 ls [])) : ∀ (j k : Nat), k + j = 100 → ∀ (ls : Array Slot) (H : Heap) (locs : List Loc), lv_has ls 2 [(1, .int (nI k)), (0, .ref h0)] → va_P (dC, dI) cls [(h0, .inr (5, [.int 0, .ref a0, .int (-1), .int 0, .int 0, .ref a1, .ref a2, .ref a3, .int 0, .int 0, .ref a4, .int 0, .ref a5, .int 0, .int 0, .int 0, .int 0, .int 0, .int 0, .ref a6, .int 0, .ref a7, .int 0, .ref a8, .ref a9])), (a1, .inl (cL, 100, .inl f))] H → va_D A [(h0, .inr (5, [.int 0, .ref a0, .int (-1), .int 0, .int 0, .ref a1, .ref a2, .ref a3, .int 0, .int 0, .ref a4, .int 0, .ref a5, .int 0, .int 0, .int 0, .int 0, .int 0, .int 0, .ref a6, .int 0, .ref a7, .int 0, .ref a8, .ref a9])), (a1, .inl (cL, 100, .inl f))] → va_S A s.heap H locs → (True) → W p l e R s m args below meth c H locs cells slots Q (F0 m 17 ls []) := by
  intro j
  induction j with
  | zero =>
    intro k hk ls H locs hl hP hD hS hf
    have hk : k = 100 := by omega
    subst hk
    refine lv_iload_n hx hb d_Mo_nextLine_17 rfl (lv_at hl 0 rfl) ?_
    refine lv_bipush (v := 100) hx hb d_Mo_nextLine_18 (by decide) ?_
    refine lv_icmp_ge (tgt := 41) hx hb d_Mo_nextLine_20 (by decide) (fun _ => ?_) (fun h => absurd (nI_le (a := 100) (b := 100) (Nat.le_refl _) (by decide)) h)
    exact kk ls H locs hl hP hD hS hf
  | succ j ih =>
    intro k hk ls H locs hl hP hD hS hf
    have hkN : k < 100 := by omega
    refine lv_iload_n hx hb d_Mo_nextLine_17 rfl (lv_at hl 0 rfl) ?_
    refine lv_bipush (v := 100) hx hb d_Mo_nextLine_18 (by decide) ?_
    refine lv_icmp_ge (tgt := 41) hx hb d_Mo_nextLine_20 (by decide) (fun h => absurd h (nI_ge hkN (by decide))) (fun _ => ?_)
    refine lv_aload_n hx hb d_Mo_nextLine_23 rfl (lv_at hl 1 rfl) ?_
    refine va_get (D := (dC, dI)) (ci := 5) (v := .ref a1) (C := R_Mo) (T := F_Mo) (N := 25) hx hb hts in_Mo hown hK hP 0 rfl rfl 5 (by decide) (hts _ w_598) (fun _ h9 => h9) rfl d_Mo_nextLine_24 ?_
    refine lv_iload_n hx hb d_Mo_nextLine_27 rfl (lv_at hl 0 rfl) ?_
    refine va_iald hx hb hK hP 1 0 rfl rfl (vp_in_nI hkN (by decide)) d_Mo_nextLine_28 ?_
    refine tv (x2 := (-1)) (by exact by rw [nI_clamp (by omega)]; exact hF k hkN) ?_
    refine lv_iconst (v := (-1)) hx hb d_Mo_nextLine_29 (by decide) ?_
    refine lv_icmp_eq (tgt := 35) hx hb d_Mo_nextLine_30 (by decide) (fun _ => ?_) (fun h => absurd (by decide) h)
    refine lv_iinc (k := 0) (v := nI (k + 1)) hx hb d_Mo_nextLine_35 hl rfl (by rw [lit1]; exact (nI_succ k).symm) (by decide) rfl (fun ls hl => ?_)
    have hl : lv_has ls 2 [(1, .int (nI (k + 1))), (0, .ref h0)] := hl
    refine lv_goto (tgt := 17) hx hb d_Mo_nextLine_38 (by decide) ?_
    exact ih (k + 1) (by omega) ls H locs (hl) hP hD hS (trivial)
set_option maxHeartbeats 4000000 in
set_option maxRecDepth 100000 in
theorem c_Mo_nextLine (l : Launch) (dC : Nat → ClassId) (dI : Nat → Nat → Nat) (h0 a0 a1 a2 a3 a4 a5 a6 a7 a8 a9 : Nat) (cL : ClassId) (f : Nat → Int32) (hF : ∀ i, i < 100 → f i = -1) (sz : Nat) : Met l y_Mo_nextLine (Cond.code y_Mo_nextLine b_Mo_nextLine 2 (some .int) :: gw) ({ frames := 0, cells := 0, slots := 0, locals := 0 }) (cP (dC, dI) [.ref h0] sz [(h0, .inr (5, [.int 0, .ref a0, .int (-1), .int 0, .int 0, .ref a1, .ref a2, .ref a3, .int 0, .int 0, .ref a4, .int 0, .ref a5, .int 0, .int 0, .int 0, .int 0, .int 0, .int 0, .ref a6, .int 0, .ref a7, .int 0, .ref a8, .ref a9])), (a1, .inl (cL, 100, .inl f))] [(cL, .int)] xT) (va_Qi (fun (r : Int32) (u : Unit) => r = -1) (fun (u : Unit) t => cB (dC, dI) (va_A [(h0, .inr (5, [.int 0, .ref a0, .int (-1), .int 0, .int 0, .ref a1, .ref a2, .ref a3, .int 0, .int 0, .ref a4, .int 0, .ref a5, .int 0, .int 0, .int 0, .int 0, .int 0, .int 0, .ref a6, .int 0, .ref a7, .int 0, .ref a8, .ref a9])), (a1, .inl (cL, 100, .inl f))] sz) [(h0, .inr (5, [.int 0, .ref a0, .int (-1), .int 0, .int 0, .ref a1, .ref a2, .ref a3, .int 0, .int 0, .ref a4, .int 0, .ref a5, .int 0, .int 0, .int 0, .int 0, .int 0, .int 0, .ref a6, .int 0, .ref a7, .int 0, .ref a8, .ref a9])), (a1, .inl (cL, 100, .inl f))] [(cL, .int)] t) (va_A [(h0, .inr (5, [.int 0, .ref a0, .int (-1), .int 0, .int 0, .ref a1, .ref a2, .ref a3, .int 0, .int 0, .ref a4, .int 0, .ref a5, .int 0, .int 0, .int 0, .int 0, .int 0, .int 0, .ref a6, .int 0, .ref a7, .int 0, .ref a8, .ref a9])), (a1, .inl (cL, 100, .inl f))] sz)) 0 0 (va_A [(h0, .inr (5, [.int 0, .ref a0, .int (-1), .int 0, .int 0, .ref a1, .ref a2, .ref a3, .int 0, .int 0, .ref a4, .int 0, .ref a5, .int 0, .int 0, .int 0, .int 0, .int 0, .int 0, .ref a6, .int 0, .ref a7, .int 0, .ref a8, .ref a9])), (a1, .inl (cL, 100, .inl f))] sz) := by
  refine Met.ofW (cc := b_Mo_nextLine) (maxL := 2) (ret := (some .int)) (by decide) rfl ?_
  intro p e s m args below meth c s₁ B hml hv
  obtain ⟨rfl, hsz, hP, hK, hD0, hkw, hX⟩ := hv
  have hx := B.exec
  have hb := B.bytes
  have hr := B.returns
  have hts := fun w hw => atoms_spec (ws := Cond.code y_Mo_nextLine b_Mo_nextLine 2 (some .int) :: gw) B.pre w (List.mem_cons_of_mem _ hw)
  have hown : s.vm.findClass "LineDiskModel" = some m.cls := findClass_of_methodNamed B.named
  have hlocks := B.notSynchronized
  have hin := (name_of_methodNamed B.named B.method).1
  subst hsz
  have hD := hD0.self (sz := s.heap.size)
  generalize hAe : va_A [(h0, .inr (5, [.int 0, .ref a0, .int (-1), .int 0, .int 0, .ref a1, .ref a2, .ref a3, .int 0, .int 0, .ref a4, .int 0, .ref a5, .int 0, .int 0, .int 0, .int 0, .int 0, .int 0, .ref a6, .int 0, .ref a7, .int 0, .ref a8, .ref a9])), (a1, .inl (cL, 100, .inl f))] s.heap.size = A at hD ⊢
  have hA : ∀ q : Nat, s.heap.size ≤ q → A q := fun q h => by rw [← hAe]; exact Or.inr h
  have hS : va_S A s.heap s.heap [] := va_S.rf
  have hl := lv_entry ([.ref h0]) (n := 2) (Nat.le_of_ble_eq_true rfl)
  rw [lg_entry_eq]
  generalize (lg_sl ([.ref h0]) ++ List.replicate (2 - (lg_sl ([.ref h0])).length) Slot.unset).toArray = ls at hl ⊢
  have hl : lv_has ls 2 [(0, .ref h0)] := hl
  have F : CallFix p m c b_Mo_nextLine 2 s ([.ref h0]).toArray gw "LineDiskModel" := ⟨hx, hb, hml, hown, hts⟩
  refine lv_aload_n hx hb d_Mo_nextLine_0 rfl (lv_at hl 0 rfl) ?_
  refine va_get (D := (dC, dI)) (ci := 5) (v := .int 0) (C := R_Mo) (T := F_Mo) (N := 25) hx hb hts in_Mo hown hK hP 0 rfl rfl 8 (by decide) (hts _ w_601) (fun _ h9 => h9) rfl d_Mo_nextLine_1 ?_
  refine lv_iconst (v := 1) hx hb d_Mo_nextLine_4 (by decide) ?_
  refine lv_icmp_ge (tgt := 12) hx hb d_Mo_nextLine_5 (by decide) (fun h => absurd h (by decide)) (fun _ => ?_)
  refine lv_iconst (v := 1) hx hb d_Mo_nextLine_8 (by decide) ?_
  refine lv_goto (tgt := 16) hx hb d_Mo_nextLine_9 (by decide) ?_
  refine lv_istore_n (i := 1) hx hb d_Mo_nextLine_16 rfl hl (by decide) rfl (fun ls hl => ?_)
  have hl : lv_has ls 2 [(1, .int 1), (0, .ref h0)] := hl
  refine lp_Mo_nextLine hx hb hts hown hkw h0 a0 a1 a2 a3 a4 a5 a6 a7 a8 a9 cL f hF hK (fun ls H locs hl hP hD hS _ => ?_) 99 1 (by decide) ls _ _ hl hP hD hS trivial
  refine lv_iconst (v := (-1)) hx hb d_Mo_nextLine_41 (by decide) ?_
  refine W.widen (k := 0) (n := 0) (by decide) (by decide) ?_
  exact W.iret (v := (-1)) hx hb hr (fun t ht hW => ⟨⟨(-1), (), rfl, rfl, cB.of (hP.sub [0, 1] rfl) (hD.sub [0, 1] (by decide) rfl) (hK.sub [0] rfl) ht hW⟩, hS.F ht⟩) hS.2.2 d_Mo_nextLine_42
set_option maxHeartbeats 4000000 in
set_option maxRecDepth 100000 in
theorem lp_Mo_lines {p : Program} {l : Launch} {e : Env} {R : Room} {s : State} {m : MethodId} {args : Array Value} {below : List Frame} {meth : Method} {c : Code} {cells slots : Nat} {Q : State → Prop} {A : Nat → Prop} {dC : Nat → ClassId} {dI : Nat → Nat → Nat} (hx : p.tables.exec = Jvm.exec) (hb : c.code = b_Mo_lines) (hts : ∀ w ∈ gw, w.before args s = true) (hown : s.vm.findClass "LineDiskModel" = some m.cls) (hkw : kw s) (h0 a0 a1 a2 a3 a4 a5 a6 a7 a8 a9 : Nat) (cL : ClassId) (f : Nat → Int32) (hF : ∀ i, i < 100 → f i = -1) (hK : va_K (dC, dI) cls [(cL, .int)] s)  (kk : ∀ (ls : Array Slot) (H : Heap) (locs : List Loc), lv_has ls 3 [(2, .int (nI 100)), (1, .int 0), (0, .ref h0)] → va_P (dC, dI) cls [(h0, .inr (5, [.int 0, .ref a0, .int (-1), .int 0, .int 0, .ref a1, .ref a2, .ref a3, .int 0, .int 0, .ref a4, .int 0, .ref a5, .int 0, .int 0, .int 0, .int 0, .int 0, .int 0, .ref a6, .int 0, .ref a7, .int 0, .ref a8, .ref a9])), (a1, .inl (cL, 100, .inl f))] H → va_D A [(h0, .inr (5, [.int 0, .ref a0, .int (-1), .int 0, .int 0, .ref a1, .ref a2, .ref a3, .int 0, .int 0, .ref a4, .int 0, .ref a5, .int 0, .int 0, .int 0, .int 0, .int 0, .int 0, .ref a6, .int 0, .ref a7, .int 0, .ref a8, .ref a9])), (a1, .inl (cL, 100, .inl f))] → va_S A s.heap H locs → (True) → W p l e R s m args below meth c H locs cells slots Q (F0 m 34 ls [])) : ∀ (j k : Nat), k + j = 100 → ∀ (ls : Array Slot) (H : Heap) (locs : List Loc), lv_has ls 3 [(2, .int (nI k)), (1, .int 0), (0, .ref h0)] → va_P (dC, dI) cls [(h0, .inr (5, [.int 0, .ref a0, .int (-1), .int 0, .int 0, .ref a1, .ref a2, .ref a3, .int 0, .int 0, .ref a4, .int 0, .ref a5, .int 0, .int 0, .int 0, .int 0, .int 0, .int 0, .ref a6, .int 0, .ref a7, .int 0, .ref a8, .ref a9])), (a1, .inl (cL, 100, .inl f))] H → va_D A [(h0, .inr (5, [.int 0, .ref a0, .int (-1), .int 0, .int 0, .ref a1, .ref a2, .ref a3, .int 0, .int 0, .ref a4, .int 0, .ref a5, .int 0, .int 0, .int 0, .int 0, .int 0, .int 0, .ref a6, .int 0, .ref a7, .int 0, .ref a8, .ref a9])), (a1, .inl (cL, 100, .inl f))] → va_S A s.heap H locs → (True) → W p l e R s m args below meth c H locs cells slots Q (F0 m 4 ls []) := by
  intro j
  induction j with
  | zero =>
    intro k hk ls H locs hl hP hD hS hf
    have hk : k = 100 := by omega
    subst hk
    refine lv_iload_n hx hb d_Mo_lines_4 rfl (lv_at hl 0 rfl) ?_
    refine lv_bipush (v := 100) hx hb d_Mo_lines_5 (by decide) ?_
    refine lv_icmp_ge (tgt := 34) hx hb d_Mo_lines_7 (by decide) (fun _ => ?_) (fun h => absurd (nI_le (a := 100) (b := 100) (Nat.le_refl _) (by decide)) h)
    exact kk ls H locs hl hP hD hS hf
  | succ j ih =>
    intro k hk ls H locs hl hP hD hS hf
    have hkN : k < 100 := by omega
    refine lv_iload_n hx hb d_Mo_lines_4 rfl (lv_at hl 0 rfl) ?_
    refine lv_bipush (v := 100) hx hb d_Mo_lines_5 (by decide) ?_
    refine lv_icmp_ge (tgt := 34) hx hb d_Mo_lines_7 (by decide) (fun h => absurd h (nI_ge hkN (by decide))) (fun _ => ?_)
    refine lv_iload_n hx hb d_Mo_lines_10 rfl (lv_at hl 1 rfl) ?_
    refine lv_aload_n hx hb d_Mo_lines_11 rfl (lv_at hl 2 rfl) ?_
    refine va_get (D := (dC, dI)) (ci := 5) (v := .ref a1) (C := R_Mo) (T := F_Mo) (N := 25) hx hb hts in_Mo hown hK hP 0 rfl rfl 5 (by decide) (hts _ w_598) (fun _ h9 => h9) rfl d_Mo_lines_12 ?_
    refine lv_iload_n hx hb d_Mo_lines_15 rfl (lv_at hl 0 rfl) ?_
    refine va_iald hx hb hK hP 1 0 rfl rfl (vp_in_nI hkN (by decide)) d_Mo_lines_16 ?_
    refine tv (x2 := (-1)) (by exact by rw [nI_clamp (by omega)]; exact hF k hkN) ?_
    refine lv_iconst (v := (-1)) hx hb d_Mo_lines_17 (by decide) ?_
    refine lv_icmp_eq (tgt := 25) hx hb d_Mo_lines_18 (by decide) (fun _ => ?_) (fun h => absurd (by decide) h)
    refine lv_iconst (v := 0) hx hb d_Mo_lines_25 (by decide) ?_
    refine lv_iadd hx hb d_Mo_lines_26 ?_
    refine tv (x2 := 0) (by decide) ?_
    refine lv_istore_n (i := 1) hx hb d_Mo_lines_27 rfl hl (by decide) rfl (fun ls hl => ?_)
    have hl : lv_has ls 3 [(1, .int 0), (2, .int (nI k)), (0, .ref h0)] := hl
    refine lv_iinc (k := 1) (v := nI (k + 1)) hx hb d_Mo_lines_28 hl rfl (by rw [lit1]; exact (nI_succ k).symm) (by decide) rfl (fun ls hl => ?_)
    have hl : lv_has ls 3 [(2, .int (nI (k + 1))), (1, .int 0), (0, .ref h0)] := hl
    refine lv_goto (tgt := 4) hx hb d_Mo_lines_31 (by decide) ?_
    exact ih (k + 1) (by omega) ls H locs (hl) hP hD hS (trivial)
set_option maxHeartbeats 4000000 in
set_option maxRecDepth 100000 in
theorem c_Mo_lines (l : Launch) (dC : Nat → ClassId) (dI : Nat → Nat → Nat) (h0 a0 a1 a2 a3 a4 a5 a6 a7 a8 a9 : Nat) (cL : ClassId) (f : Nat → Int32) (hF : ∀ i, i < 100 → f i = -1) (sz : Nat) : Met l y_Mo_lines (Cond.code y_Mo_lines b_Mo_lines 3 (some .int) :: gw) ({ frames := 0, cells := 0, slots := 0, locals := 0 }) (cP (dC, dI) [.ref h0] sz [(h0, .inr (5, [.int 0, .ref a0, .int (-1), .int 0, .int 0, .ref a1, .ref a2, .ref a3, .int 0, .int 0, .ref a4, .int 0, .ref a5, .int 0, .int 0, .int 0, .int 0, .int 0, .int 0, .ref a6, .int 0, .ref a7, .int 0, .ref a8, .ref a9])), (a1, .inl (cL, 100, .inl f))] [(cL, .int)] xT) (va_Qi (fun (r : Int32) (u : Unit) => r = 0) (fun (u : Unit) t => cB (dC, dI) (va_A [(h0, .inr (5, [.int 0, .ref a0, .int (-1), .int 0, .int 0, .ref a1, .ref a2, .ref a3, .int 0, .int 0, .ref a4, .int 0, .ref a5, .int 0, .int 0, .int 0, .int 0, .int 0, .int 0, .ref a6, .int 0, .ref a7, .int 0, .ref a8, .ref a9])), (a1, .inl (cL, 100, .inl f))] sz) [(h0, .inr (5, [.int 0, .ref a0, .int (-1), .int 0, .int 0, .ref a1, .ref a2, .ref a3, .int 0, .int 0, .ref a4, .int 0, .ref a5, .int 0, .int 0, .int 0, .int 0, .int 0, .int 0, .ref a6, .int 0, .ref a7, .int 0, .ref a8, .ref a9])), (a1, .inl (cL, 100, .inl f))] [(cL, .int)] t) (va_A [(h0, .inr (5, [.int 0, .ref a0, .int (-1), .int 0, .int 0, .ref a1, .ref a2, .ref a3, .int 0, .int 0, .ref a4, .int 0, .ref a5, .int 0, .int 0, .int 0, .int 0, .int 0, .int 0, .ref a6, .int 0, .ref a7, .int 0, .ref a8, .ref a9])), (a1, .inl (cL, 100, .inl f))] sz)) 0 0 (va_A [(h0, .inr (5, [.int 0, .ref a0, .int (-1), .int 0, .int 0, .ref a1, .ref a2, .ref a3, .int 0, .int 0, .ref a4, .int 0, .ref a5, .int 0, .int 0, .int 0, .int 0, .int 0, .int 0, .ref a6, .int 0, .ref a7, .int 0, .ref a8, .ref a9])), (a1, .inl (cL, 100, .inl f))] sz) := by
  refine Met.ofW (cc := b_Mo_lines) (maxL := 3) (ret := (some .int)) (by decide) rfl ?_
  intro p e s m args below meth c s₁ B hml hv
  obtain ⟨rfl, hsz, hP, hK, hD0, hkw, hX⟩ := hv
  have hx := B.exec
  have hb := B.bytes
  have hr := B.returns
  have hts := fun w hw => atoms_spec (ws := Cond.code y_Mo_lines b_Mo_lines 3 (some .int) :: gw) B.pre w (List.mem_cons_of_mem _ hw)
  have hown : s.vm.findClass "LineDiskModel" = some m.cls := findClass_of_methodNamed B.named
  have hlocks := B.notSynchronized
  have hin := (name_of_methodNamed B.named B.method).1
  subst hsz
  have hD := hD0.self (sz := s.heap.size)
  generalize hAe : va_A [(h0, .inr (5, [.int 0, .ref a0, .int (-1), .int 0, .int 0, .ref a1, .ref a2, .ref a3, .int 0, .int 0, .ref a4, .int 0, .ref a5, .int 0, .int 0, .int 0, .int 0, .int 0, .int 0, .ref a6, .int 0, .ref a7, .int 0, .ref a8, .ref a9])), (a1, .inl (cL, 100, .inl f))] s.heap.size = A at hD ⊢
  have hA : ∀ q : Nat, s.heap.size ≤ q → A q := fun q h => by rw [← hAe]; exact Or.inr h
  have hS : va_S A s.heap s.heap [] := va_S.rf
  have hl := lv_entry ([.ref h0]) (n := 3) (Nat.le_of_ble_eq_true rfl)
  rw [lg_entry_eq]
  generalize (lg_sl ([.ref h0]) ++ List.replicate (3 - (lg_sl ([.ref h0])).length) Slot.unset).toArray = ls at hl ⊢
  have hl : lv_has ls 3 [(0, .ref h0)] := hl
  have F : CallFix p m c b_Mo_lines 3 s ([.ref h0]).toArray gw "LineDiskModel" := ⟨hx, hb, hml, hown, hts⟩
  refine lv_iconst (v := 0) hx hb d_Mo_lines_0 (by decide) ?_
  refine lv_istore_n (i := 1) hx hb d_Mo_lines_1 rfl hl (by decide) rfl (fun ls hl => ?_)
  have hl : lv_has ls 3 [(1, .int 0), (0, .ref h0)] := hl
  refine lv_iconst (v := 1) hx hb d_Mo_lines_2 (by decide) ?_
  refine lv_istore_n (i := 2) hx hb d_Mo_lines_3 rfl hl (by decide) rfl (fun ls hl => ?_)
  have hl : lv_has ls 3 [(2, .int 1), (1, .int 0), (0, .ref h0)] := hl
  have hl : lv_has ls 3 [(2, .int (nI 1)), (1, .int 0), (0, .ref h0)] := lv_sub hl [0, 1, 2] rfl
  refine lp_Mo_lines hx hb hts hown hkw h0 a0 a1 a2 a3 a4 a5 a6 a7 a8 a9 cL f hF hK (fun ls H locs hl hP hD hS _ => ?_) 99 1 (by decide) ls _ _ hl hP hD hS trivial
  refine lv_iload_n hx hb d_Mo_lines_34 rfl (lv_at hl 1 rfl) ?_
  refine W.widen (k := 0) (n := 0) (by decide) (by decide) ?_
  exact W.iret (v := 0) hx hb hr (fun t ht hW => ⟨⟨0, (), rfl, rfl, cB.of (hP.sub [0, 1] rfl) (hD.sub [0, 1] (by decide) rfl) (hK.sub [0] rfl) ht hW⟩, hS.F ht⟩) hS.2.2 d_Mo_lines_35
end
section
theorem mn1 {x : Int32} (h : 1 ≤ x) : ¬ x ≤ 0 := fun g => absurd (Int32.le_trans h g) (by decide)
theorem am1 {x : Int32} (h1 : ¬ x < 0) (h2 : x ≤ 11) : ¬ (x < 0 ∨ 11 < x) := fun h => h.elim h1 (fun g => Int32.lt_irrefl (Int32.lt_of_lt_of_le g h2))
theorem am2 {x : Int32} (h1 : ¬ x < 0) (h0 : ¬ x = 0) (h9 : ¬ 9 ≤ x) : vp_in (x - 1) 8 := by
  refine in8 (fun h => ?_) (fun h => ?_)
  · have e0 : (0 : Int32).toInt = 0 := by decide
    have e1 : (1 : Int32).toInt = 1 := by decide
    simp only [Int32.lt_iff_toInt_lt, ← Int32.toInt_inj] at *
    rw [e0] at h1 h0
    rw [e1] at h
    omega
  · have e8 : (8 : Int32).toInt = 8 := by decide
    have e9 : (9 : Int32).toInt = 9 := by decide
    simp only [Int32.lt_iff_toInt_lt, Int32.le_iff_toInt_le] at *
    rw [e8] at h
    rw [e9] at h9
    omega
theorem am3 {x : Int32} {g : Nat → Int32} (hg : ∀ i, i < 8 → g i = 0) (h : vp_in x 8) : g x.toNatClampNeg = 0 := by
  obtain ⟨j, hj, rfl⟩ := vp_in_of h (by decide)
  rw [nI_clamp (by omega)]
  exact hg j hj
set_option maxHeartbeats 4000000 in
set_option maxRecDepth 100000 in
theorem c_Mo_step (l : Launch) (dC : Nat → ClassId) (dI : Nat → Nat → Nat) (h0 a0 a1 a2 a3 a4 a5 a6 a7 a8 a9 : Nat) (x : Int32) (cL : ClassId) (f : Nat → Int32) (hF : ∀ i, i < 100 → f i = -1) (sz : Nat) : Met l y_Mo_step (Cond.code y_Mo_step b_Mo_step 6 (some .int) :: gw) ({ frames := 1, cells := 0, slots := 0, locals := 21 }) (cP (dC, dI) [.ref h0, .int x] sz [(h0, .inr (5, [.int 0, .ref a0, .int (-1), .int 0, .int 0, .ref a1, .ref a2, .ref a3, .int 0, .int 0, .ref a4, .int 0, .ref a5, .int 0, .int 0, .int 0, .int 0, .int 0, .int 0, .ref a6, .int 0, .ref a7, .int 0, .ref a8, .ref a9])), (a1, .inl (cL, 100, .inl f))] [(cL, .int)] xT) (va_Qi (fun (r : Int32) (u : Unit) => r = 0) (fun (u : Unit) t => cB (dC, dI) (va_A [(h0, .inr (5, [.int 0, .ref a0, .int (-1), .int 0, .int 0, .ref a1, .ref a2, .ref a3, .int 0, .int 0, .ref a4, .int 0, .ref a5, .int 0, .int 0, .int 0, .int 0, .int 0, .int 0, .ref a6, .int 0, .ref a7, .int 0, .ref a8, .ref a9])), (a1, .inl (cL, 100, .inl f))] sz) [] [] t) (va_A [(h0, .inr (5, [.int 0, .ref a0, .int (-1), .int 0, .int 0, .ref a1, .ref a2, .ref a3, .int 0, .int 0, .ref a4, .int 0, .ref a5, .int 0, .int 0, .int 0, .int 0, .int 0, .int 0, .ref a6, .int 0, .ref a7, .int 0, .ref a8, .ref a9])), (a1, .inl (cL, 100, .inl f))] sz)) 0 0 (va_A [(h0, .inr (5, [.int 0, .ref a0, .int (-1), .int 0, .int 0, .ref a1, .ref a2, .ref a3, .int 0, .int 0, .ref a4, .int 0, .ref a5, .int 0, .int 0, .int 0, .int 0, .int 0, .int 0, .ref a6, .int 0, .ref a7, .int 0, .ref a8, .ref a9])), (a1, .inl (cL, 100, .inl f))] sz) := by
  refine Met.ofW (cc := b_Mo_step) (maxL := 6) (ret := (some .int)) (by decide) rfl ?_
  intro p e s m args below meth c s₁ B hml hv
  obtain ⟨rfl, hsz, hP, hK, hD0, hkw, hX⟩ := hv
  have hx := B.exec
  have hb := B.bytes
  have hr := B.returns
  have hts := fun w hw => atoms_spec (ws := Cond.code y_Mo_step b_Mo_step 6 (some .int) :: gw) B.pre w (List.mem_cons_of_mem _ hw)
  have hown : s.vm.findClass "LineDiskModel" = some m.cls := findClass_of_methodNamed B.named
  have hlocks := B.notSynchronized
  have hin := (name_of_methodNamed B.named B.method).1
  subst hsz
  have hD := hD0.self (sz := s.heap.size)
  generalize hAe : va_A [(h0, .inr (5, [.int 0, .ref a0, .int (-1), .int 0, .int 0, .ref a1, .ref a2, .ref a3, .int 0, .int 0, .ref a4, .int 0, .ref a5, .int 0, .int 0, .int 0, .int 0, .int 0, .int 0, .ref a6, .int 0, .ref a7, .int 0, .ref a8, .ref a9])), (a1, .inl (cL, 100, .inl f))] s.heap.size = A at hD ⊢
  have hA : ∀ q : Nat, s.heap.size ≤ q → A q := fun q h => by rw [← hAe]; exact Or.inr h
  have hS : va_S A s.heap s.heap [] := va_S.rf
  have hl := lv_entry ([.ref h0, .int x]) (n := 6) (Nat.le_of_ble_eq_true rfl)
  rw [lg_entry_eq]
  generalize (lg_sl ([.ref h0, .int x]) ++ List.replicate (6 - (lg_sl ([.ref h0, .int x])).length) Slot.unset).toArray = ls at hl ⊢
  have hl : lv_has ls 6 [(0, .ref h0), (1, .int x)] := hl
  have F : CallFix p m c b_Mo_step 6 s ([.ref h0, .int x]).toArray gw "LineDiskModel" := ⟨hx, hb, hml, hown, hts⟩
  refine lv_aload_n hx hb d_Mo_step_0 rfl (lv_at hl 0 rfl) ?_
  refine lv_iconst (v := 0) hx hb d_Mo_step_1 (by decide) ?_
  refine va_put (D := (dC, dI)) (ci := 5) (v := .int 0) (ty := .int) (C := R_Mo) (T := F_Mo) (N := 25) hx hb hts in_Mo t_Mo t_Mo_ok n_Mo hown hK hP hD hS 0 rfl rfl 0 (by decide) (hts _ w_593) (fun _ h9 => h9) rfl (by decide +kernel) (rfl) (rfl) (Nat.le_of_ble_eq_true rfl) d_Mo_step_2 (fun H locs hP hD hS => ?_)
  have hP : va_P (dC, dI) cls [(h0, .inr (5, [.int 0, .ref a0, .int (-1), .int 0, .int 0, .ref a1, .ref a2, .ref a3, .int 0, .int 0, .ref a4, .int 0, .ref a5, .int 0, .int 0, .int 0, .int 0, .int 0, .int 0, .ref a6, .int 0, .ref a7, .int 0, .ref a8, .ref a9])), (a1, .inl (cL, 100, .inl f))] H := hP
  have hD : va_D A [(h0, .inr (5, [.int 0, .ref a0, .int (-1), .int 0, .int 0, .ref a1, .ref a2, .ref a3, .int 0, .int 0, .ref a4, .int 0, .ref a5, .int 0, .int 0, .int 0, .int 0, .int 0, .int 0, .ref a6, .int 0, .ref a7, .int 0, .ref a8, .ref a9])), (a1, .inl (cL, 100, .inl f))] := hD
  refine lv_aload_n hx hb d_Mo_step_5 rfl (lv_at hl 0 rfl) ?_
  refine va_get (D := (dC, dI)) (ci := 5) (v := .int 0) (C := R_Mo) (T := F_Mo) (N := 25) hx hb hts in_Mo hown hK hP 0 rfl rfl 3 (by decide) (hts _ w_596) (fun _ h9 => h9) rfl d_Mo_step_6 ?_
  refine lv_if_eq (tgt := 15) hx hb d_Mo_step_9 (by decide) (fun _ => ?_) (fun h => absurd (by decide) h)
  refine lv_iload_n hx hb d_Mo_step_15 rfl (lv_at hl 1 rfl) ?_
  refine lv_iconst (v := 1) hx hb d_Mo_step_16 (by decide) ?_
  refine lv_icmp_ge (tgt := 24) hx hb d_Mo_step_17 (by decide) (fun hlo => ?_) (fun hlo => ?_)
  · skip
    refine lv_iload_n hx hb d_Mo_step_24 rfl (lv_at hl 1 rfl) ?_
    refine lv_bipush (v := 50) hx hb d_Mo_step_25 (by decide) ?_
    refine lv_icmp_le (tgt := 35) hx hb d_Mo_step_27 (by decide) (fun hhi => ?_) (fun hhi => ?_)
    · skip
      refine lv_iload_n hx hb d_Mo_step_35 rfl (lv_at hl 1 rfl) ?_
      refine lv_istore_n (i := 2) hx hb d_Mo_step_36 rfl hl (by decide) rfl (fun ls hl => ?_)
      have hl : lv_has ls 6 [(2, .int x), (0, .ref h0), (1, .int x)] := hl
      refine lv_iconst (v := 0) hx hb d_Mo_step_37 (by decide) ?_
      refine lv_istore_n (i := 3) hx hb d_Mo_step_38 rfl hl (by decide) rfl (fun ls hl => ?_)
      have hl : lv_has ls 6 [(3, .int 0), (2, .int x), (0, .ref h0), (1, .int x)] := hl
      refine lv_iload_n hx hb d_Mo_step_39 rfl (lv_at hl 0 rfl) ?_
      refine lv_iload_n hx hb d_Mo_step_40 rfl (lv_at hl 1 rfl) ?_
      refine lv_icmp_ge (tgt := 113) hx hb d_Mo_step_41 (by decide) (fun h => absurd h (mn1 hlo)) (fun _ => ?_)
      refine lv_aload_n hx hb d_Mo_step_44 rfl (lv_at hl 2 rfl) ?_
      refine go_i (wr := []) (tr := []) (rV (C := "LineDiskModel") (ci := 5) (q0 := 0) (b := h0) (n := 0) (As := []) (rest := []) F hkw (c_Mo_nextLine l dC dI h0 a0 a1 a2 a3 a4 a5 a6 a7 a8 a9 cL f hF H.size) xT_bl (fun _ _ _ => trivial) w_697 w_699 ws_37 w_6 w_700 rfl rfl (by decide +kernel) ⟨Nat.le_of_ble_eq_true rfl, Nat.le_of_ble_eq_true rfl⟩ (hP.sub (ws' := [(h0, .inr (5, [.int 0, .ref a0, .int (-1), .int 0, .int 0, .ref a1, .ref a2, .ref a3, .int 0, .int 0, .ref a4, .int 0, .ref a5, .int 0, .int 0, .int 0, .int 0, .int 0, .int 0, .ref a6, .int 0, .ref a7, .int 0, .ref a8, .ref a9])), (a1, .inl (cL, 100, .inl f))]) [0, 1] rfl) (hD.sub (ws' := [(h0, .inr (5, [.int 0, .ref a0, .int (-1), .int 0, .int 0, .ref a1, .ref a2, .ref a3, .int 0, .int 0, .ref a4, .int 0, .ref a5, .int 0, .int 0, .int 0, .int 0, .int 0, .int 0, .ref a6, .int 0, .ref a7, .int 0, .ref a8, .ref a9])), (a1, .inl (cL, 100, .inl f))]) [0, 1] (by decide) rfl) (hK.sub (tys' := [(cL, .int)]) [0] rfl) rfl rfl rfl rfl hl.1 rfl (Nat.le_of_ble_eq_true rfl) d_Mo_step_45 ⟨by decide, by decide⟩) hP hD hK hS hA [0, 1] [] [] rfl rfl (by decide) (by decide) rfl (fun r u H locs hw hP hD hK hS => ?_)
      have hP : va_P (dC, dI) cls [(h0, .inr (5, [.int 0, .ref a0, .int (-1), .int 0, .int 0, .ref a1, .ref a2, .ref a3, .int 0, .int 0, .ref a4, .int 0, .ref a5, .int 0, .int 0, .int 0, .int 0, .int 0, .int 0, .ref a6, .int 0, .ref a7, .int 0, .ref a8, .ref a9])), (a1, .inl (cL, 100, .inl f))] H := hP
      have hD : va_D A [(h0, .inr (5, [.int 0, .ref a0, .int (-1), .int 0, .int 0, .ref a1, .ref a2, .ref a3, .int 0, .int 0, .ref a4, .int 0, .ref a5, .int 0, .int 0, .int 0, .int 0, .int 0, .int 0, .ref a6, .int 0, .ref a7, .int 0, .ref a8, .ref a9])), (a1, .inl (cL, 100, .inl f))] := hD
      have hK : va_K (dC, dI) cls [(cL, .int)] s := hK
      refine W.widen (k := 0) (n := 0) (by omega) (by omega) ?_
      subst hw
      refine lv_istore hx hb d_Mo_step_48 hl (by decide) rfl (fun ls hl => ?_)
      have hl : lv_has ls 6 [(4, .int (-1)), (3, .int 0), (2, .int x), (0, .ref h0), (1, .int x)] := hl
      refine lv_iload hx hb d_Mo_step_50 (lv_at hl 0 rfl) ?_
      refine lv_iconst (v := (-1)) hx hb d_Mo_step_52 (by decide) ?_
      refine lv_icmp_ne (tgt := 63) hx hb d_Mo_step_53 (by decide) (fun h => absurd (by decide) h) (fun _ => ?_)
      refine lv_aload_n hx hb d_Mo_step_56 rfl (lv_at hl 3 rfl) ?_
      refine lv_iconst (v := 0) hx hb d_Mo_step_57 (by decide) ?_
      refine va_put (D := (dC, dI)) (ci := 5) (v := .int 0) (ty := .int) (C := R_Mo) (T := F_Mo) (N := 25) hx hb hts in_Mo t_Mo t_Mo_ok n_Mo hown hK hP hD hS 0 rfl rfl 8 (by decide) (hts _ w_601) (fun _ h9 => h9) rfl (by decide +kernel) (rfl) (rfl) (Nat.le_of_ble_eq_true rfl) d_Mo_step_58 (fun H locs hP hD hS => ?_)
      have hP : va_P (dC, dI) cls [(h0, .inr (5, [.int 0, .ref a0, .int (-1), .int 0, .int 0, .ref a1, .ref a2, .ref a3, .int 0, .int 0, .ref a4, .int 0, .ref a5, .int 0, .int 0, .int 0, .int 0, .int 0, .int 0, .ref a6, .int 0, .ref a7, .int 0, .ref a8, .ref a9])), (a1, .inl (cL, 100, .inl f))] H := hP
      have hD : va_D A [(h0, .inr (5, [.int 0, .ref a0, .int (-1), .int 0, .int 0, .ref a1, .ref a2, .ref a3, .int 0, .int 0, .ref a4, .int 0, .ref a5, .int 0, .int 0, .int 0, .int 0, .int 0, .int 0, .ref a6, .int 0, .ref a7, .int 0, .ref a8, .ref a9])), (a1, .inl (cL, 100, .inl f))] := hD
      refine lv_iconst (v := 0) hx hb d_Mo_step_61 (by decide) ?_
      refine W.widen (k := 0) (n := 0) (by decide) (by decide) ?_
      exact W.iret (v := 0) hx hb hr (fun t ht hW => ⟨⟨0, (), rfl, rfl, cB.of (hP.sub [] rfl) (hD.sub [] (by decide) rfl) (hK.sub [] rfl) ht hW⟩, hS.F ht⟩) hS.2.2 d_Mo_step_62
    · skip
      refine lv_bipush (v := 50) hx hb d_Mo_step_30 (by decide) ?_
      refine lv_goto (tgt := 36) hx hb d_Mo_step_32 (by decide) ?_
      refine lv_istore_n (i := 2) hx hb d_Mo_step_36 rfl hl (by decide) rfl (fun ls hl => ?_)
      have hl : lv_has ls 6 [(2, .int 50), (0, .ref h0), (1, .int x)] := hl
      refine lv_iconst (v := 0) hx hb d_Mo_step_37 (by decide) ?_
      refine lv_istore_n (i := 3) hx hb d_Mo_step_38 rfl hl (by decide) rfl (fun ls hl => ?_)
      have hl : lv_has ls 6 [(3, .int 0), (2, .int 50), (0, .ref h0), (1, .int x)] := hl
      refine lv_iload_n hx hb d_Mo_step_39 rfl (lv_at hl 0 rfl) ?_
      refine lv_iload_n hx hb d_Mo_step_40 rfl (lv_at hl 1 rfl) ?_
      refine lv_icmp_ge (tgt := 113) hx hb d_Mo_step_41 (by decide) (fun h => absurd h (by decide)) (fun _ => ?_)
      refine lv_aload_n hx hb d_Mo_step_44 rfl (lv_at hl 2 rfl) ?_
      refine go_i (wr := []) (tr := []) (rV (C := "LineDiskModel") (ci := 5) (q0 := 0) (b := h0) (n := 0) (As := []) (rest := []) F hkw (c_Mo_nextLine l dC dI h0 a0 a1 a2 a3 a4 a5 a6 a7 a8 a9 cL f hF H.size) xT_bl (fun _ _ _ => trivial) w_697 w_699 ws_37 w_6 w_700 rfl rfl (by decide +kernel) ⟨Nat.le_of_ble_eq_true rfl, Nat.le_of_ble_eq_true rfl⟩ (hP.sub (ws' := [(h0, .inr (5, [.int 0, .ref a0, .int (-1), .int 0, .int 0, .ref a1, .ref a2, .ref a3, .int 0, .int 0, .ref a4, .int 0, .ref a5, .int 0, .int 0, .int 0, .int 0, .int 0, .int 0, .ref a6, .int 0, .ref a7, .int 0, .ref a8, .ref a9])), (a1, .inl (cL, 100, .inl f))]) [0, 1] rfl) (hD.sub (ws' := [(h0, .inr (5, [.int 0, .ref a0, .int (-1), .int 0, .int 0, .ref a1, .ref a2, .ref a3, .int 0, .int 0, .ref a4, .int 0, .ref a5, .int 0, .int 0, .int 0, .int 0, .int 0, .int 0, .ref a6, .int 0, .ref a7, .int 0, .ref a8, .ref a9])), (a1, .inl (cL, 100, .inl f))]) [0, 1] (by decide) rfl) (hK.sub (tys' := [(cL, .int)]) [0] rfl) rfl rfl rfl rfl hl.1 rfl (Nat.le_of_ble_eq_true rfl) d_Mo_step_45 ⟨by decide, by decide⟩) hP hD hK hS hA [0, 1] [] [] rfl rfl (by decide) (by decide) rfl (fun r u H locs hw hP hD hK hS => ?_)
      have hP : va_P (dC, dI) cls [(h0, .inr (5, [.int 0, .ref a0, .int (-1), .int 0, .int 0, .ref a1, .ref a2, .ref a3, .int 0, .int 0, .ref a4, .int 0, .ref a5, .int 0, .int 0, .int 0, .int 0, .int 0, .int 0, .ref a6, .int 0, .ref a7, .int 0, .ref a8, .ref a9])), (a1, .inl (cL, 100, .inl f))] H := hP
      have hD : va_D A [(h0, .inr (5, [.int 0, .ref a0, .int (-1), .int 0, .int 0, .ref a1, .ref a2, .ref a3, .int 0, .int 0, .ref a4, .int 0, .ref a5, .int 0, .int 0, .int 0, .int 0, .int 0, .int 0, .ref a6, .int 0, .ref a7, .int 0, .ref a8, .ref a9])), (a1, .inl (cL, 100, .inl f))] := hD
      have hK : va_K (dC, dI) cls [(cL, .int)] s := hK
      refine W.widen (k := 0) (n := 0) (by omega) (by omega) ?_
      subst hw
      refine lv_istore hx hb d_Mo_step_48 hl (by decide) rfl (fun ls hl => ?_)
      have hl : lv_has ls 6 [(4, .int (-1)), (3, .int 0), (2, .int 50), (0, .ref h0), (1, .int x)] := hl
      refine lv_iload hx hb d_Mo_step_50 (lv_at hl 0 rfl) ?_
      refine lv_iconst (v := (-1)) hx hb d_Mo_step_52 (by decide) ?_
      refine lv_icmp_ne (tgt := 63) hx hb d_Mo_step_53 (by decide) (fun h => absurd (by decide) h) (fun _ => ?_)
      refine lv_aload_n hx hb d_Mo_step_56 rfl (lv_at hl 3 rfl) ?_
      refine lv_iconst (v := 0) hx hb d_Mo_step_57 (by decide) ?_
      refine va_put (D := (dC, dI)) (ci := 5) (v := .int 0) (ty := .int) (C := R_Mo) (T := F_Mo) (N := 25) hx hb hts in_Mo t_Mo t_Mo_ok n_Mo hown hK hP hD hS 0 rfl rfl 8 (by decide) (hts _ w_601) (fun _ h9 => h9) rfl (by decide +kernel) (rfl) (rfl) (Nat.le_of_ble_eq_true rfl) d_Mo_step_58 (fun H locs hP hD hS => ?_)
      have hP : va_P (dC, dI) cls [(h0, .inr (5, [.int 0, .ref a0, .int (-1), .int 0, .int 0, .ref a1, .ref a2, .ref a3, .int 0, .int 0, .ref a4, .int 0, .ref a5, .int 0, .int 0, .int 0, .int 0, .int 0, .int 0, .ref a6, .int 0, .ref a7, .int 0, .ref a8, .ref a9])), (a1, .inl (cL, 100, .inl f))] H := hP
      have hD : va_D A [(h0, .inr (5, [.int 0, .ref a0, .int (-1), .int 0, .int 0, .ref a1, .ref a2, .ref a3, .int 0, .int 0, .ref a4, .int 0, .ref a5, .int 0, .int 0, .int 0, .int 0, .int 0, .int 0, .ref a6, .int 0, .ref a7, .int 0, .ref a8, .ref a9])), (a1, .inl (cL, 100, .inl f))] := hD
      refine lv_iconst (v := 0) hx hb d_Mo_step_61 (by decide) ?_
      refine W.widen (k := 0) (n := 0) (by decide) (by decide) ?_
      exact W.iret (v := 0) hx hb hr (fun t ht hW => ⟨⟨0, (), rfl, rfl, cB.of (hP.sub [] rfl) (hD.sub [] (by decide) rfl) (hK.sub [] rfl) ht hW⟩, hS.F ht⟩) hS.2.2 d_Mo_step_62
  · skip
    refine lv_iconst (v := 1) hx hb d_Mo_step_20 (by decide) ?_
    refine lv_goto (tgt := 36) hx hb d_Mo_step_21 (by decide) ?_
    refine lv_istore_n (i := 2) hx hb d_Mo_step_36 rfl hl (by decide) rfl (fun ls hl => ?_)
    have hl : lv_has ls 6 [(2, .int 1), (0, .ref h0), (1, .int x)] := hl
    refine lv_iconst (v := 0) hx hb d_Mo_step_37 (by decide) ?_
    refine lv_istore_n (i := 3) hx hb d_Mo_step_38 rfl hl (by decide) rfl (fun ls hl => ?_)
    have hl : lv_has ls 6 [(3, .int 0), (2, .int 1), (0, .ref h0), (1, .int x)] := hl
    refine lv_iload_n hx hb d_Mo_step_39 rfl (lv_at hl 0 rfl) ?_
    refine lv_iload_n hx hb d_Mo_step_40 rfl (lv_at hl 1 rfl) ?_
    refine lv_icmp_ge (tgt := 113) hx hb d_Mo_step_41 (by decide) (fun h => absurd h (by decide)) (fun _ => ?_)
    refine lv_aload_n hx hb d_Mo_step_44 rfl (lv_at hl 2 rfl) ?_
    refine go_i (wr := []) (tr := []) (rV (C := "LineDiskModel") (ci := 5) (q0 := 0) (b := h0) (n := 0) (As := []) (rest := []) F hkw (c_Mo_nextLine l dC dI h0 a0 a1 a2 a3 a4 a5 a6 a7 a8 a9 cL f hF H.size) xT_bl (fun _ _ _ => trivial) w_697 w_699 ws_37 w_6 w_700 rfl rfl (by decide +kernel) ⟨Nat.le_of_ble_eq_true rfl, Nat.le_of_ble_eq_true rfl⟩ (hP.sub (ws' := [(h0, .inr (5, [.int 0, .ref a0, .int (-1), .int 0, .int 0, .ref a1, .ref a2, .ref a3, .int 0, .int 0, .ref a4, .int 0, .ref a5, .int 0, .int 0, .int 0, .int 0, .int 0, .int 0, .ref a6, .int 0, .ref a7, .int 0, .ref a8, .ref a9])), (a1, .inl (cL, 100, .inl f))]) [0, 1] rfl) (hD.sub (ws' := [(h0, .inr (5, [.int 0, .ref a0, .int (-1), .int 0, .int 0, .ref a1, .ref a2, .ref a3, .int 0, .int 0, .ref a4, .int 0, .ref a5, .int 0, .int 0, .int 0, .int 0, .int 0, .int 0, .ref a6, .int 0, .ref a7, .int 0, .ref a8, .ref a9])), (a1, .inl (cL, 100, .inl f))]) [0, 1] (by decide) rfl) (hK.sub (tys' := [(cL, .int)]) [0] rfl) rfl rfl rfl rfl hl.1 rfl (Nat.le_of_ble_eq_true rfl) d_Mo_step_45 ⟨by decide, by decide⟩) hP hD hK hS hA [0, 1] [] [] rfl rfl (by decide) (by decide) rfl (fun r u H locs hw hP hD hK hS => ?_)
    have hP : va_P (dC, dI) cls [(h0, .inr (5, [.int 0, .ref a0, .int (-1), .int 0, .int 0, .ref a1, .ref a2, .ref a3, .int 0, .int 0, .ref a4, .int 0, .ref a5, .int 0, .int 0, .int 0, .int 0, .int 0, .int 0, .ref a6, .int 0, .ref a7, .int 0, .ref a8, .ref a9])), (a1, .inl (cL, 100, .inl f))] H := hP
    have hD : va_D A [(h0, .inr (5, [.int 0, .ref a0, .int (-1), .int 0, .int 0, .ref a1, .ref a2, .ref a3, .int 0, .int 0, .ref a4, .int 0, .ref a5, .int 0, .int 0, .int 0, .int 0, .int 0, .int 0, .ref a6, .int 0, .ref a7, .int 0, .ref a8, .ref a9])), (a1, .inl (cL, 100, .inl f))] := hD
    have hK : va_K (dC, dI) cls [(cL, .int)] s := hK
    refine W.widen (k := 0) (n := 0) (by omega) (by omega) ?_
    subst hw
    refine lv_istore hx hb d_Mo_step_48 hl (by decide) rfl (fun ls hl => ?_)
    have hl : lv_has ls 6 [(4, .int (-1)), (3, .int 0), (2, .int 1), (0, .ref h0), (1, .int x)] := hl
    refine lv_iload hx hb d_Mo_step_50 (lv_at hl 0 rfl) ?_
    refine lv_iconst (v := (-1)) hx hb d_Mo_step_52 (by decide) ?_
    refine lv_icmp_ne (tgt := 63) hx hb d_Mo_step_53 (by decide) (fun h => absurd (by decide) h) (fun _ => ?_)
    refine lv_aload_n hx hb d_Mo_step_56 rfl (lv_at hl 3 rfl) ?_
    refine lv_iconst (v := 0) hx hb d_Mo_step_57 (by decide) ?_
    refine va_put (D := (dC, dI)) (ci := 5) (v := .int 0) (ty := .int) (C := R_Mo) (T := F_Mo) (N := 25) hx hb hts in_Mo t_Mo t_Mo_ok n_Mo hown hK hP hD hS 0 rfl rfl 8 (by decide) (hts _ w_601) (fun _ h9 => h9) rfl (by decide +kernel) (rfl) (rfl) (Nat.le_of_ble_eq_true rfl) d_Mo_step_58 (fun H locs hP hD hS => ?_)
    have hP : va_P (dC, dI) cls [(h0, .inr (5, [.int 0, .ref a0, .int (-1), .int 0, .int 0, .ref a1, .ref a2, .ref a3, .int 0, .int 0, .ref a4, .int 0, .ref a5, .int 0, .int 0, .int 0, .int 0, .int 0, .int 0, .ref a6, .int 0, .ref a7, .int 0, .ref a8, .ref a9])), (a1, .inl (cL, 100, .inl f))] H := hP
    have hD : va_D A [(h0, .inr (5, [.int 0, .ref a0, .int (-1), .int 0, .int 0, .ref a1, .ref a2, .ref a3, .int 0, .int 0, .ref a4, .int 0, .ref a5, .int 0, .int 0, .int 0, .int 0, .int 0, .int 0, .ref a6, .int 0, .ref a7, .int 0, .ref a8, .ref a9])), (a1, .inl (cL, 100, .inl f))] := hD
    refine lv_iconst (v := 0) hx hb d_Mo_step_61 (by decide) ?_
    refine W.widen (k := 0) (n := 0) (by decide) (by decide) ?_
    exact W.iret (v := 0) hx hb hr (fun t ht hW => ⟨⟨0, (), rfl, rfl, cB.of (hP.sub [] rfl) (hD.sub [] (by decide) rfl) (hK.sub [] rfl) ht hW⟩, hS.F ht⟩) hS.2.2 d_Mo_step_62
set_option maxHeartbeats 4000000 in
set_option maxRecDepth 100000 in
theorem c_Mo_about (l : Launch) (dC : Nat → ClassId) (dI : Nat → Nat → Nat) (h0 a0 a1 a2 a3 a4 a5 a6 a7 a8 a9 : Nat) (x : Int32) (cL : ClassId) (f : Nat → Int32) (hF : ∀ i, i < 100 → f i = -1) (cV : ClassId) (g : Nat → Int32) (hG : ∀ i, i < 8 → g i = 0) (sz : Nat) : Met l y_Mo_about (Cond.code y_Mo_about b_Mo_about 3 (some .int) :: gw) ({ frames := 1, cells := 0, slots := 0, locals := 22 }) (cP (dC, dI) [.ref h0, .int x] sz [(h0, .inr (5, [.int 0, .ref a0, .int (-1), .int 0, .int 0, .ref a1, .ref a2, .ref a3, .int 0, .int 0, .ref a4, .int 0, .ref a5, .int 0, .int 0, .int 0, .int 0, .int 0, .int 0, .ref a6, .int 0, .ref a7, .int 0, .ref a8, .ref a9])), (a1, .inl (cL, 100, .inl f)), (a3, .inl (cV, 8, .inl g))] [(cL, .int), (cV, .int)] xT) (va_Qi (fun (r : Int32) (u : Unit) => (x < 0 ∨ 11 < x → r = -1) ∧ (¬ (x < 0 ∨ 11 < x) → r = 0)) (fun (u : Unit) t => cB (dC, dI) (va_A [(h0, .inr (5, [.int 0, .ref a0, .int (-1), .int 0, .int 0, .ref a1, .ref a2, .ref a3, .int 0, .int 0, .ref a4, .int 0, .ref a5, .int 0, .int 0, .int 0, .int 0, .int 0, .int 0, .ref a6, .int 0, .ref a7, .int 0, .ref a8, .ref a9])), (a1, .inl (cL, 100, .inl f)), (a3, .inl (cV, 8, .inl g))] sz) [] [] t) (va_A [(h0, .inr (5, [.int 0, .ref a0, .int (-1), .int 0, .int 0, .ref a1, .ref a2, .ref a3, .int 0, .int 0, .ref a4, .int 0, .ref a5, .int 0, .int 0, .int 0, .int 0, .int 0, .int 0, .ref a6, .int 0, .ref a7, .int 0, .ref a8, .ref a9])), (a1, .inl (cL, 100, .inl f)), (a3, .inl (cV, 8, .inl g))] sz)) 0 0 (va_A [(h0, .inr (5, [.int 0, .ref a0, .int (-1), .int 0, .int 0, .ref a1, .ref a2, .ref a3, .int 0, .int 0, .ref a4, .int 0, .ref a5, .int 0, .int 0, .int 0, .int 0, .int 0, .int 0, .ref a6, .int 0, .ref a7, .int 0, .ref a8, .ref a9])), (a1, .inl (cL, 100, .inl f)), (a3, .inl (cV, 8, .inl g))] sz) := by
  refine Met.ofW (cc := b_Mo_about) (maxL := 3) (ret := (some .int)) (by decide) rfl ?_
  intro p e s m args below meth c s₁ B hml hv
  obtain ⟨rfl, hsz, hP, hK, hD0, hkw, hX⟩ := hv
  have hx := B.exec
  have hb := B.bytes
  have hr := B.returns
  have hts := fun w hw => atoms_spec (ws := Cond.code y_Mo_about b_Mo_about 3 (some .int) :: gw) B.pre w (List.mem_cons_of_mem _ hw)
  have hown : s.vm.findClass "LineDiskModel" = some m.cls := findClass_of_methodNamed B.named
  have hlocks := B.notSynchronized
  have hin := (name_of_methodNamed B.named B.method).1
  subst hsz
  have hD := hD0.self (sz := s.heap.size)
  generalize hAe : va_A [(h0, .inr (5, [.int 0, .ref a0, .int (-1), .int 0, .int 0, .ref a1, .ref a2, .ref a3, .int 0, .int 0, .ref a4, .int 0, .ref a5, .int 0, .int 0, .int 0, .int 0, .int 0, .int 0, .ref a6, .int 0, .ref a7, .int 0, .ref a8, .ref a9])), (a1, .inl (cL, 100, .inl f)), (a3, .inl (cV, 8, .inl g))] s.heap.size = A at hD ⊢
  have hA : ∀ q : Nat, s.heap.size ≤ q → A q := fun q h => by rw [← hAe]; exact Or.inr h
  have hS : va_S A s.heap s.heap [] := va_S.rf
  have hl := lv_entry ([.ref h0, .int x]) (n := 3) (Nat.le_of_ble_eq_true rfl)
  rw [lg_entry_eq]
  generalize (lg_sl ([.ref h0, .int x]) ++ List.replicate (3 - (lg_sl ([.ref h0, .int x])).length) Slot.unset).toArray = ls at hl ⊢
  have hl : lv_has ls 3 [(0, .ref h0), (1, .int x)] := hl
  have F : CallFix p m c b_Mo_about 3 s ([.ref h0, .int x]).toArray gw "LineDiskModel" := ⟨hx, hb, hml, hown, hts⟩
  refine lv_aload_n hx hb d_Mo_about_0 rfl (lv_at hl 0 rfl) ?_
  refine lv_iconst (v := 0) hx hb d_Mo_about_1 (by decide) ?_
  refine va_put (D := (dC, dI)) (ci := 5) (v := .int 0) (ty := .int) (C := R_Mo) (T := F_Mo) (N := 25) hx hb hts in_Mo t_Mo t_Mo_ok n_Mo hown hK hP hD hS 0 rfl rfl 0 (by decide) (hts _ w_593) (fun _ h9 => h9) rfl (by decide +kernel) (rfl) (rfl) (Nat.le_of_ble_eq_true rfl) d_Mo_about_2 (fun H locs hP hD hS => ?_)
  have hP : va_P (dC, dI) cls [(h0, .inr (5, [.int 0, .ref a0, .int (-1), .int 0, .int 0, .ref a1, .ref a2, .ref a3, .int 0, .int 0, .ref a4, .int 0, .ref a5, .int 0, .int 0, .int 0, .int 0, .int 0, .int 0, .ref a6, .int 0, .ref a7, .int 0, .ref a8, .ref a9])), (a1, .inl (cL, 100, .inl f)), (a3, .inl (cV, 8, .inl g))] H := hP
  have hD : va_D A [(h0, .inr (5, [.int 0, .ref a0, .int (-1), .int 0, .int 0, .ref a1, .ref a2, .ref a3, .int 0, .int 0, .ref a4, .int 0, .ref a5, .int 0, .int 0, .int 0, .int 0, .int 0, .int 0, .ref a6, .int 0, .ref a7, .int 0, .ref a8, .ref a9])), (a1, .inl (cL, 100, .inl f)), (a3, .inl (cV, 8, .inl g))] := hD
  refine lv_iload_n hx hb d_Mo_about_5 rfl (lv_at hl 1 rfl) ?_
  refine lv_if_lt (tgt := 15) hx hb d_Mo_about_6 (by decide) (fun hneg => ?_) (fun hneg => ?_)
  · skip
    refine lv_iconst (v := (-1)) hx hb d_Mo_about_15 (by decide) ?_
    refine W.widen (k := 0) (n := 0) (by decide) (by decide) ?_
    exact W.iret (v := (-1)) hx hb hr (fun t ht hW => ⟨⟨(-1), (), rfl, ⟨fun _ => rfl, fun h => absurd (Or.inl hneg) h⟩, cB.of (hP.sub [] rfl) (hD.sub [] (by decide) rfl) (hK.sub [] rfl) ht hW⟩, hS.F ht⟩) hS.2.2 d_Mo_about_16
  · skip
    refine lv_iload_n hx hb d_Mo_about_9 rfl (lv_at hl 1 rfl) ?_
    refine lv_bipush (v := 11) hx hb d_Mo_about_10 (by decide) ?_
    refine lv_icmp_le (tgt := 17) hx hb d_Mo_about_12 (by decide) (fun hle => ?_) (fun hle => ?_)
    · skip
      refine lv_iload_n hx hb d_Mo_about_17 rfl (lv_at hl 1 rfl) ?_
      refine lv_bipush (v := 11) hx hb d_Mo_about_18 (by decide) ?_
      refine lv_icmp_ne (tgt := 28) hx hb d_Mo_about_20 (by decide) (fun h11 => ?_) (fun h11 => ?_)
      · skip
        refine lv_aload_n hx hb d_Mo_about_28 rfl (lv_at hl 0 rfl) ?_
        refine va_get (D := (dC, dI)) (ci := 5) (v := .int 0) (C := R_Mo) (T := F_Mo) (N := 25) hx hb hts in_Mo hown hK hP 0 rfl rfl 3 (by decide) (hts _ w_596) (fun _ h9 => h9) rfl d_Mo_about_29 ?_
        refine lv_if_eq (tgt := 38) hx hb d_Mo_about_32 (by decide) (fun _ => ?_) (fun h => absurd (by decide) h)
        refine lv_aload_n hx hb d_Mo_about_38 rfl (lv_at hl 0 rfl) ?_
        refine go_i (wr := [(a3, .inl (cV, 8, .inl g))]) (tr := [(cV, .int)]) (rV (C := "LineDiskModel") (ci := 5) (q0 := 0) (b := h0) (n := 0) (As := []) (rest := []) F hkw (c_Mo_nextLine l dC dI h0 a0 a1 a2 a3 a4 a5 a6 a7 a8 a9 cL f hF H.size) xT_bl (fun _ _ _ => trivial) w_697 w_699 ws_37 w_6 w_700 rfl rfl (by decide +kernel) ⟨Nat.le_of_ble_eq_true rfl, Nat.le_of_ble_eq_true rfl⟩ (hP.sub (ws' := [(h0, .inr (5, [.int 0, .ref a0, .int (-1), .int 0, .int 0, .ref a1, .ref a2, .ref a3, .int 0, .int 0, .ref a4, .int 0, .ref a5, .int 0, .int 0, .int 0, .int 0, .int 0, .int 0, .ref a6, .int 0, .ref a7, .int 0, .ref a8, .ref a9])), (a1, .inl (cL, 100, .inl f))]) [0, 1] rfl) (hD.sub (ws' := [(h0, .inr (5, [.int 0, .ref a0, .int (-1), .int 0, .int 0, .ref a1, .ref a2, .ref a3, .int 0, .int 0, .ref a4, .int 0, .ref a5, .int 0, .int 0, .int 0, .int 0, .int 0, .int 0, .ref a6, .int 0, .ref a7, .int 0, .ref a8, .ref a9])), (a1, .inl (cL, 100, .inl f))]) [0, 1] (by decide) rfl) (hK.sub (tys' := [(cL, .int)]) [0] rfl) rfl rfl rfl rfl hl.1 rfl (Nat.le_of_ble_eq_true rfl) d_Mo_about_39 ⟨by decide, by decide⟩) hP hD hK hS hA [0, 1] [2] [1] rfl rfl (by decide) (by decide) rfl (fun r u H locs hw hP hD hK hS => ?_)
        have hP : va_P (dC, dI) cls [(a3, .inl (cV, 8, .inl g)), (h0, .inr (5, [.int 0, .ref a0, .int (-1), .int 0, .int 0, .ref a1, .ref a2, .ref a3, .int 0, .int 0, .ref a4, .int 0, .ref a5, .int 0, .int 0, .int 0, .int 0, .int 0, .int 0, .ref a6, .int 0, .ref a7, .int 0, .ref a8, .ref a9])), (a1, .inl (cL, 100, .inl f))] H := hP
        have hD : va_D A [(a3, .inl (cV, 8, .inl g)), (h0, .inr (5, [.int 0, .ref a0, .int (-1), .int 0, .int 0, .ref a1, .ref a2, .ref a3, .int 0, .int 0, .ref a4, .int 0, .ref a5, .int 0, .int 0, .int 0, .int 0, .int 0, .int 0, .ref a6, .int 0, .ref a7, .int 0, .ref a8, .ref a9])), (a1, .inl (cL, 100, .inl f))] := hD
        have hK : va_K (dC, dI) cls [(cV, .int), (cL, .int)] s := hK
        refine W.widen (k := 0) (n := 0) (by omega) (by omega) ?_
        subst hw
        refine lv_istore_n (i := 2) hx hb d_Mo_about_42 rfl hl (by decide) rfl (fun ls hl => ?_)
        have hl : lv_has ls 3 [(2, .int (-1)), (0, .ref h0), (1, .int x)] := hl
        refine lv_iload_n hx hb d_Mo_about_43 rfl (lv_at hl 2 rfl) ?_
        refine lv_if_ne (tgt := 54) hx hb d_Mo_about_44 (by decide) (fun hz0 => ?_) (fun hz0 => ?_)
        · skip
          refine lv_iload_n hx hb d_Mo_about_54 rfl (lv_at hl 2 rfl) ?_
          refine lv_bipush (v := 9) hx hb d_Mo_about_55 (by decide) ?_
          refine lv_icmp_ge (tgt := 71) hx hb d_Mo_about_57 (by decide) (fun h9 => ?_) (fun h9 => ?_)
          · skip
            refine lv_iload_n hx hb d_Mo_about_71 rfl (lv_at hl 2 rfl) ?_
            refine lv_bipush (v := 10) hx hb d_Mo_about_72 (by decide) ?_
            refine lv_icmp_ne (tgt := 84) hx hb d_Mo_about_74 (by decide) (fun h10 => ?_) (fun h10 => ?_)
            · skip
              refine lv_iload_n hx hb d_Mo_about_84 rfl (lv_at hl 0 rfl) ?_
              refine lv_iconst (v := (-1)) hx hb d_Mo_about_85 (by decide) ?_
              refine lv_icmp_ne (tgt := 93) hx hb d_Mo_about_86 (by decide) (fun h => absurd (by decide) h) (fun _ => ?_)
              refine lv_iconst (v := 0) hx hb d_Mo_about_89 (by decide) ?_
              refine lv_goto (tgt := 94) hx hb d_Mo_about_90 (by decide) ?_
              refine W.widen (k := 0) (n := 0) (by decide) (by decide) ?_
              exact W.iret (v := 0) hx hb hr (fun t ht hW => ⟨⟨0, (), rfl, ⟨fun h => absurd h (am1 hneg hle), fun _ => rfl⟩, cB.of (hP.sub [] rfl) (hD.sub [] (by decide) rfl) (hK.sub [] rfl) ht hW⟩, hS.F ht⟩) hS.2.2 d_Mo_about_94
            · skip
              refine lv_aload_n hx hb d_Mo_about_77 rfl (lv_at hl 1 rfl) ?_
              refine va_get (D := (dC, dI)) (ci := 5) (v := .int 0) (C := R_Mo) (T := F_Mo) (N := 25) hx hb hts in_Mo hown hK hP 1 rfl rfl 11 (by decide) (hts _ w_604) (fun _ h9 => h9) rfl d_Mo_about_78 ?_
              refine lv_goto (tgt := 94) hx hb d_Mo_about_81 (by decide) ?_
              refine W.widen (k := 0) (n := 0) (by decide) (by decide) ?_
              exact W.iret (v := 0) hx hb hr (fun t ht hW => ⟨⟨0, (), rfl, ⟨fun h => absurd h (am1 hneg hle), fun _ => rfl⟩, cB.of (hP.sub [] rfl) (hD.sub [] (by decide) rfl) (hK.sub [] rfl) ht hW⟩, hS.F ht⟩) hS.2.2 d_Mo_about_94
          · skip
            refine lv_aload_n hx hb d_Mo_about_60 rfl (lv_at hl 1 rfl) ?_
            refine va_get (D := (dC, dI)) (ci := 5) (v := .ref a3) (C := R_Mo) (T := F_Mo) (N := 25) hx hb hts in_Mo hown hK hP 1 rfl rfl 7 (by decide) (hts _ w_600) (fun _ h9 => h9) rfl d_Mo_about_61 ?_
            refine lv_iload_n hx hb d_Mo_about_64 rfl (lv_at hl 2 rfl) ?_
            refine lv_iconst (v := 1) hx hb d_Mo_about_65 (by decide) ?_
            refine lv_isub hx hb d_Mo_about_66 ?_
            refine va_iald hx hb hK hP 0 0 rfl rfl (am2 hneg hz0 h9) d_Mo_about_67 ?_
            refine tv (x2 := 0) (by exact am3 hG (am2 hneg hz0 h9)) ?_
            refine lv_goto (tgt := 94) hx hb d_Mo_about_68 (by decide) ?_
            refine W.widen (k := 0) (n := 0) (by decide) (by decide) ?_
            exact W.iret (v := 0) hx hb hr (fun t ht hW => ⟨⟨0, (), rfl, ⟨fun h => absurd h (am1 hneg hle), fun _ => rfl⟩, cB.of (hP.sub [] rfl) (hD.sub [] (by decide) rfl) (hK.sub [] rfl) ht hW⟩, hS.F ht⟩) hS.2.2 d_Mo_about_94
        · skip
          refine lv_aload_n hx hb d_Mo_about_47 rfl (lv_at hl 1 rfl) ?_
          refine go_i (wr := [(a3, .inl (cV, 8, .inl g))]) (tr := [(cV, .int)]) (rV (C := "LineDiskModel") (ci := 5) (q0 := 0) (b := h0) (n := 0) (As := []) (rest := []) F hkw (c_Mo_lines l dC dI h0 a0 a1 a2 a3 a4 a5 a6 a7 a8 a9 cL f hF H.size) xT_bl (fun _ _ _ => trivial) w_801 w_803 ws_59 w_6 w_804 rfl rfl (by decide +kernel) ⟨Nat.le_of_ble_eq_true rfl, Nat.le_of_ble_eq_true rfl⟩ (hP.sub (ws' := [(h0, .inr (5, [.int 0, .ref a0, .int (-1), .int 0, .int 0, .ref a1, .ref a2, .ref a3, .int 0, .int 0, .ref a4, .int 0, .ref a5, .int 0, .int 0, .int 0, .int 0, .int 0, .int 0, .ref a6, .int 0, .ref a7, .int 0, .ref a8, .ref a9])), (a1, .inl (cL, 100, .inl f))]) [1, 2] rfl) (hD.sub (ws' := [(h0, .inr (5, [.int 0, .ref a0, .int (-1), .int 0, .int 0, .ref a1, .ref a2, .ref a3, .int 0, .int 0, .ref a4, .int 0, .ref a5, .int 0, .int 0, .int 0, .int 0, .int 0, .int 0, .ref a6, .int 0, .ref a7, .int 0, .ref a8, .ref a9])), (a1, .inl (cL, 100, .inl f))]) [1, 2] (by decide) rfl) (hK.sub (tys' := [(cL, .int)]) [1] rfl) rfl rfl rfl rfl hl.1 rfl (Nat.le_of_ble_eq_true rfl) d_Mo_about_48 ⟨by decide, by decide⟩) hP hD hK hS hA [1, 2] [0] [0] rfl rfl (by decide) (by decide) rfl (fun r u H locs hw hP hD hK hS => ?_)
          have hP : va_P (dC, dI) cls [(a3, .inl (cV, 8, .inl g)), (h0, .inr (5, [.int 0, .ref a0, .int (-1), .int 0, .int 0, .ref a1, .ref a2, .ref a3, .int 0, .int 0, .ref a4, .int 0, .ref a5, .int 0, .int 0, .int 0, .int 0, .int 0, .int 0, .ref a6, .int 0, .ref a7, .int 0, .ref a8, .ref a9])), (a1, .inl (cL, 100, .inl f))] H := hP
          have hD : va_D A [(a3, .inl (cV, 8, .inl g)), (h0, .inr (5, [.int 0, .ref a0, .int (-1), .int 0, .int 0, .ref a1, .ref a2, .ref a3, .int 0, .int 0, .ref a4, .int 0, .ref a5, .int 0, .int 0, .int 0, .int 0, .int 0, .int 0, .ref a6, .int 0, .ref a7, .int 0, .ref a8, .ref a9])), (a1, .inl (cL, 100, .inl f))] := hD
          have hK : va_K (dC, dI) cls [(cV, .int), (cL, .int)] s := hK
          refine W.widen (k := 0) (n := 0) (by omega) (by omega) ?_
          subst hw
          refine lv_goto (tgt := 94) hx hb d_Mo_about_51 (by decide) ?_
          refine W.widen (k := 0) (n := 0) (by decide) (by decide) ?_
          exact W.iret (v := 0) hx hb hr (fun t ht hW => ⟨⟨0, (), rfl, ⟨fun h => absurd h (am1 hneg hle), fun _ => rfl⟩, cB.of (hP.sub [] rfl) (hD.sub [] (by decide) rfl) (hK.sub [] rfl) ht hW⟩, hS.F ht⟩) hS.2.2 d_Mo_about_94
      · skip
        refine lv_aload_n hx hb d_Mo_about_23 rfl (lv_at hl 0 rfl) ?_
        refine va_get (D := (dC, dI)) (ci := 5) (v := .int 0) (C := R_Mo) (T := F_Mo) (N := 25) hx hb hts in_Mo hown hK hP 0 rfl rfl 4 (by decide) (hts _ w_597) (fun _ h9 => h9) rfl d_Mo_about_24 ?_
        refine W.widen (k := 0) (n := 0) (by decide) (by decide) ?_
        exact W.iret (v := 0) hx hb hr (fun t ht hW => ⟨⟨0, (), rfl, ⟨fun h => absurd h (am1 hneg hle), fun _ => rfl⟩, cB.of (hP.sub [] rfl) (hD.sub [] (by decide) rfl) (hK.sub [] rfl) ht hW⟩, hS.F ht⟩) hS.2.2 d_Mo_about_27
    · skip
      refine lv_iconst (v := (-1)) hx hb d_Mo_about_15 (by decide) ?_
      refine W.widen (k := 0) (n := 0) (by decide) (by decide) ?_
      exact W.iret (v := (-1)) hx hb hr (fun t ht hW => ⟨⟨(-1), (), rfl, ⟨fun _ => rfl, fun h => absurd (Or.inr (Int32.not_le.mp hle)) h⟩, cB.of (hP.sub [] rfl) (hD.sub [] (by decide) rfl) (hK.sub [] rfl) ht hW⟩, hS.F ht⟩) hS.2.2 d_Mo_about_16
set_option maxHeartbeats 4000000 in
set_option maxRecDepth 100000 in
theorem c_Mo_recover (l : Launch) (dC : Nat → ClassId) (dI : Nat → Nat → Nat) (h0 a0 a1 a2 a3 a4 a5 a6 a7 a8 a9 : Nat) (cA cL cV : ClassId) (f g : Nat → Int32) (sz : Nat) : Met l y_Mo_recover (Cond.code y_Mo_recover b_Mo_recover 6 (some .int) :: gw) ({ frames := 1, cells := 0, slots := 0, locals := 21 }) (cP (dC, dI) [.ref h0] sz [(h0, .inr (5, [.int 0, .ref a0, .int (-1), .int 0, .int 0, .ref a1, .ref a2, .ref a3, .int 0, .int 0, .ref a4, .int 0, .ref a5, .int 0, .int 0, .int 0, .int 0, .int 0, .int 0, .ref a6, .int 0, .ref a7, .int 0, .ref a8, .ref a9])), (a0, .inl (cA, 512, .inl (fun _ => 0))), (a1, .inl (cL, 100, .inl f)), (a3, .inl (cV, 8, .inl g))] [(cA, .int), (cL, .int), (cV, .int)] xT) (va_Qi (fun (r : Int32) (u : Unit) => r = 8) (fun (u : Unit) t => cB (dC, dI) (va_A [(h0, .inr (5, [.int 0, .ref a0, .int (-1), .int 0, .int 0, .ref a1, .ref a2, .ref a3, .int 0, .int 0, .ref a4, .int 0, .ref a5, .int 0, .int 0, .int 0, .int 0, .int 0, .int 0, .ref a6, .int 0, .ref a7, .int 0, .ref a8, .ref a9])), (a0, .inl (cA, 512, .inl (fun _ => 0))), (a1, .inl (cL, 100, .inl f)), (a3, .inl (cV, 8, .inl g))] sz) [] [] t) (va_A [(h0, .inr (5, [.int 0, .ref a0, .int (-1), .int 0, .int 0, .ref a1, .ref a2, .ref a3, .int 0, .int 0, .ref a4, .int 0, .ref a5, .int 0, .int 0, .int 0, .int 0, .int 0, .int 0, .ref a6, .int 0, .ref a7, .int 0, .ref a8, .ref a9])), (a0, .inl (cA, 512, .inl (fun _ => 0))), (a1, .inl (cL, 100, .inl f)), (a3, .inl (cV, 8, .inl g))] sz)) 0 0 (va_A [(h0, .inr (5, [.int 0, .ref a0, .int (-1), .int 0, .int 0, .ref a1, .ref a2, .ref a3, .int 0, .int 0, .ref a4, .int 0, .ref a5, .int 0, .int 0, .int 0, .int 0, .int 0, .int 0, .ref a6, .int 0, .ref a7, .int 0, .ref a8, .ref a9])), (a0, .inl (cA, 512, .inl (fun _ => 0))), (a1, .inl (cL, 100, .inl f)), (a3, .inl (cV, 8, .inl g))] sz) := by
  refine Met.ofW (cc := b_Mo_recover) (maxL := 6) (ret := (some .int)) (by decide) rfl ?_
  intro p e s m args below meth c s₁ B hml hv
  obtain ⟨rfl, hsz, hP, hK, hD0, hkw, hX⟩ := hv
  have hx := B.exec
  have hb := B.bytes
  have hr := B.returns
  have hts := fun w hw => atoms_spec (ws := Cond.code y_Mo_recover b_Mo_recover 6 (some .int) :: gw) B.pre w (List.mem_cons_of_mem _ hw)
  have hown : s.vm.findClass "LineDiskModel" = some m.cls := findClass_of_methodNamed B.named
  have hlocks := B.notSynchronized
  have hin := (name_of_methodNamed B.named B.method).1
  subst hsz
  have hD := hD0.self (sz := s.heap.size)
  generalize hAe : va_A [(h0, .inr (5, [.int 0, .ref a0, .int (-1), .int 0, .int 0, .ref a1, .ref a2, .ref a3, .int 0, .int 0, .ref a4, .int 0, .ref a5, .int 0, .int 0, .int 0, .int 0, .int 0, .int 0, .ref a6, .int 0, .ref a7, .int 0, .ref a8, .ref a9])), (a0, .inl (cA, 512, .inl (fun _ => 0))), (a1, .inl (cL, 100, .inl f)), (a3, .inl (cV, 8, .inl g))] s.heap.size = A at hD ⊢
  have hA : ∀ q : Nat, s.heap.size ≤ q → A q := fun q h => by rw [← hAe]; exact Or.inr h
  have hS : va_S A s.heap s.heap [] := va_S.rf
  have hl := lv_entry ([.ref h0]) (n := 6) (Nat.le_of_ble_eq_true rfl)
  rw [lg_entry_eq]
  generalize (lg_sl ([.ref h0]) ++ List.replicate (6 - (lg_sl ([.ref h0])).length) Slot.unset).toArray = ls at hl ⊢
  have hl : lv_has ls 6 [(0, .ref h0)] := hl
  have F : CallFix p m c b_Mo_recover 6 s ([.ref h0]).toArray gw "LineDiskModel" := ⟨hx, hb, hml, hown, hts⟩
  refine lv_aload_n hx hb d_Mo_recover_0 rfl (lv_at hl 0 rfl) ?_
  refine lv_iconst (v := 0) hx hb d_Mo_recover_1 (by decide) ?_
  refine va_put (D := (dC, dI)) (ci := 5) (v := .int 0) (ty := .int) (C := R_Mo) (T := F_Mo) (N := 25) hx hb hts in_Mo t_Mo t_Mo_ok n_Mo hown hK hP hD hS 0 rfl rfl 0 (by decide) (hts _ w_593) (fun _ h9 => h9) rfl (by decide +kernel) (rfl) (rfl) (Nat.le_of_ble_eq_true rfl) d_Mo_recover_2 (fun H locs hP hD hS => ?_)
  have hP : va_P (dC, dI) cls [(h0, .inr (5, [.int 0, .ref a0, .int (-1), .int 0, .int 0, .ref a1, .ref a2, .ref a3, .int 0, .int 0, .ref a4, .int 0, .ref a5, .int 0, .int 0, .int 0, .int 0, .int 0, .int 0, .ref a6, .int 0, .ref a7, .int 0, .ref a8, .ref a9])), (a0, .inl (cA, 512, .inl (fun _ => 0))), (a1, .inl (cL, 100, .inl f)), (a3, .inl (cV, 8, .inl g))] H := hP
  have hD : va_D A [(h0, .inr (5, [.int 0, .ref a0, .int (-1), .int 0, .int 0, .ref a1, .ref a2, .ref a3, .int 0, .int 0, .ref a4, .int 0, .ref a5, .int 0, .int 0, .int 0, .int 0, .int 0, .int 0, .ref a6, .int 0, .ref a7, .int 0, .ref a8, .ref a9])), (a0, .inl (cA, 512, .inl (fun _ => 0))), (a1, .inl (cL, 100, .inl f)), (a3, .inl (cV, 8, .inl g))] := hD
  refine lv_aload_n hx hb d_Mo_recover_5 rfl (lv_at hl 0 rfl) ?_
  refine lv_iconst (v := 0) hx hb d_Mo_recover_6 (by decide) ?_
  refine va_put (D := (dC, dI)) (ci := 5) (v := .int 0) (ty := .boolean) (C := R_Mo) (T := F_Mo) (N := 25) hx hb hts in_Mo t_Mo t_Mo_ok n_Mo hown hK hP hD hS 0 rfl rfl 3 (by decide) (hts _ w_596) (fun _ h9 => h9) rfl (by decide +kernel) (rfl) (rfl) (Nat.le_of_ble_eq_true rfl) d_Mo_recover_7 (fun H locs hP hD hS => ?_)
  have hP : va_P (dC, dI) cls [(h0, .inr (5, [.int 0, .ref a0, .int (-1), .int 0, .int 0, .ref a1, .ref a2, .ref a3, .int 0, .int 0, .ref a4, .int 0, .ref a5, .int 0, .int 0, .int 0, .int 0, .int 0, .int 0, .ref a6, .int 0, .ref a7, .int 0, .ref a8, .ref a9])), (a0, .inl (cA, 512, .inl (fun _ => 0))), (a1, .inl (cL, 100, .inl f)), (a3, .inl (cV, 8, .inl g))] H := hP
  have hD : va_D A [(h0, .inr (5, [.int 0, .ref a0, .int (-1), .int 0, .int 0, .ref a1, .ref a2, .ref a3, .int 0, .int 0, .ref a4, .int 0, .ref a5, .int 0, .int 0, .int 0, .int 0, .int 0, .int 0, .ref a6, .int 0, .ref a7, .int 0, .ref a8, .ref a9])), (a0, .inl (cA, 512, .inl (fun _ => 0))), (a1, .inl (cL, 100, .inl f)), (a3, .inl (cV, 8, .inl g))] := hD
  refine lv_aload_n hx hb d_Mo_recover_10 rfl (lv_at hl 0 rfl) ?_
  refine go_v (wr := [(a0, .inl (cA, 512, .inl (fun _ => 0)))]) (tr := [(cA, .int)]) (rV (C := "LineDiskModel") (ci := 5) (q0 := 0) (b := h0) (n := 0) (As := []) (rest := []) F hkw (c_Mo_nothing l dC dI h0 a0 a1 a2 a3 a4 a5 a6 a7 a8 a9 cL cV f g H.size) xT_bl (fun _ _ _ => trivial) w_589 w_591 ws_33 w_6 w_592 rfl rfl (by decide +kernel) ⟨Nat.le_of_ble_eq_true rfl, Nat.le_of_ble_eq_true rfl⟩ (hP.sub (ws' := [(h0, .inr (5, [.int 0, .ref a0, .int (-1), .int 0, .int 0, .ref a1, .ref a2, .ref a3, .int 0, .int 0, .ref a4, .int 0, .ref a5, .int 0, .int 0, .int 0, .int 0, .int 0, .int 0, .ref a6, .int 0, .ref a7, .int 0, .ref a8, .ref a9])), (a1, .inl (cL, 100, .inl f)), (a3, .inl (cV, 8, .inl g))]) [0, 2, 3] rfl) (hD.sub (ws' := [(h0, .inr (5, [.int 0, .ref a0, .int (-1), .int 0, .int 0, .ref a1, .ref a2, .ref a3, .int 0, .int 0, .ref a4, .int 0, .ref a5, .int 0, .int 0, .int 0, .int 0, .int 0, .int 0, .ref a6, .int 0, .ref a7, .int 0, .ref a8, .ref a9])), (a1, .inl (cL, 100, .inl f)), (a3, .inl (cV, 8, .inl g))]) [0, 2, 3] (by decide) rfl) (hK.sub (tys' := [(cL, .int), (cV, .int)]) [1, 2] rfl) rfl rfl rfl rfl hl.1 rfl (Nat.le_of_ble_eq_true rfl) d_Mo_recover_11 ⟨by decide, by decide⟩) hP hD hK hS hA [0, 2, 3] [1] [0] rfl rfl (by decide) (by decide) rfl (fun u H locs _ hP hD hK hS => ?_)
  obtain ⟨f9, g9⟩ := u
  have hP : va_P (dC, dI) cls [(a0, .inl (cA, 512, .inl (fun _ => 0))), (h0, .inr (5, [.int 0, .ref a0, .int (-1), .int 0, .int 0, .ref a1, .ref a2, .ref a3, .int 0, .int 0, .ref a4, .int 0, .ref a5, .int 0, .int 0, .int 0, .int 0, .int 0, .int 0, .ref a6, .int 0, .ref a7, .int 0, .ref a8, .ref a9])), (a1, .inl (cL, 100, .inl f9)), (a3, .inl (cV, 8, .inl g9))] H := hP
  have hD : va_D A [(a0, .inl (cA, 512, .inl (fun _ => 0))), (h0, .inr (5, [.int 0, .ref a0, .int (-1), .int 0, .int 0, .ref a1, .ref a2, .ref a3, .int 0, .int 0, .ref a4, .int 0, .ref a5, .int 0, .int 0, .int 0, .int 0, .int 0, .int 0, .ref a6, .int 0, .ref a7, .int 0, .ref a8, .ref a9])), (a1, .inl (cL, 100, .inl f9)), (a3, .inl (cV, 8, .inl g9))] := hD
  have hK : va_K (dC, dI) cls [(cA, .int), (cL, .int), (cV, .int)] s := hK
  refine W.widen (k := 0) (n := 0) (by omega) (by omega) ?_
  refine lv_aload_n hx hb d_Mo_recover_14 rfl (lv_at hl 0 rfl) ?_
  refine go_i (wr := [(a1, .inl (cL, 100, .inl f9)), (a3, .inl (cV, 8, .inl g9))]) (tr := [(cL, .int), (cV, .int)]) (rV (C := "LineDiskModel") (ci := 5) (q0 := 0) (b := h0) (n := 0) (As := []) (rest := []) F hkw (c_Mo_formatted l dC dI h0 a0 a1 a2 a3 a4 a5 a6 a7 a8 a9 cA H.size) xT_bl (fun _ _ _ => trivial) w_689 w_691 ws_36 w_6 w_692 rfl rfl (by decide +kernel) ⟨Nat.le_of_ble_eq_true rfl, Nat.le_of_ble_eq_true rfl⟩ (hP.sub (ws' := [(h0, .inr (5, [.int 0, .ref a0, .int (-1), .int 0, .int 0, .ref a1, .ref a2, .ref a3, .int 0, .int 0, .ref a4, .int 0, .ref a5, .int 0, .int 0, .int 0, .int 0, .int 0, .int 0, .ref a6, .int 0, .ref a7, .int 0, .ref a8, .ref a9])), (a0, .inl (cA, 512, .inl (fun _ => 0)))]) [1, 0] rfl) (hD.sub (ws' := [(h0, .inr (5, [.int 0, .ref a0, .int (-1), .int 0, .int 0, .ref a1, .ref a2, .ref a3, .int 0, .int 0, .ref a4, .int 0, .ref a5, .int 0, .int 0, .int 0, .int 0, .int 0, .int 0, .ref a6, .int 0, .ref a7, .int 0, .ref a8, .ref a9])), (a0, .inl (cA, 512, .inl (fun _ => 0)))]) [1, 0] (by decide) rfl) (hK.sub (tys' := [(cA, .int)]) [0] rfl) rfl rfl rfl rfl hl.1 rfl (Nat.le_of_ble_eq_true rfl) d_Mo_recover_15 ⟨by decide, by decide⟩) hP hD hK hS hA [1, 0] [2, 3] [1, 2] rfl rfl (by decide) (by decide) rfl (fun r u H locs hw hP hD hK hS => ?_)
  have hP : va_P (dC, dI) cls [(a1, .inl (cL, 100, .inl f9)), (a3, .inl (cV, 8, .inl g9)), (h0, .inr (5, [.int 0, .ref a0, .int (-1), .int 0, .int 0, .ref a1, .ref a2, .ref a3, .int 0, .int 0, .ref a4, .int 0, .ref a5, .int 0, .int 0, .int 0, .int 0, .int 0, .int 0, .ref a6, .int 0, .ref a7, .int 0, .ref a8, .ref a9])), (a0, .inl (cA, 512, .inl (fun _ => 0)))] H := hP
  have hD : va_D A [(a1, .inl (cL, 100, .inl f9)), (a3, .inl (cV, 8, .inl g9)), (h0, .inr (5, [.int 0, .ref a0, .int (-1), .int 0, .int 0, .ref a1, .ref a2, .ref a3, .int 0, .int 0, .ref a4, .int 0, .ref a5, .int 0, .int 0, .int 0, .int 0, .int 0, .int 0, .ref a6, .int 0, .ref a7, .int 0, .ref a8, .ref a9])), (a0, .inl (cA, 512, .inl (fun _ => 0)))] := hD
  have hK : va_K (dC, dI) cls [(cL, .int), (cV, .int), (cA, .int)] s := hK
  refine W.widen (k := 0) (n := 0) (by omega) (by omega) ?_
  subst hw
  refine lv_istore_n (i := 1) hx hb d_Mo_recover_18 rfl hl (by decide) rfl (fun ls hl => ?_)
  have hl : lv_has ls 6 [(1, .int 0), (0, .ref h0)] := hl
  refine lv_iload_n hx hb d_Mo_recover_19 rfl (lv_at hl 0 rfl) ?_
  refine lv_if_eq (tgt := 116) hx hb d_Mo_recover_20 (by decide) (fun _ => ?_) (fun h => absurd (by decide) h)
  refine lv_aload_n hx hb d_Mo_recover_116 rfl (lv_at hl 1 rfl) ?_
  refine lv_iconst (v := (-1)) hx hb d_Mo_recover_117 (by decide) ?_
  refine va_put (D := (dC, dI)) (ci := 5) (v := .int (-1)) (ty := .int) (C := R_Mo) (T := F_Mo) (N := 25) hx hb hts in_Mo t_Mo t_Mo_ok n_Mo hown hK hP hD hS 2 rfl rfl 2 (by decide) (hts _ w_595) (fun _ h9 => h9) rfl (by decide +kernel) (rfl) (rfl) (Nat.le_of_ble_eq_true rfl) d_Mo_recover_118 (fun H locs hP hD hS => ?_)
  have hP : va_P (dC, dI) cls [(a1, .inl (cL, 100, .inl f9)), (a3, .inl (cV, 8, .inl g9)), (h0, .inr (5, [.int 0, .ref a0, .int (-1), .int 0, .int 0, .ref a1, .ref a2, .ref a3, .int 0, .int 0, .ref a4, .int 0, .ref a5, .int 0, .int 0, .int 0, .int 0, .int 0, .int 0, .ref a6, .int 0, .ref a7, .int 0, .ref a8, .ref a9])), (a0, .inl (cA, 512, .inl (fun _ => 0)))] H := hP
  have hD : va_D A [(a1, .inl (cL, 100, .inl f9)), (a3, .inl (cV, 8, .inl g9)), (h0, .inr (5, [.int 0, .ref a0, .int (-1), .int 0, .int 0, .ref a1, .ref a2, .ref a3, .int 0, .int 0, .ref a4, .int 0, .ref a5, .int 0, .int 0, .int 0, .int 0, .int 0, .int 0, .ref a6, .int 0, .ref a7, .int 0, .ref a8, .ref a9])), (a0, .inl (cA, 512, .inl (fun _ => 0)))] := hD
  refine lv_aload_n hx hb d_Mo_recover_121 rfl (lv_at hl 1 rfl) ?_
  refine va_get (D := (dC, dI)) (ci := 5) (v := .int 0) (C := R_Mo) (T := F_Mo) (N := 25) hx hb hts in_Mo hown hK hP 2 rfl rfl 3 (by decide) (hts _ w_596) (fun _ h9 => h9) rfl d_Mo_recover_122 ?_
  refine lv_if_eq (tgt := 133) hx hb d_Mo_recover_125 (by decide) (fun _ => ?_) (fun h => absurd (by decide) h)
  refine lv_iload_n hx hb d_Mo_recover_133 rfl (lv_at hl 0 rfl) ?_
  refine lv_if_eq (tgt := 141) hx hb d_Mo_recover_134 (by decide) (fun _ => ?_) (fun h => absurd (by decide) h)
  refine lv_bipush (v := 8) hx hb d_Mo_recover_141 (by decide) ?_
  refine W.widen (k := 0) (n := 0) (by decide) (by decide) ?_
  exact W.iret (v := 8) hx hb hr (fun t ht hW => ⟨⟨8, (), rfl, rfl, cB.of (hP.sub [] rfl) (hD.sub [] (by decide) rfl) (hK.sub [] rfl) ht hW⟩, hS.F ht⟩) hS.2.2 d_Mo_recover_143
set_option maxHeartbeats 4000000 in
set_option maxRecDepth 100000 in
theorem lp_Mo_write2 {p : Program} {l : Launch} {e : Env} {R : Room} {s : State} {m : MethodId} {args : Array Value} {below : List Frame} {meth : Method} {c : Code} {cells slots : Nat} {Q : State → Prop} {A : Nat → Prop} {dC : Nat → ClassId} {dI : Nat → Nat → Nat} (hx : p.tables.exec = Jvm.exec) (hb : c.code = b_Mo_write) (hts : ∀ w ∈ gw, w.before args s = true) (hown : s.vm.findClass "LineDiskModel" = some m.cls) (hkw : kw s) (h0 a0 a1 a2 a3 a4 a5 a6 a7 a8 a9 : Nat) (cA cC : ClassId) (wr : Int32) (f : Nat → Int32) (hK : va_K (dC, dI) cls [(cA, .int), (cC, .int)] s)  (kk : ∀ (ls : Array Slot) (H : Heap) (locs : List Loc) (g : Nat → Int32), lv_has ls 4 [(3, .int (nI 16)), (0, .ref h0), (1, .int 2), (2, .int (-1))] → va_P (dC, dI) cls [(h0, .inr (5, [.int 0, .ref a0, .int (-1), .int 0, .int wr, .ref a1, .ref a2, .ref a3, .int 0, .int 0, .ref a4, .int 0, .ref a5, .int 0, .int 0, .int 0, .int 0, .int 0, .int 0, .ref a6, .int 0, .ref a7, .int 0, .ref a8, .ref a9])), (a0, .inl (cA, 512, .inl g)), (a9, .inl (cC, 96, .inl f))] H → va_D A [(h0, .inr (5, [.int 0, .ref a0, .int (-1), .int 0, .int wr, .ref a1, .ref a2, .ref a3, .int 0, .int 0, .ref a4, .int 0, .ref a5, .int 0, .int 0, .int 0, .int 0, .int 0, .int 0, .ref a6, .int 0, .ref a7, .int 0, .ref a8, .ref a9])), (a0, .inl (cA, 512, .inl g)), (a9, .inl (cC, 96, .inl f))] → va_S A s.heap H locs → (True) → W p l e R s m args below meth c H locs cells slots Q (F0 m 93 ls [])) : ∀ (j k : Nat), k + j = 16 → ∀ (ls : Array Slot) (H : Heap) (locs : List Loc) (g : Nat → Int32), lv_has ls 4 [(3, .int (nI k)), (0, .ref h0), (1, .int 2), (2, .int (-1))] → va_P (dC, dI) cls [(h0, .inr (5, [.int 0, .ref a0, .int (-1), .int 0, .int wr, .ref a1, .ref a2, .ref a3, .int 0, .int 0, .ref a4, .int 0, .ref a5, .int 0, .int 0, .int 0, .int 0, .int 0, .int 0, .ref a6, .int 0, .ref a7, .int 0, .ref a8, .ref a9])), (a0, .inl (cA, 512, .inl g)), (a9, .inl (cC, 96, .inl f))] H → va_D A [(h0, .inr (5, [.int 0, .ref a0, .int (-1), .int 0, .int wr, .ref a1, .ref a2, .ref a3, .int 0, .int 0, .ref a4, .int 0, .ref a5, .int 0, .int 0, .int 0, .int 0, .int 0, .int 0, .ref a6, .int 0, .ref a7, .int 0, .ref a8, .ref a9])), (a0, .inl (cA, 512, .inl g)), (a9, .inl (cC, 96, .inl f))] → va_S A s.heap H locs → (True) → W p l e R s m args below meth c H locs cells slots Q (F0 m 53 ls []) := by
  intro j
  induction j with
  | zero =>
    intro k hk ls H locs g hl hP hD hS hf
    have hk : k = 16 := by omega
    subst hk
    refine lv_iload_n hx hb d_Mo_write_53 rfl (lv_at hl 0 rfl) ?_
    refine lv_bipush (v := 16) hx hb d_Mo_write_54 (by decide) ?_
    refine lv_icmp_ge (tgt := 93) hx hb d_Mo_write_56 (by decide) (fun _ => ?_) (fun h => absurd (nI_le (a := 16) (b := 16) (Nat.le_refl _) (by decide)) h)
    exact kk ls H locs g hl hP hD hS hf
  | succ j ih =>
    intro k hk ls H locs g hl hP hD hS hf
    have hkN : k < 16 := by omega
    refine lv_iload_n hx hb d_Mo_write_53 rfl (lv_at hl 0 rfl) ?_
    refine lv_bipush (v := 16) hx hb d_Mo_write_54 (by decide) ?_
    refine lv_icmp_ge (tgt := 93) hx hb d_Mo_write_56 (by decide) (fun h => absurd h (nI_ge (b := 16) hkN (by decide))) (fun _ => ?_)
    refine lv_aload_n hx hb d_Mo_write_59 rfl (lv_at hl 1 rfl) ?_
    refine va_get (D := (dC, dI)) (ci := 5) (v := .ref a0) (C := R_Mo) (T := F_Mo) (N := 25) hx hb hts in_Mo hown hK hP 0 rfl rfl 1 (by decide) (hts _ w_594) (fun _ h9 => h9) rfl d_Mo_write_60 ?_
    refine lv_bipush (v := 16) hx hb d_Mo_write_63 (by decide) ?_
    refine lv_iload_n hx hb d_Mo_write_65 rfl (lv_at hl 2 rfl) ?_
    refine lv_imul hx hb d_Mo_write_66 ?_
    refine tv (x2 := 32) (by decide) ?_
    refine lv_iload_n hx hb d_Mo_write_67 rfl (lv_at hl 0 rfl) ?_
    refine lv_iadd hx hb d_Mo_write_68 ?_
    refine lv_iload_n hx hb d_Mo_write_69 rfl (lv_at hl 3 rfl) ?_
    refine lv_iconst (v := (-1)) hx hb d_Mo_write_70 (by decide) ?_
    refine lv_icmp_ne (tgt := 78) hx hb d_Mo_write_71 (by decide) (fun h => absurd (by decide) h) (fun _ => ?_)
    refine lv_iconst (v := 0) hx hb d_Mo_write_74 (by decide) ?_
    refine lv_goto (tgt := 86) hx hb d_Mo_write_75 (by decide) ?_
    refine va_iast hx hb hK hP hD hS 1 0 rfl rfl (by show vp_in (nI 32 + nI k) 512; rw [nI_add]; exact vp_in_nI (by omega) (by decide)) d_Mo_write_86 (fun H locs hP hD hS => ?_)
    have hP : va_P (dC, dI) cls [(h0, .inr (5, [.int 0, .ref a0, .int (-1), .int 0, .int wr, .ref a1, .ref a2, .ref a3, .int 0, .int 0, .ref a4, .int 0, .ref a5, .int 0, .int 0, .int 0, .int 0, .int 0, .int 0, .ref a6, .int 0, .ref a7, .int 0, .ref a8, .ref a9])), (a0, .inl (cA, 512, .inl (upd g (32 + (nI k) : Int32).toNatClampNeg 0))), (a9, .inl (cC, 96, .inl f))] H := hP
    have hD : va_D A [(h0, .inr (5, [.int 0, .ref a0, .int (-1), .int 0, .int wr, .ref a1, .ref a2, .ref a3, .int 0, .int 0, .ref a4, .int 0, .ref a5, .int 0, .int 0, .int 0, .int 0, .int 0, .int 0, .ref a6, .int 0, .ref a7, .int 0, .ref a8, .ref a9])), (a0, .inl (cA, 512, .inl (upd g (32 + (nI k) : Int32).toNatClampNeg 0))), (a9, .inl (cC, 96, .inl f))] := hD
    refine lv_iinc (k := 0) (v := nI (k + 1)) hx hb d_Mo_write_87 hl rfl (by rw [lit1]; exact (nI_succ k).symm) (by decide) rfl (fun ls hl => ?_)
    have hl : lv_has ls 4 [(3, .int (nI (k + 1))), (0, .ref h0), (1, .int 2), (2, .int (-1))] := hl
    refine lv_goto (tgt := 53) hx hb d_Mo_write_90 (by decide) ?_
    exact ih (k + 1) (by omega) ls H locs (upd g (32 + (nI k) : Int32).toNatClampNeg 0) (hl) hP hD hS (trivial)
set_option maxHeartbeats 4000000 in
set_option maxRecDepth 100000 in
theorem c_Mo_write2 (l : Launch) (dC : Nat → ClassId) (dI : Nat → Nat → Nat) (h0 a0 a1 a2 a3 a4 a5 a6 a7 a8 a9 : Nat) (cA cC : ClassId) (wr : Int32) (g f : Nat → Int32) (sz : Nat) : Met l y_Mo_write (Cond.code y_Mo_write b_Mo_write 4 none :: gw) ({ frames := 0, cells := 0, slots := 0, locals := 0 }) (cP (dC, dI) [.ref h0, .int 2, .int (-1)] sz [(h0, .inr (5, [.int 0, .ref a0, .int (-1), .int 0, .int wr, .ref a1, .ref a2, .ref a3, .int 0, .int 0, .ref a4, .int 0, .ref a5, .int 0, .int 0, .int 0, .int 0, .int 0, .int 0, .ref a6, .int 0, .ref a7, .int 0, .ref a8, .ref a9])), (a0, .inl (cA, 512, .inl g)), (a9, .inl (cC, 96, .inl f))] [(cA, .int), (cC, .int)] xT) (va_Qv (fun (u : Nat → Int32) => True) (fun (u : Nat → Int32) t => cB (dC, dI) (va_A [(h0, .inr (5, [.int 0, .ref a0, .int (-1), .int 0, .int wr, .ref a1, .ref a2, .ref a3, .int 0, .int 0, .ref a4, .int 0, .ref a5, .int 0, .int 0, .int 0, .int 0, .int 0, .int 0, .ref a6, .int 0, .ref a7, .int 0, .ref a8, .ref a9])), (a0, .inl (cA, 512, .inl g)), (a9, .inl (cC, 96, .inl f))] sz) [(h0, .inr (5, [.int 0, .ref a0, .int (-1), .int 0, .int (wr + 1), .ref a1, .ref a2, .ref a3, .int 0, .int 0, .ref a4, .int 0, .ref a5, .int 0, .int 0, .int 0, .int 0, .int 0, .int 0, .ref a6, .int 0, .ref a7, .int 0, .ref a8, .ref a9])), (a0, .inl (cA, 512, .inl u)), (a9, .inl (cC, 96, .inl f))] [(cA, .int), (cC, .int)] t) (va_A [(h0, .inr (5, [.int 0, .ref a0, .int (-1), .int 0, .int wr, .ref a1, .ref a2, .ref a3, .int 0, .int 0, .ref a4, .int 0, .ref a5, .int 0, .int 0, .int 0, .int 0, .int 0, .int 0, .ref a6, .int 0, .ref a7, .int 0, .ref a8, .ref a9])), (a0, .inl (cA, 512, .inl g)), (a9, .inl (cC, 96, .inl f))] sz)) 0 0 (va_A [(h0, .inr (5, [.int 0, .ref a0, .int (-1), .int 0, .int wr, .ref a1, .ref a2, .ref a3, .int 0, .int 0, .ref a4, .int 0, .ref a5, .int 0, .int 0, .int 0, .int 0, .int 0, .int 0, .ref a6, .int 0, .ref a7, .int 0, .ref a8, .ref a9])), (a0, .inl (cA, 512, .inl g)), (a9, .inl (cC, 96, .inl f))] sz) := by
  refine Met.ofW (cc := b_Mo_write) (maxL := 4) (ret := none) (by decide) rfl ?_
  intro p e s m args below meth c s₁ B hml hv
  obtain ⟨rfl, hsz, hP, hK, hD0, hkw, hX⟩ := hv
  have hx := B.exec
  have hb := B.bytes
  have hr := B.returns
  have hts := fun w hw => atoms_spec (ws := Cond.code y_Mo_write b_Mo_write 4 none :: gw) B.pre w (List.mem_cons_of_mem _ hw)
  have hown : s.vm.findClass "LineDiskModel" = some m.cls := findClass_of_methodNamed B.named
  have hlocks := B.notSynchronized
  have hin := (name_of_methodNamed B.named B.method).1
  subst hsz
  have hD := hD0.self (sz := s.heap.size)
  generalize hAe : va_A [(h0, .inr (5, [.int 0, .ref a0, .int (-1), .int 0, .int wr, .ref a1, .ref a2, .ref a3, .int 0, .int 0, .ref a4, .int 0, .ref a5, .int 0, .int 0, .int 0, .int 0, .int 0, .int 0, .ref a6, .int 0, .ref a7, .int 0, .ref a8, .ref a9])), (a0, .inl (cA, 512, .inl g)), (a9, .inl (cC, 96, .inl f))] s.heap.size = A at hD ⊢
  have hA : ∀ q : Nat, s.heap.size ≤ q → A q := fun q h => by rw [← hAe]; exact Or.inr h
  have hS : va_S A s.heap s.heap [] := va_S.rf
  have hl := lv_entry ([.ref h0, .int 2, .int (-1)]) (n := 4) (Nat.le_of_ble_eq_true rfl)
  rw [lg_entry_eq]
  generalize (lg_sl ([.ref h0, .int 2, .int (-1)]) ++ List.replicate (4 - (lg_sl ([.ref h0, .int 2, .int (-1)])).length) Slot.unset).toArray = ls at hl ⊢
  have hl : lv_has ls 4 [(0, .ref h0), (1, .int 2), (2, .int (-1))] := hl
  have F : CallFix p m c b_Mo_write 4 s ([.ref h0, .int 2, .int (-1)]).toArray gw "LineDiskModel" := ⟨hx, hb, hml, hown, hts⟩
  refine lv_aload_n hx hb d_Mo_write_0 rfl (lv_at hl 0 rfl) ?_
  refine va_get (D := (dC, dI)) (ci := 5) (v := .int 0) (C := R_Mo) (T := F_Mo) (N := 25) hx hb hts in_Mo hown hK hP 0 rfl rfl 3 (by decide) (hts _ w_596) (fun _ h9 => h9) rfl d_Mo_write_1 ?_
  refine lv_if_eq (tgt := 8) hx hb d_Mo_write_4 (by decide) (fun _ => ?_) (fun h => absurd (by decide) h)
  refine lv_aload_n hx hb d_Mo_write_8 rfl (lv_at hl 0 rfl) ?_
  refine va_get (D := (dC, dI)) (ci := 5) (v := .int (-1)) (C := R_Mo) (T := F_Mo) (N := 25) hx hb hts in_Mo hown hK hP 0 rfl rfl 2 (by decide) (hts _ w_595) (fun _ h9 => h9) rfl d_Mo_write_9 ?_
  refine lv_if_ne (tgt := 20) hx hb d_Mo_write_12 (by decide) (fun _ => ?_) (fun h => absurd h (by decide))
  refine lv_aload_n hx hb d_Mo_write_20 rfl (lv_at hl 0 rfl) ?_
  refine lv_dup hx hb d_Mo_write_21 rfl ?_
  refine va_get (D := (dC, dI)) (ci := 5) (v := .int (-1)) (C := R_Mo) (T := F_Mo) (N := 25) hx hb hts in_Mo hown hK hP 0 rfl rfl 2 (by decide) (hts _ w_595) (fun _ h9 => h9) rfl d_Mo_write_22 ?_
  refine lv_aload_n hx hb d_Mo_write_25 rfl (lv_at hl 0 rfl) ?_
  refine va_get (D := (dC, dI)) (ci := 5) (v := .int (-1)) (C := R_Mo) (T := F_Mo) (N := 25) hx hb hts in_Mo hown hK hP 0 rfl rfl 2 (by decide) (hts _ w_595) (fun _ h9 => h9) rfl d_Mo_write_26 ?_
  refine lv_if_le (tgt := 36) hx hb d_Mo_write_29 (by decide) (fun _ => ?_) (fun h => absurd (by decide) h)
  refine lv_iconst (v := 0) hx hb d_Mo_write_36 (by decide) ?_
  refine lv_isub hx hb d_Mo_write_37 ?_
  refine tv (x2 := (-1)) (by decide) ?_
  refine va_put (D := (dC, dI)) (ci := 5) (v := .int (-1)) (ty := .int) (C := R_Mo) (T := F_Mo) (N := 25) hx hb hts in_Mo t_Mo t_Mo_ok n_Mo hown hK hP hD hS 0 rfl rfl 2 (by decide) (hts _ w_595) (fun _ h9 => h9) rfl (by decide +kernel) (rfl) (rfl) (Nat.le_of_ble_eq_true rfl) d_Mo_write_38 (fun H locs hP hD hS => ?_)
  have hP : va_P (dC, dI) cls [(h0, .inr (5, [.int 0, .ref a0, .int (-1), .int 0, .int wr, .ref a1, .ref a2, .ref a3, .int 0, .int 0, .ref a4, .int 0, .ref a5, .int 0, .int 0, .int 0, .int 0, .int 0, .int 0, .ref a6, .int 0, .ref a7, .int 0, .ref a8, .ref a9])), (a0, .inl (cA, 512, .inl g)), (a9, .inl (cC, 96, .inl f))] H := hP
  have hD : va_D A [(h0, .inr (5, [.int 0, .ref a0, .int (-1), .int 0, .int wr, .ref a1, .ref a2, .ref a3, .int 0, .int 0, .ref a4, .int 0, .ref a5, .int 0, .int 0, .int 0, .int 0, .int 0, .int 0, .ref a6, .int 0, .ref a7, .int 0, .ref a8, .ref a9])), (a0, .inl (cA, 512, .inl g)), (a9, .inl (cC, 96, .inl f))] := hD
  refine lv_aload_n hx hb d_Mo_write_41 rfl (lv_at hl 0 rfl) ?_
  refine lv_dup hx hb d_Mo_write_42 rfl ?_
  refine va_get (D := (dC, dI)) (ci := 5) (v := .int wr) (C := R_Mo) (T := F_Mo) (N := 25) hx hb hts in_Mo hown hK hP 0 rfl rfl 4 (by decide) (hts _ w_597) (fun _ h9 => h9) rfl d_Mo_write_43 ?_
  refine lv_iconst (v := 1) hx hb d_Mo_write_46 (by decide) ?_
  refine lv_iadd hx hb d_Mo_write_47 ?_
  refine va_put (D := (dC, dI)) (ci := 5) (v := .int (wr + 1)) (ty := .int) (C := R_Mo) (T := F_Mo) (N := 25) hx hb hts in_Mo t_Mo t_Mo_ok n_Mo hown hK hP hD hS 0 rfl rfl 4 (by decide) (hts _ w_597) (fun _ h9 => h9) rfl (by decide +kernel) (rfl) (rfl) (Nat.le_of_ble_eq_true rfl) d_Mo_write_48 (fun H locs hP hD hS => ?_)
  have hP : va_P (dC, dI) cls [(h0, .inr (5, [.int 0, .ref a0, .int (-1), .int 0, .int (wr + 1), .ref a1, .ref a2, .ref a3, .int 0, .int 0, .ref a4, .int 0, .ref a5, .int 0, .int 0, .int 0, .int 0, .int 0, .int 0, .ref a6, .int 0, .ref a7, .int 0, .ref a8, .ref a9])), (a0, .inl (cA, 512, .inl g)), (a9, .inl (cC, 96, .inl f))] H := hP
  have hD : va_D A [(h0, .inr (5, [.int 0, .ref a0, .int (-1), .int 0, .int (wr + 1), .ref a1, .ref a2, .ref a3, .int 0, .int 0, .ref a4, .int 0, .ref a5, .int 0, .int 0, .int 0, .int 0, .int 0, .int 0, .ref a6, .int 0, .ref a7, .int 0, .ref a8, .ref a9])), (a0, .inl (cA, 512, .inl g)), (a9, .inl (cC, 96, .inl f))] := hD
  refine lv_iconst (v := 0) hx hb d_Mo_write_51 (by decide) ?_
  refine lv_istore_n (i := 3) hx hb d_Mo_write_52 rfl hl (by decide) rfl (fun ls hl => ?_)
  have hl : lv_has ls 4 [(3, .int 0), (0, .ref h0), (1, .int 2), (2, .int (-1))] := hl
  have hl : lv_has ls 4 [(3, .int (nI 0)), (0, .ref h0), (1, .int 2), (2, .int (-1))] := lv_sub hl [0, 1, 2, 3] rfl
  refine lp_Mo_write2 hx hb hts hown hkw h0 a0 a1 a2 a3 a4 a5 a6 a7 a8 a9 cA cC (wr + 1) f hK (fun ls H locs g hl hP hD hS _ => ?_) 16 0 (by decide) ls _ _ g hl hP hD hS trivial
  refine W.widen (k := 0) (n := 0) (by decide) (by decide) ?_
  exact W.vret hx hb hr (fun t ht hW => ⟨⟨g, rfl, trivial, cB.of (hP.sub [0, 1, 2] rfl) (hD.sub [0, 1, 2] (by decide) rfl) (hK.sub [0, 1] rfl) ht hW⟩, hS.F ht⟩) hS.2.2 d_Mo_write_93
set_option maxHeartbeats 4000000 in
set_option maxRecDepth 100000 in
theorem lp_Mo_write1 {p : Program} {l : Launch} {e : Env} {R : Room} {s : State} {m : MethodId} {args : Array Value} {below : List Frame} {meth : Method} {c : Code} {cells slots : Nat} {Q : State → Prop} {A : Nat → Prop} {dC : Nat → ClassId} {dI : Nat → Nat → Nat} (hx : p.tables.exec = Jvm.exec) (hb : c.code = b_Mo_write) (hts : ∀ w ∈ gw, w.before args s = true) (hown : s.vm.findClass "LineDiskModel" = some m.cls) (hkw : kw s) (h0 a0 a1 a2 a3 a4 a5 a6 a7 a8 a9 : Nat) (cA cC : ClassId) (wr : Int32) (f : Nat → Int32) (hK : va_K (dC, dI) cls [(cA, .int), (cC, .int)] s)  (kk : ∀ (ls : Array Slot) (H : Heap) (locs : List Loc) (g : Nat → Int32), lv_has ls 4 [(3, .int (nI 16)), (0, .ref h0), (1, .int 1), (2, .int (-1))] → va_P (dC, dI) cls [(h0, .inr (5, [.int 0, .ref a0, .int (-1), .int 0, .int wr, .ref a1, .ref a2, .ref a3, .int 0, .int 0, .ref a4, .int 0, .ref a5, .int 0, .int 0, .int 0, .int 0, .int 0, .int 0, .ref a6, .int 0, .ref a7, .int 0, .ref a8, .ref a9])), (a0, .inl (cA, 512, .inl g)), (a9, .inl (cC, 96, .inl f))] H → va_D A [(h0, .inr (5, [.int 0, .ref a0, .int (-1), .int 0, .int wr, .ref a1, .ref a2, .ref a3, .int 0, .int 0, .ref a4, .int 0, .ref a5, .int 0, .int 0, .int 0, .int 0, .int 0, .int 0, .ref a6, .int 0, .ref a7, .int 0, .ref a8, .ref a9])), (a0, .inl (cA, 512, .inl g)), (a9, .inl (cC, 96, .inl f))] → va_S A s.heap H locs → (True) → W p l e R s m args below meth c H locs cells slots Q (F0 m 93 ls [])) : ∀ (j k : Nat), k + j = 16 → ∀ (ls : Array Slot) (H : Heap) (locs : List Loc) (g : Nat → Int32), lv_has ls 4 [(3, .int (nI k)), (0, .ref h0), (1, .int 1), (2, .int (-1))] → va_P (dC, dI) cls [(h0, .inr (5, [.int 0, .ref a0, .int (-1), .int 0, .int wr, .ref a1, .ref a2, .ref a3, .int 0, .int 0, .ref a4, .int 0, .ref a5, .int 0, .int 0, .int 0, .int 0, .int 0, .int 0, .ref a6, .int 0, .ref a7, .int 0, .ref a8, .ref a9])), (a0, .inl (cA, 512, .inl g)), (a9, .inl (cC, 96, .inl f))] H → va_D A [(h0, .inr (5, [.int 0, .ref a0, .int (-1), .int 0, .int wr, .ref a1, .ref a2, .ref a3, .int 0, .int 0, .ref a4, .int 0, .ref a5, .int 0, .int 0, .int 0, .int 0, .int 0, .int 0, .ref a6, .int 0, .ref a7, .int 0, .ref a8, .ref a9])), (a0, .inl (cA, 512, .inl g)), (a9, .inl (cC, 96, .inl f))] → va_S A s.heap H locs → (True) → W p l e R s m args below meth c H locs cells slots Q (F0 m 53 ls []) := by
  intro j
  induction j with
  | zero =>
    intro k hk ls H locs g hl hP hD hS hf
    have hk : k = 16 := by omega
    subst hk
    refine lv_iload_n hx hb d_Mo_write_53 rfl (lv_at hl 0 rfl) ?_
    refine lv_bipush (v := 16) hx hb d_Mo_write_54 (by decide) ?_
    refine lv_icmp_ge (tgt := 93) hx hb d_Mo_write_56 (by decide) (fun _ => ?_) (fun h => absurd (nI_le (a := 16) (b := 16) (Nat.le_refl _) (by decide)) h)
    exact kk ls H locs g hl hP hD hS hf
  | succ j ih =>
    intro k hk ls H locs g hl hP hD hS hf
    have hkN : k < 16 := by omega
    refine lv_iload_n hx hb d_Mo_write_53 rfl (lv_at hl 0 rfl) ?_
    refine lv_bipush (v := 16) hx hb d_Mo_write_54 (by decide) ?_
    refine lv_icmp_ge (tgt := 93) hx hb d_Mo_write_56 (by decide) (fun h => absurd h (nI_ge (b := 16) hkN (by decide))) (fun _ => ?_)
    refine lv_aload_n hx hb d_Mo_write_59 rfl (lv_at hl 1 rfl) ?_
    refine va_get (D := (dC, dI)) (ci := 5) (v := .ref a0) (C := R_Mo) (T := F_Mo) (N := 25) hx hb hts in_Mo hown hK hP 0 rfl rfl 1 (by decide) (hts _ w_594) (fun _ h9 => h9) rfl d_Mo_write_60 ?_
    refine lv_bipush (v := 16) hx hb d_Mo_write_63 (by decide) ?_
    refine lv_iload_n hx hb d_Mo_write_65 rfl (lv_at hl 2 rfl) ?_
    refine lv_imul hx hb d_Mo_write_66 ?_
    refine tv (x2 := 16) (by decide) ?_
    refine lv_iload_n hx hb d_Mo_write_67 rfl (lv_at hl 0 rfl) ?_
    refine lv_iadd hx hb d_Mo_write_68 ?_
    refine lv_iload_n hx hb d_Mo_write_69 rfl (lv_at hl 3 rfl) ?_
    refine lv_iconst (v := (-1)) hx hb d_Mo_write_70 (by decide) ?_
    refine lv_icmp_ne (tgt := 78) hx hb d_Mo_write_71 (by decide) (fun h => absurd (by decide) h) (fun _ => ?_)
    refine lv_iconst (v := 0) hx hb d_Mo_write_74 (by decide) ?_
    refine lv_goto (tgt := 86) hx hb d_Mo_write_75 (by decide) ?_
    refine va_iast hx hb hK hP hD hS 1 0 rfl rfl (by show vp_in (nI 16 + nI k) 512; rw [nI_add]; exact vp_in_nI (by omega) (by decide)) d_Mo_write_86 (fun H locs hP hD hS => ?_)
    have hP : va_P (dC, dI) cls [(h0, .inr (5, [.int 0, .ref a0, .int (-1), .int 0, .int wr, .ref a1, .ref a2, .ref a3, .int 0, .int 0, .ref a4, .int 0, .ref a5, .int 0, .int 0, .int 0, .int 0, .int 0, .int 0, .ref a6, .int 0, .ref a7, .int 0, .ref a8, .ref a9])), (a0, .inl (cA, 512, .inl (upd g (16 + (nI k) : Int32).toNatClampNeg 0))), (a9, .inl (cC, 96, .inl f))] H := hP
    have hD : va_D A [(h0, .inr (5, [.int 0, .ref a0, .int (-1), .int 0, .int wr, .ref a1, .ref a2, .ref a3, .int 0, .int 0, .ref a4, .int 0, .ref a5, .int 0, .int 0, .int 0, .int 0, .int 0, .int 0, .ref a6, .int 0, .ref a7, .int 0, .ref a8, .ref a9])), (a0, .inl (cA, 512, .inl (upd g (16 + (nI k) : Int32).toNatClampNeg 0))), (a9, .inl (cC, 96, .inl f))] := hD
    refine lv_iinc (k := 0) (v := nI (k + 1)) hx hb d_Mo_write_87 hl rfl (by rw [lit1]; exact (nI_succ k).symm) (by decide) rfl (fun ls hl => ?_)
    have hl : lv_has ls 4 [(3, .int (nI (k + 1))), (0, .ref h0), (1, .int 1), (2, .int (-1))] := hl
    refine lv_goto (tgt := 53) hx hb d_Mo_write_90 (by decide) ?_
    exact ih (k + 1) (by omega) ls H locs (upd g (16 + (nI k) : Int32).toNatClampNeg 0) (hl) hP hD hS (trivial)
set_option maxHeartbeats 4000000 in
set_option maxRecDepth 100000 in
theorem c_Mo_write1 (l : Launch) (dC : Nat → ClassId) (dI : Nat → Nat → Nat) (h0 a0 a1 a2 a3 a4 a5 a6 a7 a8 a9 : Nat) (cA cC : ClassId) (wr : Int32) (g f : Nat → Int32) (sz : Nat) : Met l y_Mo_write (Cond.code y_Mo_write b_Mo_write 4 none :: gw) ({ frames := 0, cells := 0, slots := 0, locals := 0 }) (cP (dC, dI) [.ref h0, .int 1, .int (-1)] sz [(h0, .inr (5, [.int 0, .ref a0, .int (-1), .int 0, .int wr, .ref a1, .ref a2, .ref a3, .int 0, .int 0, .ref a4, .int 0, .ref a5, .int 0, .int 0, .int 0, .int 0, .int 0, .int 0, .ref a6, .int 0, .ref a7, .int 0, .ref a8, .ref a9])), (a0, .inl (cA, 512, .inl g)), (a9, .inl (cC, 96, .inl f))] [(cA, .int), (cC, .int)] xT) (va_Qv (fun (u : Nat → Int32) => True) (fun (u : Nat → Int32) t => cB (dC, dI) (va_A [(h0, .inr (5, [.int 0, .ref a0, .int (-1), .int 0, .int wr, .ref a1, .ref a2, .ref a3, .int 0, .int 0, .ref a4, .int 0, .ref a5, .int 0, .int 0, .int 0, .int 0, .int 0, .int 0, .ref a6, .int 0, .ref a7, .int 0, .ref a8, .ref a9])), (a0, .inl (cA, 512, .inl g)), (a9, .inl (cC, 96, .inl f))] sz) [(h0, .inr (5, [.int 0, .ref a0, .int (-1), .int 0, .int (wr + 1), .ref a1, .ref a2, .ref a3, .int 0, .int 0, .ref a4, .int 0, .ref a5, .int 0, .int 0, .int 0, .int 0, .int 0, .int 0, .ref a6, .int 0, .ref a7, .int 0, .ref a8, .ref a9])), (a0, .inl (cA, 512, .inl u)), (a9, .inl (cC, 96, .inl f))] [(cA, .int), (cC, .int)] t) (va_A [(h0, .inr (5, [.int 0, .ref a0, .int (-1), .int 0, .int wr, .ref a1, .ref a2, .ref a3, .int 0, .int 0, .ref a4, .int 0, .ref a5, .int 0, .int 0, .int 0, .int 0, .int 0, .int 0, .ref a6, .int 0, .ref a7, .int 0, .ref a8, .ref a9])), (a0, .inl (cA, 512, .inl g)), (a9, .inl (cC, 96, .inl f))] sz)) 0 0 (va_A [(h0, .inr (5, [.int 0, .ref a0, .int (-1), .int 0, .int wr, .ref a1, .ref a2, .ref a3, .int 0, .int 0, .ref a4, .int 0, .ref a5, .int 0, .int 0, .int 0, .int 0, .int 0, .int 0, .ref a6, .int 0, .ref a7, .int 0, .ref a8, .ref a9])), (a0, .inl (cA, 512, .inl g)), (a9, .inl (cC, 96, .inl f))] sz) := by
  refine Met.ofW (cc := b_Mo_write) (maxL := 4) (ret := none) (by decide) rfl ?_
  intro p e s m args below meth c s₁ B hml hv
  obtain ⟨rfl, hsz, hP, hK, hD0, hkw, hX⟩ := hv
  have hx := B.exec
  have hb := B.bytes
  have hr := B.returns
  have hts := fun w hw => atoms_spec (ws := Cond.code y_Mo_write b_Mo_write 4 none :: gw) B.pre w (List.mem_cons_of_mem _ hw)
  have hown : s.vm.findClass "LineDiskModel" = some m.cls := findClass_of_methodNamed B.named
  have hlocks := B.notSynchronized
  have hin := (name_of_methodNamed B.named B.method).1
  subst hsz
  have hD := hD0.self (sz := s.heap.size)
  generalize hAe : va_A [(h0, .inr (5, [.int 0, .ref a0, .int (-1), .int 0, .int wr, .ref a1, .ref a2, .ref a3, .int 0, .int 0, .ref a4, .int 0, .ref a5, .int 0, .int 0, .int 0, .int 0, .int 0, .int 0, .ref a6, .int 0, .ref a7, .int 0, .ref a8, .ref a9])), (a0, .inl (cA, 512, .inl g)), (a9, .inl (cC, 96, .inl f))] s.heap.size = A at hD ⊢
  have hA : ∀ q : Nat, s.heap.size ≤ q → A q := fun q h => by rw [← hAe]; exact Or.inr h
  have hS : va_S A s.heap s.heap [] := va_S.rf
  have hl := lv_entry ([.ref h0, .int 1, .int (-1)]) (n := 4) (Nat.le_of_ble_eq_true rfl)
  rw [lg_entry_eq]
  generalize (lg_sl ([.ref h0, .int 1, .int (-1)]) ++ List.replicate (4 - (lg_sl ([.ref h0, .int 1, .int (-1)])).length) Slot.unset).toArray = ls at hl ⊢
  have hl : lv_has ls 4 [(0, .ref h0), (1, .int 1), (2, .int (-1))] := hl
  have F : CallFix p m c b_Mo_write 4 s ([.ref h0, .int 1, .int (-1)]).toArray gw "LineDiskModel" := ⟨hx, hb, hml, hown, hts⟩
  refine lv_aload_n hx hb d_Mo_write_0 rfl (lv_at hl 0 rfl) ?_
  refine va_get (D := (dC, dI)) (ci := 5) (v := .int 0) (C := R_Mo) (T := F_Mo) (N := 25) hx hb hts in_Mo hown hK hP 0 rfl rfl 3 (by decide) (hts _ w_596) (fun _ h9 => h9) rfl d_Mo_write_1 ?_
  refine lv_if_eq (tgt := 8) hx hb d_Mo_write_4 (by decide) (fun _ => ?_) (fun h => absurd (by decide) h)
  refine lv_aload_n hx hb d_Mo_write_8 rfl (lv_at hl 0 rfl) ?_
  refine va_get (D := (dC, dI)) (ci := 5) (v := .int (-1)) (C := R_Mo) (T := F_Mo) (N := 25) hx hb hts in_Mo hown hK hP 0 rfl rfl 2 (by decide) (hts _ w_595) (fun _ h9 => h9) rfl d_Mo_write_9 ?_
  refine lv_if_ne (tgt := 20) hx hb d_Mo_write_12 (by decide) (fun _ => ?_) (fun h => absurd h (by decide))
  refine lv_aload_n hx hb d_Mo_write_20 rfl (lv_at hl 0 rfl) ?_
  refine lv_dup hx hb d_Mo_write_21 rfl ?_
  refine va_get (D := (dC, dI)) (ci := 5) (v := .int (-1)) (C := R_Mo) (T := F_Mo) (N := 25) hx hb hts in_Mo hown hK hP 0 rfl rfl 2 (by decide) (hts _ w_595) (fun _ h9 => h9) rfl d_Mo_write_22 ?_
  refine lv_aload_n hx hb d_Mo_write_25 rfl (lv_at hl 0 rfl) ?_
  refine va_get (D := (dC, dI)) (ci := 5) (v := .int (-1)) (C := R_Mo) (T := F_Mo) (N := 25) hx hb hts in_Mo hown hK hP 0 rfl rfl 2 (by decide) (hts _ w_595) (fun _ h9 => h9) rfl d_Mo_write_26 ?_
  refine lv_if_le (tgt := 36) hx hb d_Mo_write_29 (by decide) (fun _ => ?_) (fun h => absurd (by decide) h)
  refine lv_iconst (v := 0) hx hb d_Mo_write_36 (by decide) ?_
  refine lv_isub hx hb d_Mo_write_37 ?_
  refine tv (x2 := (-1)) (by decide) ?_
  refine va_put (D := (dC, dI)) (ci := 5) (v := .int (-1)) (ty := .int) (C := R_Mo) (T := F_Mo) (N := 25) hx hb hts in_Mo t_Mo t_Mo_ok n_Mo hown hK hP hD hS 0 rfl rfl 2 (by decide) (hts _ w_595) (fun _ h9 => h9) rfl (by decide +kernel) (rfl) (rfl) (Nat.le_of_ble_eq_true rfl) d_Mo_write_38 (fun H locs hP hD hS => ?_)
  have hP : va_P (dC, dI) cls [(h0, .inr (5, [.int 0, .ref a0, .int (-1), .int 0, .int wr, .ref a1, .ref a2, .ref a3, .int 0, .int 0, .ref a4, .int 0, .ref a5, .int 0, .int 0, .int 0, .int 0, .int 0, .int 0, .ref a6, .int 0, .ref a7, .int 0, .ref a8, .ref a9])), (a0, .inl (cA, 512, .inl g)), (a9, .inl (cC, 96, .inl f))] H := hP
  have hD : va_D A [(h0, .inr (5, [.int 0, .ref a0, .int (-1), .int 0, .int wr, .ref a1, .ref a2, .ref a3, .int 0, .int 0, .ref a4, .int 0, .ref a5, .int 0, .int 0, .int 0, .int 0, .int 0, .int 0, .ref a6, .int 0, .ref a7, .int 0, .ref a8, .ref a9])), (a0, .inl (cA, 512, .inl g)), (a9, .inl (cC, 96, .inl f))] := hD
  refine lv_aload_n hx hb d_Mo_write_41 rfl (lv_at hl 0 rfl) ?_
  refine lv_dup hx hb d_Mo_write_42 rfl ?_
  refine va_get (D := (dC, dI)) (ci := 5) (v := .int wr) (C := R_Mo) (T := F_Mo) (N := 25) hx hb hts in_Mo hown hK hP 0 rfl rfl 4 (by decide) (hts _ w_597) (fun _ h9 => h9) rfl d_Mo_write_43 ?_
  refine lv_iconst (v := 1) hx hb d_Mo_write_46 (by decide) ?_
  refine lv_iadd hx hb d_Mo_write_47 ?_
  refine va_put (D := (dC, dI)) (ci := 5) (v := .int (wr + 1)) (ty := .int) (C := R_Mo) (T := F_Mo) (N := 25) hx hb hts in_Mo t_Mo t_Mo_ok n_Mo hown hK hP hD hS 0 rfl rfl 4 (by decide) (hts _ w_597) (fun _ h9 => h9) rfl (by decide +kernel) (rfl) (rfl) (Nat.le_of_ble_eq_true rfl) d_Mo_write_48 (fun H locs hP hD hS => ?_)
  have hP : va_P (dC, dI) cls [(h0, .inr (5, [.int 0, .ref a0, .int (-1), .int 0, .int (wr + 1), .ref a1, .ref a2, .ref a3, .int 0, .int 0, .ref a4, .int 0, .ref a5, .int 0, .int 0, .int 0, .int 0, .int 0, .int 0, .ref a6, .int 0, .ref a7, .int 0, .ref a8, .ref a9])), (a0, .inl (cA, 512, .inl g)), (a9, .inl (cC, 96, .inl f))] H := hP
  have hD : va_D A [(h0, .inr (5, [.int 0, .ref a0, .int (-1), .int 0, .int (wr + 1), .ref a1, .ref a2, .ref a3, .int 0, .int 0, .ref a4, .int 0, .ref a5, .int 0, .int 0, .int 0, .int 0, .int 0, .int 0, .ref a6, .int 0, .ref a7, .int 0, .ref a8, .ref a9])), (a0, .inl (cA, 512, .inl g)), (a9, .inl (cC, 96, .inl f))] := hD
  refine lv_iconst (v := 0) hx hb d_Mo_write_51 (by decide) ?_
  refine lv_istore_n (i := 3) hx hb d_Mo_write_52 rfl hl (by decide) rfl (fun ls hl => ?_)
  have hl : lv_has ls 4 [(3, .int 0), (0, .ref h0), (1, .int 1), (2, .int (-1))] := hl
  have hl : lv_has ls 4 [(3, .int (nI 0)), (0, .ref h0), (1, .int 1), (2, .int (-1))] := lv_sub hl [0, 1, 2, 3] rfl
  refine lp_Mo_write1 hx hb hts hown hkw h0 a0 a1 a2 a3 a4 a5 a6 a7 a8 a9 cA cC (wr + 1) f hK (fun ls H locs g hl hP hD hS _ => ?_) 16 0 (by decide) ls _ _ g hl hP hD hS trivial
  refine W.widen (k := 0) (n := 0) (by decide) (by decide) ?_
  exact W.vret hx hb hr (fun t ht hW => ⟨⟨g, rfl, trivial, cB.of (hP.sub [0, 1, 2] rfl) (hD.sub [0, 1, 2] (by decide) rfl) (hK.sub [0, 1] rfl) ht hW⟩, hS.F ht⟩) hS.2.2 d_Mo_write_93
set_option maxHeartbeats 4000000 in
set_option maxRecDepth 100000 in
theorem lp_Mo_write0 {p : Program} {l : Launch} {e : Env} {R : Room} {s : State} {m : MethodId} {args : Array Value} {below : List Frame} {meth : Method} {c : Code} {cells slots : Nat} {Q : State → Prop} {A : Nat → Prop} {dC : Nat → ClassId} {dI : Nat → Nat → Nat} (hx : p.tables.exec = Jvm.exec) (hb : c.code = b_Mo_write) (hts : ∀ w ∈ gw, w.before args s = true) (hown : s.vm.findClass "LineDiskModel" = some m.cls) (hkw : kw s) (h0 a0 a1 a2 a3 a4 a5 a6 a7 a8 a9 : Nat) (cA cC : ClassId) (wr : Int32) (f : Nat → Int32) (hK : va_K (dC, dI) cls [(cA, .int), (cC, .int)] s)  (kk : ∀ (ls : Array Slot) (H : Heap) (locs : List Loc) (g : Nat → Int32), lv_has ls 4 [(3, .int (nI 16)), (0, .ref h0), (1, .int 0), (2, .int 0)] → va_P (dC, dI) cls [(h0, .inr (5, [.int 0, .ref a0, .int (-1), .int 0, .int wr, .ref a1, .ref a2, .ref a3, .int 0, .int 0, .ref a4, .int 0, .ref a5, .int 0, .int 0, .int 0, .int 0, .int 0, .int 0, .ref a6, .int 0, .ref a7, .int 0, .ref a8, .ref a9])), (a0, .inl (cA, 512, .inl g)), (a9, .inl (cC, 96, .inl f))] H → va_D A [(h0, .inr (5, [.int 0, .ref a0, .int (-1), .int 0, .int wr, .ref a1, .ref a2, .ref a3, .int 0, .int 0, .ref a4, .int 0, .ref a5, .int 0, .int 0, .int 0, .int 0, .int 0, .int 0, .ref a6, .int 0, .ref a7, .int 0, .ref a8, .ref a9])), (a0, .inl (cA, 512, .inl g)), (a9, .inl (cC, 96, .inl f))] → va_S A s.heap H locs → (True) → W p l e R s m args below meth c H locs cells slots Q (F0 m 93 ls [])) : ∀ (j k : Nat), k + j = 16 → ∀ (ls : Array Slot) (H : Heap) (locs : List Loc) (g : Nat → Int32), lv_has ls 4 [(3, .int (nI k)), (0, .ref h0), (1, .int 0), (2, .int 0)] → va_P (dC, dI) cls [(h0, .inr (5, [.int 0, .ref a0, .int (-1), .int 0, .int wr, .ref a1, .ref a2, .ref a3, .int 0, .int 0, .ref a4, .int 0, .ref a5, .int 0, .int 0, .int 0, .int 0, .int 0, .int 0, .ref a6, .int 0, .ref a7, .int 0, .ref a8, .ref a9])), (a0, .inl (cA, 512, .inl g)), (a9, .inl (cC, 96, .inl f))] H → va_D A [(h0, .inr (5, [.int 0, .ref a0, .int (-1), .int 0, .int wr, .ref a1, .ref a2, .ref a3, .int 0, .int 0, .ref a4, .int 0, .ref a5, .int 0, .int 0, .int 0, .int 0, .int 0, .int 0, .ref a6, .int 0, .ref a7, .int 0, .ref a8, .ref a9])), (a0, .inl (cA, 512, .inl g)), (a9, .inl (cC, 96, .inl f))] → va_S A s.heap H locs → (True) → W p l e R s m args below meth c H locs cells slots Q (F0 m 53 ls []) := by
  intro j
  induction j with
  | zero =>
    intro k hk ls H locs g hl hP hD hS hf
    have hk : k = 16 := by omega
    subst hk
    refine lv_iload_n hx hb d_Mo_write_53 rfl (lv_at hl 0 rfl) ?_
    refine lv_bipush (v := 16) hx hb d_Mo_write_54 (by decide) ?_
    refine lv_icmp_ge (tgt := 93) hx hb d_Mo_write_56 (by decide) (fun _ => ?_) (fun h => absurd (nI_le (a := 16) (b := 16) (Nat.le_refl _) (by decide)) h)
    exact kk ls H locs g hl hP hD hS hf
  | succ j ih =>
    intro k hk ls H locs g hl hP hD hS hf
    have hkN : k < 16 := by omega
    refine lv_iload_n hx hb d_Mo_write_53 rfl (lv_at hl 0 rfl) ?_
    refine lv_bipush (v := 16) hx hb d_Mo_write_54 (by decide) ?_
    refine lv_icmp_ge (tgt := 93) hx hb d_Mo_write_56 (by decide) (fun h => absurd h (nI_ge (b := 16) hkN (by decide))) (fun _ => ?_)
    refine lv_aload_n hx hb d_Mo_write_59 rfl (lv_at hl 1 rfl) ?_
    refine va_get (D := (dC, dI)) (ci := 5) (v := .ref a0) (C := R_Mo) (T := F_Mo) (N := 25) hx hb hts in_Mo hown hK hP 0 rfl rfl 1 (by decide) (hts _ w_594) (fun _ h9 => h9) rfl d_Mo_write_60 ?_
    refine lv_bipush (v := 16) hx hb d_Mo_write_63 (by decide) ?_
    refine lv_iload_n hx hb d_Mo_write_65 rfl (lv_at hl 2 rfl) ?_
    refine lv_imul hx hb d_Mo_write_66 ?_
    refine tv (x2 := 0) (by decide) ?_
    refine lv_iload_n hx hb d_Mo_write_67 rfl (lv_at hl 0 rfl) ?_
    refine lv_iadd hx hb d_Mo_write_68 ?_
    refine lv_iload_n hx hb d_Mo_write_69 rfl (lv_at hl 3 rfl) ?_
    refine lv_iconst (v := (-1)) hx hb d_Mo_write_70 (by decide) ?_
    refine lv_icmp_ne (tgt := 78) hx hb d_Mo_write_71 (by decide) (fun _ => ?_) (fun h => absurd h (by decide))
    refine lv_aload_n hx hb d_Mo_write_78 rfl (lv_at hl 1 rfl) ?_
    refine va_get (D := (dC, dI)) (ci := 5) (v := .ref a9) (C := R_Mo) (T := F_Mo) (N := 25) hx hb hts in_Mo hown hK hP 0 rfl rfl 24 (by decide) (hts _ w_617) (fun _ h9 => h9) rfl d_Mo_write_79 ?_
    refine lv_iload_n hx hb d_Mo_write_82 rfl (lv_at hl 3 rfl) ?_
    refine lv_iload_n hx hb d_Mo_write_83 rfl (lv_at hl 0 rfl) ?_
    refine lv_iadd hx hb d_Mo_write_84 ?_
    refine va_iald hx hb hK hP 2 1 rfl rfl (by show vp_in (nI 0 + nI k) 96; rw [nI_add]; exact vp_in_nI (by omega) (by decide)) d_Mo_write_85 ?_
    refine va_iast hx hb hK hP hD hS 1 0 rfl rfl (by show vp_in (nI 0 + nI k) 512; rw [nI_add]; exact vp_in_nI (by omega) (by decide)) d_Mo_write_86 (fun H locs hP hD hS => ?_)
    have hP : va_P (dC, dI) cls [(h0, .inr (5, [.int 0, .ref a0, .int (-1), .int 0, .int wr, .ref a1, .ref a2, .ref a3, .int 0, .int 0, .ref a4, .int 0, .ref a5, .int 0, .int 0, .int 0, .int 0, .int 0, .int 0, .ref a6, .int 0, .ref a7, .int 0, .ref a8, .ref a9])), (a0, .inl (cA, 512, .inl (upd g (0 + (nI k) : Int32).toNatClampNeg (f (0 + (nI k)).toNatClampNeg)))), (a9, .inl (cC, 96, .inl f))] H := hP
    have hD : va_D A [(h0, .inr (5, [.int 0, .ref a0, .int (-1), .int 0, .int wr, .ref a1, .ref a2, .ref a3, .int 0, .int 0, .ref a4, .int 0, .ref a5, .int 0, .int 0, .int 0, .int 0, .int 0, .int 0, .ref a6, .int 0, .ref a7, .int 0, .ref a8, .ref a9])), (a0, .inl (cA, 512, .inl (upd g (0 + (nI k) : Int32).toNatClampNeg (f (0 + (nI k)).toNatClampNeg)))), (a9, .inl (cC, 96, .inl f))] := hD
    refine lv_iinc (k := 0) (v := nI (k + 1)) hx hb d_Mo_write_87 hl rfl (by rw [lit1]; exact (nI_succ k).symm) (by decide) rfl (fun ls hl => ?_)
    have hl : lv_has ls 4 [(3, .int (nI (k + 1))), (0, .ref h0), (1, .int 0), (2, .int 0)] := hl
    refine lv_goto (tgt := 53) hx hb d_Mo_write_90 (by decide) ?_
    exact ih (k + 1) (by omega) ls H locs (upd g (0 + (nI k) : Int32).toNatClampNeg (f (0 + (nI k)).toNatClampNeg)) (hl) hP hD hS (trivial)
set_option maxHeartbeats 4000000 in
set_option maxRecDepth 100000 in
theorem c_Mo_write0 (l : Launch) (dC : Nat → ClassId) (dI : Nat → Nat → Nat) (h0 a0 a1 a2 a3 a4 a5 a6 a7 a8 a9 : Nat) (cA cC : ClassId) (wr : Int32) (g f : Nat → Int32) (sz : Nat) : Met l y_Mo_write (Cond.code y_Mo_write b_Mo_write 4 none :: gw) ({ frames := 0, cells := 0, slots := 0, locals := 0 }) (cP (dC, dI) [.ref h0, .int 0, .int 0] sz [(h0, .inr (5, [.int 0, .ref a0, .int (-1), .int 0, .int wr, .ref a1, .ref a2, .ref a3, .int 0, .int 0, .ref a4, .int 0, .ref a5, .int 0, .int 0, .int 0, .int 0, .int 0, .int 0, .ref a6, .int 0, .ref a7, .int 0, .ref a8, .ref a9])), (a0, .inl (cA, 512, .inl g)), (a9, .inl (cC, 96, .inl f))] [(cA, .int), (cC, .int)] xT) (va_Qv (fun (u : Nat → Int32) => True) (fun (u : Nat → Int32) t => cB (dC, dI) (va_A [(h0, .inr (5, [.int 0, .ref a0, .int (-1), .int 0, .int wr, .ref a1, .ref a2, .ref a3, .int 0, .int 0, .ref a4, .int 0, .ref a5, .int 0, .int 0, .int 0, .int 0, .int 0, .int 0, .ref a6, .int 0, .ref a7, .int 0, .ref a8, .ref a9])), (a0, .inl (cA, 512, .inl g)), (a9, .inl (cC, 96, .inl f))] sz) [(h0, .inr (5, [.int 0, .ref a0, .int (-1), .int 0, .int (wr + 1), .ref a1, .ref a2, .ref a3, .int 0, .int 0, .ref a4, .int 0, .ref a5, .int 0, .int 0, .int 0, .int 0, .int 0, .int 0, .ref a6, .int 0, .ref a7, .int 0, .ref a8, .ref a9])), (a0, .inl (cA, 512, .inl u)), (a9, .inl (cC, 96, .inl f))] [(cA, .int), (cC, .int)] t) (va_A [(h0, .inr (5, [.int 0, .ref a0, .int (-1), .int 0, .int wr, .ref a1, .ref a2, .ref a3, .int 0, .int 0, .ref a4, .int 0, .ref a5, .int 0, .int 0, .int 0, .int 0, .int 0, .int 0, .ref a6, .int 0, .ref a7, .int 0, .ref a8, .ref a9])), (a0, .inl (cA, 512, .inl g)), (a9, .inl (cC, 96, .inl f))] sz)) 0 0 (va_A [(h0, .inr (5, [.int 0, .ref a0, .int (-1), .int 0, .int wr, .ref a1, .ref a2, .ref a3, .int 0, .int 0, .ref a4, .int 0, .ref a5, .int 0, .int 0, .int 0, .int 0, .int 0, .int 0, .ref a6, .int 0, .ref a7, .int 0, .ref a8, .ref a9])), (a0, .inl (cA, 512, .inl g)), (a9, .inl (cC, 96, .inl f))] sz) := by
  refine Met.ofW (cc := b_Mo_write) (maxL := 4) (ret := none) (by decide) rfl ?_
  intro p e s m args below meth c s₁ B hml hv
  obtain ⟨rfl, hsz, hP, hK, hD0, hkw, hX⟩ := hv
  have hx := B.exec
  have hb := B.bytes
  have hr := B.returns
  have hts := fun w hw => atoms_spec (ws := Cond.code y_Mo_write b_Mo_write 4 none :: gw) B.pre w (List.mem_cons_of_mem _ hw)
  have hown : s.vm.findClass "LineDiskModel" = some m.cls := findClass_of_methodNamed B.named
  have hlocks := B.notSynchronized
  have hin := (name_of_methodNamed B.named B.method).1
  subst hsz
  have hD := hD0.self (sz := s.heap.size)
  generalize hAe : va_A [(h0, .inr (5, [.int 0, .ref a0, .int (-1), .int 0, .int wr, .ref a1, .ref a2, .ref a3, .int 0, .int 0, .ref a4, .int 0, .ref a5, .int 0, .int 0, .int 0, .int 0, .int 0, .int 0, .ref a6, .int 0, .ref a7, .int 0, .ref a8, .ref a9])), (a0, .inl (cA, 512, .inl g)), (a9, .inl (cC, 96, .inl f))] s.heap.size = A at hD ⊢
  have hA : ∀ q : Nat, s.heap.size ≤ q → A q := fun q h => by rw [← hAe]; exact Or.inr h
  have hS : va_S A s.heap s.heap [] := va_S.rf
  have hl := lv_entry ([.ref h0, .int 0, .int 0]) (n := 4) (Nat.le_of_ble_eq_true rfl)
  rw [lg_entry_eq]
  generalize (lg_sl ([.ref h0, .int 0, .int 0]) ++ List.replicate (4 - (lg_sl ([.ref h0, .int 0, .int 0])).length) Slot.unset).toArray = ls at hl ⊢
  have hl : lv_has ls 4 [(0, .ref h0), (1, .int 0), (2, .int 0)] := hl
  have F : CallFix p m c b_Mo_write 4 s ([.ref h0, .int 0, .int 0]).toArray gw "LineDiskModel" := ⟨hx, hb, hml, hown, hts⟩
  refine lv_aload_n hx hb d_Mo_write_0 rfl (lv_at hl 0 rfl) ?_
  refine va_get (D := (dC, dI)) (ci := 5) (v := .int 0) (C := R_Mo) (T := F_Mo) (N := 25) hx hb hts in_Mo hown hK hP 0 rfl rfl 3 (by decide) (hts _ w_596) (fun _ h9 => h9) rfl d_Mo_write_1 ?_
  refine lv_if_eq (tgt := 8) hx hb d_Mo_write_4 (by decide) (fun _ => ?_) (fun h => absurd (by decide) h)
  refine lv_aload_n hx hb d_Mo_write_8 rfl (lv_at hl 0 rfl) ?_
  refine va_get (D := (dC, dI)) (ci := 5) (v := .int (-1)) (C := R_Mo) (T := F_Mo) (N := 25) hx hb hts in_Mo hown hK hP 0 rfl rfl 2 (by decide) (hts _ w_595) (fun _ h9 => h9) rfl d_Mo_write_9 ?_
  refine lv_if_ne (tgt := 20) hx hb d_Mo_write_12 (by decide) (fun _ => ?_) (fun h => absurd h (by decide))
  refine lv_aload_n hx hb d_Mo_write_20 rfl (lv_at hl 0 rfl) ?_
  refine lv_dup hx hb d_Mo_write_21 rfl ?_
  refine va_get (D := (dC, dI)) (ci := 5) (v := .int (-1)) (C := R_Mo) (T := F_Mo) (N := 25) hx hb hts in_Mo hown hK hP 0 rfl rfl 2 (by decide) (hts _ w_595) (fun _ h9 => h9) rfl d_Mo_write_22 ?_
  refine lv_aload_n hx hb d_Mo_write_25 rfl (lv_at hl 0 rfl) ?_
  refine va_get (D := (dC, dI)) (ci := 5) (v := .int (-1)) (C := R_Mo) (T := F_Mo) (N := 25) hx hb hts in_Mo hown hK hP 0 rfl rfl 2 (by decide) (hts _ w_595) (fun _ h9 => h9) rfl d_Mo_write_26 ?_
  refine lv_if_le (tgt := 36) hx hb d_Mo_write_29 (by decide) (fun _ => ?_) (fun h => absurd (by decide) h)
  refine lv_iconst (v := 0) hx hb d_Mo_write_36 (by decide) ?_
  refine lv_isub hx hb d_Mo_write_37 ?_
  refine tv (x2 := (-1)) (by decide) ?_
  refine va_put (D := (dC, dI)) (ci := 5) (v := .int (-1)) (ty := .int) (C := R_Mo) (T := F_Mo) (N := 25) hx hb hts in_Mo t_Mo t_Mo_ok n_Mo hown hK hP hD hS 0 rfl rfl 2 (by decide) (hts _ w_595) (fun _ h9 => h9) rfl (by decide +kernel) (rfl) (rfl) (Nat.le_of_ble_eq_true rfl) d_Mo_write_38 (fun H locs hP hD hS => ?_)
  have hP : va_P (dC, dI) cls [(h0, .inr (5, [.int 0, .ref a0, .int (-1), .int 0, .int wr, .ref a1, .ref a2, .ref a3, .int 0, .int 0, .ref a4, .int 0, .ref a5, .int 0, .int 0, .int 0, .int 0, .int 0, .int 0, .ref a6, .int 0, .ref a7, .int 0, .ref a8, .ref a9])), (a0, .inl (cA, 512, .inl g)), (a9, .inl (cC, 96, .inl f))] H := hP
  have hD : va_D A [(h0, .inr (5, [.int 0, .ref a0, .int (-1), .int 0, .int wr, .ref a1, .ref a2, .ref a3, .int 0, .int 0, .ref a4, .int 0, .ref a5, .int 0, .int 0, .int 0, .int 0, .int 0, .int 0, .ref a6, .int 0, .ref a7, .int 0, .ref a8, .ref a9])), (a0, .inl (cA, 512, .inl g)), (a9, .inl (cC, 96, .inl f))] := hD
  refine lv_aload_n hx hb d_Mo_write_41 rfl (lv_at hl 0 rfl) ?_
  refine lv_dup hx hb d_Mo_write_42 rfl ?_
  refine va_get (D := (dC, dI)) (ci := 5) (v := .int wr) (C := R_Mo) (T := F_Mo) (N := 25) hx hb hts in_Mo hown hK hP 0 rfl rfl 4 (by decide) (hts _ w_597) (fun _ h9 => h9) rfl d_Mo_write_43 ?_
  refine lv_iconst (v := 1) hx hb d_Mo_write_46 (by decide) ?_
  refine lv_iadd hx hb d_Mo_write_47 ?_
  refine va_put (D := (dC, dI)) (ci := 5) (v := .int (wr + 1)) (ty := .int) (C := R_Mo) (T := F_Mo) (N := 25) hx hb hts in_Mo t_Mo t_Mo_ok n_Mo hown hK hP hD hS 0 rfl rfl 4 (by decide) (hts _ w_597) (fun _ h9 => h9) rfl (by decide +kernel) (rfl) (rfl) (Nat.le_of_ble_eq_true rfl) d_Mo_write_48 (fun H locs hP hD hS => ?_)
  have hP : va_P (dC, dI) cls [(h0, .inr (5, [.int 0, .ref a0, .int (-1), .int 0, .int (wr + 1), .ref a1, .ref a2, .ref a3, .int 0, .int 0, .ref a4, .int 0, .ref a5, .int 0, .int 0, .int 0, .int 0, .int 0, .int 0, .ref a6, .int 0, .ref a7, .int 0, .ref a8, .ref a9])), (a0, .inl (cA, 512, .inl g)), (a9, .inl (cC, 96, .inl f))] H := hP
  have hD : va_D A [(h0, .inr (5, [.int 0, .ref a0, .int (-1), .int 0, .int (wr + 1), .ref a1, .ref a2, .ref a3, .int 0, .int 0, .ref a4, .int 0, .ref a5, .int 0, .int 0, .int 0, .int 0, .int 0, .int 0, .ref a6, .int 0, .ref a7, .int 0, .ref a8, .ref a9])), (a0, .inl (cA, 512, .inl g)), (a9, .inl (cC, 96, .inl f))] := hD
  refine lv_iconst (v := 0) hx hb d_Mo_write_51 (by decide) ?_
  refine lv_istore_n (i := 3) hx hb d_Mo_write_52 rfl hl (by decide) rfl (fun ls hl => ?_)
  have hl : lv_has ls 4 [(3, .int 0), (0, .ref h0), (1, .int 0), (2, .int 0)] := hl
  have hl : lv_has ls 4 [(3, .int (nI 0)), (0, .ref h0), (1, .int 0), (2, .int 0)] := lv_sub hl [0, 1, 2, 3] rfl
  refine lp_Mo_write0 hx hb hts hown hkw h0 a0 a1 a2 a3 a4 a5 a6 a7 a8 a9 cA cC (wr + 1) f hK (fun ls H locs g hl hP hD hS _ => ?_) 16 0 (by decide) ls _ _ g hl hP hD hS trivial
  refine W.widen (k := 0) (n := 0) (by decide) (by decide) ?_
  exact W.vret hx hb hr (fun t ht hW => ⟨⟨g, rfl, trivial, cB.of (hP.sub [0, 1, 2] rfl) (hD.sub [0, 1, 2] (by decide) rfl) (hK.sub [0, 1] rfl) ht hW⟩, hS.F ht⟩) hS.2.2 d_Mo_write_93
set_option maxHeartbeats 4000000 in
set_option maxRecDepth 100000 in
theorem lp_Mo_format {p : Program} {l : Launch} {e : Env} {R : Room} {s : State} {m : MethodId} {args : Array Value} {below : List Frame} {meth : Method} {c : Code} {cells slots : Nat} {Q : State → Prop} {A : Nat → Prop} {dC : Nat → ClassId} {dI : Nat → Nat → Nat} (hx : p.tables.exec = Jvm.exec) (hb : c.code = b_Mo_format) (hts : ∀ w ∈ gw, w.before args s = true) (hown : s.vm.findClass "LineDiskModel" = some m.cls) (hkw : kw s) (h0 a0 a1 a2 a3 a4 a5 a6 a7 a8 a9 : Nat) (cA cC : ClassId) (g : Nat → Int32) (hK : va_K (dC, dI) cls [(cA, .int), (cC, .int)] s)  (kk : ∀ (ls : Array Slot) (H : Heap) (locs : List Loc) (f : Nat → Int32), lv_has ls 2 [(1, .int (nI 16)), (0, .ref h0)] → va_P (dC, dI) cls [(h0, .inr (5, [.int 0, .ref a0, .int (-1), .int 0, .int 0, .ref a1, .ref a2, .ref a3, .int 0, .int 0, .ref a4, .int 0, .ref a5, .int 0, .int 0, .int 0, .int 0, .int 0, .int 0, .ref a6, .int 0, .ref a7, .int 0, .ref a8, .ref a9])), (a0, .inl (cA, 512, .inl g)), (a9, .inl (cC, 96, .inl f))] H → va_D A [(h0, .inr (5, [.int 0, .ref a0, .int (-1), .int 0, .int 0, .ref a1, .ref a2, .ref a3, .int 0, .int 0, .ref a4, .int 0, .ref a5, .int 0, .int 0, .int 0, .int 0, .int 0, .int 0, .ref a6, .int 0, .ref a7, .int 0, .ref a8, .ref a9])), (a0, .inl (cA, 512, .inl g)), (a9, .inl (cC, 96, .inl f))] → va_S A s.heap H locs → (True) → W p l e R s m args below meth c H locs cells slots Q (F0 m 46 ls [])) : ∀ (j k : Nat), k + j = 16 → ∀ (ls : Array Slot) (H : Heap) (locs : List Loc) (f : Nat → Int32), lv_has ls 2 [(1, .int (nI k)), (0, .ref h0)] → va_P (dC, dI) cls [(h0, .inr (5, [.int 0, .ref a0, .int (-1), .int 0, .int 0, .ref a1, .ref a2, .ref a3, .int 0, .int 0, .ref a4, .int 0, .ref a5, .int 0, .int 0, .int 0, .int 0, .int 0, .int 0, .ref a6, .int 0, .ref a7, .int 0, .ref a8, .ref a9])), (a0, .inl (cA, 512, .inl g)), (a9, .inl (cC, 96, .inl f))] H → va_D A [(h0, .inr (5, [.int 0, .ref a0, .int (-1), .int 0, .int 0, .ref a1, .ref a2, .ref a3, .int 0, .int 0, .ref a4, .int 0, .ref a5, .int 0, .int 0, .int 0, .int 0, .int 0, .int 0, .ref a6, .int 0, .ref a7, .int 0, .ref a8, .ref a9])), (a0, .inl (cA, 512, .inl g)), (a9, .inl (cC, 96, .inl f))] → va_S A s.heap H locs → (True) → W p l e R s m args below meth c H locs cells slots Q (F0 m 17 ls []) := by
  intro j
  induction j with
  | zero =>
    intro k hk ls H locs f hl hP hD hS hf
    have hk : k = 16 := by omega
    subst hk
    refine lv_iload_n hx hb d_Mo_format_17 rfl (lv_at hl 0 rfl) ?_
    refine lv_bipush (v := 16) hx hb d_Mo_format_18 (by decide) ?_
    refine lv_icmp_ge (tgt := 46) hx hb d_Mo_format_20 (by decide) (fun _ => ?_) (fun h => absurd (nI_le (a := 16) (b := 16) (Nat.le_refl _) (by decide)) h)
    exact kk ls H locs f hl hP hD hS hf
  | succ j ih =>
    intro k hk ls H locs f hl hP hD hS hf
    have hkN : k < 16 := by omega
    refine lv_iload_n hx hb d_Mo_format_17 rfl (lv_at hl 0 rfl) ?_
    refine lv_bipush (v := 16) hx hb d_Mo_format_18 (by decide) ?_
    refine lv_icmp_ge (tgt := 46) hx hb d_Mo_format_20 (by decide) (fun h => absurd h (nI_ge (b := 16) hkN (by decide))) (fun _ => ?_)
    refine lv_aload_n hx hb d_Mo_format_23 rfl (lv_at hl 1 rfl) ?_
    refine va_get (D := (dC, dI)) (ci := 5) (v := .ref a9) (C := R_Mo) (T := F_Mo) (N := 25) hx hb hts in_Mo hown hK hP 0 rfl rfl 24 (by decide) (hts _ w_617) (fun _ h9 => h9) rfl d_Mo_format_24 ?_
    refine lv_iload_n hx hb d_Mo_format_27 rfl (lv_at hl 0 rfl) ?_
    refine lv_iload_n hx hb d_Mo_format_28 rfl (lv_at hl 0 rfl) ?_
    refine lv_if_ne (tgt := 38) hx hb d_Mo_format_29 (by decide) (fun hk0 => ?_) (fun hk0 => ?_)
    · skip
      refine lv_iconst (v := 0) hx hb d_Mo_format_38 (by decide) ?_
      refine va_iast hx hb hK hP hD hS 2 1 rfl rfl (vp_in_nI (by omega) (by decide)) d_Mo_format_39 (fun H locs hP hD hS => ?_)
      have hP : va_P (dC, dI) cls [(h0, .inr (5, [.int 0, .ref a0, .int (-1), .int 0, .int 0, .ref a1, .ref a2, .ref a3, .int 0, .int 0, .ref a4, .int 0, .ref a5, .int 0, .int 0, .int 0, .int 0, .int 0, .int 0, .ref a6, .int 0, .ref a7, .int 0, .ref a8, .ref a9])), (a0, .inl (cA, 512, .inl g)), (a9, .inl (cC, 96, .inl (upd f (nI k : Int32).toNatClampNeg 0)))] H := hP
      have hD : va_D A [(h0, .inr (5, [.int 0, .ref a0, .int (-1), .int 0, .int 0, .ref a1, .ref a2, .ref a3, .int 0, .int 0, .ref a4, .int 0, .ref a5, .int 0, .int 0, .int 0, .int 0, .int 0, .int 0, .ref a6, .int 0, .ref a7, .int 0, .ref a8, .ref a9])), (a0, .inl (cA, 512, .inl g)), (a9, .inl (cC, 96, .inl (upd f (nI k : Int32).toNatClampNeg 0)))] := hD
      refine lv_iinc (k := 0) (v := nI (k + 1)) hx hb d_Mo_format_40 hl rfl (by rw [lit1]; exact (nI_succ k).symm) (by decide) rfl (fun ls hl => ?_)
      have hl : lv_has ls 2 [(1, .int (nI (k + 1))), (0, .ref h0)] := hl
      refine lv_goto (tgt := 17) hx hb d_Mo_format_43 (by decide) ?_
      exact ih (k + 1) (by omega) ls H locs (upd f (nI k : Int32).toNatClampNeg 0) (hl) hP hD hS (trivial)
    · skip
      refine lv_sipush (v := 7077) hx hb d_Mo_format_32 (by decide) ?_
      refine lv_goto (tgt := 39) hx hb d_Mo_format_35 (by decide) ?_
      refine va_iast hx hb hK hP hD hS 2 1 rfl rfl (vp_in_nI (by omega) (by decide)) d_Mo_format_39 (fun H locs hP hD hS => ?_)
      have hP : va_P (dC, dI) cls [(h0, .inr (5, [.int 0, .ref a0, .int (-1), .int 0, .int 0, .ref a1, .ref a2, .ref a3, .int 0, .int 0, .ref a4, .int 0, .ref a5, .int 0, .int 0, .int 0, .int 0, .int 0, .int 0, .ref a6, .int 0, .ref a7, .int 0, .ref a8, .ref a9])), (a0, .inl (cA, 512, .inl g)), (a9, .inl (cC, 96, .inl (upd f (nI k : Int32).toNatClampNeg 7077)))] H := hP
      have hD : va_D A [(h0, .inr (5, [.int 0, .ref a0, .int (-1), .int 0, .int 0, .ref a1, .ref a2, .ref a3, .int 0, .int 0, .ref a4, .int 0, .ref a5, .int 0, .int 0, .int 0, .int 0, .int 0, .int 0, .ref a6, .int 0, .ref a7, .int 0, .ref a8, .ref a9])), (a0, .inl (cA, 512, .inl g)), (a9, .inl (cC, 96, .inl (upd f (nI k : Int32).toNatClampNeg 7077)))] := hD
      refine lv_iinc (k := 0) (v := nI (k + 1)) hx hb d_Mo_format_40 hl rfl (by rw [lit1]; exact (nI_succ k).symm) (by decide) rfl (fun ls hl => ?_)
      have hl : lv_has ls 2 [(1, .int (nI (k + 1))), (0, .ref h0)] := hl
      refine lv_goto (tgt := 17) hx hb d_Mo_format_43 (by decide) ?_
      exact ih (k + 1) (by omega) ls H locs (upd f (nI k : Int32).toNatClampNeg 7077) (hl) hP hD hS (trivial)
set_option maxHeartbeats 4000000 in
set_option maxRecDepth 100000 in
theorem c_Mo_format (l : Launch) (dC : Nat → ClassId) (dI : Nat → Nat → Nat) (h0 a0 a1 a2 a3 a4 a5 a6 a7 a8 a9 : Nat) (cA cC : ClassId) (sz : Nat) : Met l y_Mo_format (Cond.code y_Mo_format b_Mo_format 2 (some .int) :: gw) ({ frames := 1, cells := 0, slots := 0, locals := 23 }) (cP (dC, dI) [.ref h0] sz [(h0, .inr (5, [.int 0, .ref a0, .int (-1), .int 0, .int 0, .ref a1, .ref a2, .ref a3, .int 0, .int 0, .ref a4, .int 0, .ref a5, .int 0, .int 0, .int 0, .int 0, .int 0, .int 0, .ref a6, .int 0, .ref a7, .int 0, .ref a8, .ref a9])), (a0, .inl (cA, 512, .inl (fun _ => 0))), (a9, .inl (cC, 96, .inl (fun _ => 0)))] [(cA, .int), (cC, .int)] xT) (va_Qi (fun (r : Int32) (u : Unit) => r = 0) (fun (u : Unit) t => cB (dC, dI) (va_A [(h0, .inr (5, [.int 0, .ref a0, .int (-1), .int 0, .int 0, .ref a1, .ref a2, .ref a3, .int 0, .int 0, .ref a4, .int 0, .ref a5, .int 0, .int 0, .int 0, .int 0, .int 0, .int 0, .ref a6, .int 0, .ref a7, .int 0, .ref a8, .ref a9])), (a0, .inl (cA, 512, .inl (fun _ => 0))), (a9, .inl (cC, 96, .inl (fun _ => 0)))] sz) [] [] t) (va_A [(h0, .inr (5, [.int 0, .ref a0, .int (-1), .int 0, .int 0, .ref a1, .ref a2, .ref a3, .int 0, .int 0, .ref a4, .int 0, .ref a5, .int 0, .int 0, .int 0, .int 0, .int 0, .int 0, .ref a6, .int 0, .ref a7, .int 0, .ref a8, .ref a9])), (a0, .inl (cA, 512, .inl (fun _ => 0))), (a9, .inl (cC, 96, .inl (fun _ => 0)))] sz)) 0 0 (va_A [(h0, .inr (5, [.int 0, .ref a0, .int (-1), .int 0, .int 0, .ref a1, .ref a2, .ref a3, .int 0, .int 0, .ref a4, .int 0, .ref a5, .int 0, .int 0, .int 0, .int 0, .int 0, .int 0, .ref a6, .int 0, .ref a7, .int 0, .ref a8, .ref a9])), (a0, .inl (cA, 512, .inl (fun _ => 0))), (a9, .inl (cC, 96, .inl (fun _ => 0)))] sz) := by
  refine Met.ofW (cc := b_Mo_format) (maxL := 2) (ret := (some .int)) (by decide) rfl ?_
  intro p e s m args below meth c s₁ B hml hv
  obtain ⟨rfl, hsz, hP, hK, hD0, hkw, hX⟩ := hv
  have hx := B.exec
  have hb := B.bytes
  have hr := B.returns
  have hts := fun w hw => atoms_spec (ws := Cond.code y_Mo_format b_Mo_format 2 (some .int) :: gw) B.pre w (List.mem_cons_of_mem _ hw)
  have hown : s.vm.findClass "LineDiskModel" = some m.cls := findClass_of_methodNamed B.named
  have hlocks := B.notSynchronized
  have hin := (name_of_methodNamed B.named B.method).1
  subst hsz
  have hD := hD0.self (sz := s.heap.size)
  generalize hAe : va_A [(h0, .inr (5, [.int 0, .ref a0, .int (-1), .int 0, .int 0, .ref a1, .ref a2, .ref a3, .int 0, .int 0, .ref a4, .int 0, .ref a5, .int 0, .int 0, .int 0, .int 0, .int 0, .int 0, .ref a6, .int 0, .ref a7, .int 0, .ref a8, .ref a9])), (a0, .inl (cA, 512, .inl (fun _ => 0))), (a9, .inl (cC, 96, .inl (fun _ => 0)))] s.heap.size = A at hD ⊢
  have hA : ∀ q : Nat, s.heap.size ≤ q → A q := fun q h => by rw [← hAe]; exact Or.inr h
  have hS : va_S A s.heap s.heap [] := va_S.rf
  have hl := lv_entry ([.ref h0]) (n := 2) (Nat.le_of_ble_eq_true rfl)
  rw [lg_entry_eq]
  generalize (lg_sl ([.ref h0]) ++ List.replicate (2 - (lg_sl ([.ref h0])).length) Slot.unset).toArray = ls at hl ⊢
  have hl : lv_has ls 2 [(0, .ref h0)] := hl
  have F : CallFix p m c b_Mo_format 2 s ([.ref h0]).toArray gw "LineDiskModel" := ⟨hx, hb, hml, hown, hts⟩
  refine lv_aload_n hx hb d_Mo_format_0 rfl (lv_at hl 0 rfl) ?_
  refine lv_iconst (v := 0) hx hb d_Mo_format_1 (by decide) ?_
  refine va_put (D := (dC, dI)) (ci := 5) (v := .int 0) (ty := .int) (C := R_Mo) (T := F_Mo) (N := 25) hx hb hts in_Mo t_Mo t_Mo_ok n_Mo hown hK hP hD hS 0 rfl rfl 0 (by decide) (hts _ w_593) (fun _ h9 => h9) rfl (by decide +kernel) (rfl) (rfl) (Nat.le_of_ble_eq_true rfl) d_Mo_format_2 (fun H locs hP hD hS => ?_)
  have hP : va_P (dC, dI) cls [(h0, .inr (5, [.int 0, .ref a0, .int (-1), .int 0, .int 0, .ref a1, .ref a2, .ref a3, .int 0, .int 0, .ref a4, .int 0, .ref a5, .int 0, .int 0, .int 0, .int 0, .int 0, .int 0, .ref a6, .int 0, .ref a7, .int 0, .ref a8, .ref a9])), (a0, .inl (cA, 512, .inl (fun _ => 0))), (a9, .inl (cC, 96, .inl (fun _ => 0)))] H := hP
  have hD : va_D A [(h0, .inr (5, [.int 0, .ref a0, .int (-1), .int 0, .int 0, .ref a1, .ref a2, .ref a3, .int 0, .int 0, .ref a4, .int 0, .ref a5, .int 0, .int 0, .int 0, .int 0, .int 0, .int 0, .ref a6, .int 0, .ref a7, .int 0, .ref a8, .ref a9])), (a0, .inl (cA, 512, .inl (fun _ => 0))), (a9, .inl (cC, 96, .inl (fun _ => 0)))] := hD
  refine lv_aload_n hx hb d_Mo_format_5 rfl (lv_at hl 0 rfl) ?_
  refine va_get (D := (dC, dI)) (ci := 5) (v := .int 0) (C := R_Mo) (T := F_Mo) (N := 25) hx hb hts in_Mo hown hK hP 0 rfl rfl 3 (by decide) (hts _ w_596) (fun _ h9 => h9) rfl d_Mo_format_6 ?_
  refine lv_if_eq (tgt := 15) hx hb d_Mo_format_9 (by decide) (fun _ => ?_) (fun h => absurd (by decide) h)
  refine lv_iconst (v := 0) hx hb d_Mo_format_15 (by decide) ?_
  refine lv_istore_n (i := 1) hx hb d_Mo_format_16 rfl hl (by decide) rfl (fun ls hl => ?_)
  have hl : lv_has ls 2 [(1, .int 0), (0, .ref h0)] := hl
  refine lp_Mo_format hx hb hts hown hkw h0 a0 a1 a2 a3 a4 a5 a6 a7 a8 a9 cA cC (fun _ => 0) hK (fun ls H locs f hl hP hD hS _ => ?_) 16 0 (by decide) ls _ _ (fun _ => 0) hl hP hD hS trivial
  refine lv_aload_n hx hb d_Mo_format_46 rfl (lv_at hl 1 rfl) ?_
  refine lv_iconst (v := 2) hx hb d_Mo_format_47 (by decide) ?_
  refine lv_iconst (v := (-1)) hx hb d_Mo_format_48 (by decide) ?_
  refine go_v (wr := []) (tr := []) (rV (C := "LineDiskModel") (ci := 5) (q0 := 0) (b := h0) (n := 2) (As := [.int 2, .int (-1)]) (rest := []) F hkw (c_Mo_write2 l dC dI h0 a0 a1 a2 a3 a4 a5 a6 a7 a8 a9 cA cC (0) (fun _ => 0) f H.size) xT_bl (fun _ _ _ => trivial) w_677 w_679 ws_34 w_6 w_680 rfl rfl (by decide +kernel) ⟨Nat.le_of_ble_eq_true rfl, Nat.le_of_ble_eq_true rfl⟩ (hP.sub (ws' := [(h0, .inr (5, [.int 0, .ref a0, .int (-1), .int 0, .int 0, .ref a1, .ref a2, .ref a3, .int 0, .int 0, .ref a4, .int 0, .ref a5, .int 0, .int 0, .int 0, .int 0, .int 0, .int 0, .ref a6, .int 0, .ref a7, .int 0, .ref a8, .ref a9])), (a0, .inl (cA, 512, .inl (fun _ => 0))), (a9, .inl (cC, 96, .inl f))]) [0, 1, 2] rfl) (hD.sub (ws' := [(h0, .inr (5, [.int 0, .ref a0, .int (-1), .int 0, .int 0, .ref a1, .ref a2, .ref a3, .int 0, .int 0, .ref a4, .int 0, .ref a5, .int 0, .int 0, .int 0, .int 0, .int 0, .int 0, .ref a6, .int 0, .ref a7, .int 0, .ref a8, .ref a9])), (a0, .inl (cA, 512, .inl (fun _ => 0))), (a9, .inl (cC, 96, .inl f))]) [0, 1, 2] (by decide) rfl) (hK.sub (tys' := [(cA, .int), (cC, .int)]) [0, 1] rfl) rfl rfl rfl rfl hl.1 rfl (Nat.le_of_ble_eq_true rfl) d_Mo_format_49 ⟨by decide, by decide⟩) hP hD hK hS hA [0, 1, 2] [] [] rfl rfl (by decide) (by decide) rfl (fun v49 H locs _ hP hD hK hS => ?_)
  have hP : va_P (dC, dI) cls [(h0, .inr (5, [.int 0, .ref a0, .int (-1), .int 0, .int (0 + 1), .ref a1, .ref a2, .ref a3, .int 0, .int 0, .ref a4, .int 0, .ref a5, .int 0, .int 0, .int 0, .int 0, .int 0, .int 0, .ref a6, .int 0, .ref a7, .int 0, .ref a8, .ref a9])), (a0, .inl (cA, 512, .inl v49)), (a9, .inl (cC, 96, .inl f))] H := hP
  have hD : va_D A [(h0, .inr (5, [.int 0, .ref a0, .int (-1), .int 0, .int (0 + 1), .ref a1, .ref a2, .ref a3, .int 0, .int 0, .ref a4, .int 0, .ref a5, .int 0, .int 0, .int 0, .int 0, .int 0, .int 0, .ref a6, .int 0, .ref a7, .int 0, .ref a8, .ref a9])), (a0, .inl (cA, 512, .inl v49)), (a9, .inl (cC, 96, .inl f))] := hD
  have hK : va_K (dC, dI) cls [(cA, .int), (cC, .int)] s := hK
  refine W.widen (k := 0) (n := 0) (by omega) (by omega) ?_
  refine lv_aload_n hx hb d_Mo_format_52 rfl (lv_at hl 1 rfl) ?_
  refine lv_iconst (v := 1) hx hb d_Mo_format_53 (by decide) ?_
  refine lv_iconst (v := (-1)) hx hb d_Mo_format_54 (by decide) ?_
  refine go_v (wr := []) (tr := []) (rV (C := "LineDiskModel") (ci := 5) (q0 := 0) (b := h0) (n := 2) (As := [.int 1, .int (-1)]) (rest := []) F hkw (c_Mo_write1 l dC dI h0 a0 a1 a2 a3 a4 a5 a6 a7 a8 a9 cA cC (0 + 1) (v49) f H.size) xT_bl (fun _ _ _ => trivial) w_677 w_679 ws_34 w_6 w_680 rfl rfl (by decide +kernel) ⟨Nat.le_of_ble_eq_true rfl, Nat.le_of_ble_eq_true rfl⟩ (hP.sub (ws' := [(h0, .inr (5, [.int 0, .ref a0, .int (-1), .int 0, .int (0 + 1), .ref a1, .ref a2, .ref a3, .int 0, .int 0, .ref a4, .int 0, .ref a5, .int 0, .int 0, .int 0, .int 0, .int 0, .int 0, .ref a6, .int 0, .ref a7, .int 0, .ref a8, .ref a9])), (a0, .inl (cA, 512, .inl v49)), (a9, .inl (cC, 96, .inl f))]) [0, 1, 2] rfl) (hD.sub (ws' := [(h0, .inr (5, [.int 0, .ref a0, .int (-1), .int 0, .int (0 + 1), .ref a1, .ref a2, .ref a3, .int 0, .int 0, .ref a4, .int 0, .ref a5, .int 0, .int 0, .int 0, .int 0, .int 0, .int 0, .ref a6, .int 0, .ref a7, .int 0, .ref a8, .ref a9])), (a0, .inl (cA, 512, .inl v49)), (a9, .inl (cC, 96, .inl f))]) [0, 1, 2] (by decide) rfl) (hK.sub (tys' := [(cA, .int), (cC, .int)]) [0, 1] rfl) rfl rfl rfl rfl hl.1 rfl (Nat.le_of_ble_eq_true rfl) d_Mo_format_55 ⟨by decide, by decide⟩) hP hD hK hS hA [0, 1, 2] [] [] rfl rfl (by decide) (by decide) rfl (fun v55 H locs _ hP hD hK hS => ?_)
  have hP : va_P (dC, dI) cls [(h0, .inr (5, [.int 0, .ref a0, .int (-1), .int 0, .int (0 + 1 + 1), .ref a1, .ref a2, .ref a3, .int 0, .int 0, .ref a4, .int 0, .ref a5, .int 0, .int 0, .int 0, .int 0, .int 0, .int 0, .ref a6, .int 0, .ref a7, .int 0, .ref a8, .ref a9])), (a0, .inl (cA, 512, .inl v55)), (a9, .inl (cC, 96, .inl f))] H := hP
  have hD : va_D A [(h0, .inr (5, [.int 0, .ref a0, .int (-1), .int 0, .int (0 + 1 + 1), .ref a1, .ref a2, .ref a3, .int 0, .int 0, .ref a4, .int 0, .ref a5, .int 0, .int 0, .int 0, .int 0, .int 0, .int 0, .ref a6, .int 0, .ref a7, .int 0, .ref a8, .ref a9])), (a0, .inl (cA, 512, .inl v55)), (a9, .inl (cC, 96, .inl f))] := hD
  have hK : va_K (dC, dI) cls [(cA, .int), (cC, .int)] s := hK
  refine W.widen (k := 0) (n := 0) (by omega) (by omega) ?_
  refine lv_aload_n hx hb d_Mo_format_58 rfl (lv_at hl 1 rfl) ?_
  refine lv_iconst (v := 0) hx hb d_Mo_format_59 (by decide) ?_
  refine lv_iconst (v := 0) hx hb d_Mo_format_60 (by decide) ?_
  refine go_v (wr := []) (tr := []) (rV (C := "LineDiskModel") (ci := 5) (q0 := 0) (b := h0) (n := 2) (As := [.int 0, .int 0]) (rest := []) F hkw (c_Mo_write0 l dC dI h0 a0 a1 a2 a3 a4 a5 a6 a7 a8 a9 cA cC (0 + 1 + 1) (v55) f H.size) xT_bl (fun _ _ _ => trivial) w_677 w_679 ws_34 w_6 w_680 rfl rfl (by decide +kernel) ⟨Nat.le_of_ble_eq_true rfl, Nat.le_of_ble_eq_true rfl⟩ (hP.sub (ws' := [(h0, .inr (5, [.int 0, .ref a0, .int (-1), .int 0, .int (0 + 1 + 1), .ref a1, .ref a2, .ref a3, .int 0, .int 0, .ref a4, .int 0, .ref a5, .int 0, .int 0, .int 0, .int 0, .int 0, .int 0, .ref a6, .int 0, .ref a7, .int 0, .ref a8, .ref a9])), (a0, .inl (cA, 512, .inl v55)), (a9, .inl (cC, 96, .inl f))]) [0, 1, 2] rfl) (hD.sub (ws' := [(h0, .inr (5, [.int 0, .ref a0, .int (-1), .int 0, .int (0 + 1 + 1), .ref a1, .ref a2, .ref a3, .int 0, .int 0, .ref a4, .int 0, .ref a5, .int 0, .int 0, .int 0, .int 0, .int 0, .int 0, .ref a6, .int 0, .ref a7, .int 0, .ref a8, .ref a9])), (a0, .inl (cA, 512, .inl v55)), (a9, .inl (cC, 96, .inl f))]) [0, 1, 2] (by decide) rfl) (hK.sub (tys' := [(cA, .int), (cC, .int)]) [0, 1] rfl) rfl rfl rfl rfl hl.1 rfl (Nat.le_of_ble_eq_true rfl) d_Mo_format_61 ⟨by decide, by decide⟩) hP hD hK hS hA [0, 1, 2] [] [] rfl rfl (by decide) (by decide) rfl (fun v61 H locs _ hP hD hK hS => ?_)
  have hP : va_P (dC, dI) cls [(h0, .inr (5, [.int 0, .ref a0, .int (-1), .int 0, .int (0 + 1 + 1 + 1), .ref a1, .ref a2, .ref a3, .int 0, .int 0, .ref a4, .int 0, .ref a5, .int 0, .int 0, .int 0, .int 0, .int 0, .int 0, .ref a6, .int 0, .ref a7, .int 0, .ref a8, .ref a9])), (a0, .inl (cA, 512, .inl v61)), (a9, .inl (cC, 96, .inl f))] H := hP
  have hD : va_D A [(h0, .inr (5, [.int 0, .ref a0, .int (-1), .int 0, .int (0 + 1 + 1 + 1), .ref a1, .ref a2, .ref a3, .int 0, .int 0, .ref a4, .int 0, .ref a5, .int 0, .int 0, .int 0, .int 0, .int 0, .int 0, .ref a6, .int 0, .ref a7, .int 0, .ref a8, .ref a9])), (a0, .inl (cA, 512, .inl v61)), (a9, .inl (cC, 96, .inl f))] := hD
  have hK : va_K (dC, dI) cls [(cA, .int), (cC, .int)] s := hK
  refine W.widen (k := 0) (n := 0) (by omega) (by omega) ?_
  refine lv_aload_n hx hb d_Mo_format_64 rfl (lv_at hl 1 rfl) ?_
  refine va_get (D := (dC, dI)) (ci := 5) (v := .int 0) (C := R_Mo) (T := F_Mo) (N := 25) hx hb hts in_Mo hown hK hP 0 rfl rfl 3 (by decide) (hts _ w_596) (fun _ h9 => h9) rfl d_Mo_format_65 ?_
  refine lv_if_eq (tgt := 76) hx hb d_Mo_format_68 (by decide) (fun _ => ?_) (fun h => absurd (by decide) h)
  refine lv_iconst (v := 0) hx hb d_Mo_format_76 (by decide) ?_
  refine W.widen (k := 0) (n := 0) (by decide) (by decide) ?_
  exact W.iret (v := 0) hx hb hr (fun t ht hW => ⟨⟨0, (), rfl, rfl, cB.of (hP.sub [] rfl) (hD.sub [] (by decide) rfl) (hK.sub [] rfl) ht hW⟩, hS.F ht⟩) hS.2.2 d_Mo_format_77
end
section
/-! what the throwing of an exception asks of the statics of Throwable -/
def zS (n d : String) (U : State) (H : Heap) : Prop := ∃ (c : ClassId) (k : Class) (i : Nat) (f : Field) (a : Nat) (cell : Cell) (v : Value), U.vm.findClass Bundle.tN = some c ∧ U.fieldFound? Bundle.tN n d = some (c, k, i, f) ∧ f.isStatic = true ∧ k.statics = some a ∧ H[a]? = some cell ∧ cell.vm.isStatics = true ∧ cell.cls = c ∧ f.slot < cell.slots.size ∧ k.staticTypes[f.slot]? = some f.type ∧ cell.slots[f.slot]? = some v ∧ v.isRef = true
theorem zS.kept {n d : String} {U : State} {H H1 : Heap} (h : zS n d U H) (hq : ∀ q : Nat, q < H.size → H1[q]? = H[q]?) : zS n d U H1 := by
  obtain ⟨c, k, i, f, a, cell, v, h1, h2, h3, h4, h5, h6⟩ := h
  exact ⟨c, k, i, f, a, cell, v, h1, h2, h3, h4, by rw [hq a (Array.getElem?_eq_some_iff.mp h5).1]; exact h5, h6⟩
theorem zS.moved {n d : String} {u U : State} {H : Heap} (hvm : u.vm.Alike U.vm) (h : zS n d u H) : zS n d U H := by
  obtain ⟨c, k, i, f, a, cell, v, h1, h2, h3, h4, h5, h6, h7, h8, h9, h10⟩ := h
  obtain ⟨k', hi', he⟩ := State.fieldFound?_setVm hvm h2
  exact ⟨c, k', i, f, a, cell, v, by rw [hvm.findClass]; exact h1, hi', h3, by rw [he]; exact h4, h5, h6, h7, h8, by rw [he]; exact h9, h10⟩
theorem zS.lays {n d : String} {s : State} {args : Array Value} (h : zS n d s s.heap) : (Cond.laysStatic Bundle.tN n d).before args s = true := by
  obtain ⟨c, k, i, f, a, cell, v, h1, h2, h3, h4, h5, h6, h7, h8, h9, h10⟩ := h
  simp [Cond.before, Cond.holds, Cond.value, h1, h2, h3, h4, h5, h6, h7, h8, h9]
theorem zS.isRef {n d : String} {s : State} {args : Array Value} (h : zS n d s s.heap) : (Cond.isRef (.static Bundle.tN n d)).before args s = true := by
  obtain ⟨c, k, i, f, a, cell, v, h1, h2, h3, h4, h5, h6, h7, h8, h9, h10, h11⟩ := h
  have e : (Term.static Bundle.tN n d).eval args s none [] s = some v := by
    simp [Term.eval, State.fieldNamed?, h2, h3, h4, h5, h6, h10]
  cases v <;> simp_all [Cond.before, Cond.holds, Cond.value, Value.isRef]
theorem zS.of {n d : String} {s : State} {args : Array Value} (hl : (Cond.laysStatic Bundle.tN n d).before args s = true) (hr : (Cond.isRef (.static Bundle.tN n d)).before args s = true) : zS n d s s.heap := by
  obtain ⟨c, k, i, f, a, cell, hc, hi, hst, ha, hcell, hs, hcls, hlt, hty⟩ := Cond.laysStatic_spec hl
  cases hv : (Term.static Bundle.tN n d).eval args s none [] s with
  | none => simp [Cond.before, Cond.holds, Cond.value, hv] at hr
  | some w =>
    obtain ⟨hst', a', cell', ha', hcell', -, hslot⟩ := Term.static_spec hi hv
    cases ha.symm.trans ha'
    cases hcell.symm.trans hcell'
    refine ⟨c, k, i, f, a, cell, w, hc, hi, hst, ha, hcell, hs, hcls, hlt, hty, hslot, ?_⟩
    cases w <;> simp_all [Cond.before, Cond.holds, Cond.value, Value.isRef]
def xE (k : Nat) (tx : String) (q : Nat) : State → Prop := fun U => vk_R "LineDisk" k tx q U ∧ zS "UNASSIGNED_STACK" Bundle.steD U U.heap ∧ zS "SUPPRESSED_SENTINEL" Bundle.listD U U.heap
theorem xE_bl {k : Nat} {tx : String} {q : Nat} : xBl (xE k tx q) := fun U g mk a h => ⟨vk_R.same (u := U) (U := U.calling g mk a) rfl h.1, zS.moved (u := U) (U := U.calling g mk a) (Vm.Alike.refl U.vm) h.2.1, zS.moved (u := U) (U := U.calling g mk a) (Vm.Alike.refl U.vm) h.2.2⟩
theorem xE_of {k : Nat} {tx : String} {q : Nat} {s : State} {H : Heap} (h : xE k tx q s) (hq : ∀ q : Nat, q < s.heap.size → H[q]? = s.heap[q]?) : ∀ U : State, U.heap = H → s.WarmedH U.vm → xE k tx q U :=
  fun U hU hW => ⟨vk_R.warm hW h.1, by rw [hU]; exact zS.moved hW.alike (h.2.1.kept hq), by rw [hU]; exact zS.moved hW.alike (h.2.2.kept hq)⟩
def hz : List Cond := [.laysStatic Bundle.tN "UNASSIGNED_STACK" Bundle.steD, .laysStatic Bundle.tN "SUPPRESSED_SENTINEL" Bundle.listD, .isRef (.static Bundle.tN "UNASSIGNED_STACK" Bundle.steD), .isRef (.static Bundle.tN "SUPPRESSED_SENTINEL" Bundle.listD)]
theorem hz_all {s : State} {args : Array Value} (h1 : zS "UNASSIGNED_STACK" Bundle.steD s s.heap) (h2 : zS "SUPPRESSED_SENTINEL" Bundle.listD s s.heap) : ∀ a ∈ hz, a.before args s = true := by
  intro a ha
  simp only [hz, List.mem_cons, List.not_mem_nil, or_false] at ha
  rcases ha with rfl | rfl | rfl | rfl
  · exact h1.lays
  · exact h2.lays
  · exact h1.isRef
  · exact h2.isRef
def own_ok (a : Cond) : Bool := (tables_1.contains a && (goodWord a || nw_ok a)) || hz.contains a
theorem own_all {l : List Cond} (hl : l.all own_ok = true) {s : State} {args : Array Value} (hts : ∀ w ∈ gw, w.before args s = true) (hkw : kw s) (h1 : zS "UNASSIGNED_STACK" Bundle.steD s s.heap) (h2 : zS "SUPPRESSED_SENTINEL" Bundle.listD s s.heap) : ∀ a ∈ l, a.before args s = true := by
  intro a ha
  have h := List.all_eq_true.mp hl a ha
  simp only [own_ok, Bool.or_eq_true, Bool.and_eq_true, List.contains_iff_mem] at h
  rcases h with ⟨hm, hg | hn⟩ | hm
  · exact hts a (List.mem_filter.mpr ⟨List.mem_append_right _ hm, hg⟩)
  · exact va_Nw.use (nw_tab hn) (hkw a hm hn)
  · exact hz_all h1 h2 a hm
theorem own_arm : (Bundle.ownAtoms "LineDisk" 114 "java/lang/IllegalArgumentException" ["java/lang/RuntimeException", "java/lang/Exception"]).all own_ok = true := by decide +kernel
theorem own_out : (Bundle.ownAtoms "LineDisk" 121 "java/lang/IndexOutOfBoundsException" ["java/lang/RuntimeException", "java/lang/Exception"]).all own_ok = true := by decide +kernel
set_option maxHeartbeats 4000000 in
set_option maxRecDepth 100000 in
theorem t_Ld_arm1 (l : Launch) (hfl : l.flags = pinnedFlags ++ [noTraceFlag]) (dC : Nat → ClassId) (dI : Nat → Nat → Nat) (h0 o0 o1 o2 o3 o4 : Nat) (x : Int32) (h1 : x < 0) (q : Nat) (sz : Nat) : th_Met l y_Ld_arm (Cond.code y_Ld_arm b_Ld_arm 2 (some .boolean) :: gw) ({ frames := 6, cells := 1, slots := 6, locals := 100 }) (cP (dC, dI) [.ref h0, .int x] sz [(h0, .inr (0, [.ref o0, .ref o1, .ref o2, .ref o3, .ref o4, .int 0]))] [] (xE 112 "armed with 0 to 1000 writes" q)) "java/lang/IllegalArgumentException" := by
  refine th_ofW (cc := b_Ld_arm) (maxL := 2) (ret := (some .boolean)) (by decide) rfl ?_
  intro p e s m args below meth c s₁ B hml htab hv
  obtain ⟨rfl, hsz, hP, hK, hD0, hkw, hX⟩ := hv
  have hx := B.exec
  have hb := B.bytes
  have hr := B.returns
  have hts := fun w hw => atoms_spec (ws := Cond.code y_Ld_arm b_Ld_arm 2 (some .boolean) :: gw) B.pre w (List.mem_cons_of_mem _ hw)
  have hown : s.vm.findClass "LineDisk" = some m.cls := findClass_of_methodNamed B.named
  have hlocks := B.notSynchronized
  have hin := (name_of_methodNamed B.named B.method).1
  subst hsz
  have hD := hD0.self (sz := s.heap.size)
  generalize hAe : va_A [(h0, .inr (0, [.ref o0, .ref o1, .ref o2, .ref o3, .ref o4, .int 0]))] s.heap.size = A at hD
  have hA : ∀ q : Nat, s.heap.size ≤ q → A q := fun q h => by rw [← hAe]; exact Or.inr h
  have hS : va_S A s.heap s.heap [] := va_S.rf
  have hl := lv_entry ([.ref h0, .int x]) (n := 2) (Nat.le_of_ble_eq_true rfl)
  rw [lg_entry_eq]
  generalize (lg_sl ([.ref h0, .int x]) ++ List.replicate (2 - (lg_sl ([.ref h0, .int x])).length) Slot.unset).toArray = ls at hl ⊢
  have hl : lv_has ls 2 [(0, .ref h0), (1, .int x)] := hl
  have F : CallFix p m c b_Ld_arm 2 s ([.ref h0, .int x]).toArray gw "LineDisk" := ⟨hx, hb, hml, hown, hts⟩
  refine lv_iload_n hx hb d_Ld_arm_0 rfl (lv_at hl 1 rfl) ?_
  refine lv_if_lt (tgt := 11) hx hb d_Ld_arm_1 (by decide) (fun _ => ?_) (fun h => absurd (h1) h)
  exact th_throw hx hb (Launch.traces_off hfl B.admits) (own := "LineDisk") (X := "java/lang/IllegalArgumentException") (names := ["java/lang/RuntimeException", "java/lang/Exception"]) hown (by decide +kernel) (by decide +kernel) (own_all own_arm hts hkw hX.2.1 hX.2.2) (hts _ w_484) (hts _ w_13) hX.1 (hl.1.trans hml.symm) htab hlocks (by decide) (by decide) (by decide) (by decide) (by decide) (by decide) d_Ld_arm_11 d_Ld_arm_14 d_Ld_arm_15 d_Ld_arm_17 d_Ld_arm_20
set_option maxHeartbeats 4000000 in
set_option maxRecDepth 100000 in
theorem t_Ld_arm2 (l : Launch) (hfl : l.flags = pinnedFlags ++ [noTraceFlag]) (dC : Nat → ClassId) (dI : Nat → Nat → Nat) (h0 o0 o1 o2 o3 o4 : Nat) (x : Int32) (h1 : ¬ x < 0) (h2 : ¬ x ≤ 1000) (q : Nat) (sz : Nat) : th_Met l y_Ld_arm (Cond.code y_Ld_arm b_Ld_arm 2 (some .boolean) :: gw) ({ frames := 6, cells := 1, slots := 6, locals := 100 }) (cP (dC, dI) [.ref h0, .int x] sz [(h0, .inr (0, [.ref o0, .ref o1, .ref o2, .ref o3, .ref o4, .int 0]))] [] (xE 112 "armed with 0 to 1000 writes" q)) "java/lang/IllegalArgumentException" := by
  refine th_ofW (cc := b_Ld_arm) (maxL := 2) (ret := (some .boolean)) (by decide) rfl ?_
  intro p e s m args below meth c s₁ B hml htab hv
  obtain ⟨rfl, hsz, hP, hK, hD0, hkw, hX⟩ := hv
  have hx := B.exec
  have hb := B.bytes
  have hr := B.returns
  have hts := fun w hw => atoms_spec (ws := Cond.code y_Ld_arm b_Ld_arm 2 (some .boolean) :: gw) B.pre w (List.mem_cons_of_mem _ hw)
  have hown : s.vm.findClass "LineDisk" = some m.cls := findClass_of_methodNamed B.named
  have hlocks := B.notSynchronized
  have hin := (name_of_methodNamed B.named B.method).1
  subst hsz
  have hD := hD0.self (sz := s.heap.size)
  generalize hAe : va_A [(h0, .inr (0, [.ref o0, .ref o1, .ref o2, .ref o3, .ref o4, .int 0]))] s.heap.size = A at hD
  have hA : ∀ q : Nat, s.heap.size ≤ q → A q := fun q h => by rw [← hAe]; exact Or.inr h
  have hS : va_S A s.heap s.heap [] := va_S.rf
  have hl := lv_entry ([.ref h0, .int x]) (n := 2) (Nat.le_of_ble_eq_true rfl)
  rw [lg_entry_eq]
  generalize (lg_sl ([.ref h0, .int x]) ++ List.replicate (2 - (lg_sl ([.ref h0, .int x])).length) Slot.unset).toArray = ls at hl ⊢
  have hl : lv_has ls 2 [(0, .ref h0), (1, .int x)] := hl
  have F : CallFix p m c b_Ld_arm 2 s ([.ref h0, .int x]).toArray gw "LineDisk" := ⟨hx, hb, hml, hown, hts⟩
  refine lv_iload_n hx hb d_Ld_arm_0 rfl (lv_at hl 1 rfl) ?_
  refine lv_if_lt (tgt := 11) hx hb d_Ld_arm_1 (by decide) (fun h => absurd h (h1)) (fun _ => ?_)
  refine lv_iload_n hx hb d_Ld_arm_4 rfl (lv_at hl 1 rfl) ?_
  refine lv_sipush (v := 1000) hx hb d_Ld_arm_5 (by decide) ?_
  refine lv_icmp_le (tgt := 21) hx hb d_Ld_arm_8 (by decide) (fun h => absurd h (h2)) (fun _ => ?_)
  exact th_throw hx hb (Launch.traces_off hfl B.admits) (own := "LineDisk") (X := "java/lang/IllegalArgumentException") (names := ["java/lang/RuntimeException", "java/lang/Exception"]) hown (by decide +kernel) (by decide +kernel) (own_all own_arm hts hkw hX.2.1 hX.2.2) (hts _ w_484) (hts _ w_13) hX.1 (hl.1.trans hml.symm) htab hlocks (by decide) (by decide) (by decide) (by decide) (by decide) (by decide) d_Ld_arm_11 d_Ld_arm_14 d_Ld_arm_15 d_Ld_arm_17 d_Ld_arm_20
set_option maxHeartbeats 4000000 in
set_option maxRecDepth 100000 in
theorem t_Ld_out1 (l : Launch) (hfl : l.flags = pinnedFlags ++ [noTraceFlag]) (dC : Nat → ClassId) (dI : Nat → Nat → Nat) (h0 o0 o1 o2 o3 o4 : Nat) (x : Int32) (h1 : x < 0) (q : Nat) (sz : Nat) : th_Met l y_Ld_out (Cond.code y_Ld_out b_Ld_out 2 (some .int) :: gw) ({ frames := 6, cells := 1, slots := 6, locals := 100 }) (cP (dC, dI) [.ref h0, .int x] sz [(h0, .inr (0, [.ref o0, .ref o1, .ref o2, .ref o3, .ref o4, .int 0]))] [] (xE 119 "no such number is kept" q)) "java/lang/IndexOutOfBoundsException" := by
  refine th_ofW (cc := b_Ld_out) (maxL := 2) (ret := (some .int)) (by decide) rfl ?_
  intro p e s m args below meth c s₁ B hml htab hv
  obtain ⟨rfl, hsz, hP, hK, hD0, hkw, hX⟩ := hv
  have hx := B.exec
  have hb := B.bytes
  have hr := B.returns
  have hts := fun w hw => atoms_spec (ws := Cond.code y_Ld_out b_Ld_out 2 (some .int) :: gw) B.pre w (List.mem_cons_of_mem _ hw)
  have hown : s.vm.findClass "LineDisk" = some m.cls := findClass_of_methodNamed B.named
  have hlocks := B.notSynchronized
  have hin := (name_of_methodNamed B.named B.method).1
  subst hsz
  have hD := hD0.self (sz := s.heap.size)
  generalize hAe : va_A [(h0, .inr (0, [.ref o0, .ref o1, .ref o2, .ref o3, .ref o4, .int 0]))] s.heap.size = A at hD
  have hA : ∀ q : Nat, s.heap.size ≤ q → A q := fun q h => by rw [← hAe]; exact Or.inr h
  have hS : va_S A s.heap s.heap [] := va_S.rf
  have hl := lv_entry ([.ref h0, .int x]) (n := 2) (Nat.le_of_ble_eq_true rfl)
  rw [lg_entry_eq]
  generalize (lg_sl ([.ref h0, .int x]) ++ List.replicate (2 - (lg_sl ([.ref h0, .int x])).length) Slot.unset).toArray = ls at hl ⊢
  have hl : lv_has ls 2 [(0, .ref h0), (1, .int x)] := hl
  have F : CallFix p m c b_Ld_out 2 s ([.ref h0, .int x]).toArray gw "LineDisk" := ⟨hx, hb, hml, hown, hts⟩
  refine lv_iload_n hx hb d_Ld_out_0 rfl (lv_at hl 1 rfl) ?_
  refine lv_if_lt (tgt := 18) hx hb d_Ld_out_1 (by decide) (fun _ => ?_) (fun h => absurd (h1) h)
  exact th_throw hx hb (Launch.traces_off hfl B.admits) (own := "LineDisk") (X := "java/lang/IndexOutOfBoundsException") (names := ["java/lang/RuntimeException", "java/lang/Exception"]) hown (by decide +kernel) (by decide +kernel) (own_all own_out hts hkw hX.2.1 hX.2.2) (hts _ w_559) (hts _ w_14) hX.1 (hl.1.trans hml.symm) htab hlocks (by decide) (by decide) (by decide) (by decide) (by decide) (by decide) d_Ld_out_18 d_Ld_out_21 d_Ld_out_22 d_Ld_out_24 d_Ld_out_27
set_option maxHeartbeats 4000000 in
set_option maxRecDepth 100000 in
theorem t_Ld_out2 (l : Launch) (hfl : l.flags = pinnedFlags ++ [noTraceFlag]) (dC : Nat → ClassId) (dI : Nat → Nat → Nat) (h0 o0 o1 o2 o3 o4 : Nat) (x : Int32) (h1 : ¬ x < 0) (q : Nat) (sz : Nat) : th_Met l y_Ld_out (Cond.code y_Ld_out b_Ld_out 2 (some .int) :: gw) ({ frames := 6, cells := 1, slots := 6, locals := 100 }) (cP (dC, dI) [.ref h0, .int x] sz [(h0, .inr (0, [.ref o0, .ref o1, .ref o2, .ref o3, .ref o4, .int 0]))] [] (xE 119 "no such number is kept" q)) "java/lang/IndexOutOfBoundsException" := by
  refine th_ofW (cc := b_Ld_out) (maxL := 2) (ret := (some .int)) (by decide) rfl ?_
  intro p e s m args below meth c s₁ B hml htab hv
  obtain ⟨rfl, hsz, hP, hK, hD0, hkw, hX⟩ := hv
  have hx := B.exec
  have hb := B.bytes
  have hr := B.returns
  have hts := fun w hw => atoms_spec (ws := Cond.code y_Ld_out b_Ld_out 2 (some .int) :: gw) B.pre w (List.mem_cons_of_mem _ hw)
  have hown : s.vm.findClass "LineDisk" = some m.cls := findClass_of_methodNamed B.named
  have hlocks := B.notSynchronized
  have hin := (name_of_methodNamed B.named B.method).1
  subst hsz
  have hD := hD0.self (sz := s.heap.size)
  generalize hAe : va_A [(h0, .inr (0, [.ref o0, .ref o1, .ref o2, .ref o3, .ref o4, .int 0]))] s.heap.size = A at hD
  have hA : ∀ q : Nat, s.heap.size ≤ q → A q := fun q h => by rw [← hAe]; exact Or.inr h
  have hS : va_S A s.heap s.heap [] := va_S.rf
  have hl := lv_entry ([.ref h0, .int x]) (n := 2) (Nat.le_of_ble_eq_true rfl)
  rw [lg_entry_eq]
  generalize (lg_sl ([.ref h0, .int x]) ++ List.replicate (2 - (lg_sl ([.ref h0, .int x])).length) Slot.unset).toArray = ls at hl ⊢
  have hl : lv_has ls 2 [(0, .ref h0), (1, .int x)] := hl
  have F : CallFix p m c b_Ld_out 2 s ([.ref h0, .int x]).toArray gw "LineDisk" := ⟨hx, hb, hml, hown, hts⟩
  refine lv_iload_n hx hb d_Ld_out_0 rfl (lv_at hl 1 rfl) ?_
  refine lv_if_lt (tgt := 18) hx hb d_Ld_out_1 (by decide) (fun h => absurd h (h1)) (fun _ => ?_)
  refine lv_iload_n hx hb d_Ld_out_4 rfl (lv_at hl 1 rfl) ?_
  refine lv_aload_n hx hb d_Ld_out_5 rfl (lv_at hl 0 rfl) ?_
  refine va_get (D := (dC, dI)) (ci := 0) (v := .int 0) (C := R_Ld) (T := F_Ld) (N := 6) hx hb hts in_Ld hown hK hP 0 rfl rfl 5 (by decide) (hts _ w_157) (fun _ h9 => h9) rfl d_Ld_out_6 ?_
  refine lv_icmp_ge (tgt := 18) hx hb d_Ld_out_9 (by decide) (fun _ => ?_) (fun h => absurd (Int32.not_lt.mp h1) h)
  exact th_throw hx hb (Launch.traces_off hfl B.admits) (own := "LineDisk") (X := "java/lang/IndexOutOfBoundsException") (names := ["java/lang/RuntimeException", "java/lang/Exception"]) hown (by decide +kernel) (by decide +kernel) (own_all own_out hts hkw hX.2.1 hX.2.2) (hts _ w_559) (hts _ w_14) hX.1 (hl.1.trans hml.symm) htab hlocks (by decide) (by decide) (by decide) (by decide) (by decide) (by decide) d_Ld_out_18 d_Ld_out_21 d_Ld_out_22 d_Ld_out_24 d_Ld_out_27
set_option maxHeartbeats 4000000 in
set_option maxRecDepth 100000 in
theorem t_Ld_disk1 (l : Launch) (hfl : l.flags = pinnedFlags ++ [noTraceFlag]) (dC : Nat → ClassId) (dI : Nat → Nat → Nat) (h0 o0 o1 o2 o3 o4 : Nat) (x : Int32) (h1 : x < 0) (q : Nat) (sz : Nat) : th_Met l y_Ld_disk (Cond.code y_Ld_disk b_Ld_disk 2 (some .int) :: gw) ({ frames := 6, cells := 1, slots := 6, locals := 100 }) (cP (dC, dI) [.ref h0, .int x] sz [(h0, .inr (0, [.ref o0, .ref o1, .ref o2, .ref o3, .ref o4, .int 0]))] [] (xE 122 "no such cell" q)) "java/lang/IndexOutOfBoundsException" := by
  refine th_ofW (cc := b_Ld_disk) (maxL := 2) (ret := (some .int)) (by decide) rfl ?_
  intro p e s m args below meth c s₁ B hml htab hv
  obtain ⟨rfl, hsz, hP, hK, hD0, hkw, hX⟩ := hv
  have hx := B.exec
  have hb := B.bytes
  have hr := B.returns
  have hts := fun w hw => atoms_spec (ws := Cond.code y_Ld_disk b_Ld_disk 2 (some .int) :: gw) B.pre w (List.mem_cons_of_mem _ hw)
  have hown : s.vm.findClass "LineDisk" = some m.cls := findClass_of_methodNamed B.named
  have hlocks := B.notSynchronized
  have hin := (name_of_methodNamed B.named B.method).1
  subst hsz
  have hD := hD0.self (sz := s.heap.size)
  generalize hAe : va_A [(h0, .inr (0, [.ref o0, .ref o1, .ref o2, .ref o3, .ref o4, .int 0]))] s.heap.size = A at hD
  have hA : ∀ q : Nat, s.heap.size ≤ q → A q := fun q h => by rw [← hAe]; exact Or.inr h
  have hS : va_S A s.heap s.heap [] := va_S.rf
  have hl := lv_entry ([.ref h0, .int x]) (n := 2) (Nat.le_of_ble_eq_true rfl)
  rw [lg_entry_eq]
  generalize (lg_sl ([.ref h0, .int x]) ++ List.replicate (2 - (lg_sl ([.ref h0, .int x])).length) Slot.unset).toArray = ls at hl ⊢
  have hl : lv_has ls 2 [(0, .ref h0), (1, .int x)] := hl
  have F : CallFix p m c b_Ld_disk 2 s ([.ref h0, .int x]).toArray gw "LineDisk" := ⟨hx, hb, hml, hown, hts⟩
  refine lv_iload_n hx hb d_Ld_disk_0 rfl (lv_at hl 1 rfl) ?_
  refine lv_if_lt (tgt := 11) hx hb d_Ld_disk_1 (by decide) (fun _ => ?_) (fun h => absurd (h1) h)
  exact th_throw hx hb (Launch.traces_off hfl B.admits) (own := "LineDisk") (X := "java/lang/IndexOutOfBoundsException") (names := ["java/lang/RuntimeException", "java/lang/Exception"]) hown (by decide +kernel) (by decide +kernel) (own_all own_out hts hkw hX.2.1 hX.2.2) (hts _ w_559) (hts _ w_14) hX.1 (hl.1.trans hml.symm) htab hlocks (by decide) (by decide) (by decide) (by decide) (by decide) (by decide) d_Ld_disk_11 d_Ld_disk_14 d_Ld_disk_15 d_Ld_disk_17 d_Ld_disk_20
set_option maxHeartbeats 4000000 in
set_option maxRecDepth 100000 in
theorem t_Ld_disk2 (l : Launch) (hfl : l.flags = pinnedFlags ++ [noTraceFlag]) (dC : Nat → ClassId) (dI : Nat → Nat → Nat) (h0 o0 o1 o2 o3 o4 : Nat) (x : Int32) (h1 : ¬ x < 0) (h2 : ¬ x < 512) (q : Nat) (sz : Nat) : th_Met l y_Ld_disk (Cond.code y_Ld_disk b_Ld_disk 2 (some .int) :: gw) ({ frames := 6, cells := 1, slots := 6, locals := 100 }) (cP (dC, dI) [.ref h0, .int x] sz [(h0, .inr (0, [.ref o0, .ref o1, .ref o2, .ref o3, .ref o4, .int 0]))] [] (xE 122 "no such cell" q)) "java/lang/IndexOutOfBoundsException" := by
  refine th_ofW (cc := b_Ld_disk) (maxL := 2) (ret := (some .int)) (by decide) rfl ?_
  intro p e s m args below meth c s₁ B hml htab hv
  obtain ⟨rfl, hsz, hP, hK, hD0, hkw, hX⟩ := hv
  have hx := B.exec
  have hb := B.bytes
  have hr := B.returns
  have hts := fun w hw => atoms_spec (ws := Cond.code y_Ld_disk b_Ld_disk 2 (some .int) :: gw) B.pre w (List.mem_cons_of_mem _ hw)
  have hown : s.vm.findClass "LineDisk" = some m.cls := findClass_of_methodNamed B.named
  have hlocks := B.notSynchronized
  have hin := (name_of_methodNamed B.named B.method).1
  subst hsz
  have hD := hD0.self (sz := s.heap.size)
  generalize hAe : va_A [(h0, .inr (0, [.ref o0, .ref o1, .ref o2, .ref o3, .ref o4, .int 0]))] s.heap.size = A at hD
  have hA : ∀ q : Nat, s.heap.size ≤ q → A q := fun q h => by rw [← hAe]; exact Or.inr h
  have hS : va_S A s.heap s.heap [] := va_S.rf
  have hl := lv_entry ([.ref h0, .int x]) (n := 2) (Nat.le_of_ble_eq_true rfl)
  rw [lg_entry_eq]
  generalize (lg_sl ([.ref h0, .int x]) ++ List.replicate (2 - (lg_sl ([.ref h0, .int x])).length) Slot.unset).toArray = ls at hl ⊢
  have hl : lv_has ls 2 [(0, .ref h0), (1, .int x)] := hl
  have F : CallFix p m c b_Ld_disk 2 s ([.ref h0, .int x]).toArray gw "LineDisk" := ⟨hx, hb, hml, hown, hts⟩
  refine lv_iload_n hx hb d_Ld_disk_0 rfl (lv_at hl 1 rfl) ?_
  refine lv_if_lt (tgt := 11) hx hb d_Ld_disk_1 (by decide) (fun h => absurd h (h1)) (fun _ => ?_)
  refine lv_iload_n hx hb d_Ld_disk_4 rfl (lv_at hl 1 rfl) ?_
  refine lv_sipush (v := 512) hx hb d_Ld_disk_5 (by decide) ?_
  refine lv_icmp_lt (tgt := 21) hx hb d_Ld_disk_8 (by decide) (fun h => absurd h (h2)) (fun _ => ?_)
  exact th_throw hx hb (Launch.traces_off hfl B.admits) (own := "LineDisk") (X := "java/lang/IndexOutOfBoundsException") (names := ["java/lang/RuntimeException", "java/lang/Exception"]) hown (by decide +kernel) (by decide +kernel) (own_all own_out hts hkw hX.2.1 hX.2.2) (hts _ w_559) (hts _ w_14) hX.1 (hl.1.trans hml.symm) htab hlocks (by decide) (by decide) (by decide) (by decide) (by decide) (by decide) d_Ld_disk_11 d_Ld_disk_14 d_Ld_disk_15 d_Ld_disk_17 d_Ld_disk_20
end
section
/-! methods with a table of one row: their contracts, calls of them -/
theorem tab1 {c : Code} {a b d e : Nat} (h : c.exceptionTable.toList.map (fun h => (h.startPc, h.endPc, h.handlerPc, h.catchType)) = [(a, b, d, e)]) : ∃ x, c.exceptionTable.toList = [x] ∧ x.startPc = a ∧ x.endPc = b ∧ x.handlerPc = d ∧ x.catchType = e := by
  match hl : c.exceptionTable.toList, h with
  | [x], h =>
    simp only [List.map_cons, List.map_nil, List.cons.injEq, Prod.mk.injEq, and_true] at h
    exact ⟨x, rfl, h⟩
  | [], h => simp at h
  | x :: y :: r, h => simp at h
theorem tw_ofW {l : Launch} {y : MethodName} {ws ws' : List Cond} {rm : Room} {Pc : Array Value → State → Prop} {Qc : Array Value → State → Outcome → State → Prop} {mc ms : Nat} {free : Addr → Prop} {cc : ByteArray} {maxL : Nat} {ret : Option FieldType} {hh : List (Nat × Nat × Nat × Nat)}
    (hy : plainName y.cls = true) (hw : ws = Cond.codeWith y cc maxL ret hh :: ws')
    (body : ∀ p e s m args below meth c s₁, BodyLoose p l y (headSpec ws rm) cc maxL ret e s m args below meth c s₁ → c.maxLocals = maxL → c.exceptionTable.toList.map (fun h => (h.startPc, h.endPc, h.handlerPc, h.catchType)) = hh → Pc args s →
      W p l e (headSpec ws rm).room s m args below meth c s.heap [] 0 0 (MQ below Qc args s mc ms free) (entryFrame m args maxL)) : Met l y ws rm Pc Qc mc ms free := by
  refine va_MetW (hh := hh) hy hw ?_
  intro p e s m args below meth c s₁ B hml hP
  obtain ⟨m9, meth2, c2, hn9, h1, h2, -, -, h3, -⟩ := Cond.codeWith_spec (atoms_spec (ws := ws) B.pre _ (by rw [hw]; exact List.mem_cons_self))
  cases B.named.symm.trans hn9
  cases B.method.symm.trans h1
  have X0 := Stand.of_body B
  cases X0.code.symm.trans h2
  exact body p e s m args below meth c s₁ B hml h3 hP
section TW
variable {p : Program} {l : Launch} {e : Env} {R : Room} {s : State} {m : MethodId} {args : Array Value} {below : List Frame} {meth : Method} {c : Code} {H : Heap} {locs : List Loc} {cells slots : Nat} {Q : State → Prop}
variable {pc : Nat} {ls : Array Slot} {rest st0 : List Value} {mc ms : Nat} {D : va_G} {wc : va_W}
variable {y : MethodName} {bytes cc : ByteArray} {maxL nL n index : Nat} {ret : Option FieldType} {rm : Room} {Qc : Array Value → State → Outcome → State → Prop} {free : Addr → Prop} {own : String} {As : List Value} {tc : List (ClassId × FieldType)} {Ac : Nat → Prop} {X : State → Prop} {hh : List (Nat × Nat × Nat × Nat)}
theorem rSW (F : CallFix p m c cc nL s args gw own) (hkw : kw s) (hM : Met l y (Cond.codeWith y bytes maxL ret hh :: gw) rm (cP D As H.size wc tc X) Qc mc ms free) (hX : xBl X) (hX2 : ∀ U : State, U.heap = H → s.WarmedH U.vm → X U)
    (h1 : Cond.methodLink own index y ∈ gw) (h2 : Cond.static y ∈ gw) (h4 : Cond.initialized y.cls ∈ gw) (h5 : Cond.codeWith y bytes maxL ret hh ∈ gw) (hrc : rm.cells = mc) (hrs : rm.slots = ms)
    (hd : y.cls ≠ "java/lang/invoke/MethodHandle" ∧ y.cls ≠ "java/lang/invoke/VarHandle" ∧ (parseMethodDescriptor y.desc).map (fun d => d.parameters.length) = some n) (hR : rm.frames + 1 ≤ R.frames ∧ 8 + (maxL + 11) + rm.locals ≤ R.locals)
    (hP : va_P D cls wc H) (hD : va_D Ac wc) (hK : va_K D cls tc s)
    (hn : As.length = n) (hsize : ls.size = nL) (hstack : st0 = As.reverse ++ rest) (hW : (rest.map fun v => v.category).sum ≤ 8) (hdg : decode cc pc = .ok (.invokestatic index, 3)) (hf : cells + mc ≤ R.cells ∧ slots + ms ≤ R.slots) :
    va_Run p l e R s m args below meth c H locs cells slots mc ms (F0 m pc ls st0) rest (Qc As.toArray) free := by
  obtain ⟨hx, hb, hml, ho, hts⟩ := F
  have hini := hts _ h4
  have hK9 : Back l R p e below s args y 3 8 (PreOf R mc ms (cP D As H.size wc tc X)) (PostOf Qc mc ms free) := va_backW (hh := hh) (bytes := bytes) (maxL := maxL) (ret := ret) hM (cP.blind hX) hrc hrs hR.1 hR.2 (pay_in hts (gi h5)) List.mem_cons_self (fun a' U hW => word_at hW (Or.inl (by first | rfl | simp [Cond.onTables, Cond.keeps, Cond.steady])) hini)
  have hPc := cP.pre (av := As) hP hD hK hkw hX2
  intro T hT Y
  obtain ⟨mk, methM, cM, hnamed, hmethM, -, -, -, -, -, -, hsigM⟩ := Cond.codeWith_spec (hts _ h5)
  have hstatic : methM.isStatic = true := Cond.static_spec hnamed hmethM (hts _ h2)
  obtain ⟨kP, hkP, -⟩ := className_of_methodNamed hnamed
  have hinitP : kP.init = .initialized := Cond.initialized_spec (findClass_of_methodNamed hnamed) hkP hini
  have hlen : As.length = methM.sig.parameters.length := by
    have h9 := hd.2.2
    rw [hsigM] at h9
    rw [hn]
    exact (Option.some.inj h9).symm
  subst hb
  obtain ⟨vm₁, Y₁, hstep₁⟩ := Y.invokestatic hx ho (hts _ h1) hnamed hmethM hstatic hkP hinitP ⟨hd.1, hd.2.1⟩ (g := F0 m pc ls st0) rfl (argsL := As) (rest := rest) hlen hstack hdg
  obtain ⟨v, ⟨U', l2, c2, s2⟩, X', ⟨g', mk', t, L, e1, e2, hq, g1, hL, g2, g3⟩, hsteps⟩ := hK9 m meth c ⟨T.setVm vm₁, locs, cells, slots⟩ (F0 m pc ls rest) (.invokestatic index) mk As.toArray Y₁ rfl (hsize.trans hml.symm) hdg (lv_room hW) (Y₁.named hnamed) ⟨hf.1, hf.2, hPc (T.setVm vm₁) hT Y₁.warmed⟩
  dsimp only [Pt.U, Pt.locs, Pt.cells, Pt.slots] at X' e1 e2 g1 g2 g3 hsteps
  subst g1; subst g2; subst g3
  exact ⟨v, (T.setVm vm₁).calling g' mk' As.toArray, t, U', L, hT, X', hL, e1, e2, hq, fun target h => hstep₁ _ fun acts => by rw [doInvoke_state]; exact hsteps.trans h⟩
end TW
theorem nilP {D : va_G} {H : Heap} : va_P D cls [] H := fun k q h => by cases h
theorem nilD {A : Nat → Prop} : va_D A [] := ⟨fun i j p q h => (by cases h), fun k q h => (by cases h)⟩
set_option maxHeartbeats 4000000 in
set_option maxRecDepth 100000 in
theorem h_arm1 (l : Launch) (dC : Nat → ClassId) (dI : Nat → Nat → Nat) (hfl : l.flags = pinnedFlags ++ [noTraceFlag]) (h0 o0 o1 o2 o3 o4 : Nat) (lo : Nat) (x : Int32) (h1 : x < 0) (q : Nat) (sz : Nat) : Met l y_La_arm (Cond.codeWith y_La_arm b_La_arm 4 (some .int) [(0, 16, 19, 13)] :: gw) ({ frames := 7, cells := 1, slots := 6, locals := 121 }) (cP (dC, dI) [.ref h0, .int x, .ref lo] sz [(h0, .inr (0, [.ref o0, .ref o1, .ref o2, .ref o3, .ref o4, .int 0]))] [] (xE 112 "armed with 0 to 1000 writes" q)) (va_Qi (fun (r : Int32) (u : Unit) => r = 1) (fun (u : Unit) t => cB (dC, dI) (va_A [(h0, .inr (0, [.ref o0, .ref o1, .ref o2, .ref o3, .ref o4, .int 0]))] sz) [] [] t) (va_A [(h0, .inr (0, [.ref o0, .ref o1, .ref o2, .ref o3, .ref o4, .int 0]))] sz)) 1 6 (va_A [(h0, .inr (0, [.ref o0, .ref o1, .ref o2, .ref o3, .ref o4, .int 0]))] sz) := by
  refine tw_ofW (hh := [(0, 16, 19, 13)]) (cc := b_La_arm) (maxL := 4) (ret := (some .int)) (by decide) rfl ?_
  intro p e s m args below meth c s₁ B hml htab0 hv
  obtain ⟨rfl, hsz, hP, hK, hD0, hkw, hX⟩ := hv
  have hx := B.exec
  have hb := B.bytes
  have hr := B.returns
  have hts := fun w hw => atoms_spec (ws := Cond.codeWith y_La_arm b_La_arm 4 (some .int) [(0, 16, 19, 13)] :: gw) B.pre w (List.mem_cons_of_mem _ hw)
  have hown : s.vm.findClass "LineDiskLaw" = some m.cls := findClass_of_methodNamed B.named
  have hlocks := B.notSynchronized
  have hin := (name_of_methodNamed B.named B.method).1
  subst hsz
  have hD := hD0.self (sz := s.heap.size)
  generalize hAe : va_A [(h0, .inr (0, [.ref o0, .ref o1, .ref o2, .ref o3, .ref o4, .int 0]))] s.heap.size = A at hD ⊢
  have hA : ∀ q : Nat, s.heap.size ≤ q → A q := fun q h => by rw [← hAe]; exact Or.inr h
  have hS : va_S A s.heap s.heap [] := va_S.rf
  have hl := lv_entry ([.ref h0, .int x, .ref lo]) (n := 4) (Nat.le_of_ble_eq_true rfl)
  rw [lg_entry_eq]
  generalize (lg_sl ([.ref h0, .int x, .ref lo]) ++ List.replicate (4 - (lg_sl ([.ref h0, .int x, .ref lo])).length) Slot.unset).toArray = ls at hl ⊢
  have hl : lv_has ls 4 [(0, .ref h0), (1, .int x), (2, .ref lo)] := hl
  have F : CallFix p m c b_La_arm 4 s ([.ref h0, .int x, .ref lo]).toArray gw "LineDiskLaw" := ⟨hx, hb, hml, hown, hts⟩
  refine lv_aload_n hx hb d_La_arm_0 rfl (lv_at hl 2 rfl) ?_
  refine lv_iconst (v := 0) hx hb d_La_arm_1 (by decide) ?_
  refine lv_aload_n hx hb d_La_arm_2 rfl (lv_at hl 0 rfl) ?_
  refine lv_iload_n hx hb d_La_arm_3 rfl (lv_at hl 1 rfl) ?_
  obtain ⟨xx, ht, hx1, hx2, hx3, hx4⟩ := tab1 htab0
  refine th_call (As := [.int x]) (rest := [.int 0, .ref lo]) (b := h0) (C := "LineDisk") (own := "LineDiskLaw") (name := "java/lang/IllegalArgumentException") (bytes := b_Ld_arm) (maxL := 2) (ret := (some .boolean)) hx hb hml hown (t_Ld_arm1 l hfl dC dI h0 o0 o1 o2 o3 o4 x h1 q s.heap.size) (cP.blind xE_bl) (by decide) (by decide) (pay_in hts (gi w_483)) (hts _ w_483) (hts _ w_480) (hts _ w_481) (hts _ w_482) (hts _ w_1) (by decide +kernel) (fun sig h => ?_) (va_recv (q0 := 0) hK hP (ci := 0) rfl rfl) (cP.pre (A := A) hP hD hK hkw (xE_of hX (fun _ _ => rfl))) hl.1 (Nat.le_of_ble_eq_true rfl) d_La_arm_4 (by decide) (by decide) ht (by simp [covers, hx1, hx2]) (by rw [hx4]; decide) (by rw [hx4]; exact hts _ w_479) (hkw.use v_486 rfl) rfl (fun ea H hz9 hk9 => ?_)
  · cases (show some sig = parseMethodDescriptor y_Ld_arm.desc from h.symm).trans (by decide +kernel : parseMethodDescriptor y_Ld_arm.desc = some ⟨[.int], (some .boolean)⟩)
    rfl
  rw [hx3]
  have hS : va_S A s.heap H [] := ⟨hz9, fun q h _ => hk9 q h, fun _ h => by cases h⟩
  refine W.widen (k := 1) (n := 6) (by decide) (by decide) ?_
  refine lv_astore_n (i := 3) hx hb d_La_arm_19 rfl hl (by decide) rfl (fun ls hl => ?_)
  have hl : lv_has ls 4 [(3, .ref ea), (0, .ref h0), (1, .int x), (2, .ref lo)] := hl
  refine lv_iconst (v := 1) hx hb d_La_arm_20 (by decide) ?_
  exact W.iret (v := 1) hx hb hr (fun t ht hW => ⟨⟨1, (), rfl, rfl, cB.of nilP nilD (hK.sub [] rfl) ht hW⟩, hS.F ht⟩) hS.2.2 d_La_arm_21
set_option maxHeartbeats 4000000 in
set_option maxRecDepth 100000 in
theorem h_arm2 (l : Launch) (dC : Nat → ClassId) (dI : Nat → Nat → Nat) (hfl : l.flags = pinnedFlags ++ [noTraceFlag]) (h0 o0 o1 o2 o3 o4 : Nat) (lo : Nat) (x : Int32) (h1 : ¬ x < 0) (h2 : ¬ x ≤ 1000) (q : Nat) (sz : Nat) : Met l y_La_arm (Cond.codeWith y_La_arm b_La_arm 4 (some .int) [(0, 16, 19, 13)] :: gw) ({ frames := 7, cells := 1, slots := 6, locals := 121 }) (cP (dC, dI) [.ref h0, .int x, .ref lo] sz [(h0, .inr (0, [.ref o0, .ref o1, .ref o2, .ref o3, .ref o4, .int 0]))] [] (xE 112 "armed with 0 to 1000 writes" q)) (va_Qi (fun (r : Int32) (u : Unit) => r = 1) (fun (u : Unit) t => cB (dC, dI) (va_A [(h0, .inr (0, [.ref o0, .ref o1, .ref o2, .ref o3, .ref o4, .int 0]))] sz) [] [] t) (va_A [(h0, .inr (0, [.ref o0, .ref o1, .ref o2, .ref o3, .ref o4, .int 0]))] sz)) 1 6 (va_A [(h0, .inr (0, [.ref o0, .ref o1, .ref o2, .ref o3, .ref o4, .int 0]))] sz) := by
  refine tw_ofW (hh := [(0, 16, 19, 13)]) (cc := b_La_arm) (maxL := 4) (ret := (some .int)) (by decide) rfl ?_
  intro p e s m args below meth c s₁ B hml htab0 hv
  obtain ⟨rfl, hsz, hP, hK, hD0, hkw, hX⟩ := hv
  have hx := B.exec
  have hb := B.bytes
  have hr := B.returns
  have hts := fun w hw => atoms_spec (ws := Cond.codeWith y_La_arm b_La_arm 4 (some .int) [(0, 16, 19, 13)] :: gw) B.pre w (List.mem_cons_of_mem _ hw)
  have hown : s.vm.findClass "LineDiskLaw" = some m.cls := findClass_of_methodNamed B.named
  have hlocks := B.notSynchronized
  have hin := (name_of_methodNamed B.named B.method).1
  subst hsz
  have hD := hD0.self (sz := s.heap.size)
  generalize hAe : va_A [(h0, .inr (0, [.ref o0, .ref o1, .ref o2, .ref o3, .ref o4, .int 0]))] s.heap.size = A at hD ⊢
  have hA : ∀ q : Nat, s.heap.size ≤ q → A q := fun q h => by rw [← hAe]; exact Or.inr h
  have hS : va_S A s.heap s.heap [] := va_S.rf
  have hl := lv_entry ([.ref h0, .int x, .ref lo]) (n := 4) (Nat.le_of_ble_eq_true rfl)
  rw [lg_entry_eq]
  generalize (lg_sl ([.ref h0, .int x, .ref lo]) ++ List.replicate (4 - (lg_sl ([.ref h0, .int x, .ref lo])).length) Slot.unset).toArray = ls at hl ⊢
  have hl : lv_has ls 4 [(0, .ref h0), (1, .int x), (2, .ref lo)] := hl
  have F : CallFix p m c b_La_arm 4 s ([.ref h0, .int x, .ref lo]).toArray gw "LineDiskLaw" := ⟨hx, hb, hml, hown, hts⟩
  refine lv_aload_n hx hb d_La_arm_0 rfl (lv_at hl 2 rfl) ?_
  refine lv_iconst (v := 0) hx hb d_La_arm_1 (by decide) ?_
  refine lv_aload_n hx hb d_La_arm_2 rfl (lv_at hl 0 rfl) ?_
  refine lv_iload_n hx hb d_La_arm_3 rfl (lv_at hl 1 rfl) ?_
  obtain ⟨xx, ht, hx1, hx2, hx3, hx4⟩ := tab1 htab0
  refine th_call (As := [.int x]) (rest := [.int 0, .ref lo]) (b := h0) (C := "LineDisk") (own := "LineDiskLaw") (name := "java/lang/IllegalArgumentException") (bytes := b_Ld_arm) (maxL := 2) (ret := (some .boolean)) hx hb hml hown (t_Ld_arm2 l hfl dC dI h0 o0 o1 o2 o3 o4 x h1 h2 q s.heap.size) (cP.blind xE_bl) (by decide) (by decide) (pay_in hts (gi w_483)) (hts _ w_483) (hts _ w_480) (hts _ w_481) (hts _ w_482) (hts _ w_1) (by decide +kernel) (fun sig h => ?_) (va_recv (q0 := 0) hK hP (ci := 0) rfl rfl) (cP.pre (A := A) hP hD hK hkw (xE_of hX (fun _ _ => rfl))) hl.1 (Nat.le_of_ble_eq_true rfl) d_La_arm_4 (by decide) (by decide) ht (by simp [covers, hx1, hx2]) (by rw [hx4]; decide) (by rw [hx4]; exact hts _ w_479) (hkw.use v_486 rfl) rfl (fun ea H hz9 hk9 => ?_)
  · cases (show some sig = parseMethodDescriptor y_Ld_arm.desc from h.symm).trans (by decide +kernel : parseMethodDescriptor y_Ld_arm.desc = some ⟨[.int], (some .boolean)⟩)
    rfl
  rw [hx3]
  have hS : va_S A s.heap H [] := ⟨hz9, fun q h _ => hk9 q h, fun _ h => by cases h⟩
  refine W.widen (k := 1) (n := 6) (by decide) (by decide) ?_
  refine lv_astore_n (i := 3) hx hb d_La_arm_19 rfl hl (by decide) rfl (fun ls hl => ?_)
  have hl : lv_has ls 4 [(3, .ref ea), (0, .ref h0), (1, .int x), (2, .ref lo)] := hl
  refine lv_iconst (v := 1) hx hb d_La_arm_20 (by decide) ?_
  exact W.iret (v := 1) hx hb hr (fun t ht hW => ⟨⟨1, (), rfl, rfl, cB.of nilP nilD (hK.sub [] rfl) ht hW⟩, hS.F ht⟩) hS.2.2 d_La_arm_21
set_option maxHeartbeats 4000000 in
set_option maxRecDepth 100000 in
theorem h_arm3 (l : Launch) (dC : Nat → ClassId) (dI : Nat → Nat → Nat) (h0 o0 o1 o2 o3 o4 : Nat) (c0 lo : Nat) (cO : ClassId) (g : Nat → Int64) (x : Int32) (h1 : ¬ x < 0) (h2 : x ≤ 1000) (sz : Nat) : Met l y_La_arm (Cond.codeWith y_La_arm b_La_arm 4 (some .int) [(0, 16, 19, 13)] :: gw) ({ frames := 2, cells := 0, slots := 0, locals := 53 }) (cP (dC, dI) [.ref h0, .int x, .ref lo] sz [(h0, .inr (0, [.ref o0, .ref o1, .ref o2, .ref o3, .ref o4, .int 0])), (o0, .inr (1, [.ref c0, .int (-1), .int 0, .int 0])), (lo, .inl (cO, 1, .inr (.inl g)))] [(cO, .long)] xT) (va_Qi (fun (r : Int32) (u : Unit) => r = 0) (fun (u : Unit) t => cB (dC, dI) (va_A [(h0, .inr (0, [.ref o0, .ref o1, .ref o2, .ref o3, .ref o4, .int 0])), (o0, .inr (1, [.ref c0, .int (-1), .int 0, .int 0])), (lo, .inl (cO, 1, .inr (.inl g)))] sz) [(lo, .inl (cO, 1, .inr (.inl (vp_updL g (0 : Int32).toNatClampNeg 1))))] [(cO, .long)] t) (va_A [(h0, .inr (0, [.ref o0, .ref o1, .ref o2, .ref o3, .ref o4, .int 0])), (o0, .inr (1, [.ref c0, .int (-1), .int 0, .int 0])), (lo, .inl (cO, 1, .inr (.inl g)))] sz)) 0 0 (va_A [(h0, .inr (0, [.ref o0, .ref o1, .ref o2, .ref o3, .ref o4, .int 0])), (o0, .inr (1, [.ref c0, .int (-1), .int 0, .int 0])), (lo, .inl (cO, 1, .inr (.inl g)))] sz) := by
  refine tw_ofW (hh := [(0, 16, 19, 13)]) (cc := b_La_arm) (maxL := 4) (ret := (some .int)) (by decide) rfl ?_
  intro p e s m args below meth c s₁ B hml htab0 hv
  obtain ⟨rfl, hsz, hP, hK, hD0, hkw, hX⟩ := hv
  have hx := B.exec
  have hb := B.bytes
  have hr := B.returns
  have hts := fun w hw => atoms_spec (ws := Cond.codeWith y_La_arm b_La_arm 4 (some .int) [(0, 16, 19, 13)] :: gw) B.pre w (List.mem_cons_of_mem _ hw)
  have hown : s.vm.findClass "LineDiskLaw" = some m.cls := findClass_of_methodNamed B.named
  have hlocks := B.notSynchronized
  have hin := (name_of_methodNamed B.named B.method).1
  subst hsz
  have hD := hD0.self (sz := s.heap.size)
  generalize hAe : va_A [(h0, .inr (0, [.ref o0, .ref o1, .ref o2, .ref o3, .ref o4, .int 0])), (o0, .inr (1, [.ref c0, .int (-1), .int 0, .int 0])), (lo, .inl (cO, 1, .inr (.inl g)))] s.heap.size = A at hD ⊢
  have hA : ∀ q : Nat, s.heap.size ≤ q → A q := fun q h => by rw [← hAe]; exact Or.inr h
  have hS : va_S A s.heap s.heap [] := va_S.rf
  have hl := lv_entry ([.ref h0, .int x, .ref lo]) (n := 4) (Nat.le_of_ble_eq_true rfl)
  rw [lg_entry_eq]
  generalize (lg_sl ([.ref h0, .int x, .ref lo]) ++ List.replicate (4 - (lg_sl ([.ref h0, .int x, .ref lo])).length) Slot.unset).toArray = ls at hl ⊢
  have hl : lv_has ls 4 [(0, .ref h0), (1, .int x), (2, .ref lo)] := hl
  have F : CallFix p m c b_La_arm 4 s ([.ref h0, .int x, .ref lo]).toArray gw "LineDiskLaw" := ⟨hx, hb, hml, hown, hts⟩
  refine lv_aload_n hx hb d_La_arm_0 rfl (lv_at hl 2 rfl) ?_
  refine lv_iconst (v := 0) hx hb d_La_arm_1 (by decide) ?_
  refine lv_aload_n hx hb d_La_arm_2 rfl (lv_at hl 0 rfl) ?_
  refine lv_iload_n hx hb d_La_arm_3 rfl (lv_at hl 1 rfl) ?_
  refine go_i (wr := [(lo, .inl (cO, 1, .inr (.inl g)))]) (tr := [(cO, .long)]) (rV (C := "LineDisk") (ci := 0) (q0 := 0) (b := h0) (n := 1) (As := [.int x]) (rest := [.int 0, .ref lo]) F hkw (c_Ld_arm l dC dI h0 o0 o1 o2 o3 o4 c0 x h1 h2 s.heap.size) xT_bl (fun _ _ _ => trivial) w_480 w_481 w_482 w_1 w_483 rfl rfl (by decide +kernel) ⟨Nat.le_of_ble_eq_true rfl, Nat.le_of_ble_eq_true rfl⟩ (hP.sub (ws' := [(h0, .inr (0, [.ref o0, .ref o1, .ref o2, .ref o3, .ref o4, .int 0])), (o0, .inr (1, [.ref c0, .int (-1), .int 0, .int 0]))]) [0, 1] rfl) (hD.sub (ws' := [(h0, .inr (0, [.ref o0, .ref o1, .ref o2, .ref o3, .ref o4, .int 0])), (o0, .inr (1, [.ref c0, .int (-1), .int 0, .int 0]))]) [0, 1] (by decide) rfl) (hK.sub (tys' := []) [] rfl) rfl rfl rfl rfl hl.1 rfl (Nat.le_of_ble_eq_true rfl) d_La_arm_4 ⟨by decide, by decide⟩) hP hD hK hS hA [0, 1] [2] [0] rfl rfl (by decide) (by decide) rfl (fun r u H locs hw hP hD hK hS => ?_)
  have hP : va_P (dC, dI) cls [(lo, .inl (cO, 1, .inr (.inl g)))] H := hP
  have hD : va_D A [(lo, .inl (cO, 1, .inr (.inl g)))] := hD
  have hK : va_K (dC, dI) cls [(cO, .long)] s := hK
  refine W.widen (k := 0) (n := 0) (by omega) (by omega) ?_
  subst hw
  refine lv_if_eq (tgt := 14) hx hb d_La_arm_7 (by decide) (fun h => absurd h (by decide)) (fun _ => ?_)
  refine lv_lconst (v := 1) hx hb d_La_arm_10 (by decide) ?_
  refine lv_goto (tgt := 15) hx hb d_La_arm_11 (by decide) ?_
  refine va_last hx hb hK hP hD hS 0 0 rfl rfl (vp_in_iff.mpr (by decide)) d_La_arm_15 (fun H locs hP hD hS => ?_)
  have hP : va_P (dC, dI) cls [(lo, .inl (cO, 1, .inr (.inl (vp_updL g (0 : Int32).toNatClampNeg 1))))] H := hP
  have hD : va_D A [(lo, .inl (cO, 1, .inr (.inl (vp_updL g (0 : Int32).toNatClampNeg 1))))] := hD
  refine lv_goto (tgt := 22) hx hb d_La_arm_16 (by decide) ?_
  refine lv_iconst (v := 0) hx hb d_La_arm_22 (by decide) ?_
  refine W.widen (k := 0) (n := 0) (by decide) (by decide) ?_
  exact W.iret (v := 0) hx hb hr (fun t ht hW => ⟨⟨0, (), rfl, rfl, cB.of (hP.sub [0] rfl) (hD.sub [0] (by decide) rfl) (hK.sub [0] rfl) ht hW⟩, hS.F ht⟩) hS.2.2 d_La_arm_23
set_option maxHeartbeats 4000000 in
set_option maxRecDepth 100000 in
theorem h_out1 (l : Launch) (dC : Nat → ClassId) (dI : Nat → Nat → Nat) (hfl : l.flags = pinnedFlags ++ [noTraceFlag]) (h0 o0 o1 o2 o3 o4 : Nat) (lo : Nat) (x : Int32) (h1 : x < 0) (q : Nat) (sz : Nat) : Met l y_La_out (Cond.codeWith y_La_out b_La_out 4 (some .int) [(0, 9, 12, 19)] :: gw) ({ frames := 7, cells := 1, slots := 6, locals := 121 }) (cP (dC, dI) [.ref h0, .int x, .ref lo] sz [(h0, .inr (0, [.ref o0, .ref o1, .ref o2, .ref o3, .ref o4, .int 0]))] [] (xE 119 "no such number is kept" q)) (va_Qi (fun (r : Int32) (u : Unit) => r = 1) (fun (u : Unit) t => cB (dC, dI) (va_A [(h0, .inr (0, [.ref o0, .ref o1, .ref o2, .ref o3, .ref o4, .int 0]))] sz) [] [] t) (va_A [(h0, .inr (0, [.ref o0, .ref o1, .ref o2, .ref o3, .ref o4, .int 0]))] sz)) 1 6 (va_A [(h0, .inr (0, [.ref o0, .ref o1, .ref o2, .ref o3, .ref o4, .int 0]))] sz) := by
  refine tw_ofW (hh := [(0, 9, 12, 19)]) (cc := b_La_out) (maxL := 4) (ret := (some .int)) (by decide) rfl ?_
  intro p e s m args below meth c s₁ B hml htab0 hv
  obtain ⟨rfl, hsz, hP, hK, hD0, hkw, hX⟩ := hv
  have hx := B.exec
  have hb := B.bytes
  have hr := B.returns
  have hts := fun w hw => atoms_spec (ws := Cond.codeWith y_La_out b_La_out 4 (some .int) [(0, 9, 12, 19)] :: gw) B.pre w (List.mem_cons_of_mem _ hw)
  have hown : s.vm.findClass "LineDiskLaw" = some m.cls := findClass_of_methodNamed B.named
  have hlocks := B.notSynchronized
  have hin := (name_of_methodNamed B.named B.method).1
  subst hsz
  have hD := hD0.self (sz := s.heap.size)
  generalize hAe : va_A [(h0, .inr (0, [.ref o0, .ref o1, .ref o2, .ref o3, .ref o4, .int 0]))] s.heap.size = A at hD ⊢
  have hA : ∀ q : Nat, s.heap.size ≤ q → A q := fun q h => by rw [← hAe]; exact Or.inr h
  have hS : va_S A s.heap s.heap [] := va_S.rf
  have hl := lv_entry ([.ref h0, .int x, .ref lo]) (n := 4) (Nat.le_of_ble_eq_true rfl)
  rw [lg_entry_eq]
  generalize (lg_sl ([.ref h0, .int x, .ref lo]) ++ List.replicate (4 - (lg_sl ([.ref h0, .int x, .ref lo])).length) Slot.unset).toArray = ls at hl ⊢
  have hl : lv_has ls 4 [(0, .ref h0), (1, .int x), (2, .ref lo)] := hl
  have F : CallFix p m c b_La_out 4 s ([.ref h0, .int x, .ref lo]).toArray gw "LineDiskLaw" := ⟨hx, hb, hml, hown, hts⟩
  refine lv_aload_n hx hb d_La_out_0 rfl (lv_at hl 2 rfl) ?_
  refine lv_iconst (v := 0) hx hb d_La_out_1 (by decide) ?_
  refine lv_aload_n hx hb d_La_out_2 rfl (lv_at hl 0 rfl) ?_
  refine lv_iload_n hx hb d_La_out_3 rfl (lv_at hl 1 rfl) ?_
  obtain ⟨xx, ht, hx1, hx2, hx3, hx4⟩ := tab1 htab0
  refine th_call (As := [.int x]) (rest := [.int 0, .ref lo]) (b := h0) (C := "LineDisk") (own := "LineDiskLaw") (name := "java/lang/IndexOutOfBoundsException") (bytes := b_Ld_out) (maxL := 2) (ret := (some .int)) hx hb hml hown (t_Ld_out1 l hfl dC dI h0 o0 o1 o2 o3 o4 x h1 q s.heap.size) (cP.blind xE_bl) (by decide) (by decide) (pay_in hts (gi w_558)) (hts _ w_558) (hts _ w_555) (hts _ w_556) (hts _ w_557) (hts _ w_1) (by decide +kernel) (fun sig h => ?_) (va_recv (q0 := 0) hK hP (ci := 0) rfl rfl) (cP.pre (A := A) hP hD hK hkw (xE_of hX (fun _ _ => rfl))) hl.1 (Nat.le_of_ble_eq_true rfl) d_La_out_4 (by decide) (by decide) ht (by simp [covers, hx1, hx2]) (by rw [hx4]; decide) (by rw [hx4]; exact hts _ w_554) (hkw.use v_561 rfl) rfl (fun ea H hz9 hk9 => ?_)
  · cases (show some sig = parseMethodDescriptor y_Ld_out.desc from h.symm).trans (by decide +kernel : parseMethodDescriptor y_Ld_out.desc = some ⟨[.int], (some .int)⟩)
    rfl
  rw [hx3]
  have hS : va_S A s.heap H [] := ⟨hz9, fun q h _ => hk9 q h, fun _ h => by cases h⟩
  refine W.widen (k := 1) (n := 6) (by decide) (by decide) ?_
  refine lv_astore_n (i := 3) hx hb d_La_out_12 rfl hl (by decide) rfl (fun ls hl => ?_)
  have hl : lv_has ls 4 [(3, .ref ea), (0, .ref h0), (1, .int x), (2, .ref lo)] := hl
  refine lv_iconst (v := 1) hx hb d_La_out_13 (by decide) ?_
  exact W.iret (v := 1) hx hb hr (fun t ht hW => ⟨⟨1, (), rfl, rfl, cB.of nilP nilD (hK.sub [] rfl) ht hW⟩, hS.F ht⟩) hS.2.2 d_La_out_14
set_option maxHeartbeats 4000000 in
set_option maxRecDepth 100000 in
theorem h_out2 (l : Launch) (dC : Nat → ClassId) (dI : Nat → Nat → Nat) (hfl : l.flags = pinnedFlags ++ [noTraceFlag]) (h0 o0 o1 o2 o3 o4 : Nat) (lo : Nat) (x : Int32) (h1 : ¬ x < 0) (q : Nat) (sz : Nat) : Met l y_La_out (Cond.codeWith y_La_out b_La_out 4 (some .int) [(0, 9, 12, 19)] :: gw) ({ frames := 7, cells := 1, slots := 6, locals := 121 }) (cP (dC, dI) [.ref h0, .int x, .ref lo] sz [(h0, .inr (0, [.ref o0, .ref o1, .ref o2, .ref o3, .ref o4, .int 0]))] [] (xE 119 "no such number is kept" q)) (va_Qi (fun (r : Int32) (u : Unit) => r = 1) (fun (u : Unit) t => cB (dC, dI) (va_A [(h0, .inr (0, [.ref o0, .ref o1, .ref o2, .ref o3, .ref o4, .int 0]))] sz) [] [] t) (va_A [(h0, .inr (0, [.ref o0, .ref o1, .ref o2, .ref o3, .ref o4, .int 0]))] sz)) 1 6 (va_A [(h0, .inr (0, [.ref o0, .ref o1, .ref o2, .ref o3, .ref o4, .int 0]))] sz) := by
  refine tw_ofW (hh := [(0, 9, 12, 19)]) (cc := b_La_out) (maxL := 4) (ret := (some .int)) (by decide) rfl ?_
  intro p e s m args below meth c s₁ B hml htab0 hv
  obtain ⟨rfl, hsz, hP, hK, hD0, hkw, hX⟩ := hv
  have hx := B.exec
  have hb := B.bytes
  have hr := B.returns
  have hts := fun w hw => atoms_spec (ws := Cond.codeWith y_La_out b_La_out 4 (some .int) [(0, 9, 12, 19)] :: gw) B.pre w (List.mem_cons_of_mem _ hw)
  have hown : s.vm.findClass "LineDiskLaw" = some m.cls := findClass_of_methodNamed B.named
  have hlocks := B.notSynchronized
  have hin := (name_of_methodNamed B.named B.method).1
  subst hsz
  have hD := hD0.self (sz := s.heap.size)
  generalize hAe : va_A [(h0, .inr (0, [.ref o0, .ref o1, .ref o2, .ref o3, .ref o4, .int 0]))] s.heap.size = A at hD ⊢
  have hA : ∀ q : Nat, s.heap.size ≤ q → A q := fun q h => by rw [← hAe]; exact Or.inr h
  have hS : va_S A s.heap s.heap [] := va_S.rf
  have hl := lv_entry ([.ref h0, .int x, .ref lo]) (n := 4) (Nat.le_of_ble_eq_true rfl)
  rw [lg_entry_eq]
  generalize (lg_sl ([.ref h0, .int x, .ref lo]) ++ List.replicate (4 - (lg_sl ([.ref h0, .int x, .ref lo])).length) Slot.unset).toArray = ls at hl ⊢
  have hl : lv_has ls 4 [(0, .ref h0), (1, .int x), (2, .ref lo)] := hl
  have F : CallFix p m c b_La_out 4 s ([.ref h0, .int x, .ref lo]).toArray gw "LineDiskLaw" := ⟨hx, hb, hml, hown, hts⟩
  refine lv_aload_n hx hb d_La_out_0 rfl (lv_at hl 2 rfl) ?_
  refine lv_iconst (v := 0) hx hb d_La_out_1 (by decide) ?_
  refine lv_aload_n hx hb d_La_out_2 rfl (lv_at hl 0 rfl) ?_
  refine lv_iload_n hx hb d_La_out_3 rfl (lv_at hl 1 rfl) ?_
  obtain ⟨xx, ht, hx1, hx2, hx3, hx4⟩ := tab1 htab0
  refine th_call (As := [.int x]) (rest := [.int 0, .ref lo]) (b := h0) (C := "LineDisk") (own := "LineDiskLaw") (name := "java/lang/IndexOutOfBoundsException") (bytes := b_Ld_out) (maxL := 2) (ret := (some .int)) hx hb hml hown (t_Ld_out2 l hfl dC dI h0 o0 o1 o2 o3 o4 x h1 q s.heap.size) (cP.blind xE_bl) (by decide) (by decide) (pay_in hts (gi w_558)) (hts _ w_558) (hts _ w_555) (hts _ w_556) (hts _ w_557) (hts _ w_1) (by decide +kernel) (fun sig h => ?_) (va_recv (q0 := 0) hK hP (ci := 0) rfl rfl) (cP.pre (A := A) hP hD hK hkw (xE_of hX (fun _ _ => rfl))) hl.1 (Nat.le_of_ble_eq_true rfl) d_La_out_4 (by decide) (by decide) ht (by simp [covers, hx1, hx2]) (by rw [hx4]; decide) (by rw [hx4]; exact hts _ w_554) (hkw.use v_561 rfl) rfl (fun ea H hz9 hk9 => ?_)
  · cases (show some sig = parseMethodDescriptor y_Ld_out.desc from h.symm).trans (by decide +kernel : parseMethodDescriptor y_Ld_out.desc = some ⟨[.int], (some .int)⟩)
    rfl
  rw [hx3]
  have hS : va_S A s.heap H [] := ⟨hz9, fun q h _ => hk9 q h, fun _ h => by cases h⟩
  refine W.widen (k := 1) (n := 6) (by decide) (by decide) ?_
  refine lv_astore_n (i := 3) hx hb d_La_out_12 rfl hl (by decide) rfl (fun ls hl => ?_)
  have hl : lv_has ls 4 [(3, .ref ea), (0, .ref h0), (1, .int x), (2, .ref lo)] := hl
  refine lv_iconst (v := 1) hx hb d_La_out_13 (by decide) ?_
  exact W.iret (v := 1) hx hb hr (fun t ht hW => ⟨⟨1, (), rfl, rfl, cB.of nilP nilD (hK.sub [] rfl) ht hW⟩, hS.F ht⟩) hS.2.2 d_La_out_14
set_option maxHeartbeats 4000000 in
set_option maxRecDepth 100000 in
theorem h_disk1 (l : Launch) (dC : Nat → ClassId) (dI : Nat → Nat → Nat) (hfl : l.flags = pinnedFlags ++ [noTraceFlag]) (h0 o0 o1 o2 o3 o4 : Nat) (lo : Nat) (x : Int32) (h1 : x < 0) (q : Nat) (sz : Nat) : Met l y_La_disk (Cond.codeWith y_La_disk b_La_disk 4 (some .int) [(0, 9, 12, 19)] :: gw) ({ frames := 7, cells := 1, slots := 6, locals := 121 }) (cP (dC, dI) [.ref h0, .int x, .ref lo] sz [(h0, .inr (0, [.ref o0, .ref o1, .ref o2, .ref o3, .ref o4, .int 0]))] [] (xE 122 "no such cell" q)) (va_Qi (fun (r : Int32) (u : Unit) => r = 1) (fun (u : Unit) t => cB (dC, dI) (va_A [(h0, .inr (0, [.ref o0, .ref o1, .ref o2, .ref o3, .ref o4, .int 0]))] sz) [] [] t) (va_A [(h0, .inr (0, [.ref o0, .ref o1, .ref o2, .ref o3, .ref o4, .int 0]))] sz)) 1 6 (va_A [(h0, .inr (0, [.ref o0, .ref o1, .ref o2, .ref o3, .ref o4, .int 0]))] sz) := by
  refine tw_ofW (hh := [(0, 9, 12, 19)]) (cc := b_La_disk) (maxL := 4) (ret := (some .int)) (by decide) rfl ?_
  intro p e s m args below meth c s₁ B hml htab0 hv
  obtain ⟨rfl, hsz, hP, hK, hD0, hkw, hX⟩ := hv
  have hx := B.exec
  have hb := B.bytes
  have hr := B.returns
  have hts := fun w hw => atoms_spec (ws := Cond.codeWith y_La_disk b_La_disk 4 (some .int) [(0, 9, 12, 19)] :: gw) B.pre w (List.mem_cons_of_mem _ hw)
  have hown : s.vm.findClass "LineDiskLaw" = some m.cls := findClass_of_methodNamed B.named
  have hlocks := B.notSynchronized
  have hin := (name_of_methodNamed B.named B.method).1
  subst hsz
  have hD := hD0.self (sz := s.heap.size)
  generalize hAe : va_A [(h0, .inr (0, [.ref o0, .ref o1, .ref o2, .ref o3, .ref o4, .int 0]))] s.heap.size = A at hD ⊢
  have hA : ∀ q : Nat, s.heap.size ≤ q → A q := fun q h => by rw [← hAe]; exact Or.inr h
  have hS : va_S A s.heap s.heap [] := va_S.rf
  have hl := lv_entry ([.ref h0, .int x, .ref lo]) (n := 4) (Nat.le_of_ble_eq_true rfl)
  rw [lg_entry_eq]
  generalize (lg_sl ([.ref h0, .int x, .ref lo]) ++ List.replicate (4 - (lg_sl ([.ref h0, .int x, .ref lo])).length) Slot.unset).toArray = ls at hl ⊢
  have hl : lv_has ls 4 [(0, .ref h0), (1, .int x), (2, .ref lo)] := hl
  have F : CallFix p m c b_La_disk 4 s ([.ref h0, .int x, .ref lo]).toArray gw "LineDiskLaw" := ⟨hx, hb, hml, hown, hts⟩
  refine lv_aload_n hx hb d_La_disk_0 rfl (lv_at hl 2 rfl) ?_
  refine lv_iconst (v := 0) hx hb d_La_disk_1 (by decide) ?_
  refine lv_aload_n hx hb d_La_disk_2 rfl (lv_at hl 0 rfl) ?_
  refine lv_iload_n hx hb d_La_disk_3 rfl (lv_at hl 1 rfl) ?_
  obtain ⟨xx, ht, hx1, hx2, hx3, hx4⟩ := tab1 htab0
  refine th_call (As := [.int x]) (rest := [.int 0, .ref lo]) (b := h0) (C := "LineDisk") (own := "LineDiskLaw") (name := "java/lang/IndexOutOfBoundsException") (bytes := b_Ld_disk) (maxL := 2) (ret := (some .int)) hx hb hml hown (t_Ld_disk1 l hfl dC dI h0 o0 o1 o2 o3 o4 x h1 q s.heap.size) (cP.blind xE_bl) (by decide) (by decide) (pay_in hts (gi w_581)) (hts _ w_581) (hts _ w_578) (hts _ w_579) (hts _ w_580) (hts _ w_1) (by decide +kernel) (fun sig h => ?_) (va_recv (q0 := 0) hK hP (ci := 0) rfl rfl) (cP.pre (A := A) hP hD hK hkw (xE_of hX (fun _ _ => rfl))) hl.1 (Nat.le_of_ble_eq_true rfl) d_La_disk_4 (by decide) (by decide) ht (by simp [covers, hx1, hx2]) (by rw [hx4]; decide) (by rw [hx4]; exact hts _ w_554) (hkw.use v_561 rfl) rfl (fun ea H hz9 hk9 => ?_)
  · cases (show some sig = parseMethodDescriptor y_Ld_disk.desc from h.symm).trans (by decide +kernel : parseMethodDescriptor y_Ld_disk.desc = some ⟨[.int], (some .int)⟩)
    rfl
  rw [hx3]
  have hS : va_S A s.heap H [] := ⟨hz9, fun q h _ => hk9 q h, fun _ h => by cases h⟩
  refine W.widen (k := 1) (n := 6) (by decide) (by decide) ?_
  refine lv_astore_n (i := 3) hx hb d_La_disk_12 rfl hl (by decide) rfl (fun ls hl => ?_)
  have hl : lv_has ls 4 [(3, .ref ea), (0, .ref h0), (1, .int x), (2, .ref lo)] := hl
  refine lv_iconst (v := 1) hx hb d_La_disk_13 (by decide) ?_
  exact W.iret (v := 1) hx hb hr (fun t ht hW => ⟨⟨1, (), rfl, rfl, cB.of nilP nilD (hK.sub [] rfl) ht hW⟩, hS.F ht⟩) hS.2.2 d_La_disk_14
set_option maxHeartbeats 4000000 in
set_option maxRecDepth 100000 in
theorem h_disk2 (l : Launch) (dC : Nat → ClassId) (dI : Nat → Nat → Nat) (hfl : l.flags = pinnedFlags ++ [noTraceFlag]) (h0 o0 o1 o2 o3 o4 : Nat) (lo : Nat) (x : Int32) (h1 : ¬ x < 0) (h2 : ¬ x < 512) (q : Nat) (sz : Nat) : Met l y_La_disk (Cond.codeWith y_La_disk b_La_disk 4 (some .int) [(0, 9, 12, 19)] :: gw) ({ frames := 7, cells := 1, slots := 6, locals := 121 }) (cP (dC, dI) [.ref h0, .int x, .ref lo] sz [(h0, .inr (0, [.ref o0, .ref o1, .ref o2, .ref o3, .ref o4, .int 0]))] [] (xE 122 "no such cell" q)) (va_Qi (fun (r : Int32) (u : Unit) => r = 1) (fun (u : Unit) t => cB (dC, dI) (va_A [(h0, .inr (0, [.ref o0, .ref o1, .ref o2, .ref o3, .ref o4, .int 0]))] sz) [] [] t) (va_A [(h0, .inr (0, [.ref o0, .ref o1, .ref o2, .ref o3, .ref o4, .int 0]))] sz)) 1 6 (va_A [(h0, .inr (0, [.ref o0, .ref o1, .ref o2, .ref o3, .ref o4, .int 0]))] sz) := by
  refine tw_ofW (hh := [(0, 9, 12, 19)]) (cc := b_La_disk) (maxL := 4) (ret := (some .int)) (by decide) rfl ?_
  intro p e s m args below meth c s₁ B hml htab0 hv
  obtain ⟨rfl, hsz, hP, hK, hD0, hkw, hX⟩ := hv
  have hx := B.exec
  have hb := B.bytes
  have hr := B.returns
  have hts := fun w hw => atoms_spec (ws := Cond.codeWith y_La_disk b_La_disk 4 (some .int) [(0, 9, 12, 19)] :: gw) B.pre w (List.mem_cons_of_mem _ hw)
  have hown : s.vm.findClass "LineDiskLaw" = some m.cls := findClass_of_methodNamed B.named
  have hlocks := B.notSynchronized
  have hin := (name_of_methodNamed B.named B.method).1
  subst hsz
  have hD := hD0.self (sz := s.heap.size)
  generalize hAe : va_A [(h0, .inr (0, [.ref o0, .ref o1, .ref o2, .ref o3, .ref o4, .int 0]))] s.heap.size = A at hD ⊢
  have hA : ∀ q : Nat, s.heap.size ≤ q → A q := fun q h => by rw [← hAe]; exact Or.inr h
  have hS : va_S A s.heap s.heap [] := va_S.rf
  have hl := lv_entry ([.ref h0, .int x, .ref lo]) (n := 4) (Nat.le_of_ble_eq_true rfl)
  rw [lg_entry_eq]
  generalize (lg_sl ([.ref h0, .int x, .ref lo]) ++ List.replicate (4 - (lg_sl ([.ref h0, .int x, .ref lo])).length) Slot.unset).toArray = ls at hl ⊢
  have hl : lv_has ls 4 [(0, .ref h0), (1, .int x), (2, .ref lo)] := hl
  have F : CallFix p m c b_La_disk 4 s ([.ref h0, .int x, .ref lo]).toArray gw "LineDiskLaw" := ⟨hx, hb, hml, hown, hts⟩
  refine lv_aload_n hx hb d_La_disk_0 rfl (lv_at hl 2 rfl) ?_
  refine lv_iconst (v := 0) hx hb d_La_disk_1 (by decide) ?_
  refine lv_aload_n hx hb d_La_disk_2 rfl (lv_at hl 0 rfl) ?_
  refine lv_iload_n hx hb d_La_disk_3 rfl (lv_at hl 1 rfl) ?_
  obtain ⟨xx, ht, hx1, hx2, hx3, hx4⟩ := tab1 htab0
  refine th_call (As := [.int x]) (rest := [.int 0, .ref lo]) (b := h0) (C := "LineDisk") (own := "LineDiskLaw") (name := "java/lang/IndexOutOfBoundsException") (bytes := b_Ld_disk) (maxL := 2) (ret := (some .int)) hx hb hml hown (t_Ld_disk2 l hfl dC dI h0 o0 o1 o2 o3 o4 x h1 h2 q s.heap.size) (cP.blind xE_bl) (by decide) (by decide) (pay_in hts (gi w_581)) (hts _ w_581) (hts _ w_578) (hts _ w_579) (hts _ w_580) (hts _ w_1) (by decide +kernel) (fun sig h => ?_) (va_recv (q0 := 0) hK hP (ci := 0) rfl rfl) (cP.pre (A := A) hP hD hK hkw (xE_of hX (fun _ _ => rfl))) hl.1 (Nat.le_of_ble_eq_true rfl) d_La_disk_4 (by decide) (by decide) ht (by simp [covers, hx1, hx2]) (by rw [hx4]; decide) (by rw [hx4]; exact hts _ w_554) (hkw.use v_561 rfl) rfl (fun ea H hz9 hk9 => ?_)
  · cases (show some sig = parseMethodDescriptor y_Ld_disk.desc from h.symm).trans (by decide +kernel : parseMethodDescriptor y_Ld_disk.desc = some ⟨[.int], (some .int)⟩)
    rfl
  rw [hx3]
  have hS : va_S A s.heap H [] := ⟨hz9, fun q h _ => hk9 q h, fun _ h => by cases h⟩
  refine W.widen (k := 1) (n := 6) (by decide) (by decide) ?_
  refine lv_astore_n (i := 3) hx hb d_La_disk_12 rfl hl (by decide) rfl (fun ls hl => ?_)
  have hl : lv_has ls 4 [(3, .ref ea), (0, .ref h0), (1, .int x), (2, .ref lo)] := hl
  refine lv_iconst (v := 1) hx hb d_La_disk_13 (by decide) ?_
  exact W.iret (v := 1) hx hb hr (fun t ht hW => ⟨⟨1, (), rfl, rfl, cB.of nilP nilD (hK.sub [] rfl) ht hW⟩, hS.F ht⟩) hS.2.2 d_La_disk_14
set_option maxHeartbeats 4000000 in
set_option maxRecDepth 100000 in
theorem h_disk3 (l : Launch) (dC : Nat → ClassId) (dI : Nat → Nat → Nat) (h0 o0 o1 o2 o3 o4 : Nat) (c0 lo : Nat) (cA cO : ClassId) (g : Nat → Int64) (x : Int32) (h1 : ¬ x < 0) (h2 : x < 512) (sz : Nat) : Met l y_La_disk (Cond.codeWith y_La_disk b_La_disk 4 (some .int) [(0, 9, 12, 19)] :: gw) ({ frames := 2, cells := 0, slots := 0, locals := 53 }) (cP (dC, dI) [.ref h0, .int x, .ref lo] sz [(h0, .inr (0, [.ref o0, .ref o1, .ref o2, .ref o3, .ref o4, .int 0])), (o0, .inr (1, [.ref c0, .int (-1), .int 0, .int 0])), (c0, .inl (cA, 512, .inl (fun _ => 0))), (lo, .inl (cO, 1, .inr (.inl g)))] [(cA, .int), (cO, .long)] xT) (va_Qi (fun (r : Int32) (u : Unit) => r = 0) (fun (u : Unit) t => cB (dC, dI) (va_A [(h0, .inr (0, [.ref o0, .ref o1, .ref o2, .ref o3, .ref o4, .int 0])), (o0, .inr (1, [.ref c0, .int (-1), .int 0, .int 0])), (c0, .inl (cA, 512, .inl (fun _ => 0))), (lo, .inl (cO, 1, .inr (.inl g)))] sz) [(lo, .inl (cO, 1, .inr (.inl (vp_updL g (0 : Int32).toNatClampNeg 0))))] [(cO, .long)] t) (va_A [(h0, .inr (0, [.ref o0, .ref o1, .ref o2, .ref o3, .ref o4, .int 0])), (o0, .inr (1, [.ref c0, .int (-1), .int 0, .int 0])), (c0, .inl (cA, 512, .inl (fun _ => 0))), (lo, .inl (cO, 1, .inr (.inl g)))] sz)) 0 0 (va_A [(h0, .inr (0, [.ref o0, .ref o1, .ref o2, .ref o3, .ref o4, .int 0])), (o0, .inr (1, [.ref c0, .int (-1), .int 0, .int 0])), (c0, .inl (cA, 512, .inl (fun _ => 0))), (lo, .inl (cO, 1, .inr (.inl g)))] sz) := by
  refine tw_ofW (hh := [(0, 9, 12, 19)]) (cc := b_La_disk) (maxL := 4) (ret := (some .int)) (by decide) rfl ?_
  intro p e s m args below meth c s₁ B hml htab0 hv
  obtain ⟨rfl, hsz, hP, hK, hD0, hkw, hX⟩ := hv
  have hx := B.exec
  have hb := B.bytes
  have hr := B.returns
  have hts := fun w hw => atoms_spec (ws := Cond.codeWith y_La_disk b_La_disk 4 (some .int) [(0, 9, 12, 19)] :: gw) B.pre w (List.mem_cons_of_mem _ hw)
  have hown : s.vm.findClass "LineDiskLaw" = some m.cls := findClass_of_methodNamed B.named
  have hlocks := B.notSynchronized
  have hin := (name_of_methodNamed B.named B.method).1
  subst hsz
  have hD := hD0.self (sz := s.heap.size)
  generalize hAe : va_A [(h0, .inr (0, [.ref o0, .ref o1, .ref o2, .ref o3, .ref o4, .int 0])), (o0, .inr (1, [.ref c0, .int (-1), .int 0, .int 0])), (c0, .inl (cA, 512, .inl (fun _ => 0))), (lo, .inl (cO, 1, .inr (.inl g)))] s.heap.size = A at hD ⊢
  have hA : ∀ q : Nat, s.heap.size ≤ q → A q := fun q h => by rw [← hAe]; exact Or.inr h
  have hS : va_S A s.heap s.heap [] := va_S.rf
  have hl := lv_entry ([.ref h0, .int x, .ref lo]) (n := 4) (Nat.le_of_ble_eq_true rfl)
  rw [lg_entry_eq]
  generalize (lg_sl ([.ref h0, .int x, .ref lo]) ++ List.replicate (4 - (lg_sl ([.ref h0, .int x, .ref lo])).length) Slot.unset).toArray = ls at hl ⊢
  have hl : lv_has ls 4 [(0, .ref h0), (1, .int x), (2, .ref lo)] := hl
  have F : CallFix p m c b_La_disk 4 s ([.ref h0, .int x, .ref lo]).toArray gw "LineDiskLaw" := ⟨hx, hb, hml, hown, hts⟩
  refine lv_aload_n hx hb d_La_disk_0 rfl (lv_at hl 2 rfl) ?_
  refine lv_iconst (v := 0) hx hb d_La_disk_1 (by decide) ?_
  refine lv_aload_n hx hb d_La_disk_2 rfl (lv_at hl 0 rfl) ?_
  refine lv_iload_n hx hb d_La_disk_3 rfl (lv_at hl 1 rfl) ?_
  refine go_i (wr := [(lo, .inl (cO, 1, .inr (.inl g)))]) (tr := [(cO, .long)]) (rV (C := "LineDisk") (ci := 0) (q0 := 0) (b := h0) (n := 1) (As := [.int x]) (rest := [.int 0, .ref lo]) F hkw (c_Ld_disk l dC dI h0 o0 o1 o2 o3 o4 c0 cA x h1 h2 s.heap.size) xT_bl (fun _ _ _ => trivial) w_578 w_579 w_580 w_1 w_581 rfl rfl (by decide +kernel) ⟨Nat.le_of_ble_eq_true rfl, Nat.le_of_ble_eq_true rfl⟩ (hP.sub (ws' := [(h0, .inr (0, [.ref o0, .ref o1, .ref o2, .ref o3, .ref o4, .int 0])), (o0, .inr (1, [.ref c0, .int (-1), .int 0, .int 0])), (c0, .inl (cA, 512, .inl (fun _ => 0)))]) [0, 1, 2] rfl) (hD.sub (ws' := [(h0, .inr (0, [.ref o0, .ref o1, .ref o2, .ref o3, .ref o4, .int 0])), (o0, .inr (1, [.ref c0, .int (-1), .int 0, .int 0])), (c0, .inl (cA, 512, .inl (fun _ => 0)))]) [0, 1, 2] (by decide) rfl) (hK.sub (tys' := [(cA, .int)]) [0] rfl) rfl rfl rfl rfl hl.1 rfl (Nat.le_of_ble_eq_true rfl) d_La_disk_4 ⟨by decide, by decide⟩) hP hD hK hS hA [0, 1, 2] [3] [1] rfl rfl (by decide) (by decide) rfl (fun r u H locs hw hP hD hK hS => ?_)
  have hP : va_P (dC, dI) cls [(lo, .inl (cO, 1, .inr (.inl g)))] H := hP
  have hD : va_D A [(lo, .inl (cO, 1, .inr (.inl g)))] := hD
  have hK : va_K (dC, dI) cls [(cO, .long)] s := hK
  refine W.widen (k := 0) (n := 0) (by omega) (by omega) ?_
  subst hw
  refine lv_i2l hx hb d_La_disk_7 rfl ?_
  refine tvL (x2 := 0) (by decide) ?_
  refine va_last hx hb hK hP hD hS 0 0 rfl rfl (vp_in_iff.mpr (by decide)) d_La_disk_8 (fun H locs hP hD hS => ?_)
  have hP : va_P (dC, dI) cls [(lo, .inl (cO, 1, .inr (.inl (vp_updL g (0 : Int32).toNatClampNeg 0))))] H := hP
  have hD : va_D A [(lo, .inl (cO, 1, .inr (.inl (vp_updL g (0 : Int32).toNatClampNeg 0))))] := hD
  refine lv_goto (tgt := 15) hx hb d_La_disk_9 (by decide) ?_
  refine lv_iconst (v := 0) hx hb d_La_disk_15 (by decide) ?_
  refine W.widen (k := 0) (n := 0) (by decide) (by decide) ?_
  exact W.iret (v := 0) hx hb hr (fun t ht hW => ⟨⟨0, (), rfl, rfl, cB.of (hP.sub [0] rfl) (hD.sub [0] (by decide) rfl) (hK.sub [0] rfl) ht hW⟩, hS.F ht⟩) hS.2.2 d_La_disk_16
end
