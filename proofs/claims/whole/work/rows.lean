section
-- ===== PART A: goes FIRST, ahead of the names: the tables' words, and 'selects' of the private methods out of them =====
/-- a private method of a class that the tables say can be made, by its rows of tables_1 -/
def lw_okq (q : MethodName × Nat) : Prop := (q.1.cls ≠ "java/lang/invoke/MethodHandle" ∧ q.1.cls ≠ "java/lang/invoke/VarHandle") ∧ Cond.instantiable q.1.cls q.2 ∈ tables_1 ∧ Cond.privateMethod q.1 ∈ tables_1 ∧ Cond.instanceMethod q.1 ∈ tables_1
theorem lw_p0 : lw_okq (⟨"StorageQuotas$TextReader", "findError", "()I"⟩, 5) := ⟨⟨by decide +kernel, by decide +kernel⟩, List.mem_of_getElem? (i := 127) (by decide +kernel), List.mem_of_getElem? (i := 188) (by decide +kernel), List.mem_of_getElem? (i := 189) (by decide +kernel)⟩
theorem lw_p1 : lw_okq (⟨"StorageQuotas$TextReader", "readCommand", "()Z"⟩, 5) := ⟨⟨by decide +kernel, by decide +kernel⟩, List.mem_of_getElem? (i := 127) (by decide +kernel), List.mem_of_getElem? (i := 192) (by decide +kernel), List.mem_of_getElem? (i := 193) (by decide +kernel)⟩
theorem lw_p2 : lw_okq (⟨"StorageQuotas$TextReader", "readCharacter", "(C)Z"⟩, 5) := ⟨⟨by decide +kernel, by decide +kernel⟩, List.mem_of_getElem? (i := 127) (by decide +kernel), List.mem_of_getElem? (i := 211) (by decide +kernel), List.mem_of_getElem? (i := 212) (by decide +kernel)⟩
theorem lw_p3 : lw_okq (⟨"StorageQuotas$TextReader", "readNumber", "(II)I"⟩, 5) := ⟨⟨by decide +kernel, by decide +kernel⟩, List.mem_of_getElem? (i := 127) (by decide +kernel), List.mem_of_getElem? (i := 215) (by decide +kernel), List.mem_of_getElem? (i := 216) (by decide +kernel)⟩
theorem lw_p4 : lw_okq (⟨"StorageQuotas$TextReader", "digitHere", "()I"⟩, 5) := ⟨⟨by decide +kernel, by decide +kernel⟩, List.mem_of_getElem? (i := 127) (by decide +kernel), List.mem_of_getElem? (i := 219) (by decide +kernel), List.mem_of_getElem? (i := 220) (by decide +kernel)⟩
theorem lw_p5 : lw_okq (⟨"StorageQuotas$TextReader", "canExtend", "(II)Z"⟩, 5) := ⟨⟨by decide +kernel, by decide +kernel⟩, List.mem_of_getElem? (i := 127) (by decide +kernel), List.mem_of_getElem? (i := 223) (by decide +kernel), List.mem_of_getElem? (i := 224) (by decide +kernel)⟩
theorem lw_p6 : lw_okq (⟨"StorageQuotas$State", "isRunning", "(I)Z"⟩, 10) := ⟨⟨by decide +kernel, by decide +kernel⟩, List.mem_of_getElem? (i := 24) (by decide +kernel), List.mem_of_getElem? (i := 239) (by decide +kernel), List.mem_of_getElem? (i := 240) (by decide +kernel)⟩
theorem lw_p7 : lw_okq (⟨"StorageQuotas$State", "isOver", "(I)Z"⟩, 10) := ⟨⟨by decide +kernel, by decide +kernel⟩, List.mem_of_getElem? (i := 24) (by decide +kernel), List.mem_of_getElem? (i := 247) (by decide +kernel), List.mem_of_getElem? (i := 248) (by decide +kernel)⟩
theorem lw_p8 : lw_okq (⟨"java/lang/Throwable", "fillInStackTrace", "(I)Ljava/lang/Throwable;"⟩, 6) := ⟨⟨by decide +kernel, by decide +kernel⟩, List.mem_of_getElem? (i := 314) (by decide +kernel), List.mem_of_getElem? (i := 312) (by decide +kernel), List.mem_of_getElem? (i := 313) (by decide +kernel)⟩
theorem lw_p9 : lw_okq (⟨"StorageQuotas$State", "canAdd", "(I)Z"⟩, 10) := ⟨⟨by decide +kernel, by decide +kernel⟩, List.mem_of_getElem? (i := 24) (by decide +kernel), List.mem_of_getElem? (i := 378) (by decide +kernel), List.mem_of_getElem? (i := 379) (by decide +kernel)⟩
theorem lw_p10 : lw_okq (⟨"StorageQuotas$FileTable", "find", "(I)I"⟩, 5) := ⟨⟨by decide +kernel, by decide +kernel⟩, List.mem_of_getElem? (i := 30) (by decide +kernel), List.mem_of_getElem? (i := 382) (by decide +kernel), List.mem_of_getElem? (i := 383) (by decide +kernel)⟩
theorem lw_p11 : lw_okq (⟨"StorageQuotas", "keepState", "()V"⟩, 8) := ⟨⟨by decide +kernel, by decide +kernel⟩, List.mem_of_getElem? (i := 16) (by decide +kernel), List.mem_of_getElem? (i := 402) (by decide +kernel), List.mem_of_getElem? (i := 403) (by decide +kernel)⟩
theorem lw_p12 : lw_okq (⟨"StorageQuotas$State", "copyFrom", "(LStorageQuotas$State;)V"⟩, 10) := ⟨⟨by decide +kernel, by decide +kernel⟩, List.mem_of_getElem? (i := 24) (by decide +kernel), List.mem_of_getElem? (i := 406) (by decide +kernel), List.mem_of_getElem? (i := 407) (by decide +kernel)⟩
theorem lw_p13 : lw_okq (⟨"StorageQuotas$FileTable", "copyRows", "(LStorageQuotas$FileTable;)V"⟩, 5) := ⟨⟨by decide +kernel, by decide +kernel⟩, List.mem_of_getElem? (i := 30) (by decide +kernel), List.mem_of_getElem? (i := 413) (by decide +kernel), List.mem_of_getElem? (i := 414) (by decide +kernel)⟩
theorem lw_p14 : lw_okq (⟨"StorageQuotas$EventLog", "copyEvents", "(LStorageQuotas$EventLog;)V"⟩, 5) := ⟨⟨by decide +kernel, by decide +kernel⟩, List.mem_of_getElem? (i := 62) (by decide +kernel), List.mem_of_getElem? (i := 418) (by decide +kernel), List.mem_of_getElem? (i := 419) (by decide +kernel)⟩
theorem lw_p15 : lw_okq (⟨"StorageQuotas$State", "addFile", "(IIII)I"⟩, 10) := ⟨⟨by decide +kernel, by decide +kernel⟩, List.mem_of_getElem? (i := 24) (by decide +kernel), List.mem_of_getElem? (i := 423) (by decide +kernel), List.mem_of_getElem? (i := 424) (by decide +kernel)⟩
def lw_privs_1 : List (MethodName × Nat) := [(⟨"StorageQuotas$TextReader", "findError", "()I"⟩, 5), (⟨"StorageQuotas$TextReader", "readCommand", "()Z"⟩, 5), (⟨"StorageQuotas$TextReader", "readCharacter", "(C)Z"⟩, 5), (⟨"StorageQuotas$TextReader", "readNumber", "(II)I"⟩, 5), (⟨"StorageQuotas$TextReader", "digitHere", "()I"⟩, 5), (⟨"StorageQuotas$TextReader", "canExtend", "(II)Z"⟩, 5), (⟨"StorageQuotas$State", "isRunning", "(I)Z"⟩, 10), (⟨"StorageQuotas$State", "isOver", "(I)Z"⟩, 10), (⟨"java/lang/Throwable", "fillInStackTrace", "(I)Ljava/lang/Throwable;"⟩, 6), (⟨"StorageQuotas$State", "canAdd", "(I)Z"⟩, 10), (⟨"StorageQuotas$FileTable", "find", "(I)I"⟩, 5), (⟨"StorageQuotas", "keepState", "()V"⟩, 8), (⟨"StorageQuotas$State", "copyFrom", "(LStorageQuotas$State;)V"⟩, 10), (⟨"StorageQuotas$FileTable", "copyRows", "(LStorageQuotas$FileTable;)V"⟩, 5), (⟨"StorageQuotas$EventLog", "copyEvents", "(LStorageQuotas$EventLog;)V"⟩, 5), (⟨"StorageQuotas$State", "addFile", "(IIII)I"⟩, 10)]
theorem lw_r1 : ∀ q ∈ lw_privs_1, lw_okq q := List.forall_mem_cons.mpr ⟨lw_p0, List.forall_mem_cons.mpr ⟨lw_p1, List.forall_mem_cons.mpr ⟨lw_p2, List.forall_mem_cons.mpr ⟨lw_p3, List.forall_mem_cons.mpr ⟨lw_p4, List.forall_mem_cons.mpr ⟨lw_p5, List.forall_mem_cons.mpr ⟨lw_p6, List.forall_mem_cons.mpr ⟨lw_p7, List.forall_mem_cons.mpr ⟨lw_p8, List.forall_mem_cons.mpr ⟨lw_p9, List.forall_mem_cons.mpr ⟨lw_p10, List.forall_mem_cons.mpr ⟨lw_p11, List.forall_mem_cons.mpr ⟨lw_p12, List.forall_mem_cons.mpr ⟨lw_p13, List.forall_mem_cons.mpr ⟨lw_p14, List.forall_mem_cons.mpr ⟨lw_p15, fun _ h => absurd h List.not_mem_nil⟩⟩⟩⟩⟩⟩⟩⟩⟩⟩⟩⟩⟩⟩⟩⟩
theorem lw_p16 : lw_okq (⟨"StorageQuotas$State", "firstRefusal", "(IIIIII)I"⟩, 10) := ⟨⟨by decide +kernel, by decide +kernel⟩, List.mem_of_getElem? (i := 24) (by decide +kernel), List.mem_of_getElem? (i := 427) (by decide +kernel), List.mem_of_getElem? (i := 428) (by decide +kernel)⟩
theorem lw_p17 : lw_okq (⟨"StorageQuotas$State", "causeOf", "(II)I"⟩, 10) := ⟨⟨by decide +kernel, by decide +kernel⟩, List.mem_of_getElem? (i := 24) (by decide +kernel), List.mem_of_getElem? (i := 437) (by decide +kernel), List.mem_of_getElem? (i := 438) (by decide +kernel)⟩
theorem lw_p18 : lw_okq (⟨"StorageQuotas$State", "noteRefusal", "(III)V"⟩, 10) := ⟨⟨by decide +kernel, by decide +kernel⟩, List.mem_of_getElem? (i := 24) (by decide +kernel), List.mem_of_getElem? (i := 442) (by decide +kernel), List.mem_of_getElem? (i := 443) (by decide +kernel)⟩
theorem lw_p19 : lw_okq (⟨"StorageQuotas$EventLog", "add", "(III)V"⟩, 5) := ⟨⟨by decide +kernel, by decide +kernel⟩, List.mem_of_getElem? (i := 62) (by decide +kernel), List.mem_of_getElem? (i := 446) (by decide +kernel), List.mem_of_getElem? (i := 447) (by decide +kernel)⟩
theorem lw_p20 : lw_okq (⟨"StorageQuotas$FileTable", "add", "(IIII)V"⟩, 5) := ⟨⟨by decide +kernel, by decide +kernel⟩, List.mem_of_getElem? (i := 30) (by decide +kernel), List.mem_of_getElem? (i := 450) (by decide +kernel), List.mem_of_getElem? (i := 451) (by decide +kernel)⟩
theorem lw_p21 : lw_okq (⟨"StorageQuotas$State", "charge", "(III)V"⟩, 10) := ⟨⟨by decide +kernel, by decide +kernel⟩, List.mem_of_getElem? (i := 24) (by decide +kernel), List.mem_of_getElem? (i := 454) (by decide +kernel), List.mem_of_getElem? (i := 455) (by decide +kernel)⟩
theorem lw_p22 : lw_okq (⟨"StorageQuotas$State", "reviewAll", "()V"⟩, 10) := ⟨⟨by decide +kernel, by decide +kernel⟩, List.mem_of_getElem? (i := 24) (by decide +kernel), List.mem_of_getElem? (i := 458) (by decide +kernel), List.mem_of_getElem? (i := 459) (by decide +kernel)⟩
theorem lw_p23 : lw_okq (⟨"StorageQuotas$State", "review", "(I)V"⟩, 10) := ⟨⟨by decide +kernel, by decide +kernel⟩, List.mem_of_getElem? (i := 24) (by decide +kernel), List.mem_of_getElem? (i := 462) (by decide +kernel), List.mem_of_getElem? (i := 463) (by decide +kernel)⟩
theorem lw_p24 : lw_okq (⟨"StorageQuotas", "requireFile", "(I)I"⟩, 8) := ⟨⟨by decide +kernel, by decide +kernel⟩, List.mem_of_getElem? (i := 16) (by decide +kernel), List.mem_of_getElem? (i := 474) (by decide +kernel), List.mem_of_getElem? (i := 475) (by decide +kernel)⟩
theorem lw_p25 : lw_okq (⟨"StorageQuotas$State", "resizeFile", "(II)I"⟩, 10) := ⟨⟨by decide +kernel, by decide +kernel⟩, List.mem_of_getElem? (i := 24) (by decide +kernel), List.mem_of_getElem? (i := 480) (by decide +kernel), List.mem_of_getElem? (i := 481) (by decide +kernel)⟩
theorem lw_p26 : lw_okq (⟨"StorageQuotas$State", "changeBlocks", "(III)I"⟩, 10) := ⟨⟨by decide +kernel, by decide +kernel⟩, List.mem_of_getElem? (i := 24) (by decide +kernel), List.mem_of_getElem? (i := 484) (by decide +kernel), List.mem_of_getElem? (i := 485) (by decide +kernel)⟩
theorem lw_p27 : lw_okq (⟨"StorageQuotas$State", "removeFile", "(I)I"⟩, 10) := ⟨⟨by decide +kernel, by decide +kernel⟩, List.mem_of_getElem? (i := 24) (by decide +kernel), List.mem_of_getElem? (i := 495) (by decide +kernel), List.mem_of_getElem? (i := 496) (by decide +kernel)⟩
theorem lw_p28 : lw_okq (⟨"StorageQuotas$FileTable", "remove", "(I)V"⟩, 5) := ⟨⟨by decide +kernel, by decide +kernel⟩, List.mem_of_getElem? (i := 30) (by decide +kernel), List.mem_of_getElem? (i := 499) (by decide +kernel), List.mem_of_getElem? (i := 500) (by decide +kernel)⟩
theorem lw_p29 : lw_okq (⟨"StorageQuotas$State", "moveFile", "(III)I"⟩, 10) := ⟨⟨by decide +kernel, by decide +kernel⟩, List.mem_of_getElem? (i := 24) (by decide +kernel), List.mem_of_getElem? (i := 510) (by decide +kernel), List.mem_of_getElem? (i := 511) (by decide +kernel)⟩
theorem lw_p30 : lw_okq (⟨"StorageQuotas$State", "countExempted", "()I"⟩, 10) := ⟨⟨by decide +kernel, by decide +kernel⟩, List.mem_of_getElem? (i := 24) (by decide +kernel), List.mem_of_getElem? (i := 563) (by decide +kernel), List.mem_of_getElem? (i := 564) (by decide +kernel)⟩
theorem lw_p31 : lw_okq (⟨"StorageQuotas$State", "canPass", "(I)Z"⟩, 10) := ⟨⟨by decide +kernel, by decide +kernel⟩, List.mem_of_getElem? (i := 24) (by decide +kernel), List.mem_of_getElem? (i := 574) (by decide +kernel), List.mem_of_getElem? (i := 575) (by decide +kernel)⟩
def lw_privs_2 : List (MethodName × Nat) := [(⟨"StorageQuotas$State", "firstRefusal", "(IIIIII)I"⟩, 10), (⟨"StorageQuotas$State", "causeOf", "(II)I"⟩, 10), (⟨"StorageQuotas$State", "noteRefusal", "(III)V"⟩, 10), (⟨"StorageQuotas$EventLog", "add", "(III)V"⟩, 5), (⟨"StorageQuotas$FileTable", "add", "(IIII)V"⟩, 5), (⟨"StorageQuotas$State", "charge", "(III)V"⟩, 10), (⟨"StorageQuotas$State", "reviewAll", "()V"⟩, 10), (⟨"StorageQuotas$State", "review", "(I)V"⟩, 10), (⟨"StorageQuotas", "requireFile", "(I)I"⟩, 8), (⟨"StorageQuotas$State", "resizeFile", "(II)I"⟩, 10), (⟨"StorageQuotas$State", "changeBlocks", "(III)I"⟩, 10), (⟨"StorageQuotas$State", "removeFile", "(I)I"⟩, 10), (⟨"StorageQuotas$FileTable", "remove", "(I)V"⟩, 5), (⟨"StorageQuotas$State", "moveFile", "(III)I"⟩, 10), (⟨"StorageQuotas$State", "countExempted", "()I"⟩, 10), (⟨"StorageQuotas$State", "canPass", "(I)Z"⟩, 10)]
theorem lw_r2 : ∀ q ∈ lw_privs_2, lw_okq q := List.forall_mem_cons.mpr ⟨lw_p16, List.forall_mem_cons.mpr ⟨lw_p17, List.forall_mem_cons.mpr ⟨lw_p18, List.forall_mem_cons.mpr ⟨lw_p19, List.forall_mem_cons.mpr ⟨lw_p20, List.forall_mem_cons.mpr ⟨lw_p21, List.forall_mem_cons.mpr ⟨lw_p22, List.forall_mem_cons.mpr ⟨lw_p23, List.forall_mem_cons.mpr ⟨lw_p24, List.forall_mem_cons.mpr ⟨lw_p25, List.forall_mem_cons.mpr ⟨lw_p26, List.forall_mem_cons.mpr ⟨lw_p27, List.forall_mem_cons.mpr ⟨lw_p28, List.forall_mem_cons.mpr ⟨lw_p29, List.forall_mem_cons.mpr ⟨lw_p30, List.forall_mem_cons.mpr ⟨lw_p31, fun _ h => absurd h List.not_mem_nil⟩⟩⟩⟩⟩⟩⟩⟩⟩⟩⟩⟩⟩⟩⟩⟩
theorem lw_p32 : lw_okq (⟨"StorageQuotas$State", "passDays", "(I)I"⟩, 10) := ⟨⟨by decide +kernel, by decide +kernel⟩, List.mem_of_getElem? (i := 24) (by decide +kernel), List.mem_of_getElem? (i := 579) (by decide +kernel), List.mem_of_getElem? (i := 580) (by decide +kernel)⟩
theorem lw_p33 : lw_okq (⟨"StorageQuotas$State", "beginDay", "()I"⟩, 10) := ⟨⟨by decide +kernel, by decide +kernel⟩, List.mem_of_getElem? (i := 24) (by decide +kernel), List.mem_of_getElem? (i := 583) (by decide +kernel), List.mem_of_getElem? (i := 584) (by decide +kernel)⟩
theorem lw_p34 : lw_okq (⟨"StorageQuotas$State", "daysRunning", "(I)I"⟩, 10) := ⟨⟨by decide +kernel, by decide +kernel⟩, List.mem_of_getElem? (i := 24) (by decide +kernel), List.mem_of_getElem? (i := 587) (by decide +kernel), List.mem_of_getElem? (i := 588) (by decide +kernel)⟩
theorem lw_p35 : lw_okq (⟨"StorageQuotas", "executeCommand", "()Z"⟩, 8) := ⟨⟨by decide +kernel, by decide +kernel⟩, List.mem_of_getElem? (i := 16) (by decide +kernel), List.mem_of_getElem? (i := 609) (by decide +kernel), List.mem_of_getElem? (i := 610) (by decide +kernel)⟩
theorem lw_p36 : lw_okq (⟨"StorageQuotas$FileTable", "scan", "(II)I"⟩, 5) := ⟨⟨by decide +kernel, by decide +kernel⟩, List.mem_of_getElem? (i := 30) (by decide +kernel), List.mem_of_getElem? (i := 655) (by decide +kernel), List.mem_of_getElem? (i := 656) (by decide +kernel)⟩
theorem lw_p37 : lw_okq (⟨"StorageQuotas$FileTable", "isCharged", "(II)Z"⟩, 5) := ⟨⟨by decide +kernel, by decide +kernel⟩, List.mem_of_getElem? (i := 30) (by decide +kernel), List.mem_of_getElem? (i := 659) (by decide +kernel), List.mem_of_getElem? (i := 660) (by decide +kernel)⟩
theorem lw_p38 : lw_okq (⟨"StorageQuotas$State", "greatestIncrease", "(I)I"⟩, 10) := ⟨⟨by decide +kernel, by decide +kernel⟩, List.mem_of_getElem? (i := 24) (by decide +kernel), List.mem_of_getElem? (i := 703) (by decide +kernel), List.mem_of_getElem? (i := 704) (by decide +kernel)⟩
theorem lw_p39 : lw_okq (⟨"StorageQuotas$FileTable", "listSizes", "(I[I)I"⟩, 5) := ⟨⟨by decide +kernel, by decide +kernel⟩, List.mem_of_getElem? (i := 30) (by decide +kernel), List.mem_of_getElem? (i := 726) (by decide +kernel), List.mem_of_getElem? (i := 727) (by decide +kernel)⟩
theorem lw_p40 : lw_okq (⟨"StorageQuotas$FileTable", "sumDirectory", "(I)I"⟩, 5) := ⟨⟨by decide +kernel, by decide +kernel⟩, List.mem_of_getElem? (i := 30) (by decide +kernel), List.mem_of_getElem? (i := 761) (by decide +kernel), List.mem_of_getElem? (i := 762) (by decide +kernel)⟩
theorem lw_p41 : lw_okq (⟨"StorageQuotas$FileTable", "findLargest", "(I)I"⟩, 5) := ⟨⟨by decide +kernel, by decide +kernel⟩, List.mem_of_getElem? (i := 30) (by decide +kernel), List.mem_of_getElem? (i := 772) (by decide +kernel), List.mem_of_getElem? (i := 773) (by decide +kernel)⟩
theorem lw_p42 : lw_okq (⟨"StorageQuotas$EventLog", "partOf", "(II)I"⟩, 5) := ⟨⟨by decide +kernel, by decide +kernel⟩, List.mem_of_getElem? (i := 62) (by decide +kernel), List.mem_of_getElem? (i := 816) (by decide +kernel), List.mem_of_getElem? (i := 817) (by decide +kernel)⟩
theorem lw_p43 : lw_okq (⟨"StorageQuotasModel", "fileAt", "(II)I"⟩, 11) := ⟨⟨by decide +kernel, by decide +kernel⟩, List.mem_of_getElem? (i := 820) (by decide +kernel), List.mem_of_getElem? (i := 880) (by decide +kernel), List.mem_of_getElem? (i := 881) (by decide +kernel)⟩
theorem lw_p44 : lw_okq (⟨"StorageQuotasModel", "of", "(II)I"⟩, 11) := ⟨⟨by decide +kernel, by decide +kernel⟩, List.mem_of_getElem? (i := 820) (by decide +kernel), List.mem_of_getElem? (i := 884) (by decide +kernel), List.mem_of_getElem? (i := 885) (by decide +kernel)⟩
theorem lw_p45 : lw_okq (⟨"StorageQuotasModel", "holds", "(I)Z"⟩, 11) := ⟨⟨by decide +kernel, by decide +kernel⟩, List.mem_of_getElem? (i := 820) (by decide +kernel), List.mem_of_getElem? (i := 888) (by decide +kernel), List.mem_of_getElem? (i := 889) (by decide +kernel)⟩
theorem lw_p46 : lw_okq (⟨"StorageQuotasModel", "keeps", "()V"⟩, 11) := ⟨⟨by decide +kernel, by decide +kernel⟩, List.mem_of_getElem? (i := 820) (by decide +kernel), List.mem_of_getElem? (i := 892) (by decide +kernel), List.mem_of_getElem? (i := 893) (by decide +kernel)⟩
theorem lw_p47 : lw_okq (⟨"StorageQuotasModel", "copies", "(II)V"⟩, 11) := ⟨⟨by decide +kernel, by decide +kernel⟩, List.mem_of_getElem? (i := 820) (by decide +kernel), List.mem_of_getElem? (i := 896) (by decide +kernel), List.mem_of_getElem? (i := 897) (by decide +kernel)⟩
def lw_privs_3 : List (MethodName × Nat) := [(⟨"StorageQuotas$State", "passDays", "(I)I"⟩, 10), (⟨"StorageQuotas$State", "beginDay", "()I"⟩, 10), (⟨"StorageQuotas$State", "daysRunning", "(I)I"⟩, 10), (⟨"StorageQuotas", "executeCommand", "()Z"⟩, 8), (⟨"StorageQuotas$FileTable", "scan", "(II)I"⟩, 5), (⟨"StorageQuotas$FileTable", "isCharged", "(II)Z"⟩, 5), (⟨"StorageQuotas$State", "greatestIncrease", "(I)I"⟩, 10), (⟨"StorageQuotas$FileTable", "listSizes", "(I[I)I"⟩, 5), (⟨"StorageQuotas$FileTable", "sumDirectory", "(I)I"⟩, 5), (⟨"StorageQuotas$FileTable", "findLargest", "(I)I"⟩, 5), (⟨"StorageQuotas$EventLog", "partOf", "(II)I"⟩, 5), (⟨"StorageQuotasModel", "fileAt", "(II)I"⟩, 11), (⟨"StorageQuotasModel", "of", "(II)I"⟩, 11), (⟨"StorageQuotasModel", "holds", "(I)Z"⟩, 11), (⟨"StorageQuotasModel", "keeps", "()V"⟩, 11), (⟨"StorageQuotasModel", "copies", "(II)V"⟩, 11)]
theorem lw_r3 : ∀ q ∈ lw_privs_3, lw_okq q := List.forall_mem_cons.mpr ⟨lw_p32, List.forall_mem_cons.mpr ⟨lw_p33, List.forall_mem_cons.mpr ⟨lw_p34, List.forall_mem_cons.mpr ⟨lw_p35, List.forall_mem_cons.mpr ⟨lw_p36, List.forall_mem_cons.mpr ⟨lw_p37, List.forall_mem_cons.mpr ⟨lw_p38, List.forall_mem_cons.mpr ⟨lw_p39, List.forall_mem_cons.mpr ⟨lw_p40, List.forall_mem_cons.mpr ⟨lw_p41, List.forall_mem_cons.mpr ⟨lw_p42, List.forall_mem_cons.mpr ⟨lw_p43, List.forall_mem_cons.mpr ⟨lw_p44, List.forall_mem_cons.mpr ⟨lw_p45, List.forall_mem_cons.mpr ⟨lw_p46, List.forall_mem_cons.mpr ⟨lw_p47, fun _ h => absurd h List.not_mem_nil⟩⟩⟩⟩⟩⟩⟩⟩⟩⟩⟩⟩⟩⟩⟩⟩
theorem lw_p48 : lw_okq (⟨"StorageQuotasModel", "creates", "(IIII)I"⟩, 11) := ⟨⟨by decide +kernel, by decide +kernel⟩, List.mem_of_getElem? (i := 820) (by decide +kernel), List.mem_of_getElem? (i := 900) (by decide +kernel), List.mem_of_getElem? (i := 901) (by decide +kernel)⟩
theorem lw_p49 : lw_okq (⟨"StorageQuotasModel", "rises", "(IIII)V"⟩, 11) := ⟨⟨by decide +kernel, by decide +kernel⟩, List.mem_of_getElem? (i := 820) (by decide +kernel), List.mem_of_getElem? (i := 904) (by decide +kernel), List.mem_of_getElem? (i := 905) (by decide +kernel)⟩
theorem lw_p50 : lw_okq (⟨"StorageQuotasModel", "refuses", "(II)I"⟩, 11) := ⟨⟨by decide +kernel, by decide +kernel⟩, List.mem_of_getElem? (i := 820) (by decide +kernel), List.mem_of_getElem? (i := 908) (by decide +kernel), List.mem_of_getElem? (i := 909) (by decide +kernel)⟩
theorem lw_p51 : lw_okq (⟨"StorageQuotasModel", "reason", "(II)I"⟩, 11) := ⟨⟨by decide +kernel, by decide +kernel⟩, List.mem_of_getElem? (i := 820) (by decide +kernel), List.mem_of_getElem? (i := 912) (by decide +kernel), List.mem_of_getElem? (i := 913) (by decide +kernel)⟩
theorem lw_p52 : lw_okq (⟨"StorageQuotasModel", "isFree", "(I)Z"⟩, 11) := ⟨⟨by decide +kernel, by decide +kernel⟩, List.mem_of_getElem? (i := 820) (by decide +kernel), List.mem_of_getElem? (i := 916) (by decide +kernel), List.mem_of_getElem? (i := 917) (by decide +kernel)⟩
theorem lw_p53 : lw_okq (⟨"StorageQuotasModel", "usageOf", "(II)I"⟩, 11) := ⟨⟨by decide +kernel, by decide +kernel⟩, List.mem_of_getElem? (i := 820) (by decide +kernel), List.mem_of_getElem? (i := 923) (by decide +kernel), List.mem_of_getElem? (i := 924) (by decide +kernel)⟩
theorem lw_p54 : lw_okq (⟨"StorageQuotasModel", "isCharged", "(II)Z"⟩, 11) := ⟨⟨by decide +kernel, by decide +kernel⟩, List.mem_of_getElem? (i := 820) (by decide +kernel), List.mem_of_getElem? (i := 927) (by decide +kernel), List.mem_of_getElem? (i := 928) (by decide +kernel)⟩
theorem lw_p55 : lw_okq (⟨"StorageQuotasModel", "isOver", "(III)Z"⟩, 11) := ⟨⟨by decide +kernel, by decide +kernel⟩, List.mem_of_getElem? (i := 820) (by decide +kernel), List.mem_of_getElem? (i := 931) (by decide +kernel), List.mem_of_getElem? (i := 932) (by decide +kernel)⟩
theorem lw_p56 : lw_okq (⟨"StorageQuotasModel", "cause", "(IIIZ)I"⟩, 11) := ⟨⟨by decide +kernel, by decide +kernel⟩, List.mem_of_getElem? (i := 820) (by decide +kernel), List.mem_of_getElem? (i := 935) (by decide +kernel), List.mem_of_getElem? (i := 936) (by decide +kernel)⟩
theorem lw_p57 : lw_okq (⟨"StorageQuotasModel", "logs", "(III)V"⟩, 11) := ⟨⟨by decide +kernel, by decide +kernel⟩, List.mem_of_getElem? (i := 820) (by decide +kernel), List.mem_of_getElem? (i := 939) (by decide +kernel), List.mem_of_getElem? (i := 940) (by decide +kernel)⟩
theorem lw_p58 : lw_okq (⟨"StorageQuotasModel", "lay", "(III)V"⟩, 11) := ⟨⟨by decide +kernel, by decide +kernel⟩, List.mem_of_getElem? (i := 820) (by decide +kernel), List.mem_of_getElem? (i := 943) (by decide +kernel), List.mem_of_getElem? (i := 944) (by decide +kernel)⟩
theorem lw_p59 : lw_okq (⟨"StorageQuotasModel", "reviewsAll", "()V"⟩, 11) := ⟨⟨by decide +kernel, by decide +kernel⟩, List.mem_of_getElem? (i := 820) (by decide +kernel), List.mem_of_getElem? (i := 947) (by decide +kernel), List.mem_of_getElem? (i := 948) (by decide +kernel)⟩
theorem lw_p60 : lw_okq (⟨"StorageQuotasModel", "reviews", "(II)V"⟩, 11) := ⟨⟨by decide +kernel, by decide +kernel⟩, List.mem_of_getElem? (i := 820) (by decide +kernel), List.mem_of_getElem? (i := 951) (by decide +kernel), List.mem_of_getElem? (i := 952) (by decide +kernel)⟩
theorem lw_p61 : lw_okq (⟨"StorageQuotasModel", "resizes", "(II)I"⟩, 11) := ⟨⟨by decide +kernel, by decide +kernel⟩, List.mem_of_getElem? (i := 820) (by decide +kernel), List.mem_of_getElem? (i := 959) (by decide +kernel), List.mem_of_getElem? (i := 960) (by decide +kernel)⟩
theorem lw_p62 : lw_okq (⟨"StorageQuotasModel", "deletes", "(I)I"⟩, 11) := ⟨⟨by decide +kernel, by decide +kernel⟩, List.mem_of_getElem? (i := 820) (by decide +kernel), List.mem_of_getElem? (i := 967) (by decide +kernel), List.mem_of_getElem? (i := 968) (by decide +kernel)⟩
theorem lw_p63 : lw_okq (⟨"StorageQuotasModel", "moves", "(III)I"⟩, 11) := ⟨⟨by decide +kernel, by decide +kernel⟩, List.mem_of_getElem? (i := 820) (by decide +kernel), List.mem_of_getElem? (i := 975) (by decide +kernel), List.mem_of_getElem? (i := 976) (by decide +kernel)⟩
def lw_privs_4 : List (MethodName × Nat) := [(⟨"StorageQuotasModel", "creates", "(IIII)I"⟩, 11), (⟨"StorageQuotasModel", "rises", "(IIII)V"⟩, 11), (⟨"StorageQuotasModel", "refuses", "(II)I"⟩, 11), (⟨"StorageQuotasModel", "reason", "(II)I"⟩, 11), (⟨"StorageQuotasModel", "isFree", "(I)Z"⟩, 11), (⟨"StorageQuotasModel", "usageOf", "(II)I"⟩, 11), (⟨"StorageQuotasModel", "isCharged", "(II)Z"⟩, 11), (⟨"StorageQuotasModel", "isOver", "(III)Z"⟩, 11), (⟨"StorageQuotasModel", "cause", "(IIIZ)I"⟩, 11), (⟨"StorageQuotasModel", "logs", "(III)V"⟩, 11), (⟨"StorageQuotasModel", "lay", "(III)V"⟩, 11), (⟨"StorageQuotasModel", "reviewsAll", "()V"⟩, 11), (⟨"StorageQuotasModel", "reviews", "(II)V"⟩, 11), (⟨"StorageQuotasModel", "resizes", "(II)I"⟩, 11), (⟨"StorageQuotasModel", "deletes", "(I)I"⟩, 11), (⟨"StorageQuotasModel", "moves", "(III)I"⟩, 11)]
theorem lw_r4 : ∀ q ∈ lw_privs_4, lw_okq q := List.forall_mem_cons.mpr ⟨lw_p48, List.forall_mem_cons.mpr ⟨lw_p49, List.forall_mem_cons.mpr ⟨lw_p50, List.forall_mem_cons.mpr ⟨lw_p51, List.forall_mem_cons.mpr ⟨lw_p52, List.forall_mem_cons.mpr ⟨lw_p53, List.forall_mem_cons.mpr ⟨lw_p54, List.forall_mem_cons.mpr ⟨lw_p55, List.forall_mem_cons.mpr ⟨lw_p56, List.forall_mem_cons.mpr ⟨lw_p57, List.forall_mem_cons.mpr ⟨lw_p58, List.forall_mem_cons.mpr ⟨lw_p59, List.forall_mem_cons.mpr ⟨lw_p60, List.forall_mem_cons.mpr ⟨lw_p61, List.forall_mem_cons.mpr ⟨lw_p62, List.forall_mem_cons.mpr ⟨lw_p63, fun _ h => absurd h List.not_mem_nil⟩⟩⟩⟩⟩⟩⟩⟩⟩⟩⟩⟩⟩⟩⟩⟩
theorem lw_p64 : lw_okq (⟨"StorageQuotasModel", "daysPass", "(I)I"⟩, 11) := ⟨⟨by decide +kernel, by decide +kernel⟩, List.mem_of_getElem? (i := 820) (by decide +kernel), List.mem_of_getElem? (i := 1003) (by decide +kernel), List.mem_of_getElem? (i := 1004) (by decide +kernel)⟩
theorem lw_p65 : lw_okq (⟨"StorageQuotasModel", "isValid", "()Z"⟩, 11) := ⟨⟨by decide +kernel, by decide +kernel⟩, List.mem_of_getElem? (i := 820) (by decide +kernel), List.mem_of_getElem? (i := 1019) (by decide +kernel), List.mem_of_getElem? (i := 1020) (by decide +kernel)⟩
theorem lw_p66 : lw_okq (⟨"StorageQuotasModel", "readsCommand", "()Z"⟩, 11) := ⟨⟨by decide +kernel, by decide +kernel⟩, List.mem_of_getElem? (i := 820) (by decide +kernel), List.mem_of_getElem? (i := 1023) (by decide +kernel), List.mem_of_getElem? (i := 1024) (by decide +kernel)⟩
theorem lw_p67 : lw_okq (⟨"StorageQuotasModel", "sign", "()I"⟩, 11) := ⟨⟨by decide +kernel, by decide +kernel⟩, List.mem_of_getElem? (i := 820) (by decide +kernel), List.mem_of_getElem? (i := 1027) (by decide +kernel), List.mem_of_getElem? (i := 1028) (by decide +kernel)⟩
theorem lw_p68 : lw_okq (⟨"StorageQuotasModel", "takes", "(I)Z"⟩, 11) := ⟨⟨by decide +kernel, by decide +kernel⟩, List.mem_of_getElem? (i := 820) (by decide +kernel), List.mem_of_getElem? (i := 1031) (by decide +kernel), List.mem_of_getElem? (i := 1032) (by decide +kernel)⟩
theorem lw_p69 : lw_okq (⟨"StorageQuotasModel", "number", "(II)I"⟩, 11) := ⟨⟨by decide +kernel, by decide +kernel⟩, List.mem_of_getElem? (i := 820) (by decide +kernel), List.mem_of_getElem? (i := 1038) (by decide +kernel), List.mem_of_getElem? (i := 1039) (by decide +kernel)⟩
theorem lw_p70 : lw_okq (⟨"StorageQuotasModel", "isDone", "()Z"⟩, 11) := ⟨⟨by decide +kernel, by decide +kernel⟩, List.mem_of_getElem? (i := 820) (by decide +kernel), List.mem_of_getElem? (i := 1046) (by decide +kernel), List.mem_of_getElem? (i := 1047) (by decide +kernel)⟩
theorem lw_p71 : lw_okq (⟨"StorageQuotasModel", "fewest", "(I)I"⟩, 11) := ⟨⟨by decide +kernel, by decide +kernel⟩, List.mem_of_getElem? (i := 820) (by decide +kernel), List.mem_of_getElem? (i := 1098) (by decide +kernel), List.mem_of_getElem? (i := 1099) (by decide +kernel)⟩
theorem lw_p72 : lw_okq (⟨"StorageQuotasModel", "forgets", "()V"⟩, 11) := ⟨⟨by decide +kernel, by decide +kernel⟩, List.mem_of_getElem? (i := 820) (by decide +kernel), List.mem_of_getElem? (i := 1102) (by decide +kernel), List.mem_of_getElem? (i := 1103) (by decide +kernel)⟩
theorem lw_p73 : lw_okq (⟨"StorageQuotasModel", "largest", "(I)I"⟩, 11) := ⟨⟨by decide +kernel, by decide +kernel⟩, List.mem_of_getElem? (i := 820) (by decide +kernel), List.mem_of_getElem? (i := 1106) (by decide +kernel), List.mem_of_getElem? (i := 1107) (by decide +kernel)⟩
theorem lw_p74 : lw_okq (⟨"StorageQuotasModel", "told", "(III)I"⟩, 11) := ⟨⟨by decide +kernel, by decide +kernel⟩, List.mem_of_getElem? (i := 820) (by decide +kernel), List.mem_of_getElem? (i := 1114) (by decide +kernel), List.mem_of_getElem? (i := 1115) (by decide +kernel)⟩
theorem lw_p75 : lw_okq (⟨"StorageQuotasModel", "dayOfRefusal", "(III)I"⟩, 11) := ⟨⟨by decide +kernel, by decide +kernel⟩, List.mem_of_getElem? (i := 820) (by decide +kernel), List.mem_of_getElem? (i := 1146) (by decide +kernel), List.mem_of_getElem? (i := 1147) (by decide +kernel)⟩
theorem lw_p76 : lw_okq (⟨"StorageQuotasModel", "reviewed", "(IIII)I"⟩, 11) := ⟨⟨by decide +kernel, by decide +kernel⟩, List.mem_of_getElem? (i := 820) (by decide +kernel), List.mem_of_getElem? (i := 1150) (by decide +kernel), List.mem_of_getElem? (i := 1151) (by decide +kernel)⟩
theorem lw_p77 : lw_okq (⟨"StorageQuotasModel", "graces", "(Z)I"⟩, 11) := ⟨⟨by decide +kernel, by decide +kernel⟩, List.mem_of_getElem? (i := 820) (by decide +kernel), List.mem_of_getElem? (i := 1170) (by decide +kernel), List.mem_of_getElem? (i := 1171) (by decide +kernel)⟩
def lw_privs_5 : List (MethodName × Nat) := [(⟨"StorageQuotasModel", "daysPass", "(I)I"⟩, 11), (⟨"StorageQuotasModel", "isValid", "()Z"⟩, 11), (⟨"StorageQuotasModel", "readsCommand", "()Z"⟩, 11), (⟨"StorageQuotasModel", "sign", "()I"⟩, 11), (⟨"StorageQuotasModel", "takes", "(I)Z"⟩, 11), (⟨"StorageQuotasModel", "number", "(II)I"⟩, 11), (⟨"StorageQuotasModel", "isDone", "()Z"⟩, 11), (⟨"StorageQuotasModel", "fewest", "(I)I"⟩, 11), (⟨"StorageQuotasModel", "forgets", "()V"⟩, 11), (⟨"StorageQuotasModel", "largest", "(I)I"⟩, 11), (⟨"StorageQuotasModel", "told", "(III)I"⟩, 11), (⟨"StorageQuotasModel", "dayOfRefusal", "(III)I"⟩, 11), (⟨"StorageQuotasModel", "reviewed", "(IIII)I"⟩, 11), (⟨"StorageQuotasModel", "graces", "(Z)I"⟩, 11)]
theorem lw_r5 : ∀ q ∈ lw_privs_5, lw_okq q := List.forall_mem_cons.mpr ⟨lw_p64, List.forall_mem_cons.mpr ⟨lw_p65, List.forall_mem_cons.mpr ⟨lw_p66, List.forall_mem_cons.mpr ⟨lw_p67, List.forall_mem_cons.mpr ⟨lw_p68, List.forall_mem_cons.mpr ⟨lw_p69, List.forall_mem_cons.mpr ⟨lw_p70, List.forall_mem_cons.mpr ⟨lw_p71, List.forall_mem_cons.mpr ⟨lw_p72, List.forall_mem_cons.mpr ⟨lw_p73, List.forall_mem_cons.mpr ⟨lw_p74, List.forall_mem_cons.mpr ⟨lw_p75, List.forall_mem_cons.mpr ⟨lw_p76, List.forall_mem_cons.mpr ⟨lw_p77, fun _ h => absurd h List.not_mem_nil⟩⟩⟩⟩⟩⟩⟩⟩⟩⟩⟩⟩⟩⟩
def lw_privs : List (MethodName × Nat) := lw_privs_1 ++ (lw_privs_2 ++ (lw_privs_3 ++ (lw_privs_4 ++ (lw_privs_5))))
def lw_tbl : List Cond := k2_sels lw_privs ++ tables_1
theorem lw_privs_ok : ∀ q ∈ lw_privs, lw_okq q := by
  show ∀ q ∈ lw_privs_1 ++ (lw_privs_2 ++ (lw_privs_3 ++ (lw_privs_4 ++ (lw_privs_5)))), lw_okq q
  exact List.forall_mem_append.mpr ⟨lw_r1, List.forall_mem_append.mpr ⟨lw_r2, List.forall_mem_append.mpr ⟨lw_r3, List.forall_mem_append.mpr ⟨lw_r4, lw_r5⟩⟩⟩⟩
end
section
/-! ===== BEGIN words of one list among another's, by their places ===== -/
theorem goodIn_r {big : List Cond} (ws : List Cond) (ps : List Nat) (hp : ws = ps.filterMap (fun i => big[i]?)) (h : ws.all goodWord = true) : GoodIn big ws := by
  intro w hw
  have h1 := List.all_eq_true.mp h w hw
  rw [hp] at hw
  obtain ⟨i, -, hi⟩ := List.mem_filterMap.mp hw
  have hm : w ∈ big := by first | exact List.mem_of_getElem? hi | exact List.getElem?_mem hi
  exact ⟨hm, good_of_word h1⟩
theorem goodIn_app {big a b : List Cond} (ha : GoodIn big a) (hb : GoodIn big b) : GoodIn big (a ++ b) := fun w h => (List.mem_append.mp h).elim (ha w) (hb w)
theorem goodIn_ca {big a b : List Cond} {c : Cond} (ha : GoodIn big (c :: a)) (hb : GoodIn big b) : GoodIn big (c :: (a ++ b)) := fun w h => (List.mem_cons.mp h).elim (fun e => ha w (List.mem_cons.mpr (Or.inl e))) (fun h => (List.mem_append.mp h).elim (fun h => ha w (List.mem_cons.mpr (Or.inr h))) (hb w))
theorem goodIn_sub {big ws : List Cond} (hm : ∀ w ∈ ws, w ∈ big) (h : ws.all goodWord = true) : GoodIn big ws := fun w hw => ⟨hm w hw, good_of_word (List.all_eq_true.mp h w hw)⟩
/-! ===== END ===== -/

/-! ===== BEGIN exceptions that leave a method, and their catching by the caller (launches without stack traces) ===== -/
section VXA
/-! The laws vx_back, vx_callV, vx_callS, vx_callSW, vx_throw0, vx_throwS follow proofs of the library, with one case more: JvmDerived/Free/Laws.lean (Back.of_free), Shelf42/LK1.lean (callV, callS), Shelf/KitTraced.lean (throwNew0V, throwNewS). -/
/-- where a method has thrown q: the class by its name, the cell, what was written, the world -/
def vx_T (XC : String → State → State → Prop) (st : State) (q : Addr) (t : State) (mc ms : Nat) (free : Addr → Prop) : Prop :=
  ∃ (E : String) (ce : Cell) (L : List Loc), XC E st t ∧ t.heap[q]? = some ce ∧ ce.vm = .none ∧ st.vm.findClass E = some ce.cls ∧ st.WarmedH t.vm ∧ st.sameButNew ({ t with vm := st.vm } : State) L mc ms ∧ ∀ z ∈ L, free z.base
def vx_Q (Qc : Array Value → State → Outcome → State → Prop) (XC : String → State → State → Prop) (mc ms : Nat) (free : Addr → Prop) : Array Value → State → Outcome → State → Prop := fun a st o t =>
  (Qc a st o t ∧ ∃ L, FrameEnd st o t L mc ms ∧ ∀ q ∈ L, free q.base) ∨ ∃ q, o = .threw q ∧ vx_T XC st q t mc ms free
/-- a callee that returns or throws -/
def vx_Met (l : Launch) (y : MethodName) (ws : List Cond) (rm : Room) (Pc : Array Value → State → Prop) (Qc : Array Value → State → Outcome → State → Prop) (XC : String → State → State → Prop) (mc ms : Nat) (free : Addr → Prop) : Prop :=
  MetFree l y (headSpec ws rm) Pc (fun _ _ _ _ _ => True) (vx_Q Qc XC mc ms free)
def vx_Post (XC : String → State → State → Prop) (mc ms : Nat) (free : Addr → Prop) : Pt → Array Value → Addr → Pt → Prop := fun A a q B =>
  ∃ (g : JFrame) (mk : MethodId) (t : State) (L : List Loc) (E : String) (ce : Cell), B.U.heap = t.heap ∧ B.U.vm = t.vm ∧ XC E (A.U.calling g mk a) t ∧ t.heap[q]? = some ce ∧ ce.vm = .none ∧ A.U.vm.findClass E = some ce.cls ∧ B.locs = A.locs ++ L ∧ (∀ z ∈ L, free z.base) ∧ B.cells = A.cells + mc ∧ B.slots = A.slots + ms
def vx_Back (l : Launch) (R : Room) (p : Program) (e : Env) (below : List Frame) (s : State) (sargs : Array Value) (y : MethodName) (len W9 : Nat)
    (Pre : Pt → Array Value → Prop) (Post : Pt → Array Value → Option Value → Pt → Prop) (PostX : Pt → Array Value → Addr → Pt → Prop) : Prop :=
  ∀ (m : MethodId) (meth : Method) (c : Code) (A : Pt) (g : JFrame) (ig : Instr) (mk : MethodId) (a : Array Value),
    Stand p l e R s m sargs below meth c A.U A.locs A.cells A.slots → g.method = m → g.locals.size = c.maxLocals → decode c.code g.pc = .ok (ig, len) →
    2 * g.monitorRoom + (g.stack.map fun v => v.category).sum ≤ W9 → A.U.methodNamed? y = some mk → Pre A a →
    (∃ (v : Option Value) (B : Pt), Stand p l e R s m sargs below meth c B.U B.locs B.cells B.slots ∧ Post A a v B ∧
      Steps p.tables e below (doInvoke e (A.U.setTop g) [] mk a).1 (B.U.setTop { g with pc := g.pc + len, stack := v.toList ++ g.stack })) ∨
    (∃ (q : Addr) (B : Pt), Stand p l e R s m sargs below meth c B.U B.locs B.cells B.slots ∧ PostX A a q B ∧
      Steps p.tables e below (doInvoke e (A.U.setTop g) [] mk a).1 ((B.U.setTop g).pushFrame (.throwing q)))
section Payer
variable {l : Launch} {R : Room} {p : Program} {e : Env} {below : List Frame} {s : State} {sargs : Array Value} {y : MethodName} {len W9 : Nat}
theorem vx_back {ws : List Cond} {rm : Room} {Pc : Array Value → State → Prop} {Qc : Array Value → State → Outcome → State → Prop} {XC : String → State → State → Prop} {mc ms : Nat} {free : Addr → Prop} {bytes : ByteArray} {maxL : Nat} {ret : Option FieldType}
    (hM : vx_Met l y ws rm Pc Qc XC mc ms free) (hblind : FrameBlind Pc) (hrc : rm.cells = mc) (hrs : rm.slots = ms)
    (hframes : rm.frames + 1 ≤ R.frames) (hlocals : W9 + (maxL + 11) + rm.locals ≤ R.locals)
    (hws : ∀ w ∈ ws, ∀ a' U, s.WarmedH U.vm → w.before a' U = true) (hcode : Cond.code y bytes maxL ret ∈ ws) (hinit : ∀ a' U, s.WarmedH U.vm → (Cond.initialized y.cls).before a' U = true) :
    vx_Back l R p e below s sargs y len W9 (PreOf R mc ms Pc) (PostOf Qc mc ms free) (vx_Post XC mc ms free) := by
  intro m meth c A g ig mk a X hg hsize hdg hW hn hp
  have h1 : (headSpec ws rm).pre.before a A.U = true := atoms_intro fun w hw => hws w hw _ _ X.warmed
  have h2 : (Cond.code y bytes maxL ret).before a A.U = true := hws _ hcode _ _ X.warmed
  have h3 : (Cond.initialized y.cls).before a A.U = true := hinit _ _ X.warmed
  have h4 : A.cells + (headSpec ws rm).room.cells ≤ R.cells := by rw [show (headSpec ws rm).room.cells = mc from hrc]; exact hp.1
  have h5 : A.slots + (headSpec ws rm).room.slots ≤ R.slots := by rw [show (headSpec ws rm).room.slots = ms from hrs]; exact hp.2.1
  have hPc : Pc a (A.U.calling g mk a) := hblind _ _ _ _ hp.2.2
  obtain ⟨U, Ls, c0, s0⟩ := A
  dsimp only [Pt.U, Pt.locs, Pt.cells, Pt.slots] at h1 h2 h3 h4 h5 X hn hPc ⊢
  obtain ⟨methY, cY, hmY, hcY, -, hlY, -, -, -, -⟩ := Cond.code_spec hn h2
  obtain ⟨kY, hkY, -⟩ := className_of_methodNamed hn
  have hinitY : kY.init = .initialized := Cond.initialized_spec (findClass_of_methodNamed hn) hkY h3
  have h : At U g.method c below := by rw [hg]; exact X.here
  have hlocals9 : W9 + (maxL + 11) + (headSpec ws rm).room.locals ≤ R.locals := hlocals
  have happ : (headSpec ws rm).appliesLoose y e.platform (U.calling g mk a) = true :=
    Spec.appliesLoose_calling (g := g) h hdg hn hkY hinitY
      (X.room_calling (g := g) (R' := (headSpec ws rm).room) hsize hmY hcY hframes (by rw [hlY]; omega) h4 h5) h1
  obtain ⟨mid, hmid⟩ := h.above
  have hfr : (U.setTop g).frames = (.java g :: mid) ++ below := by rw [State.frames_setTop' g h.top, hmid]; rfl
  obtain ⟨o, s₂, hsteps, -, hend, hq⟩ := Steps.callFree hM p X.admits X.cas X.clock (acts := []) hfr happ hPc trivial
  have hq' : vx_Q Qc XC mc ms free a (U.calling g mk a) o s₂ := hq
  rw [State.frames_setTop' g h.top] at hend
  obtain ⟨g₀, hg0⟩ := Option.isSome_iff_exists.mp h.top
  obtain ⟨r, hr⟩ := State.topJava?_eq_some.mp hg0
  have hr' : (({ U with heap := s₂.heap, slotsUsed := s₂.slotsUsed } : State).setVm s₂.vm).frames = .java g₀ :: r := hr
  rcases hq' with ⟨hqc, L, hfe, hL⟩ | ⟨q, rfl, E, ce, L, hx, hce, hcv, hcl, hW₂, hsm, hL⟩
  · obtain ⟨⟨v, rfl⟩, hW₂, e2, q2, q3, q4, q5, q6⟩ := id hfe
    have e3 : s₂ = ({ (U.calling g mk a).setFrames s₂.frames with heap := s₂.heap, slotsUsed := s₂.slotsUsed } : State).setVm s₂.vm := by
      have : s₂ = ({ s₂ with vm := (U.calling g mk a).vm } : State).setVm s₂.vm := rfl
      rw [e2] at this
      exact this
    obtain ⟨c₂, i₂, len₂, hc₂, hd₂, hf₂⟩ := hend
    have hW' : U.WarmedH s₂.vm := hW₂
    have hcc : c₂ = c := by
      have h1 : s₂.code? g.method = U.code? g.method := by
        rw [State.code?_eq, State.code?_eq, hW'.alike.method?]
      exact Option.some.inj (hc₂.symm.trans (h1.trans h.code))
    subst hcc
    have hlen : len₂ = len := by rw [hdg] at hd₂; cases hd₂; rfl
    subst hlen
    have hs₂ : s₂ = (({ U with heap := s₂.heap, slotsUsed := s₂.slotsUsed } : State).setVm s₂.vm).setTop { g with pc := g.pc + len₂, stack := v.toList ++ g.stack } := by
      refine e3.trans ?_
      rw [hf₂, State.calling_eq h.top, State.setFrames_setFrames, State.setTop_of_frames _ hr', hr]
      rfl
    have hsame : U.sameButNew ({ U with heap := s₂.heap, slotsUsed := s₂.slotsUsed } : State) L mc ms := by
      refine ⟨?_, q2, q3, q4, q5, q6⟩
      obtain ⟨t, ht, -⟩ := State.frames_cons hr
      show ({ U with heap := s₂.heap, slotsUsed := s₂.slotsUsed } : State) = { U.setFrames U.frames with heap := s₂.heap, slotsUsed := s₂.slotsUsed }
      rw [State.setFrames_self ht]
    subst hg
    refine Or.inl ⟨v, ⟨(({ U with heap := s₂.heap, slotsUsed := s₂.slotsUsed } : State).setVm s₂.vm), Ls ++ L, c0 + mc, s0 + ms⟩,
      ⟨X.admits, X.cas, X.clock, X.frames, X.room, X.hears, X.method, X.code, (X.here.setHeapUsed s₂.heap s₂.slotsUsed).setVm hW'.alike, X.tail, State.WarmedH.trans X.warmed hW', X.limits, X.bytes, X.same.trans (hsame.setVm s.vm)⟩,
      ⟨g, mk, s₂, L, rfl, rfl, hqc, rfl, hL, rfl, rfl⟩, ?_⟩
    show Steps p.tables e below _ ((({ U with heap := s₂.heap, slotsUsed := s₂.slotsUsed } : State).setVm s₂.vm).setTop { g with pc := g.pc + len₂, stack := v.toList ++ g.stack })
    rw [← hs₂]
    exact hsteps
  · obtain ⟨e2, q2, q3, q4, q5, q6⟩ := id hsm
    have e3 : s₂ = ({ (U.calling g mk a).setFrames s₂.frames with heap := s₂.heap, slotsUsed := s₂.slotsUsed } : State).setVm s₂.vm := by
      have : s₂ = ({ s₂ with vm := (U.calling g mk a).vm } : State).setVm s₂.vm := rfl
      rw [e2] at this
      exact this
    have hf₂ : s₂.frames = .throwing q :: .java g :: U.frames.tail := hend
    have hW' : U.WarmedH s₂.vm := hW₂
    have hs₂ : s₂ = ((({ U with heap := s₂.heap, slotsUsed := s₂.slotsUsed } : State).setVm s₂.vm).setTop g).pushFrame (.throwing q) := by
      refine e3.trans ?_
      rw [hf₂, State.calling_eq h.top, State.setFrames_setFrames, State.pushFrame, State.frames_setTop _ hr', State.setTop_of_frames _ hr', State.setFrames_setFrames, hr]
      rfl
    have hsame : U.sameButNew ({ U with heap := s₂.heap, slotsUsed := s₂.slotsUsed } : State) L mc ms := by
      refine ⟨?_, q2, q3, q4, q5, q6⟩
      obtain ⟨t, ht, -⟩ := State.frames_cons hr
      show ({ U with heap := s₂.heap, slotsUsed := s₂.slotsUsed } : State) = { U.setFrames U.frames with heap := s₂.heap, slotsUsed := s₂.slotsUsed }
      rw [State.setFrames_self ht]
    subst hg
    refine Or.inr ⟨q, ⟨(({ U with heap := s₂.heap, slotsUsed := s₂.slotsUsed } : State).setVm s₂.vm), Ls ++ L, c0 + mc, s0 + ms⟩,
      ⟨X.admits, X.cas, X.clock, X.frames, X.room, X.hears, X.method, X.code, (X.here.setHeapUsed s₂.heap s₂.slotsUsed).setVm hW'.alike, X.tail, State.WarmedH.trans X.warmed hW', X.limits, X.bytes, X.same.trans (hsame.setVm s.vm)⟩,
      ⟨g, mk, s₂, L, E, ce, rfl, rfl, hx, hce, hcv, hcl, rfl, hL, rfl, rfl⟩, ?_⟩
    show Steps p.tables e below _ (((({ U with heap := s₂.heap, slotsUsed := s₂.slotsUsed } : State).setVm s₂.vm).setTop g).pushFrame (.throwing q))
    rw [← hs₂]
    exact hsteps
end Payer
section Calls
variable {p : Program} {l : Launch} {e : Env} {R : Room} {s : State} {m : MethodId} {args : Array Value} {below : List Frame} {meth : Method} {c : Code} {T : State} {locs : List Loc} {cells slots : Nat}
theorem vx_callV (X : Stand p l e R s m args below meth c T locs cells slots) (hexec : p.tables.exec = Jvm.exec) {own C : String} {index : Nat} {y : MethodName} {bytes : ByteArray} {maxL : Nat} {ret : Option FieldType}
    (hown : s.vm.findClass own = some m.cls) (hlink : (Cond.methodLink own index y).before args s = true) (hinst : (Cond.instanceMethod y).before args s = true) (hsel : (Cond.selects C y y).before args s = true)
    (hcode : (Cond.code y bytes maxL ret).before args s = true) (hy : y.cls ≠ "java/lang/invoke/MethodHandle" ∧ y.cls ≠ "java/lang/invoke/VarHandle")
    {W9 : Nat} {Pre : Pt → Array Value → Prop} {Post : Pt → Array Value → Option Value → Pt → Prop} {PostX : Pt → Array Value → Addr → Pt → Prop} (hK : vx_Back l R p e below s args y 3 W9 Pre Post PostX)
    {b : Addr} {cellB : Cell} (hcell : T.heap[b]? = some cellB) (hobj : cellB.vm.isStatics = false) (hcls : s.vm.findClass C = some cellB.cls)
    {g : JFrame} (hg : g.method = m) (hsize : g.locals.size = c.maxLocals) {argsL rest : List Value} (hlen : ∀ sig, parseMethodDescriptor y.desc = some sig → argsL.length = sig.parameters.length)
    (hstack : g.stack = argsL.reverse ++ .ref b :: rest) (hW : 2 * g.monitorRoom + (rest.map fun v => v.category).sum ≤ W9) (hdg : decode c.code g.pc = .ok (.invokevirtual index, 3))
    (hpre : ∀ vm₁, s.WarmedH vm₁ → Pre ⟨T.setVm vm₁, locs, cells, slots⟩ (Value.ref b :: argsL).toArray) :
    (∃ (v : Option Value) (vm₁ : Vm) (B : Pt), s.WarmedH vm₁ ∧ Stand p l e R s m args below meth c B.U B.locs B.cells B.slots ∧ Post ⟨T.setVm vm₁, locs, cells, slots⟩ (Value.ref b :: argsL).toArray v B ∧
      ∀ target, Steps p.tables e below (B.U.setTop { g with pc := g.pc + 3, stack := v.toList ++ rest }) target → Steps p.tables e below (T.setTop g) target) ∨
    (∃ (q : Addr) (vm₁ : Vm) (B : Pt), s.WarmedH vm₁ ∧ Stand p l e R s m args below meth c B.U B.locs B.cells B.slots ∧ PostX ⟨T.setVm vm₁, locs, cells, slots⟩ (Value.ref b :: argsL).toArray q B ∧
      Steps p.tables e below (T.setTop g) ((B.U.setTop { g with stack := rest }).pushFrame (.throwing q))) := by
  obtain ⟨mk, methM, hnamed, hmethM, hstM, habM⟩ := Cond.instanceMethod_spec hinst
  obtain ⟨methM', cM, hmethM', -, -, -, -, -, -, hsigM⟩ := Cond.code_spec hnamed hcode
  cases hmethM.symm.trans hmethM'
  obtain ⟨c2, r2, m2, q1, q2, q3, q4, kP, hkP, hkPi⟩ := Cond.selects_spec hsel
  cases hcls.symm.trans q1
  cases (State.methodFound?_of_named hnamed hy).symm.trans q2
  cases hnamed.symm.trans q3
  have hselP : selectMethod e.platform s.vm cellB.cls mk = .method mk := by rw [Launch.admits_selectMethod X.admits]; exact q4
  obtain ⟨vm₁, X₁, hstep₁⟩ := X.invokevirtual hexec hown hlink hnamed hmethM hstM hkP hkPi hy (a := b) (cell := cellB) hcell
    (fun z h => by rw [h] at hobj; cases hobj) hselP hmethM habM hkP hkPi (g := g) hg (argsL := argsL) (rest := rest) (hlen _ hsigM) hstack hdg
  rcases hK m meth c ⟨T.setVm vm₁, locs, cells, slots⟩ { g with stack := rest } (.invokevirtual index) mk (Value.ref b :: argsL).toArray X₁ hg hsize hdg hW (X₁.named hnamed) (hpre vm₁ X₁.warmed) with ⟨v, B, X', hpost, hsteps⟩ | ⟨q, B, X', hpost, hsteps⟩
  · exact Or.inl ⟨v, vm₁, B, X₁.warmed, X', hpost, fun target h => hstep₁ _ fun acts => by rw [doInvoke_state]; exact hsteps.trans h⟩
  · exact Or.inr ⟨q, vm₁, B, X₁.warmed, X', hpost, hstep₁ _ fun acts => by rw [doInvoke_state]; exact hsteps⟩
theorem vx_callS (X : Stand p l e R s m args below meth c T locs cells slots) (hexec : p.tables.exec = Jvm.exec) {own : String} {index : Nat} {y : MethodName} {bytes : ByteArray} {maxL : Nat} {ret : Option FieldType}
    (hown : s.vm.findClass own = some m.cls) (hlink : (Cond.methodLink own index y).before args s = true) (hstat : (Cond.static y).before args s = true) (hinit : (Cond.initialized y.cls).before args s = true)
    (hcode : (Cond.code y bytes maxL ret).before args s = true) (hy : y.cls ≠ "java/lang/invoke/MethodHandle" ∧ y.cls ≠ "java/lang/invoke/VarHandle")
    {W9 : Nat} {Pre : Pt → Array Value → Prop} {Post : Pt → Array Value → Option Value → Pt → Prop} {PostX : Pt → Array Value → Addr → Pt → Prop} (hK : vx_Back l R p e below s args y 3 W9 Pre Post PostX)
    {g : JFrame} (hg : g.method = m) (hsize : g.locals.size = c.maxLocals) {argsL rest : List Value} (hlen : ∀ sig, parseMethodDescriptor y.desc = some sig → argsL.length = sig.parameters.length)
    (hstack : g.stack = argsL.reverse ++ rest) (hW : 2 * g.monitorRoom + (rest.map fun v => v.category).sum ≤ W9) (hdg : decode c.code g.pc = .ok (.invokestatic index, 3))
    (hpre : ∀ vm₁, s.WarmedH vm₁ → Pre ⟨T.setVm vm₁, locs, cells, slots⟩ argsL.toArray) :
    (∃ (v : Option Value) (vm₁ : Vm) (B : Pt), s.WarmedH vm₁ ∧ Stand p l e R s m args below meth c B.U B.locs B.cells B.slots ∧ Post ⟨T.setVm vm₁, locs, cells, slots⟩ argsL.toArray v B ∧
      ∀ target, Steps p.tables e below (B.U.setTop { g with pc := g.pc + 3, stack := v.toList ++ rest }) target → Steps p.tables e below (T.setTop g) target) ∨
    (∃ (q : Addr) (vm₁ : Vm) (B : Pt), s.WarmedH vm₁ ∧ Stand p l e R s m args below meth c B.U B.locs B.cells B.slots ∧ PostX ⟨T.setVm vm₁, locs, cells, slots⟩ argsL.toArray q B ∧
      Steps p.tables e below (T.setTop g) ((B.U.setTop { g with stack := rest }).pushFrame (.throwing q))) := by
  obtain ⟨mk, hnamed⟩ := Cond.code_named hcode
  obtain ⟨methM, cM, hmethM, -, -, -, -, -, -, hsigM⟩ := Cond.code_spec hnamed hcode
  have hstatic : methM.isStatic = true := Cond.static_spec hnamed hmethM hstat
  obtain ⟨kP, hkP, -⟩ := className_of_methodNamed hnamed
  have hinitP : kP.init = .initialized := Cond.initialized_spec (findClass_of_methodNamed hnamed) hkP hinit
  obtain ⟨vm₁, X₁, hstep₁⟩ := X.invokestatic hexec hown hlink hnamed hmethM hstatic hkP hinitP hy (g := g) hg (argsL := argsL) (rest := rest) (hlen _ hsigM) hstack hdg
  rcases hK m meth c ⟨T.setVm vm₁, locs, cells, slots⟩ { g with stack := rest } (.invokestatic index) mk argsL.toArray X₁ hg hsize hdg hW (X₁.named hnamed) (hpre vm₁ X₁.warmed) with ⟨v, B, X', hpost, hsteps⟩ | ⟨q, B, X', hpost, hsteps⟩
  · exact Or.inl ⟨v, vm₁, B, X₁.warmed, X', hpost, fun target h => hstep₁ _ fun acts => by rw [doInvoke_state]; exact hsteps.trans h⟩
  · exact Or.inr ⟨q, vm₁, B, X₁.warmed, X', hpost, hstep₁ _ fun acts => by rw [doInvoke_state]; exact hsteps⟩
end Calls
theorem vx_cls {s : State} {T : State} {vm₁ : Vm} {E : String} {k : ClassId} (hW : s.WarmedH vm₁) (h : (T.setVm vm₁).vm.findClass E = some k) : s.vm.findClass E = some k := by
  have h1 : vm₁.findClass E = some k := h
  rw [hW.alike.findClass] at h1
  exact h1
/-- the method's frame g, with q thrown over it -/
def vx_W (p : Program) (l : Launch) (e : Env) (R : Room) (s : State) (m : MethodId) (args : Array Value) (below : List Frame) (meth : Method) (c : Code) (H : Heap) (locs : List Loc) (cells slots : Nat) (Q : State → Prop) (g : JFrame) (q : Addr) : Prop :=
  ∀ T : State, T.heap = H → Stand p l e R s m args below meth c T locs cells slots → ∃ t, Steps p.tables e below ((T.setTop g).pushFrame (.throwing q)) t ∧ Q t
def vx_Run (p : Program) (l : Launch) (e : Env) (R : Room) (s : State) (m : MethodId) (args : Array Value) (below : List Frame) (meth : Method) (c : Code) (H : Heap) (locs : List Loc) (cells slots mc ms : Nat) (g : JFrame) (rest : List Value) (Qa : State → Outcome → State → Prop) (XC : String → State → State → Prop) (free : Addr → Prop) : Prop :=
  ∀ T : State, T.heap = H → Stand p l e R s m args below meth c T locs cells slots →
    (∃ (v : Option Value) (st₀ t T' : State) (L : List Loc), st₀.heap = H ∧ Stand p l e R s m args below meth c T' (locs ++ L) (cells + mc) (slots + ms) ∧ (∀ q ∈ L, free q.base) ∧ T'.heap = t.heap ∧ T'.vm = t.vm ∧ Qa st₀ (.returned v) t ∧
      Goes p e below T g T' { g with pc := g.pc + 3, stack := v.toList ++ rest }) ∨
    (∃ (q : Addr) (st₀ t T' : State) (L : List Loc) (E : String) (ce : Cell), st₀.heap = H ∧ Stand p l e R s m args below meth c T' (locs ++ L) (cells + mc) (slots + ms) ∧ (∀ z ∈ L, free z.base) ∧ T'.heap = t.heap ∧ T'.vm = t.vm ∧ XC E st₀ t ∧ t.heap[q]? = some ce ∧ ce.vm = .none ∧ s.vm.findClass E = some ce.cls ∧
      Steps p.tables e below (T.setTop g) ((T'.setTop { g with stack := rest }).pushFrame (.throwing q)))
def vx_X {S : Type} (px : S → Prop) (B : String → S → State → Prop) (A : Nat → Prop) : String → State → State → Prop := fun E st t => ∃ u : S, px u ∧ B E u t ∧ va_F A st t
section Runs
variable {p : Program} {l : Launch} {e : Env} {R : Room} {s : State} {m : MethodId} {args : Array Value} {below : List Frame} {meth : Method} {c : Code} {H : Heap} {locs : List Loc} {cells slots : Nat}
variable {y : MethodName} {bytes cc : ByteArray} {maxL nL mc ms n index : Nat} {ret : Option FieldType} {ws : List Cond} {rm : Room} {Pc : Array Value → State → Prop} {Qc : Array Value → State → Outcome → State → Prop} {XC : String → State → State → Prop} {free : Addr → Prop} {Ts : List Cond} {own C : String} {b : Addr} {As rest : List Value} {g : JFrame}
theorem vx_callBack (cb : CallB R s args own index y bytes maxL ret ws rm mc ms n) (hM : vx_Met l y ws rm Pc Qc XC mc ms free) (hbl : FrameBlind Pc) : vx_Back l R p e below s args y 3 8 (PreOf R mc ms Pc) (PostOf Qc mc ms free) (vx_Post XC mc ms free) := by
  obtain ⟨hrc, hrs, hfr, hlo, hws, hcw, -, hini, -⟩ := cb
  exact vx_back (bytes := bytes) (maxL := maxL) (ret := ret) hM hbl hrc hrs hfr hlo hws hcw (fun a' U hW => word_at hW (Or.inl (by first | rfl | simp [Cond.onTables, Cond.keeps, Cond.steady])) hini)
theorem vx_runV (S : CallFix p m c cc nL s args Ts own) (hM : vx_Met l y ws rm Pc Qc XC mc ms free) (cw : CallW R s args own C index y bytes maxL ret ws rm mc ms n) (hp : PreV s H C b Pc As)
    (hg : g.method = m) (hn : As.length = n) (hsize : g.locals.size = nL) (hstack : g.stack = As.reverse ++ .ref b :: rest) (hW : 2 * g.monitorRoom + (rest.map fun v => v.category).sum ≤ 8) (hdg : decode cc g.pc = .ok (.invokevirtual index, 3)) (hf : cells + mc ≤ R.cells ∧ slots + ms ≤ R.slots) :
    vx_Run p l e R s m args below meth c H locs cells slots mc ms g rest (Qc (Value.ref b :: As).toArray) XC free := by
  have hK : vx_Back l R p e below s args y 3 8 (PreOf R mc ms Pc) (PostOf Qc mc ms free) (vx_Post XC mc ms free) := vx_callBack cw.1 hM hp.1
  obtain ⟨⟨-, -, -, -, -, -, hcode, -, hy, hlen, hl⟩, hin, hse⟩ := cw
  obtain ⟨hx, hb, hml, ho, -⟩ := S
  obtain ⟨-, ⟨cellB, hcB, hoB, hclB⟩, hPc⟩ := hp
  intro T hT X
  rcases vx_callV X hx (C := C) (bytes := bytes) (maxL := maxL) (ret := ret) ho hl hin hse hcode hy hK (by rw [hT]; exact hcB) hoB hclB hg (hsize.trans hml.symm) (argsL := As) (rest := rest) (fun sig h => hn.trans (hlen sig h)) hstack hW (by rw [hb]; exact hdg)
    (fun vm₁ hW₁ => ⟨hf.1, hf.2, hPc (T.setVm vm₁) hT hW₁⟩) with ⟨v, vm₁, ⟨U', l2, c2, s2⟩, hW₁, X', ⟨g', mk, t, L, e1, e2, hq, h1, hL, h2, h3⟩, st⟩ | ⟨q, vm₁, ⟨U', l2, c2, s2⟩, hW₁, X', ⟨g', mk, t, L, E, ce, e1, e2, hq, hce, hcv, hcl, h1, hL, h2, h3⟩, st⟩
  · dsimp only [Pt.U, Pt.locs, Pt.cells, Pt.slots] at X' e1 e2 h1 h2 h3 st
    subst h1; subst h2; subst h3
    exact Or.inl ⟨v, (T.setVm vm₁).calling g' mk (Value.ref b :: As).toArray, t, U', L, hT, X', hL, e1, e2, hq, st⟩
  · dsimp only [Pt.U, Pt.locs, Pt.cells, Pt.slots] at X' e1 e2 h1 h2 h3 st hcl
    subst h1; subst h2; subst h3
    exact Or.inr ⟨q, (T.setVm vm₁).calling g' mk (Value.ref b :: As).toArray, t, U', L, E, ce, hT, X', hL, e1, e2, hq, hce, hcv, vx_cls hW₁ hcl, st⟩
theorem vx_runS (S : CallFix p m c cc nL s args Ts own) (hM : vx_Met l y ws rm Pc Qc XC mc ms free) (cw : CallB R s args own index y bytes maxL ret ws rm mc ms n ∧ (Cond.static y).before args s = true) (hp : PreS s H Pc As)
    (hg : g.method = m) (hn : As.length = n) (hsize : g.locals.size = nL) (hstack : g.stack = As.reverse ++ rest) (hW : 2 * g.monitorRoom + (rest.map fun v => v.category).sum ≤ 8) (hdg : decode cc g.pc = .ok (.invokestatic index, 3)) (hf : cells + mc ≤ R.cells ∧ slots + ms ≤ R.slots) :
    vx_Run p l e R s m args below meth c H locs cells slots mc ms g rest (Qc As.toArray) XC free := by
  have hK : vx_Back l R p e below s args y 3 8 (PreOf R mc ms Pc) (PostOf Qc mc ms free) (vx_Post XC mc ms free) := vx_callBack cw.1 hM hp.1
  obtain ⟨⟨-, -, -, -, -, -, hcode, hini, hy, hlen, hl⟩, hstt⟩ := cw
  obtain ⟨hx, hb, hml, ho, -⟩ := S
  intro T hT X
  rcases vx_callS X hx (bytes := bytes) (maxL := maxL) (ret := ret) ho hl hstt hini hcode hy hK hg (hsize.trans hml.symm) (argsL := As) (rest := rest) (fun sig h => hn.trans (hlen sig h)) hstack hW (by rw [hb]; exact hdg)
    (fun vm₁ hW₁ => ⟨hf.1, hf.2, hp.2 (T.setVm vm₁) hT hW₁⟩) with ⟨v, vm₁, ⟨U', l2, c2, s2⟩, hW₁, X', ⟨g', mk, t, L, e1, e2, hq, h1, hL, h2, h3⟩, st⟩ | ⟨q, vm₁, ⟨U', l2, c2, s2⟩, hW₁, X', ⟨g', mk, t, L, E, ce, e1, e2, hq, hce, hcv, hcl, h1, hL, h2, h3⟩, st⟩
  · dsimp only [Pt.U, Pt.locs, Pt.cells, Pt.slots] at X' e1 e2 h1 h2 h3 st
    subst h1; subst h2; subst h3
    exact Or.inl ⟨v, (T.setVm vm₁).calling g' mk As.toArray, t, U', L, hT, X', hL, e1, e2, hq, st⟩
  · dsimp only [Pt.U, Pt.locs, Pt.cells, Pt.slots] at X' e1 e2 h1 h2 h3 st hcl
    subst h1; subst h2; subst h3
    exact Or.inr ⟨q, (T.setVm vm₁).calling g' mk As.toArray, t, U', L, E, ce, hT, X', hL, e1, e2, hq, hce, hcv, vx_cls hW₁ hcl, st⟩
end Runs
section Rows
variable {p : Program} {l : Launch} {e : Env} {R : Room} {s : State} {m : MethodId} {args : Array Value} {below : List Frame} {meth : Method} {c : Code} {H : Heap} {locs : List Loc} {cells slots : Nat} {Q : State → Prop}
variable {mc ms : Nat} {free : Addr → Prop} {A0 A1 : Nat → Prop} {H0 : Heap} {a : Array Value} {pc : Nat} {ls : Array Slot} {st0 rest : List Value}
theorem vx_keep {st₀ t T' : State} {L : List Loc} (h0 : st₀.heap = H) (e1 : T'.heap = t.heap) (hS : va_S A0 H0 H locs) (hA : ∀ q, q < H.size → A1 q → A0 q) (hf : ∀ q, free q → A0 q) (hL : ∀ q ∈ L, free q.base) (hF : va_F A1 st₀ t) :
    H.size ≤ T'.heap.size ∧ (∀ q : Nat, q < H.size → ¬ A1 q → T'.heap[q]? = H[q]?) ∧ va_S A0 H0 T'.heap (locs ++ L) := by
  obtain ⟨hz, hk⟩ := hF
  rw [h0] at hz hk
  exact ⟨by rw [e1]; exact hz, fun q h1 h2 => by rw [e1]; exact hk q h1 h2,
    ⟨Nat.le_trans hS.1 (by rw [e1]; exact hz), fun q h1 h2 => by rw [e1, hk q (Nat.lt_of_lt_of_le h1 hS.1) (fun z => h2 (hA q (Nat.lt_of_lt_of_le h1 hS.1) z))]; exact hS.2.1 q h1 h2, fun q hq => by
      rcases List.mem_append.mp hq with h | h
      · exact hS.2.2 q h
      · exact hf _ (hL q h)⟩⟩
theorem vx_calli {S SX : Type} {post : Int32 → S → Prop} {px : SX → Prop} {B : S → State → Prop} {BX : String → SX → State → Prop} {AX : Nat → Prop} (hr : vx_Run p l e R s m args below meth c H locs cells slots mc ms (F0 m pc ls st0) rest (va_Qi post B A1 a) (vx_X px BX AX) free) (hS : va_S A0 H0 H locs) (hA : ∀ q, q < H.size → A1 q → A0 q) (hf : ∀ q, free q → A0 q) (hAX : ∀ q, q < H.size → AX q → A0 q)
    (kx : ∀ (E : String) (ce : Cell) (q9 : Addr) (u : SX) (t : State) (H1 : Heap) (locs1 : List Loc), t.heap = H1 → s.vm.Alike t.vm → px u → BX E u t → H.size ≤ H1.size → (∀ q : Nat, q < H.size → ¬ AX q → H1[q]? = H[q]?) → va_S A0 H0 H1 locs1 → H1[q9]? = some ce → ce.vm = .none → s.vm.findClass E = some ce.cls → vx_W p l e R s m args below meth c H1 locs1 (cells + mc) (slots + ms) Q (F0 m pc ls rest) q9)
    (kk : ∀ (r : Int32) (u : S) (t : State) (H1 : Heap) (locs1 : List Loc), t.heap = H1 → s.vm.Alike t.vm → post r u → B u t → H.size ≤ H1.size → (∀ q : Nat, q < H.size → ¬ A1 q → H1[q]? = H[q]?) → va_S A0 H0 H1 locs1 → W p l e R s m args below meth c H1 locs1 (cells + mc) (slots + ms) Q (F0 m (pc + 3) ls (.int r :: rest))) : W p l e R s m args below meth c H locs cells slots Q (F0 m pc ls st0) := by
  intro T hT X
  rcases hr T hT X with ⟨v, st₀, t, T', L, h0, X', hL, e1, e2, ⟨⟨r, u, hv, hp, hb⟩, hF⟩, st⟩ | ⟨q, st₀, t, T', L, E, ce, h0, X', hL, e1, e2, ⟨u, hp, hb, hF⟩, hce, hcv, hcl, st⟩
  · cases hv
    obtain ⟨k1, k2, k3⟩ := vx_keep h0 e1 hS hA hf hL hF
    obtain ⟨t2, a1, b1⟩ := kk r u t T'.heap (locs ++ L) e1.symm (by rw [← e2]; exact X'.warmed.alike) hp hb k1 k2 k3 T' rfl X'
    exact ⟨t2, st t2 a1, b1⟩
  · obtain ⟨k1, k2, k3⟩ := vx_keep h0 e1 hS hAX hf hL hF
    obtain ⟨t2, a1, b1⟩ := kx E ce q u t T'.heap (locs ++ L) e1.symm (by rw [← e2]; exact X'.warmed.alike) hp hb k1 k2 k3 (by rw [e1]; exact hce) hcv hcl T' rfl X'
    exact ⟨t2, st.trans a1, b1⟩
theorem vx_calll {S SX : Type} {post : Int64 → S → Prop} {px : SX → Prop} {B : S → State → Prop} {BX : String → SX → State → Prop} {AX : Nat → Prop} (hr : vx_Run p l e R s m args below meth c H locs cells slots mc ms (F0 m pc ls st0) rest (va_Ql post B A1 a) (vx_X px BX AX) free) (hS : va_S A0 H0 H locs) (hA : ∀ q, q < H.size → A1 q → A0 q) (hf : ∀ q, free q → A0 q) (hAX : ∀ q, q < H.size → AX q → A0 q)
    (kx : ∀ (E : String) (ce : Cell) (q9 : Addr) (u : SX) (t : State) (H1 : Heap) (locs1 : List Loc), t.heap = H1 → s.vm.Alike t.vm → px u → BX E u t → H.size ≤ H1.size → (∀ q : Nat, q < H.size → ¬ AX q → H1[q]? = H[q]?) → va_S A0 H0 H1 locs1 → H1[q9]? = some ce → ce.vm = .none → s.vm.findClass E = some ce.cls → vx_W p l e R s m args below meth c H1 locs1 (cells + mc) (slots + ms) Q (F0 m pc ls rest) q9)
    (kk : ∀ (r : Int64) (u : S) (t : State) (H1 : Heap) (locs1 : List Loc), t.heap = H1 → s.vm.Alike t.vm → post r u → B u t → H.size ≤ H1.size → (∀ q : Nat, q < H.size → ¬ A1 q → H1[q]? = H[q]?) → va_S A0 H0 H1 locs1 → W p l e R s m args below meth c H1 locs1 (cells + mc) (slots + ms) Q (F0 m (pc + 3) ls (.long r :: rest))) : W p l e R s m args below meth c H locs cells slots Q (F0 m pc ls st0) := by
  intro T hT X
  rcases hr T hT X with ⟨v, st₀, t, T', L, h0, X', hL, e1, e2, ⟨⟨r, u, hv, hp, hb⟩, hF⟩, st⟩ | ⟨q, st₀, t, T', L, E, ce, h0, X', hL, e1, e2, ⟨u, hp, hb, hF⟩, hce, hcv, hcl, st⟩
  · cases hv
    obtain ⟨k1, k2, k3⟩ := vx_keep h0 e1 hS hA hf hL hF
    obtain ⟨t2, a1, b1⟩ := kk r u t T'.heap (locs ++ L) e1.symm (by rw [← e2]; exact X'.warmed.alike) hp hb k1 k2 k3 T' rfl X'
    exact ⟨t2, st t2 a1, b1⟩
  · obtain ⟨k1, k2, k3⟩ := vx_keep h0 e1 hS hAX hf hL hF
    obtain ⟨t2, a1, b1⟩ := kx E ce q u t T'.heap (locs ++ L) e1.symm (by rw [← e2]; exact X'.warmed.alike) hp hb k1 k2 k3 (by rw [e1]; exact hce) hcv hcl T' rfl X'
    exact ⟨t2, st.trans a1, b1⟩
theorem vx_callf {S SX : Type} {post : UInt32 → S → Prop} {px : SX → Prop} {B : S → State → Prop} {BX : String → SX → State → Prop} {AX : Nat → Prop} (hr : vx_Run p l e R s m args below meth c H locs cells slots mc ms (F0 m pc ls st0) rest (va_Qf post B A1 a) (vx_X px BX AX) free) (hS : va_S A0 H0 H locs) (hA : ∀ q, q < H.size → A1 q → A0 q) (hf : ∀ q, free q → A0 q) (hAX : ∀ q, q < H.size → AX q → A0 q)
    (kx : ∀ (E : String) (ce : Cell) (q9 : Addr) (u : SX) (t : State) (H1 : Heap) (locs1 : List Loc), t.heap = H1 → s.vm.Alike t.vm → px u → BX E u t → H.size ≤ H1.size → (∀ q : Nat, q < H.size → ¬ AX q → H1[q]? = H[q]?) → va_S A0 H0 H1 locs1 → H1[q9]? = some ce → ce.vm = .none → s.vm.findClass E = some ce.cls → vx_W p l e R s m args below meth c H1 locs1 (cells + mc) (slots + ms) Q (F0 m pc ls rest) q9)
    (kk : ∀ (r : UInt32) (u : S) (t : State) (H1 : Heap) (locs1 : List Loc), t.heap = H1 → s.vm.Alike t.vm → post r u → B u t → H.size ≤ H1.size → (∀ q : Nat, q < H.size → ¬ A1 q → H1[q]? = H[q]?) → va_S A0 H0 H1 locs1 → W p l e R s m args below meth c H1 locs1 (cells + mc) (slots + ms) Q (F0 m (pc + 3) ls (.float r :: rest))) : W p l e R s m args below meth c H locs cells slots Q (F0 m pc ls st0) := by
  intro T hT X
  rcases hr T hT X with ⟨v, st₀, t, T', L, h0, X', hL, e1, e2, ⟨⟨r, u, hv, hp, hb⟩, hF⟩, st⟩ | ⟨q, st₀, t, T', L, E, ce, h0, X', hL, e1, e2, ⟨u, hp, hb, hF⟩, hce, hcv, hcl, st⟩
  · cases hv
    obtain ⟨k1, k2, k3⟩ := vx_keep h0 e1 hS hA hf hL hF
    obtain ⟨t2, a1, b1⟩ := kk r u t T'.heap (locs ++ L) e1.symm (by rw [← e2]; exact X'.warmed.alike) hp hb k1 k2 k3 T' rfl X'
    exact ⟨t2, st t2 a1, b1⟩
  · obtain ⟨k1, k2, k3⟩ := vx_keep h0 e1 hS hAX hf hL hF
    obtain ⟨t2, a1, b1⟩ := kx E ce q u t T'.heap (locs ++ L) e1.symm (by rw [← e2]; exact X'.warmed.alike) hp hb k1 k2 k3 (by rw [e1]; exact hce) hcv hcl T' rfl X'
    exact ⟨t2, st.trans a1, b1⟩
theorem vx_calld {S SX : Type} {post : UInt64 → S → Prop} {px : SX → Prop} {B : S → State → Prop} {BX : String → SX → State → Prop} {AX : Nat → Prop} (hr : vx_Run p l e R s m args below meth c H locs cells slots mc ms (F0 m pc ls st0) rest (va_Qd post B A1 a) (vx_X px BX AX) free) (hS : va_S A0 H0 H locs) (hA : ∀ q, q < H.size → A1 q → A0 q) (hf : ∀ q, free q → A0 q) (hAX : ∀ q, q < H.size → AX q → A0 q)
    (kx : ∀ (E : String) (ce : Cell) (q9 : Addr) (u : SX) (t : State) (H1 : Heap) (locs1 : List Loc), t.heap = H1 → s.vm.Alike t.vm → px u → BX E u t → H.size ≤ H1.size → (∀ q : Nat, q < H.size → ¬ AX q → H1[q]? = H[q]?) → va_S A0 H0 H1 locs1 → H1[q9]? = some ce → ce.vm = .none → s.vm.findClass E = some ce.cls → vx_W p l e R s m args below meth c H1 locs1 (cells + mc) (slots + ms) Q (F0 m pc ls rest) q9)
    (kk : ∀ (r : UInt64) (u : S) (t : State) (H1 : Heap) (locs1 : List Loc), t.heap = H1 → s.vm.Alike t.vm → post r u → B u t → H.size ≤ H1.size → (∀ q : Nat, q < H.size → ¬ A1 q → H1[q]? = H[q]?) → va_S A0 H0 H1 locs1 → W p l e R s m args below meth c H1 locs1 (cells + mc) (slots + ms) Q (F0 m (pc + 3) ls (.double r :: rest))) : W p l e R s m args below meth c H locs cells slots Q (F0 m pc ls st0) := by
  intro T hT X
  rcases hr T hT X with ⟨v, st₀, t, T', L, h0, X', hL, e1, e2, ⟨⟨r, u, hv, hp, hb⟩, hF⟩, st⟩ | ⟨q, st₀, t, T', L, E, ce, h0, X', hL, e1, e2, ⟨u, hp, hb, hF⟩, hce, hcv, hcl, st⟩
  · cases hv
    obtain ⟨k1, k2, k3⟩ := vx_keep h0 e1 hS hA hf hL hF
    obtain ⟨t2, a1, b1⟩ := kk r u t T'.heap (locs ++ L) e1.symm (by rw [← e2]; exact X'.warmed.alike) hp hb k1 k2 k3 T' rfl X'
    exact ⟨t2, st t2 a1, b1⟩
  · obtain ⟨k1, k2, k3⟩ := vx_keep h0 e1 hS hAX hf hL hF
    obtain ⟨t2, a1, b1⟩ := kx E ce q u t T'.heap (locs ++ L) e1.symm (by rw [← e2]; exact X'.warmed.alike) hp hb k1 k2 k3 (by rw [e1]; exact hce) hcv hcl T' rfl X'
    exact ⟨t2, st.trans a1, b1⟩
theorem vx_callv {S SX : Type} {post : S → Prop} {px : SX → Prop} {B : S → State → Prop} {BX : String → SX → State → Prop} {AX : Nat → Prop} (hr : vx_Run p l e R s m args below meth c H locs cells slots mc ms (F0 m pc ls st0) rest (va_Qv post B A1 a) (vx_X px BX AX) free) (hS : va_S A0 H0 H locs) (hA : ∀ q, q < H.size → A1 q → A0 q) (hf : ∀ q, free q → A0 q) (hAX : ∀ q, q < H.size → AX q → A0 q)
    (kx : ∀ (E : String) (ce : Cell) (q9 : Addr) (u : SX) (t : State) (H1 : Heap) (locs1 : List Loc), t.heap = H1 → s.vm.Alike t.vm → px u → BX E u t → H.size ≤ H1.size → (∀ q : Nat, q < H.size → ¬ AX q → H1[q]? = H[q]?) → va_S A0 H0 H1 locs1 → H1[q9]? = some ce → ce.vm = .none → s.vm.findClass E = some ce.cls → vx_W p l e R s m args below meth c H1 locs1 (cells + mc) (slots + ms) Q (F0 m pc ls rest) q9)
    (kk : ∀ (u : S) (t : State) (H1 : Heap) (locs1 : List Loc), t.heap = H1 → s.vm.Alike t.vm → post u → B u t → H.size ≤ H1.size → (∀ q : Nat, q < H.size → ¬ A1 q → H1[q]? = H[q]?) → va_S A0 H0 H1 locs1 → W p l e R s m args below meth c H1 locs1 (cells + mc) (slots + ms) Q (F0 m (pc + 3) ls (rest))) : W p l e R s m args below meth c H locs cells slots Q (F0 m pc ls st0) := by
  intro T hT X
  rcases hr T hT X with ⟨v, st₀, t, T', L, h0, X', hL, e1, e2, ⟨⟨u, hv, hp, hb⟩, hF⟩, st⟩ | ⟨q, st₀, t, T', L, E, ce, h0, X', hL, e1, e2, ⟨u, hp, hb, hF⟩, hce, hcv, hcl, st⟩
  · cases hv
    obtain ⟨k1, k2, k3⟩ := vx_keep h0 e1 hS hA hf hL hF
    obtain ⟨t2, a1, b1⟩ := kk u t T'.heap (locs ++ L) e1.symm (by rw [← e2]; exact X'.warmed.alike) hp hb k1 k2 k3 T' rfl X'
    exact ⟨t2, st t2 a1, b1⟩
  · obtain ⟨k1, k2, k3⟩ := vx_keep h0 e1 hS hAX hf hL hF
    obtain ⟨t2, a1, b1⟩ := kx E ce q u t T'.heap (locs ++ L) e1.symm (by rw [← e2]; exact X'.warmed.alike) hp hb k1 k2 k3 (by rw [e1]; exact hce) hcv hcl T' rfl X'
    exact ⟨t2, st.trans a1, b1⟩
/-- caught by the row x of this method's table; the rows ahead don't take it -/
theorem vx_catch {own name : String} {E : String} {ce : Cell} {q : Addr} (hown : s.vm.findClass own = some m.cls) (pre : List ExceptionTableEntry) (x : ExceptionTableEntry) (suf : List ExceptionTableEntry) (hsplit : c.exceptionTable.toList = pre ++ x :: suf)
    (hpass : ∀ z ∈ pre, covers z pc = false ∨ (z.catchType ≠ 0 ∧ ∃ nm : String, (Cond.classLink own z.catchType nm).before args s = true ∧ va_Nc E nm s)) (hx : covers x pc = true) (h0 : x.catchType ≠ 0)
    (hlink : (Cond.classLink own x.catchType name).before args s = true) (hcast : (Cond.castable E name).before args s = true) (hcell : H[q]? = some ce) (hv : ce.vm = .none) (hcl : s.vm.findClass E = some ce.cls)
    (kk : W p l e R s m args below meth c H locs cells slots Q (F0 m x.handlerPc ls [.ref q])) : vx_W p l e R s m args below meth c H locs cells slots Q (F0 m pc ls rest) q := by
  intro T hT X
  have hpl : e.platform.magicAccessors = ({} : Platform).magicAccessors := by rw [X.admits.platform]
  obtain ⟨c3, c4, hc3, hc4, hasg⟩ := Cond.castable_spec hcast
  cases Option.some.inj (hc3.symm.trans hcl)
  obtain ⟨c5, hc5, hcl5⟩ := Cond.classLink_spec hown hlink e.platform hpl
  cases Option.some.inj (hc4.symm.trans hc5)
  obtain ⟨vm', X', st⟩ := X.thenCaughtThrough q (g := F0 m pc ls rest) rfl (Steps.refl _) (by rw [hT]; exact hcell) (by rw [hv]; rfl) (by obtain ⟨k9, h9, -⟩ := Vm.findClass_spec hcl; exact ⟨k9, h9⟩) pre x suf hsplit
    (fun z hz => by
      rcases hpass z hz with h | ⟨hz0, nm, hl1, hn1⟩
      · exact Or.inl h
      · obtain ⟨c6, hc6, hcl6⟩ := Cond.classLink_spec hown hl1 e.platform hpl
        obtain ⟨a8, b8, h1, h2, h3⟩ := hn1
        cases Option.some.inj (h1.symm.trans hcl)
        cases Option.some.inj (h2.symm.trans hc6)
        exact Or.inr ⟨hz0, _, hcl6, h3⟩) hx (Or.inr ⟨h0, c4, hcl5, hasg⟩)
  obtain ⟨t, a1, b1⟩ := kk (T.setVm vm') hT X'
  exact ⟨t, st.trans a1, b1⟩
end Rows
section Ends
variable {p : Program} {l : Launch} {e : Env} {R : Room} {s : State} {m : MethodId} {args : Array Value} {below : List Frame} {meth : Method} {c : Code} {H : Heap} {locs : List Loc} {cells slots : Nat} {Q : State → Prop}
variable {mc ms : Nat} {free : Addr → Prop} {A0 A1 : Nat → Prop} {H0 : Heap} {a : Array Value} {ls : Array Slot} {st0 rest : List Value}
variable {Qc : Array Value → State → Outcome → State → Prop} {XC : String → State → State → Prop}
/-- what a body that may throw owes at its end -/
def vx_MQ (below : List Frame) (Qc : Array Value → State → Outcome → State → Prop) (XC : String → State → State → Prop) (a : Array Value) (s : State) (mc ms : Nat) (free : Addr → Prop) : State → Prop := fun t =>
  ∃ o, t.status = .running ∧ Ended t below o ∧ vx_Q Qc XC mc ms free a s o t
theorem vx_ret {g : JFrame} {mc ms : Nat} (k : W p l e R s m args below meth c H locs cells slots (MQ below Qc args s mc ms free) g) : W p l e R s m args below meth c H locs cells slots (vx_MQ below Qc XC args s mc ms free) g := by
  intro T hT X
  obtain ⟨t, a1, o, b1, b2, b3, b4⟩ := k T hT X
  exact ⟨t, a1, o, b1, b2, Or.inl ⟨b3, b4⟩⟩
/-- not caught here: it goes on to the caller -/
theorem vx_widen {g : JFrame} {q : Addr} {k n : Nat} (h1 : cells ≤ k) (h2 : slots ≤ n) (kk : vx_W p l e R s m args below meth c H locs k n Q g q) : vx_W p l e R s m args below meth c H locs cells slots Q g q := fun T hT X => kk T hT (stand_widen X h1 h2)
theorem vx_out {pc : Nat} {E : String} {ce : Cell} {q : Addr} {mc ms : Nat} (hout : ∀ x ∈ c.exceptionTable.toList, covers x pc = false) (hlocks : meth.locks = false) (hcell : H[q]? = some ce) (hv : ce.vm = .none) (hcl : s.vm.findClass E = some ce.cls)
    (hx : ∀ t : State, t.heap = H → s.vm.Alike t.vm → XC E s t) (hf : ∀ z ∈ locs, free z.base) (hc : cells ≤ mc) (hs : slots ≤ ms) :
    vx_W p l e R s m args below meth c H locs cells slots (vx_MQ below Qc XC args s mc ms free) (F0 m pc ls rest) q := by
  intro T hT X
  obtain ⟨st1, hrun, hend, hW, hsm⟩ := X.leaveThrown q (g := F0 m pc ls rest) rfl rfl rfl hout hlocks
  have hcell9 : (T.setFrames (.throwing q :: below)).heap[q]? = some ce := by
    show T.heap[q]? = some ce
    rw [hT]; exact hcell
  exact ⟨_, st1, .threw q, hrun, hend, Or.inr ⟨q, rfl, E, ce, locs, hx _ hT hW.alike, hcell9, hv, hcl, hW, hsm.mono hc hs, hf⟩⟩
theorem vx_frame {U : State} {k n : Nat} (h : s.sameButNew ({ U with vm := s.vm } : State) locs k n) : s.heap.size ≤ U.heap.size ∧ ∀ q : Nat, q < s.heap.size → (∀ z ∈ locs, z.base ≠ q) → U.heap[q]? = s.heap[q]? := by
  obtain ⟨-, h2, -, -, -, h6⟩ := h
  refine ⟨h2, fun q hq hz => ?_⟩
  obtain ⟨c9, e1, e2, e3, e4⟩ := h6 q _ (Array.getElem?_eq_getElem hq)
  have hs : c9.slots = (s.heap[q]).slots := Array.ext_getElem? fun i => e4 i fun hm => hz _ hm rfl
  have h9 : c9 = s.heap[q] := by
    rw [hs] at e2
    exact e2
  have e5 : U.heap[q]? = some c9 := e1
  rw [e5, h9, Array.getElem?_eq_getElem hq]
/-- the words of a throw but the four that speak of the heap -/
def vx_no (w : Cond) : Bool := decide (w ≠ .isRef (.static Bundle.tN "UNASSIGNED_STACK" Bundle.steD)) && decide (w ≠ .isRef (.static Bundle.tN "SUPPRESSED_SENTINEL" Bundle.listD)) && decide (w ≠ .laysStatic Bundle.tN "UNASSIGNED_STACK" Bundle.steD) && decide (w ≠ .laysStatic Bundle.tN "SUPPRESSED_SENTINEL" Bundle.listD)
def vx_at0 (own : String) (ic : Nat) (X : String) (names : List String) : List Cond := (Bundle.ownAtoms0 own ic X names).filter vx_no
def vx_atS (own : String) (ic : Nat) (X : String) (names : List String) : List Cond := (Bundle.ownAtoms own ic X names).filter vx_no
/-- a word that the tables alone decide, or a good one -/
def vx_ot (w : Cond) : Bool := w.onTables || goodWord w
theorem vx_ot_at {args a' : Array Value} {s U : State} {w : Cond} (hW : s.WarmedH U.vm) (hvm : s.vm = U.vm) (hg : vx_ot w = true) (h : w.before args s = true) : w.before a' U = true := by
  simp only [vx_ot, Bool.or_eq_true] at hg
  rcases hg with hg | hg
  · exact va_tabs hg hvm h
  · exact word_at hW (good_of_word hg) h
/-- a list's words: the good ones out of the method's own list, the others by premises of their own -/
theorem vx_hat {args : Array Value} {s : State} {L B : List Cond} (h1 : ∀ w ∈ L.filter goodWord, w.before args s = true) (h2 : ∀ w ∈ L.filter (fun w => !goodWord w), w ∈ B) (h3 : ∀ w ∈ B, w.before args s = true) : ∀ w ∈ L, w.before args s = true := by
  intro w hw
  by_cases g : goodWord w = true
  · exact h1 w (List.mem_filter.mpr ⟨hw, g⟩)
  · refine h3 w (h2 w (List.mem_filter.mpr ⟨hw, ?_⟩))
    show (!goodWord w) = true
    cases hgw : goodWord w
    · rfl
    · exact absurd hgw g
theorem vx_c {args : Array Value} {s : State} {w : Cond} {B : List Cond} (h : w.before args s = true) (t : ∀ w ∈ B, w.before args s = true) : ∀ w' ∈ w :: B, w'.before args s = true := fun w' h' => (List.mem_cons.mp h').elim (fun e => by rw [e]; exact h) (t w')
theorem vx_n {args : Array Value} {s : State} : ∀ w ∈ ([] : List Cond), w.before args s = true := fun _ h => nomatch h
theorem vx_own {args : Array Value} {s : State} {L : List Cond} (h1 : ∀ w ∈ L.filter vx_no, w.before args s = true)
    (hU : (Cond.isRef (.static Bundle.tN "UNASSIGNED_STACK" Bundle.steD)).before args s = true) (hN : (Cond.isRef (.static Bundle.tN "SUPPRESSED_SENTINEL" Bundle.listD)).before args s = true)
    (lU : (Cond.laysStatic Bundle.tN "UNASSIGNED_STACK" Bundle.steD).before args s = true) (lN : (Cond.laysStatic Bundle.tN "SUPPRESSED_SENTINEL" Bundle.listD).before args s = true) : ∀ w ∈ L, w.before args s = true := by
  intro w hw
  by_cases e1 : w = .isRef (.static Bundle.tN "UNASSIGNED_STACK" Bundle.steD)
  · rw [e1]; exact hU
  · by_cases e2 : w = .isRef (.static Bundle.tN "SUPPRESSED_SENTINEL" Bundle.listD)
    · rw [e2]; exact hN
    · by_cases e3 : w = .laysStatic Bundle.tN "UNASSIGNED_STACK" Bundle.steD
      · rw [e3]; exact lU
      · by_cases e4 : w = .laysStatic Bundle.tN "SUPPRESSED_SENTINEL" Bundle.listD
        · rw [e4]; exact lN
        · exact h1 w (List.mem_filter.mpr ⟨hw, by unfold vx_no; rw [decide_eq_true e1, decide_eq_true e2, decide_eq_true e3, decide_eq_true e4]; rfl⟩)
/-- where a static field lies, its class's statics cell in H -/
def vx_L (C n d : String) (A : Nat → Prop) (U : State) (H : Heap) : Prop := ∃ (c : ClassId) (k : Class) (i : Nat) (f : Field) (a : Nat) (cell : Cell), U.vm.findClass C = some c ∧ U.fieldFound? C n d = some (c, k, i, f) ∧ f.isStatic = true ∧ k.statics = some a ∧ H[a]? = some cell ∧ cell.vm.isStatics = true ∧ cell.cls = c ∧ f.slot < cell.slots.size ∧ k.staticTypes[f.slot]? = some f.type ∧ ¬ A a
theorem vx_L.moved {C n d : String} {A : Nat → Prop} {u U : State} {H : Heap} (hvm : u.vm.Alike U.vm) (h : vx_L C n d A u H) : vx_L C n d A U H := by
  obtain ⟨c, k, i, f, a, cell, h1, h2, h3, h4, h5, h6, h7, h8, h9, h10⟩ := h
  obtain ⟨k', hi', he⟩ := State.fieldFound?_setVm hvm h2
  exact ⟨c, k', i, f, a, cell, by rw [hvm.findClass]; exact h1, hi', h3, by rw [he]; exact h4, h5, h6, h7, h8, by rw [he]; exact h9, h10⟩
theorem vx_L.kept {C n d : String} {A : Nat → Prop} {U : State} {H H1 : Heap} (h : vx_L C n d A U H) (hq : ∀ a : Nat, a < H.size → ¬ A a → H1[a]? = H[a]?) : vx_L C n d A U H1 := by
  obtain ⟨c, k, i, f, a, cell, h1, h2, h3, h4, h5, h6, h7, h8, h9, h10⟩ := h
  exact ⟨c, k, i, f, a, cell, h1, h2, h3, h4, by rw [hq a (Array.getElem?_eq_some_iff.mp h5).1 h10]; exact h5, h6, h7, h8, h9, h10⟩
theorem vx_L.narrow {C n d : String} {A B : Nat → Prop} {U : State} {H : Heap} (h : vx_L C n d A U H) (hAB : ∀ q, B q → A q) : vx_L C n d B U H := by
  obtain ⟨c, k, i, f, a, cell, h1, h2, h3, h4, h5, h6, h7, h8, h9, h10⟩ := h
  exact ⟨c, k, i, f, a, cell, h1, h2, h3, h4, h5, h6, h7, h8, h9, fun z => h10 (hAB _ z)⟩
theorem vx_L.word {C n d : String} {A : Nat → Prop} {s : State} {args : Array Value} (h : vx_L C n d A s s.heap) : (Cond.laysStatic C n d).before args s = true := by
  obtain ⟨c, k, i, f, a, cell, h1, h2, h3, h4, h5, h6, h7, h8, h9, -⟩ := h
  show (Cond.laysStatic C n d).holds args s none s [] = true
  exact Cond.laysStatic_of h1 h2 h3 h4 h5 h6 h7 h8 h9
/-- .. and what it holds: null or some reference -/
def vx_Zq (C n d : String) (A : Nat → Prop) (U : State) (H : Heap) : Prop := va_Zq C n d A U H ∧ vx_L C n d A U H
theorem vx_Zq.moved {C n d : String} {A : Nat → Prop} {u U : State} {H : Heap} (hvm : u.vm.Alike U.vm) (h : vx_Zq C n d A u H) : vx_Zq C n d A U H := ⟨va_Zq.moved hvm h.1, vx_L.moved hvm h.2⟩
theorem vx_Zq.kept {C n d : String} {A : Nat → Prop} {U : State} {H H1 : Heap} (h : vx_Zq C n d A U H) (hq : ∀ a : Nat, a < H.size → ¬ A a → H1[a]? = H[a]?) : vx_Zq C n d A U H1 := ⟨va_Zq.kept h.1 hq, vx_L.kept h.2 hq⟩
theorem vx_Zq.narrow {C n d : String} {A B : Nat → Prop} {U : State} {H : Heap} (h : vx_Zq C n d A U H) (hAB : ∀ q, B q → A q) : vx_Zq C n d B U H := ⟨va_Zq.narrow h.1 hAB, vx_L.narrow h.2 hAB⟩
theorem vx_Zqof {args : Array Value} {s : State} {C n d : String} {A : Nat → Prop} (hl : (Cond.laysStatic C n d).before args s = true) (hini : (Cond.initialized C).before args s = true) (h : (Cond.isRef (.static C n d)).before args s = true) (hA : ∀ a : Nat, a < s.heap.size → ¬ A a) : vx_Zq C n d A s s.heap := by
  refine ⟨va_Zqof hl hini h hA, ?_⟩
  obtain ⟨c, k, i, f, a, cell, h1, h2, h3, h4, h5, h6, h7, h8, h9⟩ := Cond.laysStatic_spec hl
  exact ⟨c, k, i, f, a, cell, h1, h2, h3, h4, h5, h6, h7, h8, h9, hA a (Array.getElem?_eq_some_iff.mp h5).1⟩
theorem vx_isRef {C n d : String} {v : Value} {A : Nat → Prop} {s : State} {args : Array Value} (h : va_Z C n d v A s s.heap) (hv : v.isRef = true) : (Cond.isRef (.static C n d)).before args s = true := by
  obtain ⟨cf, kf, fi, f, a, cell, h1, h2, h3, h4, h5, h6, h7, -⟩ := h
  have he : (Term.static C n d).eval args s none [] s = some v := by
    simp [Term.eval, State.fieldNamed?, h1, h2, h4, h5, h6, h7]
  simp only [Cond.before, Cond.holds, Cond.value, he]
  cases v <;> simp_all [Value.isRef]
theorem vx_isRefq {C n d : String} {A : Nat → Prop} {s : State} {args : Array Value} (h : va_Zq C n d A s s.heap) : (Cond.isRef (.static C n d)).before args s = true := by
  rcases h with h | ⟨t, h⟩
  · exact vx_isRef h rfl
  · exact vx_isRef h rfl
/-- the same frame, seen from here: as if the method were called anew in this heap -/
theorem vx_rebase {T : State} (X : Stand p l e R s m args below meth c T locs cells slots) {R' : Room} (hf : R'.frames ≤ R.frames) (hl : R'.locals ≤ R.locals) (hc : cells + R'.cells ≤ R.cells) (hs : slots + R'.slots ≤ R.slots) :
    Stand p l e R' ((T.setVm s.vm).setFrames (.invoking m args :: below)) m args below meth c T [] 0 0 := by
  have htop : (T.setVm s.vm).topJava?.isSome := X.here.top
  have hF : ((T.setVm s.vm).setFrames (.invoking m args :: below)).frames = .invoking m args :: below := State.frames_setFrames _ (State.cur_lt_of_top htop)
  obtain ⟨g₀, hg0⟩ := Option.isSome_iff_exists.mp htop
  obtain ⟨r, hr⟩ := State.topJava?_eq_some.mp hg0
  have hl9 : e.platform.stackLimits (T.setVm s.vm).me = e.platform.stackLimits s.me := X.limits
  have hb9 : (T.setVm s.vm).me.stackBytes = s.me.stackBytes := X.bytes
  refine ⟨X.admits, X.cas, X.clock, hF, ?_, X.hears, X.method, X.code, X.here, X.tail, X.warmed, ?_, ?_, ?_⟩
  · have h := X.room
    have hU : ((T.setVm s.vm).setFrames (.invoking m args :: below)).localsInUse = s.localsInUse := by
      rw [State.localsInUse_invoking hF (meth := meth) (c := c) X.method X.code, State.localsInUse_invoking X.frames X.method X.code]
    simp only [State.hasRoom, Bool.and_eq_true, decide_eq_true_eq] at h ⊢
    obtain ⟨⟨⟨⟨h1, h2, h3, h4, h5, h6⟩, h7⟩, h8⟩, h9⟩ := h
    rw [X.frames, List.length_cons] at h2 h3
    have q1 := X.heapSize
    have q2 := X.used
    simp only [hF, hU, List.length_cons, State.stackLimits_setFrames, State.stackBytes_setFrames, hl9, hb9]
    refine ⟨⟨⟨⟨by omega, by omega, by omega, by omega, by omega, h6⟩, ?_⟩, ?_⟩, X.book⟩
    · show T.heap.size + R'.cells ≤ e.platform.maxCells
      omega
    · show T.slotsUsed + R'.slots ≤ e.platform.maxSlots
      omega
  · rw [State.stackLimits_setFrames]; rfl
  · rw [State.stackBytes_setFrames]; rfl
  · refine ⟨?_, Nat.le_refl _, Nat.le_refl _, ?_, ?_, fun a c9 h9 => ⟨c9, h9, rfl, rfl, fun _ _ => rfl⟩⟩
    · obtain ⟨t, ht, -⟩ := State.frames_cons hr
      show T.setVm s.vm = { ((T.setVm s.vm).setFrames (.invoking m args :: below)).setFrames (T.setVm s.vm).frames with heap := T.heap, slotsUsed := T.slotsUsed }
      rw [State.setFrames_setFrames, State.setFrames_self ht]
      rfl
    · show T.slotsUsed = T.slotsUsed + ((T.heap.toList.drop T.heap.size).map (·.slots.size)).sum
      rw [List.drop_eq_nil_of_le (Nat.le_of_eq Array.length_toList)]
      rfl
    · show ((T.heap.toList.drop T.heap.size).map (·.slots.size)).sum ≤ 0
      rw [List.drop_eq_nil_of_le (Nat.le_of_eq Array.length_toList)]
      exact Nat.le_refl _
/-- 'throw new E()': new; dup; invokespecial; athrow -/
theorem vx_throw0 {cc : ByteArray} {pc : Nat} (hexec : p.tables.exec = Jvm.exec) (hb : c.code = cc) (hl : l.stackTraces = false) {own cls : String} {names : List String} {ik ic mc ms : Nat} {A : Nat → Prop}
    (hown : s.vm.findClass own = some m.cls) (hcls : Bundle.fit cls = true) (hnames : ∀ n ∈ names, Bundle.fit n = true)
    (hk : (Cond.classLink own ik cls).before args s = true) (hini : (Cond.initialized cls).before args s = true) (hat : ∀ w ∈ vx_at0 own ic cls names, w.before args s = true)
    (hgood : ∀ w ∈ Cond.classLink own ik cls :: Cond.initialized cls :: vx_at0 own ic cls names, vx_ot w = true)
    (hU : vx_Zq Bundle.tN "UNASSIGNED_STACK" Bundle.steD A s s.heap) (hN : vx_Zq Bundle.tN "SUPPRESSED_SENTINEL" Bundle.listD A s s.heap) (hS : va_S A s.heap H locs) (hsize : ls.size = c.maxLocals)
    (d0 : decode cc pc = .ok (.new ik, 3)) (d3 : decode cc (pc + 3) = .ok (.dup, 1)) (d4 : decode cc (pc + 4) = .ok (.invokespecial ic, 3)) (d7 : decode cc (pc + 7) = .ok (.athrow, 1))
    (hout : ∀ x ∈ c.exceptionTable.toList, covers x (pc + 7) = false)
    (hRframes : names.length + 3 < R.frames) (hRlocals : (rest.map fun v => v.category).sum + (13 * (names.length + 1) + 42) ≤ R.locals) (hRcells : cells + 1 ≤ R.cells) (hRslots : slots + 6 ≤ R.slots) (hlocks : meth.locks = false)
    (hx : ∀ t : State, s.vm.Alike t.vm → H.size ≤ t.heap.size → (∀ q : Nat, q < H.size → t.heap[q]? = H[q]?) → XC cls s t)
    (hf : ∀ z ∈ locs, free z.base) (hc : cells + 1 ≤ mc) (hs : slots + 6 ≤ ms) :
    W p l e R s m args below meth c H locs cells slots (vx_MQ below Qc XC args s mc ms free) (F0 m pc ls rest) := by
  intro T hT X
  have htr : e.platform.stackTraces = false := (show e.platform.stackTraces = l.stackTraces by rw [X.admits.platform]).trans hl
  have Y := vx_rebase X (R' := { frames := R.frames, locals := R.locals, cells := 1, slots := 6 }) (Nat.le_refl _) (Nat.le_refl _) hRcells hRslots
  obtain ⟨s', hA⟩ : ∃ z, z = (T.setVm s.vm).setFrames (.invoking m args :: below) := ⟨_, rfl⟩
  rw [← hA] at Y
  have hvm : s'.vm = s.vm := by rw [hA]; rfl
  have hhp : s'.heap = H := by rw [hA]; exact hT
  have hW0 : s.WarmedH s'.vm := by rw [hvm]; exact State.WarmedH.refl s
  have hat' : ∀ w ∈ vx_at0 own ic cls names, w.before args s' = true := fun w hw => vx_ot_at hW0 hvm.symm (hgood w (List.mem_cons_of_mem _ (List.mem_cons_of_mem _ hw))) (hat w hw)
  have hk' : (Cond.classLink own ik cls).before args s' = true := vx_ot_at hW0 hvm.symm (hgood _ List.mem_cons_self) hk
  have hini' : (Cond.initialized cls).before args s' = true := vx_ot_at hW0 hvm.symm (hgood _ (List.mem_cons_of_mem _ List.mem_cons_self)) hini
  have hU' : vx_Zq Bundle.tN "UNASSIGNED_STACK" Bundle.steD A s' s'.heap := by rw [hhp]; exact vx_Zq.moved hW0.alike (hU.kept hS.2.1)
  have hN' : vx_Zq Bundle.tN "SUPPRESSED_SENTINEL" Bundle.listD A s' s'.heap := by rw [hhp]; exact vx_Zq.moved hW0.alike (hN.kept hS.2.1)
  have h : ∀ w ∈ Bundle.ownAtoms0 own ic cls names, w.before args s' = true := vx_own hat' (vx_isRefq hU'.1) (vx_isRefq hN'.1) hU'.2.word hN'.2.word
  have hown' : s'.vm.findClass own = some m.cls := by rw [hvm]; exact hown
  have hins : (Cond.instantiable cls 6).before args s' = true := h _ (by simp [Bundle.ownAtoms0])
  obtain ⟨vm₁, cX, kX, hfX, hkX, -, -, X₁, st1⟩ := Y.newCold hexec (own := own) (C := cls) (index := ik) (n := 6) hown' hk' hins hini'
    (g := F0 m pc ls rest) rfl (by rw [hb]; exact d0) (Nat.le_refl _) (Nat.le_refl _)
  generalize hT1 : (T.setVm vm₁).pushCell { cls := cX, slots := kX.instanceTypes.map defaultValue, vm := .none } = T1 at X₁ st1
  have hcat : (Value.ref T.heap.size).category = 1 := rfl
  have hcellA : T1.heap[T.heap.size]? = some (freshCell cX kX) := by rw [← hT1]; exact State.heap_pushCell_size _ _
  have d3' : decode c.code (pc + 3) = .ok (.dup, 1) := by rw [hb]; exact d3
  obtain ⟨U, hsteps, hrun, hend, hW, hsame, ce, hce, hO⟩ := X₁.ctorThrow0 hexec htr (own := own) (cls := cls) (names := names) (ic := ic) hown' hcls hnames h (fun x hx => nomatch hx) hfX hkX hcellA (by rw [hhp, hT]; exact Nat.le_refl _)
    (g := { method := m, pc := pc + 4, locals := ls, stack := .ref T.heap.size :: .ref T.heap.size :: rest, locked := none }) rfl hsize rfl rfl (rest := rest) rfl
    (by rw [hb]; exact d4) (by rw [hb]; exact d7) hout hRframes (by simp only [List.map_cons, List.sum_cons, hcat]; omega) hlocks
  obtain ⟨f1, f2⟩ := vx_frame hsame
  rw [hhp] at f1 f2
  have hWs : s.WarmedH U.vm := State.WarmedH.trans hW0 hW
  have hcl : s.vm.findClass cls = some ce.cls := by
    have h9 := hO.cls
    rw [hvm] at h9
    exact h9
  have hall : s.sameButNew ({ U with vm := s.vm } : State) locs mc ms := by
    subst hA
    obtain ⟨e1, e2⟩ := hsame
    rw [State.setFrames_setFrames] at e1
    have h2 : (T.setVm s.vm).sameButNew ({ U with vm := s.vm } : State) [] (0 + 1) (0 + 6) := ⟨e1, e2⟩
    have h3 := X.same.trans h2
    rw [List.append_nil] at h3
    exact h3.mono hc hs
  refine ⟨U, ?_, .threw T.heap.size, hrun, hend, Or.inr ⟨T.heap.size, rfl, cls, ce, locs, hx U hWs.alike f1 (fun q hq => f2 q hq (fun z hz => nomatch hz)), hce, hO.vm, hcl, hWs, hall, hf⟩⟩
  refine st1 _ ?_
  show Steps p.tables e below (T1.setTop { method := m, pc := pc + 3, locals := ls, stack := .ref T.heap.size :: rest, locked := none }) _
  jvm_step X₁.here [X₁.here.top, hexec, d3', Value.category]
  exact hsteps
/-- 'throw new E("text")': new; dup; ldc; invokespecial; athrow -/
theorem vx_throwS {cc : ByteArray} {pc : Nat} (hexec : p.tables.exec = Jvm.exec) (hb : c.code = cc) (hl : l.stackTraces = false) {own cls text : String} {names : List String} {ik is ic mc ms sa : Nat} {A : Nat → Prop}
    (hown : s.vm.findClass own = some m.cls) (hcls : Bundle.fit cls = true) (hnames : ∀ n ∈ names, Bundle.fit n = true)
    (hk : (Cond.classLink own ik cls).before args s = true) (hini : (Cond.initialized cls).before args s = true) (hstr : vk_R own is text sa s) (hat : ∀ w ∈ vx_atS own ic cls names, w.before args s = true)
    (hgood : ∀ w ∈ Cond.classLink own ik cls :: Cond.initialized cls :: vx_atS own ic cls names, vx_ot w = true)
    (hU : vx_Zq Bundle.tN "UNASSIGNED_STACK" Bundle.steD A s s.heap) (hN : vx_Zq Bundle.tN "SUPPRESSED_SENTINEL" Bundle.listD A s s.heap) (hS : va_S A s.heap H locs) (hsize : ls.size = c.maxLocals)
    (d0 : decode cc pc = .ok (.new ik, 3)) (d3 : decode cc (pc + 3) = .ok (.dup, 1)) (d4 : decode cc (pc + 4) = .ok (.ldc is, 2)) (d6 : decode cc (pc + 6) = .ok (.invokespecial ic, 3)) (d9 : decode cc (pc + 9) = .ok (.athrow, 1))
    (hout : ∀ x ∈ c.exceptionTable.toList, covers x (pc + 9) = false)
    (hRframes : names.length + 3 < R.frames) (hRlocals : (rest.map fun v => v.category).sum + (13 * (names.length + 1) + 43) ≤ R.locals) (hRcells : cells + 1 ≤ R.cells) (hRslots : slots + 6 ≤ R.slots) (hlocks : meth.locks = false)
    (hx : ∀ t : State, s.vm.Alike t.vm → H.size ≤ t.heap.size → (∀ q : Nat, q < H.size → t.heap[q]? = H[q]?) → XC cls s t)
    (hf : ∀ z ∈ locs, free z.base) (hc : cells + 1 ≤ mc) (hs : slots + 6 ≤ ms) :
    W p l e R s m args below meth c H locs cells slots (vx_MQ below Qc XC args s mc ms free) (F0 m pc ls rest) := by
  intro T hT X
  have htr : e.platform.stackTraces = false := (show e.platform.stackTraces = l.stackTraces by rw [X.admits.platform]).trans hl
  have Y := vx_rebase X (R' := { frames := R.frames, locals := R.locals, cells := 1, slots := 6 }) (Nat.le_refl _) (Nat.le_refl _) hRcells hRslots
  obtain ⟨s', hA⟩ : ∃ z, z = (T.setVm s.vm).setFrames (.invoking m args :: below) := ⟨_, rfl⟩
  rw [← hA] at Y
  have hvm : s'.vm = s.vm := by rw [hA]; rfl
  have hhp : s'.heap = H := by rw [hA]; exact hT
  have hW0 : s.WarmedH s'.vm := by rw [hvm]; exact State.WarmedH.refl s
  have hat' : ∀ w ∈ vx_atS own ic cls names, w.before args s' = true := fun w hw => vx_ot_at hW0 hvm.symm (hgood w (List.mem_cons_of_mem _ (List.mem_cons_of_mem _ hw))) (hat w hw)
  have hk' : (Cond.classLink own ik cls).before args s' = true := vx_ot_at hW0 hvm.symm (hgood _ List.mem_cons_self) hk
  have hini' : (Cond.initialized cls).before args s' = true := vx_ot_at hW0 hvm.symm (hgood _ (List.mem_cons_of_mem _ List.mem_cons_self)) hini
  have hU' : vx_Zq Bundle.tN "UNASSIGNED_STACK" Bundle.steD A s' s'.heap := by rw [hhp]; exact vx_Zq.moved hW0.alike (hU.kept hS.2.1)
  have hN' : vx_Zq Bundle.tN "SUPPRESSED_SENTINEL" Bundle.listD A s' s'.heap := by rw [hhp]; exact vx_Zq.moved hW0.alike (hN.kept hS.2.1)
  have h : ∀ w ∈ Bundle.ownAtoms own ic cls names, w.before args s' = true := vx_own hat' (vx_isRefq hU'.1) (vx_isRefq hN'.1) hU'.2.word hN'.2.word
  have hown' : s'.vm.findClass own = some m.cls := by rw [hvm]; exact hown
  have hins : (Cond.instantiable cls 6).before args s' = true := h _ (by simp [Bundle.ownAtoms])
  obtain ⟨vm₁, cX, kX, hfX, hkX, -, -, X₁, st1⟩ := Y.newCold hexec (own := own) (C := cls) (index := ik) (n := 6) hown' hk' hins hini'
    (g := F0 m pc ls rest) rfl (by rw [hb]; exact d0) (Nat.le_refl _) (Nat.le_refl _)
  generalize hT1 : (T.setVm vm₁).pushCell { cls := cX, slots := kX.instanceTypes.map defaultValue, vm := .none } = T1 at X₁ st1
  have hcat : (Value.ref T.heap.size).category = 1 := rfl
  have hcellA : T1.heap[T.heap.size]? = some (freshCell cX kX) := by rw [← hT1]; exact State.heap_pushCell_size _ _
  have d3' : decode c.code (pc + 3) = .ok (.dup, 1) := by rw [hb]; exact d3
  have d4' : decode c.code (pc + 4) = .ok (.ldc is, 2) := by rw [hb]; exact d4
  have hstr' : vk_R own is text sa s' := vk_R.warm hW0 hstr
  obtain ⟨U, hsteps, hrun, hend, hW, hsame, ce, hce, hO⟩ := X₁.ctorThrowS hexec htr (own := own) (cls := cls) (names := names) (ic := ic) hown' hcls hnames h (fun x hx => nomatch hx) hfX hkX hcellA (by rw [hhp, hT]; exact Nat.le_refl _) (msg := .ref sa) rfl
    (g := { method := m, pc := pc + 6, locals := ls, stack := .ref sa :: .ref T.heap.size :: .ref T.heap.size :: rest, locked := none }) rfl hsize rfl rfl (rest := rest) rfl
    (by rw [hb]; exact d6) (by rw [hb]; exact d9) hout hRframes (by simp only [List.map_cons, List.sum_cons, hcat]; omega) hlocks
  obtain ⟨f1, f2⟩ := vx_frame hsame
  rw [hhp] at f1 f2
  have hWs : s.WarmedH U.vm := State.WarmedH.trans hW0 hW
  have hcl : s.vm.findClass cls = some ce.cls := by
    have h9 := hO.cls
    rw [hvm] at h9
    exact h9
  have hall : s.sameButNew ({ U with vm := s.vm } : State) locs mc ms := by
    subst hA
    obtain ⟨e1, e2⟩ := hsame
    rw [State.setFrames_setFrames] at e1
    have h2 : (T.setVm s.vm).sameButNew ({ U with vm := s.vm } : State) [] (0 + 1) (0 + 6) := ⟨e1, e2⟩
    have h3 := X.same.trans h2
    rw [List.append_nil] at h3
    exact h3.mono hc hs
  refine ⟨U, ?_, .threw T.heap.size, hrun, hend, Or.inr ⟨T.heap.size, rfl, cls, ce, locs, hx U hWs.alike f1 (fun q hq => f2 q hq (fun z hz => nomatch hz)), hce, hO.vm, hcl, hWs, hall, hf⟩⟩
  refine st1 _ ?_
  show Steps p.tables e below (T1.setTop { method := m, pc := pc + 3, locals := ls, stack := .ref T.heap.size :: rest, locked := none }) _
  jvm_step X₁.here [X₁.here.top, hexec, d3', Value.category]
  exact X₁.ldcString hexec (own := own) (text := text) (index := is) (a := sa) hown' hstr'.1 hstr'.2
    (g := { method := m, pc := pc + 4, locals := ls, stack := .ref T.heap.size :: .ref T.heap.size :: rest, locked := none }) rfl d4' _ hsteps
/-- 'throw new E("text")', the text by a wide index -/
theorem vx_throwSW {cc : ByteArray} {pc : Nat} (hexec : p.tables.exec = Jvm.exec) (hb : c.code = cc) (hl : l.stackTraces = false) {own cls text : String} {names : List String} {ik is ic mc ms sa : Nat} {A : Nat → Prop}
    (hown : s.vm.findClass own = some m.cls) (hcls : Bundle.fit cls = true) (hnames : ∀ n ∈ names, Bundle.fit n = true)
    (hk : (Cond.classLink own ik cls).before args s = true) (hini : (Cond.initialized cls).before args s = true) (hstr : vk_R own is text sa s) (hat : ∀ w ∈ vx_atS own ic cls names, w.before args s = true)
    (hgood : ∀ w ∈ Cond.classLink own ik cls :: Cond.initialized cls :: vx_atS own ic cls names, vx_ot w = true)
    (hU : vx_Zq Bundle.tN "UNASSIGNED_STACK" Bundle.steD A s s.heap) (hN : vx_Zq Bundle.tN "SUPPRESSED_SENTINEL" Bundle.listD A s s.heap) (hS : va_S A s.heap H locs) (hsize : ls.size = c.maxLocals)
    (d0 : decode cc pc = .ok (.new ik, 3)) (d3 : decode cc (pc + 3) = .ok (.dup, 1)) (d4 : decode cc (pc + 4) = .ok (.ldc_w is, 3)) (d7 : decode cc (pc + 7) = .ok (.invokespecial ic, 3)) (d10 : decode cc (pc + 10) = .ok (.athrow, 1))
    (hout : ∀ x ∈ c.exceptionTable.toList, covers x (pc + 10) = false)
    (hRframes : names.length + 3 < R.frames) (hRlocals : (rest.map fun v => v.category).sum + (13 * (names.length + 1) + 43) ≤ R.locals) (hRcells : cells + 1 ≤ R.cells) (hRslots : slots + 6 ≤ R.slots) (hlocks : meth.locks = false)
    (hx : ∀ t : State, s.vm.Alike t.vm → H.size ≤ t.heap.size → (∀ q : Nat, q < H.size → t.heap[q]? = H[q]?) → XC cls s t)
    (hf : ∀ z ∈ locs, free z.base) (hc : cells + 1 ≤ mc) (hs : slots + 6 ≤ ms) :
    W p l e R s m args below meth c H locs cells slots (vx_MQ below Qc XC args s mc ms free) (F0 m pc ls rest) := by
  intro T hT X
  have htr : e.platform.stackTraces = false := (show e.platform.stackTraces = l.stackTraces by rw [X.admits.platform]).trans hl
  have Y := vx_rebase X (R' := { frames := R.frames, locals := R.locals, cells := 1, slots := 6 }) (Nat.le_refl _) (Nat.le_refl _) hRcells hRslots
  obtain ⟨s', hA⟩ : ∃ z, z = (T.setVm s.vm).setFrames (.invoking m args :: below) := ⟨_, rfl⟩
  rw [← hA] at Y
  have hvm : s'.vm = s.vm := by rw [hA]; rfl
  have hhp : s'.heap = H := by rw [hA]; exact hT
  have hW0 : s.WarmedH s'.vm := by rw [hvm]; exact State.WarmedH.refl s
  have hat' : ∀ w ∈ vx_atS own ic cls names, w.before args s' = true := fun w hw => vx_ot_at hW0 hvm.symm (hgood w (List.mem_cons_of_mem _ (List.mem_cons_of_mem _ hw))) (hat w hw)
  have hk' : (Cond.classLink own ik cls).before args s' = true := vx_ot_at hW0 hvm.symm (hgood _ List.mem_cons_self) hk
  have hini' : (Cond.initialized cls).before args s' = true := vx_ot_at hW0 hvm.symm (hgood _ (List.mem_cons_of_mem _ List.mem_cons_self)) hini
  have hU' : vx_Zq Bundle.tN "UNASSIGNED_STACK" Bundle.steD A s' s'.heap := by rw [hhp]; exact vx_Zq.moved hW0.alike (hU.kept hS.2.1)
  have hN' : vx_Zq Bundle.tN "SUPPRESSED_SENTINEL" Bundle.listD A s' s'.heap := by rw [hhp]; exact vx_Zq.moved hW0.alike (hN.kept hS.2.1)
  have h : ∀ w ∈ Bundle.ownAtoms own ic cls names, w.before args s' = true := vx_own hat' (vx_isRefq hU'.1) (vx_isRefq hN'.1) hU'.2.word hN'.2.word
  have hown' : s'.vm.findClass own = some m.cls := by rw [hvm]; exact hown
  have hins : (Cond.instantiable cls 6).before args s' = true := h _ (by simp [Bundle.ownAtoms])
  obtain ⟨vm₁, cX, kX, hfX, hkX, -, -, X₁, st1⟩ := Y.newCold hexec (own := own) (C := cls) (index := ik) (n := 6) hown' hk' hins hini'
    (g := F0 m pc ls rest) rfl (by rw [hb]; exact d0) (Nat.le_refl _) (Nat.le_refl _)
  generalize hT1 : (T.setVm vm₁).pushCell { cls := cX, slots := kX.instanceTypes.map defaultValue, vm := .none } = T1 at X₁ st1
  have hcat : (Value.ref T.heap.size).category = 1 := rfl
  have hcellA : T1.heap[T.heap.size]? = some (freshCell cX kX) := by rw [← hT1]; exact State.heap_pushCell_size _ _
  have d3' : decode c.code (pc + 3) = .ok (.dup, 1) := by rw [hb]; exact d3
  have d4' : decode c.code (pc + 4) = .ok (.ldc_w is, 3) := by rw [hb]; exact d4
  have hstr' : vk_R own is text sa s' := vk_R.warm hW0 hstr
  obtain ⟨U, hsteps, hrun, hend, hW, hsame, ce, hce, hO⟩ := X₁.ctorThrowS hexec htr (own := own) (cls := cls) (names := names) (ic := ic) hown' hcls hnames h (fun x hx => nomatch hx) hfX hkX hcellA (by rw [hhp, hT]; exact Nat.le_refl _) (msg := .ref sa) rfl
    (g := { method := m, pc := pc + 7, locals := ls, stack := .ref sa :: .ref T.heap.size :: .ref T.heap.size :: rest, locked := none }) rfl hsize rfl rfl (rest := rest) rfl
    (by rw [hb]; exact d7) (by rw [hb]; exact d10) hout hRframes (by simp only [List.map_cons, List.sum_cons, hcat]; omega) hlocks
  obtain ⟨f1, f2⟩ := vx_frame hsame
  rw [hhp] at f1 f2
  have hWs : s.WarmedH U.vm := State.WarmedH.trans hW0 hW
  have hcl : s.vm.findClass cls = some ce.cls := by
    have h9 := hO.cls
    rw [hvm] at h9
    exact h9
  have hall : s.sameButNew ({ U with vm := s.vm } : State) locs mc ms := by
    subst hA
    obtain ⟨e1, e2⟩ := hsame
    rw [State.setFrames_setFrames] at e1
    have h2 : (T.setVm s.vm).sameButNew ({ U with vm := s.vm } : State) [] (0 + 1) (0 + 6) := ⟨e1, e2⟩
    have h3 := X.same.trans h2
    rw [List.append_nil] at h3
    exact h3.mono hc hs
  refine ⟨U, ?_, .threw T.heap.size, hrun, hend, Or.inr ⟨T.heap.size, rfl, cls, ce, locs, hx U hWs.alike f1 (fun q hq => f2 q hq (fun z hz => nomatch hz)), hce, hO.vm, hcl, hWs, hall, hf⟩⟩
  refine st1 _ ?_
  show Steps p.tables e below (T1.setTop { method := m, pc := pc + 3, locals := ls, stack := .ref T.heap.size :: rest, locked := none }) _
  jvm_step X₁.here [X₁.here.top, hexec, d3', Value.category]
  exact X₁.ldcStringW hexec (own := own) (text := text) (index := is) (a := sa) hown' hstr'.1 hstr'.2
    (g := { method := m, pc := pc + 4, locals := ls, stack := .ref T.heap.size :: .ref T.heap.size :: rest, locked := none }) rfl d4' _ hsteps
end Ends
section Bodies
variable {l : Launch}
theorem vx_ofW {y : MethodName} {ws ws' : List Cond} {rm : Room} {Pc : Array Value → State → Prop} {Qc : Array Value → State → Outcome → State → Prop} {XC : String → State → State → Prop} {mc ms : Nat} {free : Addr → Prop} {cc : ByteArray} {maxL : Nat} {ret : Option FieldType}
    (hy : plainName y.cls = true) (hw : ws = Cond.code y cc maxL ret :: ws')
    (body : ∀ p e s m args below meth c s₁, BodyLoose p l y (headSpec ws rm) cc maxL ret e s m args below meth c s₁ → c.maxLocals = maxL → (∀ x ∈ c.exceptionTable.toList, False) → Pc args s →
      W p l e (headSpec ws rm).room s m args below meth c s.heap [] 0 0 (vx_MQ below Qc XC args s mc ms free) (entryFrame m args maxL)) : vx_Met l y ws rm Pc Qc XC mc ms free := by
  refine MetFree.of_bodyS (code := cc) (maxLocals := maxL) (ret := ret) hy ?_ ?_
  · intro args s m h hn
    obtain ⟨meth, c, h1, h2, h3, h4, h5, h6, -, -⟩ := Cond.code_spec hn (atoms_spec (ws := ws) h _ (by rw [hw]; exact List.mem_cons_self))
    exact ⟨meth, c, h1, h2, h3, h4, h5, h6⟩
  · intro p e s m args below meth c s₁ B hml hP _
    have hh0 : s₁.heap = s.heap := by rw [B.state]; rfl
    have ht : ∀ x ∈ c.exceptionTable.toList, False := by
      obtain ⟨meth9, c9, h1, h2, -, -, -, -, h7, -⟩ := Cond.code_spec B.named (atoms_spec (ws := ws) B.pre _ (by rw [hw]; exact List.mem_cons_self))
      cases Option.some.inj (h1.symm.trans B.method)
      cases Option.some.inj (h2.symm.trans (Stand.of_body B).code)
      intro x hx
      rw [Array.isEmpty_iff.mp h7] at hx
      cases hx
    obtain ⟨t, a1, o, b1, b2, b3⟩ := body p e s m args below meth c s₁ B hml ht hP s₁ hh0 (Stand.of_body B)
    exact ⟨t, o, a1, b1, b2, b3⟩
/-- the table of a body with handlers -/
theorem vx_table {p : Program} {x y : MethodName} {S : Spec} {cc bytes : ByteArray} {maxL maxL' : Nat} {ret ret' : Option FieldType} {e : Env} {s s₁ : State} {m : MethodId} {args : Array Value} {below : List Frame} {meth : Method} {c : Code} {hh : List (Nat × Nat × Nat × Nat)}
    (B : BodyLoose p l y S cc maxL ret e s m args below meth c s₁) (h : (Cond.codeWith y bytes maxL' ret' hh).before args s = true) : c.exceptionTable.toList = tableOf hh := by
  obtain ⟨m9, meth9, c9, hn9, h1, h2, -, -, h6, -⟩ := Cond.codeWith_spec h
  cases Option.some.inj (hn9.symm.trans B.named)
  cases Option.some.inj (h1.symm.trans B.method)
  cases Option.some.inj (h2.symm.trans (Stand.of_body B).code)
  rw [← h6, table_eq]
end Bodies
end VXA
/-! ===== END ===== -/
/-! ===== BEGIN a static call of a method with an exception table ===== -/
section VXS
variable {p : Program} {l : Launch} {e : Env} {R : Room} {s : State} {m : MethodId} {args : Array Value} {below : List Frame} {meth : Method} {c : Code} {T : State} {H : Heap} {locs : List Loc} {cells slots : Nat}
abbrev vx_CSW (R : Room) (s : State) (args : Array Value) (own : String) (index : Nat) (y : MethodName) (bytes : ByteArray) (maxL : Nat) (ret : Option FieldType) (hh : List (Nat × Nat × Nat × Nat)) (ws : List Cond) (rm : Room) (mc ms n : Nat) : Prop :=
  (rm.cells = mc ∧ rm.slots = ms ∧ rm.frames + 1 ≤ R.frames ∧ 8 + (maxL + 11) + rm.locals ≤ R.locals ∧ (∀ w ∈ ws, ∀ (a' : Array Value) (U : State), s.WarmedH U.vm → w.before a' U = true) ∧ Cond.codeWith y bytes maxL ret hh ∈ ws) ∧
  (Cond.codeWith y bytes maxL ret hh).before args s = true ∧ (Cond.initialized y.cls).before args s = true ∧ (y.cls ≠ "java/lang/invoke/MethodHandle" ∧ y.cls ≠ "java/lang/invoke/VarHandle") ∧
  (∀ sig, parseMethodDescriptor y.desc = some sig → n = sig.parameters.length) ∧ (Cond.methodLink own index y).before args s = true ∧ (Cond.static y).before args s = true
theorem vx_cwSW {own : String} {index maxL mc ms : Nat} {y : MethodName} {bytes : ByteArray} {ret : Option FieldType} {hh : List (Nat × Nat × Nat × Nat)} {Ts ws ws' : List Cond} {rm : Room} (n : Nat) (ht : ∀ w ∈ Ts, w.before args s = true) (hT : GoodIn Ts (va_wsS own index y ws)) (hw : ws = Cond.codeWith y bytes maxL ret hh :: ws') (hrc : rm.cells = mc) (hrs : rm.slots = ms)
    (hd : y.cls ≠ "java/lang/invoke/MethodHandle" ∧ y.cls ≠ "java/lang/invoke/VarHandle" ∧ (parseMethodDescriptor y.desc).map (fun d => d.parameters.length) = some n) (hR : rm.frames + 1 ≤ R.frames ∧ 8 + (maxL + 11) + rm.locals ≤ R.locals) :
    vx_CSW R s args own index y bytes maxL ret hh ws rm mc ms n := by
  have ok : ∀ w ∈ va_wsS own index y ws, w.before args s = true := fun w h => ht w (hT w h).1
  have hG : GoodIn Ts ws := fun w h => hT w (by unfold va_wsS; exact List.mem_append_right _ h)
  have hc : Cond.codeWith y bytes maxL ret hh ∈ ws := by rw [hw]; exact List.mem_cons_self
  refine ⟨⟨hrc, hrs, hR.1, hR.2, pay_in ht hG, hc⟩, ht _ (hG _ hc).1, ok _ (by simp [va_wsS]), ⟨hd.1, hd.2.1⟩, fun sig h => ?_, ok _ (by simp [va_wsS]), ok _ (by simp [va_wsS])⟩
  have h2 := hd.2.2
  rw [h] at h2
  exact (Option.some.inj h2).symm
theorem vx_callSW (X : Stand p l e R s m args below meth c T locs cells slots) (hexec : p.tables.exec = Jvm.exec) {own : String} {index : Nat} {y : MethodName} {bytes : ByteArray} {maxL : Nat} {ret : Option FieldType} {hh : List (Nat × Nat × Nat × Nat)}
    (hown : s.vm.findClass own = some m.cls) (hlink : (Cond.methodLink own index y).before args s = true) (hstat : (Cond.static y).before args s = true) (hinit : (Cond.initialized y.cls).before args s = true)
    (hcode : (Cond.codeWith y bytes maxL ret hh).before args s = true) (hy : y.cls ≠ "java/lang/invoke/MethodHandle" ∧ y.cls ≠ "java/lang/invoke/VarHandle")
    {W9 : Nat} {Pre : Pt → Array Value → Prop} {Post : Pt → Array Value → Option Value → Pt → Prop} (hK : Back l R p e below s args y 3 W9 Pre Post)
    {g : JFrame} (hg : g.method = m) (hsize : g.locals.size = c.maxLocals) {argsL rest : List Value} (hlen : ∀ sig, parseMethodDescriptor y.desc = some sig → argsL.length = sig.parameters.length)
    (hstack : g.stack = argsL.reverse ++ rest) (hW : 2 * g.monitorRoom + (rest.map fun v => v.category).sum ≤ W9) (hdg : decode c.code g.pc = .ok (.invokestatic index, 3))
    (hpre : ∀ vm₁, s.WarmedH vm₁ → Pre ⟨T.setVm vm₁, locs, cells, slots⟩ argsL.toArray) :
    ∃ (v : Option Value) (vm₁ : Vm) (B : Pt), s.WarmedH vm₁ ∧ Stand p l e R s m args below meth c B.U B.locs B.cells B.slots ∧ Post ⟨T.setVm vm₁, locs, cells, slots⟩ argsL.toArray v B ∧
      ∀ target, Steps p.tables e below (B.U.setTop { g with pc := g.pc + 3, stack := v.toList ++ rest }) target → Steps p.tables e below (T.setTop g) target := by
  obtain ⟨mk, methM, cM, hnamed, hmethM, -, -, -, -, -, -, hsigM⟩ := Cond.codeWith_spec hcode
  have hstatic : methM.isStatic = true := Cond.static_spec hnamed hmethM hstat
  obtain ⟨kP, hkP, -⟩ := className_of_methodNamed hnamed
  have hinitP : kP.init = .initialized := Cond.initialized_spec (findClass_of_methodNamed hnamed) hkP hinit
  obtain ⟨vm₁, X₁, hstep₁⟩ := X.invokestatic hexec hown hlink hnamed hmethM hstatic hkP hinitP hy (g := g) hg (argsL := argsL) (rest := rest) (hlen _ hsigM) hstack hdg
  obtain ⟨v, B, X', hpost, hsteps⟩ := hK m meth c ⟨T.setVm vm₁, locs, cells, slots⟩ { g with stack := rest } (.invokestatic index) mk argsL.toArray X₁ hg hsize hdg hW (X₁.named hnamed) (hpre vm₁ X₁.warmed)
  exact ⟨v, vm₁, B, X₁.warmed, X', hpost, fun target h => hstep₁ _ fun acts => by rw [doInvoke_state]; exact hsteps.trans h⟩
theorem vx_runSW {y : MethodName} {bytes cc : ByteArray} {maxL nL mc ms n index : Nat} {ret : Option FieldType} {hh : List (Nat × Nat × Nat × Nat)} {ws : List Cond} {rm : Room} {Pc : Array Value → State → Prop} {Qc : Array Value → State → Outcome → State → Prop} {free : Addr → Prop} {Ts : List Cond} {own : String} {As rest : List Value} {g : JFrame}
    (S : CallFix p m c cc nL s args Ts own) (hM : Met l y ws rm Pc Qc mc ms free) (cw : vx_CSW R s args own index y bytes maxL ret hh ws rm mc ms n) (hp : PreS s H Pc As)
    (hg : g.method = m) (hn : As.length = n) (hsize : g.locals.size = nL) (hstack : g.stack = As.reverse ++ rest) (hW : 2 * g.monitorRoom + (rest.map fun v => v.category).sum ≤ 8) (hdg : decode cc g.pc = .ok (.invokestatic index, 3)) (hf : cells + mc ≤ R.cells ∧ slots + ms ≤ R.slots) :
    va_Run p l e R s m args below meth c H locs cells slots mc ms g rest (Qc As.toArray) (free) := by
  obtain ⟨⟨hrc, hrs, hfr, hlo, hws, hcw⟩, hcode, hini, hy, hlen, hl, hstt⟩ := cw
  have hK : Back l R p e below s args y 3 8 (PreOf R mc ms Pc) (PostOf Qc mc ms free) := va_backW (hh := hh) (bytes := bytes) (maxL := maxL) (ret := ret) hM hp.1 hrc hrs hfr hlo hws hcw (fun a' U hW => word_at hW (Or.inl (by first | rfl | simp [Cond.onTables, Cond.keeps, Cond.steady])) hini)
  obtain ⟨hx, hb, hml, ho, -⟩ := S
  intro T hT X
  obtain ⟨v, vm₁, ⟨U', l2, c2, s2⟩, hW₁, X', ⟨g', mk, t, L, e1, e2, hq, h1, hL, h2, h3⟩, st⟩ := vx_callSW X hx (hh := hh) (bytes := bytes) (maxL := maxL) (ret := ret) ho hl hstt hini hcode hy hK hg (hsize.trans hml.symm) (argsL := As) (rest := rest) (fun sig h => hn.trans (hlen sig h)) hstack hW (by rw [hb]; exact hdg)
    (fun vm₁ hW₁ => ⟨hf.1, hf.2, hp.2 (T.setVm vm₁) hT hW₁⟩)
  dsimp only [Pt.U, Pt.locs, Pt.cells, Pt.slots] at X' e1 e2 h1 h2 h3 st
  subst h1; subst h2; subst h3
  exact ⟨v, (T.setVm vm₁).calling g' mk As.toArray, t, U', L, hT, X', hL, e1, e2, hq, st⟩
/-- not caught here, past rows that name other classes: it goes on to the caller -/
theorem vx_outP {p : Program} {l : Launch} {e : Env} {R : Room} {s : State} {m : MethodId} {args : Array Value} {below : List Frame} {meth : Method} {c : Code} {H : Heap} {locs : List Loc} {cells slots : Nat} {free : Addr → Prop} {ls : Array Slot} {rest : List Value} {Qc : Array Value → State → Outcome → State → Prop} {XC : String → State → State → Prop}
    {pc : Nat} {own E : String} {ce : Cell} {q : Addr} {mc ms : Nat} (hown : s.vm.findClass own = some m.cls) (hlocks : meth.locks = false)
    (hpass : ∀ z ∈ c.exceptionTable.toList, covers z pc = false ∨ (z.catchType ≠ 0 ∧ ∃ nm : String, (Cond.classLink own z.catchType nm).before args s = true ∧ va_Nc E nm s)) (hcell : H[q]? = some ce) (hv : ce.vm = .none) (hcl : s.vm.findClass E = some ce.cls)
    (hx : ∀ t : State, t.heap = H → s.vm.Alike t.vm → XC E s t) (hf : ∀ z ∈ locs, free z.base) (hc : cells ≤ mc) (hs : slots ≤ ms) :
    vx_W p l e R s m args below meth c H locs cells slots (vx_MQ below Qc XC args s mc ms free) (F0 m pc ls rest) q := by
  intro T hT X
  have hpl : e.platform.magicAccessors = ({} : Platform).magicAccessors := by rw [X.admits.platform]
  obtain ⟨vm', hW', X', st⟩ := X.outThrough hlocks q (g := F0 m pc ls rest) rfl rfl rfl (cell := ce) (by rw [hT]; exact hcell) (by rw [hv]; rfl)
    (by obtain ⟨k9, h9, -⟩ := Vm.findClass_spec hcl; exact ⟨k9, h9⟩) (fun z hz => by
      rcases hpass z hz with h | ⟨hz0, nm, hl1, hn1⟩
      · exact Or.inl h
      · obtain ⟨c6, hc6, hcl6⟩ := Cond.classLink_spec hown hl1 e.platform hpl
        obtain ⟨a8, b8, h1, h2, h3⟩ := hn1
        cases Option.some.inj (h1.symm.trans hcl)
        cases Option.some.inj (h2.symm.trans hc6)
        exact Or.inr ⟨hz0, _, hcl6, h3⟩)
  obtain ⟨g₀, hfr⟩ := X'.frames_eq
  have hcell9 : ((T.setVm vm').setFrames (.throwing q :: below)).heap[q]? = some ce := by
    show T.heap[q]? = some ce
    rw [hT]; exact hcell
  have hend : Ended ((T.setVm vm').setFrames (.throwing q :: below)) below (.threw q) := State.frames_setFrames _ (State.cur_lt_of_frames hfr)
  refine ⟨(T.setVm vm').setFrames (.throwing q :: below), ?_, .threw q, X'.here.running, hend, Or.inr ⟨q, rfl, E, ce, locs, hx _ hT (X'.ends _).1.alike, hcell9, hv, hcl, (X'.ends _).1, (X'.ends _).2.mono hc hs, hf⟩⟩
  rw [X.pushThrowing_eq]
  exact st
/-- a thing of a world lies in the heap -/
theorem vx_lt {D : va_G} {cl : List vw_C} {ws : va_W} {H1 : Heap} (h : va_P D cl ws H1) {k : Nat} {q : Nat × va_E} (hk : ws[k]? = some q) : q.1 < H1.size := (h k q hk).lt
end VXS
/-! ===== END ===== -/
/-! ===== BEGIN methods with a table of their own: called by a name, returning or throwing ===== -/
section VXH
/-! vx_backW, vx_callVX, vx_callSX, vx_callVW, vx_runVW, vx_runVX, vx_runSX, vx_ofWH follow the same proofs as their sisters above (Free/Laws.lean, Shelf42/LK1.lean); vx_outP calls Shelf42/NT130.lean (outThrough). -/
section
variable {l : Launch} {R : Room} {p : Program} {e : Env} {below : List Frame} {s : State} {sargs : Array Value} {y : MethodName} {len W9 : Nat}
theorem vx_backW {ws : List Cond} {rm : Room} {Pc : Array Value → State → Prop} {Qc : Array Value → State → Outcome → State → Prop} {XC : String → State → State → Prop} {mc ms : Nat} {free : Addr → Prop} {bytes : ByteArray} {maxL : Nat} {ret : Option FieldType} {hh : List (Nat × Nat × Nat × Nat)}
    (hM : vx_Met l y ws rm Pc Qc XC mc ms free) (hblind : FrameBlind Pc) (hrc : rm.cells = mc) (hrs : rm.slots = ms)
    (hframes : rm.frames + 1 ≤ R.frames) (hlocals : W9 + (maxL + 11) + rm.locals ≤ R.locals)
    (hws : ∀ w ∈ ws, ∀ a' U, s.WarmedH U.vm → w.before a' U = true) (hcode : Cond.codeWith y bytes maxL ret hh ∈ ws) (hinit : ∀ a' U, s.WarmedH U.vm → (Cond.initialized y.cls).before a' U = true) :
    vx_Back l R p e below s sargs y len W9 (PreOf R mc ms Pc) (PostOf Qc mc ms free) (vx_Post XC mc ms free) := by
  intro m meth c A g ig mk a X hg hsize hdg hW hn hp
  have h1 : (headSpec ws rm).pre.before a A.U = true := atoms_intro fun w hw => hws w hw _ _ X.warmed
  have h2 : (Cond.codeWith y bytes maxL ret hh).before a A.U = true := hws _ hcode _ _ X.warmed
  have h3 : (Cond.initialized y.cls).before a A.U = true := hinit _ _ X.warmed
  have h4 : A.cells + (headSpec ws rm).room.cells ≤ R.cells := by rw [show (headSpec ws rm).room.cells = mc from hrc]; exact hp.1
  have h5 : A.slots + (headSpec ws rm).room.slots ≤ R.slots := by rw [show (headSpec ws rm).room.slots = ms from hrs]; exact hp.2.1
  have hPc : Pc a (A.U.calling g mk a) := hblind _ _ _ _ hp.2.2
  obtain ⟨U, Ls, c0, s0⟩ := A
  dsimp only [Pt.U, Pt.locs, Pt.cells, Pt.slots] at h1 h2 h3 h4 h5 X hn hPc ⊢
  obtain ⟨m9, methY, cY, hn9, hmY, hcY, -, hlY, -⟩ := Cond.codeWith_spec h2
  cases Option.some.inj (hn9.symm.trans hn)
  obtain ⟨kY, hkY, -⟩ := className_of_methodNamed hn
  have hinitY : kY.init = .initialized := Cond.initialized_spec (findClass_of_methodNamed hn) hkY h3
  have h : At U g.method c below := by rw [hg]; exact X.here
  have hlocals9 : W9 + (maxL + 11) + (headSpec ws rm).room.locals ≤ R.locals := hlocals
  have happ : (headSpec ws rm).appliesLoose y e.platform (U.calling g mk a) = true :=
    Spec.appliesLoose_calling (g := g) h hdg hn hkY hinitY
      (X.room_calling (g := g) (R' := (headSpec ws rm).room) hsize hmY hcY hframes (by rw [hlY]; omega) h4 h5) h1
  obtain ⟨mid, hmid⟩ := h.above
  have hfr : (U.setTop g).frames = (.java g :: mid) ++ below := by rw [State.frames_setTop' g h.top, hmid]; rfl
  obtain ⟨o, s₂, hsteps, -, hend, hq⟩ := Steps.callFree hM p X.admits X.cas X.clock (acts := []) hfr happ hPc trivial
  have hq' : vx_Q Qc XC mc ms free a (U.calling g mk a) o s₂ := hq
  rw [State.frames_setTop' g h.top] at hend
  obtain ⟨g₀, hg0⟩ := Option.isSome_iff_exists.mp h.top
  obtain ⟨r, hr⟩ := State.topJava?_eq_some.mp hg0
  have hr' : (({ U with heap := s₂.heap, slotsUsed := s₂.slotsUsed } : State).setVm s₂.vm).frames = .java g₀ :: r := hr
  rcases hq' with ⟨hqc, L, hfe, hL⟩ | ⟨q, rfl, E, ce, L, hx, hce, hcv, hcl, hW₂, hsm, hL⟩
  · obtain ⟨⟨v, rfl⟩, hW₂, e2, q2, q3, q4, q5, q6⟩ := id hfe
    have e3 : s₂ = ({ (U.calling g mk a).setFrames s₂.frames with heap := s₂.heap, slotsUsed := s₂.slotsUsed } : State).setVm s₂.vm := by
      have : s₂ = ({ s₂ with vm := (U.calling g mk a).vm } : State).setVm s₂.vm := rfl
      rw [e2] at this
      exact this
    obtain ⟨c₂, i₂, len₂, hc₂, hd₂, hf₂⟩ := hend
    have hW' : U.WarmedH s₂.vm := hW₂
    have hcc : c₂ = c := by
      have h1 : s₂.code? g.method = U.code? g.method := by
        rw [State.code?_eq, State.code?_eq, hW'.alike.method?]
      exact Option.some.inj (hc₂.symm.trans (h1.trans h.code))
    subst hcc
    have hlen : len₂ = len := by rw [hdg] at hd₂; cases hd₂; rfl
    subst hlen
    have hs₂ : s₂ = (({ U with heap := s₂.heap, slotsUsed := s₂.slotsUsed } : State).setVm s₂.vm).setTop { g with pc := g.pc + len₂, stack := v.toList ++ g.stack } := by
      refine e3.trans ?_
      rw [hf₂, State.calling_eq h.top, State.setFrames_setFrames, State.setTop_of_frames _ hr', hr]
      rfl
    have hsame : U.sameButNew ({ U with heap := s₂.heap, slotsUsed := s₂.slotsUsed } : State) L mc ms := by
      refine ⟨?_, q2, q3, q4, q5, q6⟩
      obtain ⟨t, ht, -⟩ := State.frames_cons hr
      show ({ U with heap := s₂.heap, slotsUsed := s₂.slotsUsed } : State) = { U.setFrames U.frames with heap := s₂.heap, slotsUsed := s₂.slotsUsed }
      rw [State.setFrames_self ht]
    subst hg
    refine Or.inl ⟨v, ⟨(({ U with heap := s₂.heap, slotsUsed := s₂.slotsUsed } : State).setVm s₂.vm), Ls ++ L, c0 + mc, s0 + ms⟩,
      ⟨X.admits, X.cas, X.clock, X.frames, X.room, X.hears, X.method, X.code, (X.here.setHeapUsed s₂.heap s₂.slotsUsed).setVm hW'.alike, X.tail, State.WarmedH.trans X.warmed hW', X.limits, X.bytes, X.same.trans (hsame.setVm s.vm)⟩,
      ⟨g, mk, s₂, L, rfl, rfl, hqc, rfl, hL, rfl, rfl⟩, ?_⟩
    show Steps p.tables e below _ ((({ U with heap := s₂.heap, slotsUsed := s₂.slotsUsed } : State).setVm s₂.vm).setTop { g with pc := g.pc + len₂, stack := v.toList ++ g.stack })
    rw [← hs₂]
    exact hsteps
  · obtain ⟨e2, q2, q3, q4, q5, q6⟩ := id hsm
    have e3 : s₂ = ({ (U.calling g mk a).setFrames s₂.frames with heap := s₂.heap, slotsUsed := s₂.slotsUsed } : State).setVm s₂.vm := by
      have : s₂ = ({ s₂ with vm := (U.calling g mk a).vm } : State).setVm s₂.vm := rfl
      rw [e2] at this
      exact this
    have hf₂ : s₂.frames = .throwing q :: .java g :: U.frames.tail := hend
    have hW' : U.WarmedH s₂.vm := hW₂
    have hs₂ : s₂ = ((({ U with heap := s₂.heap, slotsUsed := s₂.slotsUsed } : State).setVm s₂.vm).setTop g).pushFrame (.throwing q) := by
      refine e3.trans ?_
      rw [hf₂, State.calling_eq h.top, State.setFrames_setFrames, State.pushFrame, State.frames_setTop _ hr', State.setTop_of_frames _ hr', State.setFrames_setFrames, hr]
      rfl
    have hsame : U.sameButNew ({ U with heap := s₂.heap, slotsUsed := s₂.slotsUsed } : State) L mc ms := by
      refine ⟨?_, q2, q3, q4, q5, q6⟩
      obtain ⟨t, ht, -⟩ := State.frames_cons hr
      show ({ U with heap := s₂.heap, slotsUsed := s₂.slotsUsed } : State) = { U.setFrames U.frames with heap := s₂.heap, slotsUsed := s₂.slotsUsed }
      rw [State.setFrames_self ht]
    subst hg
    refine Or.inr ⟨q, ⟨(({ U with heap := s₂.heap, slotsUsed := s₂.slotsUsed } : State).setVm s₂.vm), Ls ++ L, c0 + mc, s0 + ms⟩,
      ⟨X.admits, X.cas, X.clock, X.frames, X.room, X.hears, X.method, X.code, (X.here.setHeapUsed s₂.heap s₂.slotsUsed).setVm hW'.alike, X.tail, State.WarmedH.trans X.warmed hW', X.limits, X.bytes, X.same.trans (hsame.setVm s.vm)⟩,
      ⟨g, mk, s₂, L, E, ce, rfl, rfl, hx, hce, hcv, hcl, rfl, hL, rfl, rfl⟩, ?_⟩
    show Steps p.tables e below _ (((({ U with heap := s₂.heap, slotsUsed := s₂.slotsUsed } : State).setVm s₂.vm).setTop g).pushFrame (.throwing q))
    rw [← hs₂]
    exact hsteps
end
variable {p : Program} {l : Launch} {e : Env} {R : Room} {s : State} {m : MethodId} {args : Array Value} {below : List Frame} {meth : Method} {c : Code} {T : State} {H : Heap} {locs : List Loc} {cells slots : Nat}
theorem vx_callVX (X : Stand p l e R s m args below meth c T locs cells slots) (hexec : p.tables.exec = Jvm.exec) {own C : String} {index : Nat} {y : MethodName} {bytes : ByteArray} {maxL : Nat} {ret : Option FieldType} {hh : List (Nat × Nat × Nat × Nat)}
    (hown : s.vm.findClass own = some m.cls) (hlink : (Cond.methodLink own index y).before args s = true) (hinst : (Cond.instanceMethod y).before args s = true) (hsel : (Cond.selects C y y).before args s = true)
    (hcode : (Cond.codeWith y bytes maxL ret hh).before args s = true) (hy : y.cls ≠ "java/lang/invoke/MethodHandle" ∧ y.cls ≠ "java/lang/invoke/VarHandle")
    {W9 : Nat} {Pre : Pt → Array Value → Prop} {Post : Pt → Array Value → Option Value → Pt → Prop} {PostX : Pt → Array Value → Addr → Pt → Prop} (hK : vx_Back l R p e below s args y 3 W9 Pre Post PostX)
    {b : Addr} {cellB : Cell} (hcell : T.heap[b]? = some cellB) (hobj : cellB.vm.isStatics = false) (hcls : s.vm.findClass C = some cellB.cls)
    {g : JFrame} (hg : g.method = m) (hsize : g.locals.size = c.maxLocals) {argsL rest : List Value} (hlen : ∀ sig, parseMethodDescriptor y.desc = some sig → argsL.length = sig.parameters.length)
    (hstack : g.stack = argsL.reverse ++ .ref b :: rest) (hW : 2 * g.monitorRoom + (rest.map fun v => v.category).sum ≤ W9) (hdg : decode c.code g.pc = .ok (.invokevirtual index, 3))
    (hpre : ∀ vm₁, s.WarmedH vm₁ → Pre ⟨T.setVm vm₁, locs, cells, slots⟩ (Value.ref b :: argsL).toArray) :
    (∃ (v : Option Value) (vm₁ : Vm) (B : Pt), s.WarmedH vm₁ ∧ Stand p l e R s m args below meth c B.U B.locs B.cells B.slots ∧ Post ⟨T.setVm vm₁, locs, cells, slots⟩ (Value.ref b :: argsL).toArray v B ∧
      ∀ target, Steps p.tables e below (B.U.setTop { g with pc := g.pc + 3, stack := v.toList ++ rest }) target → Steps p.tables e below (T.setTop g) target) ∨
    (∃ (q : Addr) (vm₁ : Vm) (B : Pt), s.WarmedH vm₁ ∧ Stand p l e R s m args below meth c B.U B.locs B.cells B.slots ∧ PostX ⟨T.setVm vm₁, locs, cells, slots⟩ (Value.ref b :: argsL).toArray q B ∧
      Steps p.tables e below (T.setTop g) ((B.U.setTop { g with stack := rest }).pushFrame (.throwing q))) := by
  obtain ⟨mk, methM, hnamed, hmethM, hstM, habM⟩ := Cond.instanceMethod_spec hinst
  obtain ⟨m8, methM', cM, hn8, hmethM', -, -, -, -, -, -, hsigM⟩ := Cond.codeWith_spec hcode
  cases Option.some.inj (hn8.symm.trans hnamed)
  cases hmethM.symm.trans hmethM'
  obtain ⟨c2, r2, m2, q1, q2, q3, q4, kP, hkP, hkPi⟩ := Cond.selects_spec hsel
  cases hcls.symm.trans q1
  cases (State.methodFound?_of_named hnamed hy).symm.trans q2
  cases hnamed.symm.trans q3
  have hselP : selectMethod e.platform s.vm cellB.cls mk = .method mk := by rw [Launch.admits_selectMethod X.admits]; exact q4
  obtain ⟨vm₁, X₁, hstep₁⟩ := X.invokevirtual hexec hown hlink hnamed hmethM hstM hkP hkPi hy (a := b) (cell := cellB) hcell
    (fun z h => by rw [h] at hobj; cases hobj) hselP hmethM habM hkP hkPi (g := g) hg (argsL := argsL) (rest := rest) (hlen _ hsigM) hstack hdg
  rcases hK m meth c ⟨T.setVm vm₁, locs, cells, slots⟩ { g with stack := rest } (.invokevirtual index) mk (Value.ref b :: argsL).toArray X₁ hg hsize hdg hW (X₁.named hnamed) (hpre vm₁ X₁.warmed) with ⟨v, B, X', hpost, hsteps⟩ | ⟨q, B, X', hpost, hsteps⟩
  · exact Or.inl ⟨v, vm₁, B, X₁.warmed, X', hpost, fun target h => hstep₁ _ fun acts => by rw [doInvoke_state]; exact hsteps.trans h⟩
  · exact Or.inr ⟨q, vm₁, B, X₁.warmed, X', hpost, hstep₁ _ fun acts => by rw [doInvoke_state]; exact hsteps⟩
theorem vx_callSX (X : Stand p l e R s m args below meth c T locs cells slots) (hexec : p.tables.exec = Jvm.exec) {own : String} {index : Nat} {y : MethodName} {bytes : ByteArray} {maxL : Nat} {ret : Option FieldType} {hh : List (Nat × Nat × Nat × Nat)}
    (hown : s.vm.findClass own = some m.cls) (hlink : (Cond.methodLink own index y).before args s = true) (hstat : (Cond.static y).before args s = true) (hinit : (Cond.initialized y.cls).before args s = true)
    (hcode : (Cond.codeWith y bytes maxL ret hh).before args s = true) (hy : y.cls ≠ "java/lang/invoke/MethodHandle" ∧ y.cls ≠ "java/lang/invoke/VarHandle")
    {W9 : Nat} {Pre : Pt → Array Value → Prop} {Post : Pt → Array Value → Option Value → Pt → Prop} {PostX : Pt → Array Value → Addr → Pt → Prop} (hK : vx_Back l R p e below s args y 3 W9 Pre Post PostX)
    {g : JFrame} (hg : g.method = m) (hsize : g.locals.size = c.maxLocals) {argsL rest : List Value} (hlen : ∀ sig, parseMethodDescriptor y.desc = some sig → argsL.length = sig.parameters.length)
    (hstack : g.stack = argsL.reverse ++ rest) (hW : 2 * g.monitorRoom + (rest.map fun v => v.category).sum ≤ W9) (hdg : decode c.code g.pc = .ok (.invokestatic index, 3))
    (hpre : ∀ vm₁, s.WarmedH vm₁ → Pre ⟨T.setVm vm₁, locs, cells, slots⟩ argsL.toArray) :
    (∃ (v : Option Value) (vm₁ : Vm) (B : Pt), s.WarmedH vm₁ ∧ Stand p l e R s m args below meth c B.U B.locs B.cells B.slots ∧ Post ⟨T.setVm vm₁, locs, cells, slots⟩ argsL.toArray v B ∧
      ∀ target, Steps p.tables e below (B.U.setTop { g with pc := g.pc + 3, stack := v.toList ++ rest }) target → Steps p.tables e below (T.setTop g) target) ∨
    (∃ (q : Addr) (vm₁ : Vm) (B : Pt), s.WarmedH vm₁ ∧ Stand p l e R s m args below meth c B.U B.locs B.cells B.slots ∧ PostX ⟨T.setVm vm₁, locs, cells, slots⟩ argsL.toArray q B ∧
      Steps p.tables e below (T.setTop g) ((B.U.setTop { g with stack := rest }).pushFrame (.throwing q))) := by
  obtain ⟨mk, methM, cM, hnamed, hmethM, -, -, -, -, -, -, hsigM⟩ := Cond.codeWith_spec hcode
  have hstatic : methM.isStatic = true := Cond.static_spec hnamed hmethM hstat
  obtain ⟨kP, hkP, -⟩ := className_of_methodNamed hnamed
  have hinitP : kP.init = .initialized := Cond.initialized_spec (findClass_of_methodNamed hnamed) hkP hinit
  obtain ⟨vm₁, X₁, hstep₁⟩ := X.invokestatic hexec hown hlink hnamed hmethM hstatic hkP hinitP hy (g := g) hg (argsL := argsL) (rest := rest) (hlen _ hsigM) hstack hdg
  rcases hK m meth c ⟨T.setVm vm₁, locs, cells, slots⟩ { g with stack := rest } (.invokestatic index) mk argsL.toArray X₁ hg hsize hdg hW (X₁.named hnamed) (hpre vm₁ X₁.warmed) with ⟨v, B, X', hpost, hsteps⟩ | ⟨q, B, X', hpost, hsteps⟩
  · exact Or.inl ⟨v, vm₁, B, X₁.warmed, X', hpost, fun target h => hstep₁ _ fun acts => by rw [doInvoke_state]; exact hsteps.trans h⟩
  · exact Or.inr ⟨q, vm₁, B, X₁.warmed, X', hpost, hstep₁ _ fun acts => by rw [doInvoke_state]; exact hsteps⟩
theorem vx_callVW (X : Stand p l e R s m args below meth c T locs cells slots) (hexec : p.tables.exec = Jvm.exec) {own C : String} {index : Nat} {y : MethodName} {bytes : ByteArray} {maxL : Nat} {ret : Option FieldType} {hh : List (Nat × Nat × Nat × Nat)}
    (hown : s.vm.findClass own = some m.cls) (hlink : (Cond.methodLink own index y).before args s = true) (hinst : (Cond.instanceMethod y).before args s = true) (hsel : (Cond.selects C y y).before args s = true)
    (hcode : (Cond.codeWith y bytes maxL ret hh).before args s = true) (hy : y.cls ≠ "java/lang/invoke/MethodHandle" ∧ y.cls ≠ "java/lang/invoke/VarHandle")
    {W9 : Nat} {Pre : Pt → Array Value → Prop} {Post : Pt → Array Value → Option Value → Pt → Prop} (hK : Back l R p e below s args y 3 W9 Pre Post)
    {b : Addr} {cellB : Cell} (hcell : T.heap[b]? = some cellB) (hobj : cellB.vm.isStatics = false) (hcls : s.vm.findClass C = some cellB.cls)
    {g : JFrame} (hg : g.method = m) (hsize : g.locals.size = c.maxLocals) {argsL rest : List Value} (hlen : ∀ sig, parseMethodDescriptor y.desc = some sig → argsL.length = sig.parameters.length)
    (hstack : g.stack = argsL.reverse ++ .ref b :: rest) (hW : 2 * g.monitorRoom + (rest.map fun v => v.category).sum ≤ W9) (hdg : decode c.code g.pc = .ok (.invokevirtual index, 3))
    (hpre : ∀ vm₁, s.WarmedH vm₁ → Pre ⟨T.setVm vm₁, locs, cells, slots⟩ (Value.ref b :: argsL).toArray) :
    ∃ (v : Option Value) (vm₁ : Vm) (B : Pt), s.WarmedH vm₁ ∧ Stand p l e R s m args below meth c B.U B.locs B.cells B.slots ∧ Post ⟨T.setVm vm₁, locs, cells, slots⟩ (Value.ref b :: argsL).toArray v B ∧
      ∀ target, Steps p.tables e below (B.U.setTop { g with pc := g.pc + 3, stack := v.toList ++ rest }) target → Steps p.tables e below (T.setTop g) target := by
  obtain ⟨mk, methM, hnamed, hmethM, hstM, habM⟩ := Cond.instanceMethod_spec hinst
  obtain ⟨m8, methM', cM, hn8, hmethM', -, -, -, -, -, -, hsigM⟩ := Cond.codeWith_spec hcode
  cases Option.some.inj (hn8.symm.trans hnamed)
  cases hmethM.symm.trans hmethM'
  obtain ⟨c2, r2, m2, q1, q2, q3, q4, kP, hkP, hkPi⟩ := Cond.selects_spec hsel
  cases hcls.symm.trans q1
  cases (State.methodFound?_of_named hnamed hy).symm.trans q2
  cases hnamed.symm.trans q3
  have hselP : selectMethod e.platform s.vm cellB.cls mk = .method mk := by rw [Launch.admits_selectMethod X.admits]; exact q4
  obtain ⟨vm₁, X₁, hstep₁⟩ := X.invokevirtual hexec hown hlink hnamed hmethM hstM hkP hkPi hy (a := b) (cell := cellB) hcell
    (fun z h => by rw [h] at hobj; cases hobj) hselP hmethM habM hkP hkPi (g := g) hg (argsL := argsL) (rest := rest) (hlen _ hsigM) hstack hdg
  obtain ⟨v, B, X', hpost, hsteps⟩ := hK m meth c ⟨T.setVm vm₁, locs, cells, slots⟩ { g with stack := rest } (.invokevirtual index) mk (Value.ref b :: argsL).toArray X₁ hg hsize hdg hW (X₁.named hnamed) (hpre vm₁ X₁.warmed)
  exact ⟨v, vm₁, B, X₁.warmed, X', hpost, fun target h => hstep₁ _ fun acts => by rw [doInvoke_state]; exact hsteps.trans h⟩
abbrev vx_CVW (R : Room) (s : State) (args : Array Value) (own C : String) (index : Nat) (y : MethodName) (bytes : ByteArray) (maxL : Nat) (ret : Option FieldType) (hh : List (Nat × Nat × Nat × Nat)) (ws : List Cond) (rm : Room) (mc ms n : Nat) : Prop :=
  (rm.cells = mc ∧ rm.slots = ms ∧ rm.frames + 1 ≤ R.frames ∧ 8 + (maxL + 11) + rm.locals ≤ R.locals ∧ (∀ w ∈ ws, ∀ (a' : Array Value) (U : State), s.WarmedH U.vm → w.before a' U = true) ∧ Cond.codeWith y bytes maxL ret hh ∈ ws) ∧
  (Cond.codeWith y bytes maxL ret hh).before args s = true ∧ (Cond.initialized y.cls).before args s = true ∧ (y.cls ≠ "java/lang/invoke/MethodHandle" ∧ y.cls ≠ "java/lang/invoke/VarHandle") ∧
  (∀ sig, parseMethodDescriptor y.desc = some sig → n = sig.parameters.length) ∧ (Cond.methodLink own index y).before args s = true ∧ (Cond.instanceMethod y).before args s = true ∧ (Cond.selects C y y).before args s = true
theorem vx_cwVW {own C : String} {index maxL mc ms : Nat} {y : MethodName} {bytes : ByteArray} {ret : Option FieldType} {hh : List (Nat × Nat × Nat × Nat)} {Ts ws ws' : List Cond} {rm : Room} (n : Nat) (ht : ∀ w ∈ Ts, w.before args s = true) (hT : GoodIn Ts (wsV own index C y ws)) (hw : ws = Cond.codeWith y bytes maxL ret hh :: ws') (hrc : rm.cells = mc) (hrs : rm.slots = ms)
    (hd : y.cls = C ∧ y.cls ≠ "java/lang/invoke/MethodHandle" ∧ y.cls ≠ "java/lang/invoke/VarHandle" ∧ (parseMethodDescriptor y.desc).map (fun d => d.parameters.length) = some n) (hR : rm.frames + 1 ≤ R.frames ∧ 8 + (maxL + 11) + rm.locals ≤ R.locals) :
    vx_CVW R s args own C index y bytes maxL ret hh ws rm mc ms n := by
  obtain ⟨hC, hd⟩ := hd
  subst hC
  have ok : ∀ w ∈ wsV own index y.cls y ws, w.before args s = true := fun w h => ht w (hT w h).1
  have hG : GoodIn Ts ws := fun w h => hT w (by unfold wsV; exact List.mem_append_right _ h)
  have hc : Cond.codeWith y bytes maxL ret hh ∈ ws := by rw [hw]; exact List.mem_cons_self
  refine ⟨⟨hrc, hrs, hR.1, hR.2, pay_in ht hG, hc⟩, ht _ (hG _ hc).1, ok _ (by simp [wsV]), ⟨hd.1, hd.2.1⟩, fun sig h => ?_, ok _ (by simp [wsV]), ok _ (by simp [wsV]), ok _ (by simp [wsV])⟩
  have h2 := hd.2.2
  rw [h] at h2
  exact (Option.some.inj h2).symm
theorem vx_runVW {y : MethodName} {bytes cc : ByteArray} {maxL nL mc ms n index : Nat} {ret : Option FieldType} {hh : List (Nat × Nat × Nat × Nat)} {ws : List Cond} {rm : Room} {Pc : Array Value → State → Prop} {Qc : Array Value → State → Outcome → State → Prop} {free : Addr → Prop} {Ts : List Cond} {own C : String} {b : Addr} {As rest : List Value} {g : JFrame}
    (S : CallFix p m c cc nL s args Ts own) (hM : Met l y ws rm Pc Qc mc ms free) (cw : vx_CVW R s args own C index y bytes maxL ret hh ws rm mc ms n) (hp : PreV s H C b Pc As)
    (hg : g.method = m) (hn : As.length = n) (hsize : g.locals.size = nL) (hstack : g.stack = As.reverse ++ .ref b :: rest) (hW : 2 * g.monitorRoom + (rest.map fun v => v.category).sum ≤ 8) (hdg : decode cc g.pc = .ok (.invokevirtual index, 3)) (hf : cells + mc ≤ R.cells ∧ slots + ms ≤ R.slots) :
    va_Run p l e R s m args below meth c H locs cells slots mc ms g rest (Qc (Value.ref b :: As).toArray) free := by
  obtain ⟨⟨hrc, hrs, hfr, hlo, hws, hcw⟩, hcode, hini, hy, hlen, hl, hin, hse⟩ := cw
  have hK : Back l R p e below s args y 3 8 (PreOf R mc ms Pc) (PostOf Qc mc ms free) := va_backW (hh := hh) (bytes := bytes) (maxL := maxL) (ret := ret) hM hp.1 hrc hrs hfr hlo hws hcw (fun a' U hW => word_at hW (Or.inl (by first | rfl | simp [Cond.onTables, Cond.keeps, Cond.steady])) hini)
  obtain ⟨hx, hb, hml, ho, -⟩ := S
  obtain ⟨-, ⟨cellB, hcB, hoB, hclB⟩, hPc⟩ := hp
  intro T hT X
  obtain ⟨v, vm₁, ⟨U', l2, c2, s2⟩, hW₁, X', ⟨g', mk, t, L, e1, e2, hq, h1, hL, h2, h3⟩, st⟩ := vx_callVW X hx (C := C) (hh := hh) (bytes := bytes) (maxL := maxL) (ret := ret) ho hl hin hse hcode hy hK (by rw [hT]; exact hcB) hoB hclB hg (hsize.trans hml.symm) (argsL := As) (rest := rest) (fun sig h => hn.trans (hlen sig h)) hstack hW (by rw [hb]; exact hdg)
    (fun vm₁ hW₁ => ⟨hf.1, hf.2, hPc (T.setVm vm₁) hT hW₁⟩)
  dsimp only [Pt.U, Pt.locs, Pt.cells, Pt.slots] at X' e1 e2 h1 h2 h3 st
  subst h1; subst h2; subst h3
  exact ⟨v, (T.setVm vm₁).calling g' mk (Value.ref b :: As).toArray, t, U', L, hT, X', hL, e1, e2, hq, st⟩
section
variable {y : MethodName} {bytes cc : ByteArray} {maxL nL mc ms n index : Nat} {ret : Option FieldType} {ws : List Cond} {rm : Room} {Pc : Array Value → State → Prop} {Qc : Array Value → State → Outcome → State → Prop} {XC : String → State → State → Prop} {free : Addr → Prop} {Ts : List Cond} {own C : String} {b : Addr} {As rest : List Value} {g : JFrame}
theorem vx_runVX {hh : List (Nat × Nat × Nat × Nat)} (S : CallFix p m c cc nL s args Ts own) (hM : vx_Met l y ws rm Pc Qc XC mc ms free) (cw : vx_CVW R s args own C index y bytes maxL ret hh ws rm mc ms n) (hp : PreV s H C b Pc As)
    (hg : g.method = m) (hn : As.length = n) (hsize : g.locals.size = nL) (hstack : g.stack = As.reverse ++ .ref b :: rest) (hW : 2 * g.monitorRoom + (rest.map fun v => v.category).sum ≤ 8) (hdg : decode cc g.pc = .ok (.invokevirtual index, 3)) (hf : cells + mc ≤ R.cells ∧ slots + ms ≤ R.slots) :
    vx_Run p l e R s m args below meth c H locs cells slots mc ms g rest (Qc (Value.ref b :: As).toArray) XC free := by
  obtain ⟨⟨hrc, hrs, hfr, hlo, hws, hcw⟩, hcode, hini, hy, hlen, hl, hin, hse⟩ := cw
  have hK : vx_Back l R p e below s args y 3 8 (PreOf R mc ms Pc) (PostOf Qc mc ms free) (vx_Post XC mc ms free) := vx_backW (hh := hh) (bytes := bytes) (maxL := maxL) (ret := ret) hM hp.1 hrc hrs hfr hlo hws hcw (fun a' U hW => word_at hW (Or.inl (by first | rfl | simp [Cond.onTables, Cond.keeps, Cond.steady])) hini)
  obtain ⟨hx, hb, hml, ho, -⟩ := S
  obtain ⟨-, ⟨cellB, hcB, hoB, hclB⟩, hPc⟩ := hp
  intro T hT X
  rcases vx_callVX X hx (C := C) (hh := hh) (bytes := bytes) (maxL := maxL) (ret := ret) ho hl hin hse hcode hy hK (by rw [hT]; exact hcB) hoB hclB hg (hsize.trans hml.symm) (argsL := As) (rest := rest) (fun sig h => hn.trans (hlen sig h)) hstack hW (by rw [hb]; exact hdg)
    (fun vm₁ hW₁ => ⟨hf.1, hf.2, hPc (T.setVm vm₁) hT hW₁⟩) with ⟨v, vm₁, ⟨U', l2, c2, s2⟩, hW₁, X', ⟨g', mk, t, L, e1, e2, hq, h1, hL, h2, h3⟩, st⟩ | ⟨q, vm₁, ⟨U', l2, c2, s2⟩, hW₁, X', ⟨g', mk, t, L, E, ce, e1, e2, hq, hce, hcv, hcl, h1, hL, h2, h3⟩, st⟩
  · dsimp only [Pt.U, Pt.locs, Pt.cells, Pt.slots] at X' e1 e2 h1 h2 h3 st
    subst h1; subst h2; subst h3
    exact Or.inl ⟨v, (T.setVm vm₁).calling g' mk (Value.ref b :: As).toArray, t, U', L, hT, X', hL, e1, e2, hq, st⟩
  · dsimp only [Pt.U, Pt.locs, Pt.cells, Pt.slots] at X' e1 e2 h1 h2 h3 st hcl
    subst h1; subst h2; subst h3
    exact Or.inr ⟨q, (T.setVm vm₁).calling g' mk (Value.ref b :: As).toArray, t, U', L, E, ce, hT, X', hL, e1, e2, hq, hce, hcv, vx_cls hW₁ hcl, st⟩
theorem vx_runSX {hh : List (Nat × Nat × Nat × Nat)} (S : CallFix p m c cc nL s args Ts own) (hM : vx_Met l y ws rm Pc Qc XC mc ms free) (cw : vx_CSW R s args own index y bytes maxL ret hh ws rm mc ms n) (hp : PreS s H Pc As)
    (hg : g.method = m) (hn : As.length = n) (hsize : g.locals.size = nL) (hstack : g.stack = As.reverse ++ rest) (hW : 2 * g.monitorRoom + (rest.map fun v => v.category).sum ≤ 8) (hdg : decode cc g.pc = .ok (.invokestatic index, 3)) (hf : cells + mc ≤ R.cells ∧ slots + ms ≤ R.slots) :
    vx_Run p l e R s m args below meth c H locs cells slots mc ms g rest (Qc As.toArray) XC free := by
  obtain ⟨⟨hrc, hrs, hfr, hlo, hws, hcw⟩, hcode, hini, hy, hlen, hl, hstt⟩ := cw
  have hK : vx_Back l R p e below s args y 3 8 (PreOf R mc ms Pc) (PostOf Qc mc ms free) (vx_Post XC mc ms free) := vx_backW (hh := hh) (bytes := bytes) (maxL := maxL) (ret := ret) hM hp.1 hrc hrs hfr hlo hws hcw (fun a' U hW => word_at hW (Or.inl (by first | rfl | simp [Cond.onTables, Cond.keeps, Cond.steady])) hini)
  obtain ⟨hx, hb, hml, ho, -⟩ := S
  intro T hT X
  rcases vx_callSX X hx (hh := hh) (bytes := bytes) (maxL := maxL) (ret := ret) ho hl hstt hini hcode hy hK hg (hsize.trans hml.symm) (argsL := As) (rest := rest) (fun sig h => hn.trans (hlen sig h)) hstack hW (by rw [hb]; exact hdg)
    (fun vm₁ hW₁ => ⟨hf.1, hf.2, hp.2 (T.setVm vm₁) hT hW₁⟩) with ⟨v, vm₁, ⟨U', l2, c2, s2⟩, hW₁, X', ⟨g', mk, t, L, e1, e2, hq, h1, hL, h2, h3⟩, st⟩ | ⟨q, vm₁, ⟨U', l2, c2, s2⟩, hW₁, X', ⟨g', mk, t, L, E, ce, e1, e2, hq, hce, hcv, hcl, h1, hL, h2, h3⟩, st⟩
  · dsimp only [Pt.U, Pt.locs, Pt.cells, Pt.slots] at X' e1 e2 h1 h2 h3 st
    subst h1; subst h2; subst h3
    exact Or.inl ⟨v, (T.setVm vm₁).calling g' mk As.toArray, t, U', L, hT, X', hL, e1, e2, hq, st⟩
  · dsimp only [Pt.U, Pt.locs, Pt.cells, Pt.slots] at X' e1 e2 h1 h2 h3 st hcl
    subst h1; subst h2; subst h3
    exact Or.inr ⟨q, (T.setVm vm₁).calling g' mk As.toArray, t, U', L, E, ce, hT, X', hL, e1, e2, hq, hce, hcv, vx_cls hW₁ hcl, st⟩
end
end VXH
theorem vx_ofWH {l : Launch} {y : MethodName} {ws ws' : List Cond} {rm : Room} {Pc : Array Value → State → Prop} {Qc : Array Value → State → Outcome → State → Prop} {XC : String → State → State → Prop} {mc ms : Nat} {free : Addr → Prop} {cc : ByteArray} {maxL : Nat} {ret : Option FieldType} {hh : List (Nat × Nat × Nat × Nat)}
    (hy : plainName y.cls = true) (hw : ws = Cond.codeWith y cc maxL ret hh :: ws')
    (body : ∀ p e s m args below meth c s₁, BodyLoose p l y (headSpec ws rm) cc maxL ret e s m args below meth c s₁ → c.maxLocals = maxL → Pc args s →
      W p l e (headSpec ws rm).room s m args below meth c s.heap [] 0 0 (vx_MQ below Qc XC args s mc ms free) (entryFrame m args maxL)) : vx_Met l y ws rm Pc Qc XC mc ms free := by
  refine MetFree.of_bodyS (code := cc) (maxLocals := maxL) (ret := ret) hy ?_ ?_
  · intro args s m h hn
    obtain ⟨m9, meth, c, hn9, h1, h2, h3, h4, -, h5, h6, -⟩ := Cond.codeWith_spec (atoms_spec (ws := ws) h _ (by rw [hw]; exact List.mem_cons_self))
    cases hn.symm.trans hn9
    exact ⟨meth, c, h1, h2, h3, h4, h5, h6⟩
  · intro p e s m args below meth c s₁ B hml hP _
    have hh0 : s₁.heap = s.heap := by rw [B.state]; rfl
    obtain ⟨t, a1, o, b1, b2, b3⟩ := body p e s m args below meth c s₁ B hml hP s₁ hh0 (Stand.of_body B)
    exact ⟨t, o, a1, b1, b2, b3⟩
/-! ===== END ===== -/

/-! ===== BEGIN a private method of a nest mate that may throw (follows va_callVN, va_callSN, va_runVN, va_runSN) ===== -/
section
variable {p : Program} {l : Launch} {e : Env} {R : Room} {s : State} {m : MethodId} {args : Array Value} {below : List Frame} {meth : Method} {c : Code} {H : Heap} {locs : List Loc} {cells slots : Nat}
variable {T : State}
theorem vx_callVN (X : Stand p l e R s m args below meth c T locs cells slots) (hexec : p.tables.exec = Jvm.exec) {own C : String} {index : Nat} {host : String} {y : MethodName} {bytes : ByteArray} {maxL : Nat} {ret : Option FieldType}
    (hown : s.vm.findClass own = some m.cls) (hlink : (Cond.methodLinkNest own index y host).before args s = true) (hinst : (Cond.instanceMethod y).before args s = true) (hsel : (Cond.selects C y y).before args s = true)
    (hcode : (Cond.code y bytes maxL ret).before args s = true) (hy : y.cls ≠ "java/lang/invoke/MethodHandle" ∧ y.cls ≠ "java/lang/invoke/VarHandle")
    {W : Nat} {Pre : Pt → Array Value → Prop} {Post : Pt → Array Value → Option Value → Pt → Prop} {PostX : Pt → Array Value → Addr → Pt → Prop} (hK : vx_Back l R p e below s args y 3 W Pre Post PostX)
    {b : Addr} {cellB : Cell} (hcell : T.heap[b]? = some cellB) (hobj : cellB.vm.isStatics = false) (hcls : s.vm.findClass C = some cellB.cls)
    {g : JFrame} (hg : g.method = m) (hsize : g.locals.size = c.maxLocals) {argsL rest : List Value} (hlen : ∀ sig, parseMethodDescriptor y.desc = some sig → argsL.length = sig.parameters.length)
    (hstack : g.stack = argsL.reverse ++ .ref b :: rest) (hW : 2 * g.monitorRoom + (rest.map fun v => v.category).sum ≤ W) (hdg : decode c.code g.pc = .ok (.invokevirtual index, 3))
    (hpre : ∀ vm₁, s.WarmedH vm₁ → Pre ⟨T.setVm vm₁, locs, cells, slots⟩ (Value.ref b :: argsL).toArray) :
    (∃ (v : Option Value) (vm₁ : Vm) (B : Pt), s.WarmedH vm₁ ∧ Stand p l e R s m args below meth c B.U B.locs B.cells B.slots ∧ Post ⟨T.setVm vm₁, locs, cells, slots⟩ (Value.ref b :: argsL).toArray v B ∧
      ∀ target, Steps p.tables e below (B.U.setTop { g with pc := g.pc + 3, stack := v.toList ++ rest }) target → Steps p.tables e below (T.setTop g) target) ∨
    (∃ (q : Addr) (vm₁ : Vm) (B : Pt), s.WarmedH vm₁ ∧ Stand p l e R s m args below meth c B.U B.locs B.cells B.slots ∧ PostX ⟨T.setVm vm₁, locs, cells, slots⟩ (Value.ref b :: argsL).toArray q B ∧
      Steps p.tables e below (T.setTop g) ((B.U.setTop { g with stack := rest }).pushFrame (.throwing q))) := by
  obtain ⟨mk, methM, hnamed, hmethM, hstM, habM⟩ := Cond.instanceMethod_spec hinst
  obtain ⟨methM', cM, hmethM', -, -, -, -, -, -, hsigM⟩ := Cond.code_spec hnamed hcode
  cases hmethM.symm.trans hmethM'
  obtain ⟨c2, r2, m2, q1, q2, q3, q4, kP, hkP, hkPi⟩ := Cond.selects_spec hsel
  cases hcls.symm.trans q1
  cases (State.methodFound?_of_named hnamed hy).symm.trans q2
  cases hnamed.symm.trans q3
  have hselP : selectMethod e.platform s.vm cellB.cls mk = .method mk := by rw [Launch.admits_selectMethod X.admits]; exact q4
  obtain ⟨vm₁, X₁, hstep₁⟩ := X.invokevirtualNest hexec hown hlink hnamed hmethM hstM hkP hkPi hy (a := b) (cell := cellB) hcell
    (fun z h => by rw [h] at hobj; cases hobj) hselP hmethM habM hkP hkPi (g := g) hg (argsL := argsL) (rest := rest) (hlen _ hsigM) hstack hdg
  rcases hK m meth c ⟨T.setVm vm₁, locs, cells, slots⟩ { g with stack := rest } (.invokevirtual index) mk (Value.ref b :: argsL).toArray X₁ hg hsize hdg hW (X₁.named hnamed) (hpre vm₁ X₁.warmed) with ⟨v, B, X', hpost, hsteps⟩ | ⟨q, B, X', hpost, hsteps⟩
  · exact Or.inl ⟨v, vm₁, B, X₁.warmed, X', hpost, fun target h => hstep₁ _ fun acts => by rw [doInvoke_state]; exact hsteps.trans h⟩
  · exact Or.inr ⟨q, vm₁, B, X₁.warmed, X', hpost, hstep₁ _ fun acts => by rw [doInvoke_state]; exact hsteps⟩
theorem vx_callSN (X : Stand p l e R s m args below meth c T locs cells slots) (hexec : p.tables.exec = Jvm.exec) {own : String} {index : Nat} {host : String} {y : MethodName} {bytes : ByteArray} {maxL : Nat} {ret : Option FieldType}
    (hown : s.vm.findClass own = some m.cls) (hlink : (Cond.methodLinkNest own index y host).before args s = true) (hstat : (Cond.static y).before args s = true) (hinit : (Cond.initialized y.cls).before args s = true)
    (hcode : (Cond.code y bytes maxL ret).before args s = true) (hy : y.cls ≠ "java/lang/invoke/MethodHandle" ∧ y.cls ≠ "java/lang/invoke/VarHandle")
    {W : Nat} {Pre : Pt → Array Value → Prop} {Post : Pt → Array Value → Option Value → Pt → Prop} {PostX : Pt → Array Value → Addr → Pt → Prop} (hK : vx_Back l R p e below s args y 3 W Pre Post PostX)
    {g : JFrame} (hg : g.method = m) (hsize : g.locals.size = c.maxLocals) {argsL rest : List Value} (hlen : ∀ sig, parseMethodDescriptor y.desc = some sig → argsL.length = sig.parameters.length)
    (hstack : g.stack = argsL.reverse ++ rest) (hW : 2 * g.monitorRoom + (rest.map fun v => v.category).sum ≤ W) (hdg : decode c.code g.pc = .ok (.invokestatic index, 3))
    (hpre : ∀ vm₁, s.WarmedH vm₁ → Pre ⟨T.setVm vm₁, locs, cells, slots⟩ argsL.toArray) :
    (∃ (v : Option Value) (vm₁ : Vm) (B : Pt), s.WarmedH vm₁ ∧ Stand p l e R s m args below meth c B.U B.locs B.cells B.slots ∧ Post ⟨T.setVm vm₁, locs, cells, slots⟩ argsL.toArray v B ∧
      ∀ target, Steps p.tables e below (B.U.setTop { g with pc := g.pc + 3, stack := v.toList ++ rest }) target → Steps p.tables e below (T.setTop g) target) ∨
    (∃ (q : Addr) (vm₁ : Vm) (B : Pt), s.WarmedH vm₁ ∧ Stand p l e R s m args below meth c B.U B.locs B.cells B.slots ∧ PostX ⟨T.setVm vm₁, locs, cells, slots⟩ argsL.toArray q B ∧
      Steps p.tables e below (T.setTop g) ((B.U.setTop { g with stack := rest }).pushFrame (.throwing q))) := by
  obtain ⟨mk, hnamed⟩ := Cond.code_named hcode
  obtain ⟨methM, cM, hmethM, -, -, -, -, -, -, hsigM⟩ := Cond.code_spec hnamed hcode
  have hstatic : methM.isStatic = true := Cond.static_spec hnamed hmethM hstat
  obtain ⟨kP, hkP, -⟩ := className_of_methodNamed hnamed
  have hinitP : kP.init = .initialized := Cond.initialized_spec (findClass_of_methodNamed hnamed) hkP hinit
  obtain ⟨vm₁, X₁, hstep₁⟩ := X.invokestaticNest hexec hown hlink hnamed hmethM hstatic hkP hinitP hy (g := g) hg (argsL := argsL) (rest := rest) (hlen _ hsigM) hstack hdg
  rcases hK m meth c ⟨T.setVm vm₁, locs, cells, slots⟩ { g with stack := rest } (.invokestatic index) mk argsL.toArray X₁ hg hsize hdg hW (X₁.named hnamed) (hpre vm₁ X₁.warmed) with ⟨v, B, X', hpost, hsteps⟩ | ⟨q, B, X', hpost, hsteps⟩
  · exact Or.inl ⟨v, vm₁, B, X₁.warmed, X', hpost, fun target h => hstep₁ _ fun acts => by rw [doInvoke_state]; exact hsteps.trans h⟩
  · exact Or.inr ⟨q, vm₁, B, X₁.warmed, X', hpost, hstep₁ _ fun acts => by rw [doInvoke_state]; exact hsteps⟩
theorem vx_runVN {y : MethodName} {bytes cc : ByteArray} {maxL nL mc ms n index : Nat} {ret : Option FieldType} {ws : List Cond} {rm : Room} {Pc : Array Value → State → Prop} {Qc : Array Value → State → Outcome → State → Prop} {XC : String → State → State → Prop} {free : Addr → Prop} {Ts : List Cond} {own C host : String} {b : Addr} {As rest : List Value} {g : JFrame}
    (S : CallFix p m c cc nL s args Ts own) (hM : vx_Met l y ws rm Pc Qc XC mc ms free) (cw : va_CN R s args own index y host bytes maxL ret ws rm mc ms n ∧ (Cond.instanceMethod y).before args s = true ∧ (Cond.selects C y y).before args s = true) (hp : PreV s H C b Pc As)
    (hg : g.method = m) (hn : As.length = n) (hsize : g.locals.size = nL) (hstack : g.stack = As.reverse ++ .ref b :: rest) (hW : 2 * g.monitorRoom + (rest.map fun v => v.category).sum ≤ 8) (hdg : decode cc g.pc = .ok (.invokevirtual index, 3)) (hf : cells + mc ≤ R.cells ∧ slots + ms ≤ R.slots) :
    vx_Run p l e R s m args below meth c H locs cells slots mc ms g rest (Qc (Value.ref b :: As).toArray) XC free := by
  obtain ⟨⟨⟨hrc, hrs, hfr, hlo, hws, hcw⟩, hcode, hini, hy, hlen, hl⟩, hx1, hx2⟩ := cw
  have hK : vx_Back l R p e below s args y 3 8 (PreOf R mc ms Pc) (PostOf Qc mc ms free) (vx_Post XC mc ms free) := vx_back (bytes := bytes) (maxL := maxL) (ret := ret) hM hp.1 hrc hrs hfr hlo hws hcw (fun a' U hW => word_at hW (Or.inl (by first | rfl | simp [Cond.onTables, Cond.keeps, Cond.steady])) hini)
  obtain ⟨hx, hb, hml, ho, -⟩ := S
  obtain ⟨-, ⟨cellB, hcB, hoB, hclB⟩, hPc⟩ := hp
  intro T hT X
  rcases vx_callVN X hx (C := C) (bytes := bytes) (maxL := maxL) (ret := ret) ho hl hx1 hx2 hcode hy hK (by rw [hT]; exact hcB) hoB hclB hg (hsize.trans hml.symm) (argsL := As) (rest := rest) (fun sig h => hn.trans (hlen sig h)) hstack hW (by rw [hb]; exact hdg)
    (fun vm₁ hW₁ => ⟨hf.1, hf.2, hPc (T.setVm vm₁) hT hW₁⟩) with ⟨v, vm₁, ⟨U', l2, c2, s2⟩, hW₁, X', ⟨g', mk, t, L, e1, e2, hq, h1, hL, h2, h3⟩, st⟩ | ⟨q, vm₁, ⟨U', l2, c2, s2⟩, hW₁, X', ⟨g', mk, t, L, E, ce, e1, e2, hq, hce, hcv, hcl, h1, hL, h2, h3⟩, st⟩
  · dsimp only [Pt.U, Pt.locs, Pt.cells, Pt.slots] at X' e1 e2 h1 h2 h3 st
    subst h1; subst h2; subst h3
    exact Or.inl ⟨v, (T.setVm vm₁).calling g' mk (Value.ref b :: As).toArray, t, U', L, hT, X', hL, e1, e2, hq, st⟩
  · dsimp only [Pt.U, Pt.locs, Pt.cells, Pt.slots] at X' e1 e2 h1 h2 h3 st hcl
    subst h1; subst h2; subst h3
    exact Or.inr ⟨q, (T.setVm vm₁).calling g' mk (Value.ref b :: As).toArray, t, U', L, E, ce, hT, X', hL, e1, e2, hq, hce, hcv, vx_cls hW₁ hcl, st⟩
theorem vx_runSN {y : MethodName} {bytes cc : ByteArray} {maxL nL mc ms n index : Nat} {ret : Option FieldType} {ws : List Cond} {rm : Room} {Pc : Array Value → State → Prop} {Qc : Array Value → State → Outcome → State → Prop} {XC : String → State → State → Prop} {free : Addr → Prop} {Ts : List Cond} {own host : String} {As rest : List Value} {g : JFrame}
    (S : CallFix p m c cc nL s args Ts own) (hM : vx_Met l y ws rm Pc Qc XC mc ms free) (cw : va_CN R s args own index y host bytes maxL ret ws rm mc ms n ∧ (Cond.static y).before args s = true ∧ True) (hp : PreS s H Pc As)
    (hg : g.method = m) (hn : As.length = n) (hsize : g.locals.size = nL) (hstack : g.stack = As.reverse ++ rest) (hW : 2 * g.monitorRoom + (rest.map fun v => v.category).sum ≤ 8) (hdg : decode cc g.pc = .ok (.invokestatic index, 3)) (hf : cells + mc ≤ R.cells ∧ slots + ms ≤ R.slots) :
    vx_Run p l e R s m args below meth c H locs cells slots mc ms g rest (Qc As.toArray) XC free := by
  obtain ⟨⟨⟨hrc, hrs, hfr, hlo, hws, hcw⟩, hcode, hini, hy, hlen, hl⟩, hx1, hx2⟩ := cw
  have hK : vx_Back l R p e below s args y 3 8 (PreOf R mc ms Pc) (PostOf Qc mc ms free) (vx_Post XC mc ms free) := vx_back (bytes := bytes) (maxL := maxL) (ret := ret) hM hp.1 hrc hrs hfr hlo hws hcw (fun a' U hW => word_at hW (Or.inl (by first | rfl | simp [Cond.onTables, Cond.keeps, Cond.steady])) hini)
  obtain ⟨hx, hb, hml, ho, -⟩ := S
  have hPc := hp.2
  intro T hT X
  rcases vx_callSN X hx (bytes := bytes) (maxL := maxL) (ret := ret) ho hl hx1 hini hcode hy hK hg (hsize.trans hml.symm) (argsL := As) (rest := rest) (fun sig h => hn.trans (hlen sig h)) hstack hW (by rw [hb]; exact hdg)
    (fun vm₁ hW₁ => ⟨hf.1, hf.2, hPc (T.setVm vm₁) hT hW₁⟩) with ⟨v, vm₁, ⟨U', l2, c2, s2⟩, hW₁, X', ⟨g', mk, t, L, e1, e2, hq, h1, hL, h2, h3⟩, st⟩ | ⟨q, vm₁, ⟨U', l2, c2, s2⟩, hW₁, X', ⟨g', mk, t, L, E, ce, e1, e2, hq, hce, hcv, hcl, h1, hL, h2, h3⟩, st⟩
  · dsimp only [Pt.U, Pt.locs, Pt.cells, Pt.slots] at X' e1 e2 h1 h2 h3 st
    subst h1; subst h2; subst h3
    exact Or.inl ⟨v, (T.setVm vm₁).calling g' mk As.toArray, t, U', L, hT, X', hL, e1, e2, hq, st⟩
  · dsimp only [Pt.U, Pt.locs, Pt.cells, Pt.slots] at X' e1 e2 h1 h2 h3 st hcl
    subst h1; subst h2; subst h3
    exact Or.inr ⟨q, (T.setVm vm₁).calling g' mk As.toArray, t, U', L, E, ce, hT, X', hL, e1, e2, hq, hce, hcv, vx_cls hW₁ hcl, st⟩
end
/-! ===== END ===== -/
end
section
/-! ===== BEGIN printed: names, fields, word lists, decode rows ===== -/
def RX0 : String := "StorageQuotas$EventLog"
def TX0 : u_T := fun k => match k with
  | 0 => ("StorageQuotas$EventLog", "count", "I", false)
  | 1 => ("StorageQuotas$EventLog", "newest", "I", false)
  | 2 => ("StorageQuotas$EventLog", "kinds", "[I", true)
  | 3 => ("StorageQuotas$EventLog", "pairs", "[I", true)
  | _ => ("StorageQuotas$EventLog", "days", "[I", true)
def tyX0 : Nat → FieldType := fun k => match k with
  | 0 => .int
  | 1 => .int
  | 2 => .array .int
  | 3 => .array .int
  | _ => .array .int
abbrev wsX00 : List Cond := u_ws RX0 TX0 5
theorem nmX0 : ∀ a, a < 5 → ∀ b, b < 5 → a ≠ b → (TX0 a).2.1 ≠ (TX0 b).2.1 := by decide +kernel
theorem tyX0_ok : ∀ k, k < 5 → parseFieldDescriptor (TX0 k).2.2.1 = some (tyX0 k) := by decide +kernel
abbrev cX0_init : ByteArray := prog_2_method_1_code
def yX0_init : MethodName := ⟨RX0, "<init>", "()V"⟩
abbrev cX0_copyEvents : ByteArray := prog_2_method_2_code
def yX0_copyEvents : MethodName := ⟨RX0, "copyEvents", "(LStorageQuotas$EventLog;)V"⟩
abbrev cX0_add : ByteArray := prog_2_method_3_code
def yX0_add : MethodName := ⟨RX0, "add", "(III)V"⟩
abbrev cX0_partOf : ByteArray := prog_2_method_4_code
def yX0_partOf : MethodName := ⟨RX0, "partOf", "(II)I"⟩
def RX1 : String := "StorageQuotas$FileTable"
def TX1 : u_T := fun k => match k with
  | 0 => ("StorageQuotas$FileTable", "count", "I", false)
  | 1 => ("StorageQuotas$FileTable", "keys", "[I", true)
  | 2 => ("StorageQuotas$FileTable", "owners", "[I", true)
  | 3 => ("StorageQuotas$FileTable", "groups", "[I", true)
  | _ => ("StorageQuotas$FileTable", "sizes", "[I", true)
def tyX1 : Nat → FieldType := fun k => match k with
  | 0 => .int
  | 1 => .array .int
  | 2 => .array .int
  | 3 => .array .int
  | _ => .array .int
abbrev wsX10 : List Cond := u_ws RX1 TX1 5
theorem nmX1 : ∀ a, a < 5 → ∀ b, b < 5 → a ≠ b → (TX1 a).2.1 ≠ (TX1 b).2.1 := by decide +kernel
theorem tyX1_ok : ∀ k, k < 5 → parseFieldDescriptor (TX1 k).2.2.1 = some (tyX1 k) := by decide +kernel
abbrev cX1_init : ByteArray := prog_3_method_1_code
def yX1_init : MethodName := ⟨RX1, "<init>", "()V"⟩
abbrev cX1_copyRows : ByteArray := prog_3_method_2_code
def yX1_copyRows : MethodName := ⟨RX1, "copyRows", "(LStorageQuotas$FileTable;)V"⟩
abbrev cX1_find : ByteArray := prog_3_method_3_code
def yX1_find : MethodName := ⟨RX1, "find", "(I)I"⟩
abbrev cX1_add : ByteArray := prog_3_method_4_code
def yX1_add : MethodName := ⟨RX1, "add", "(IIII)V"⟩
abbrev cX1_remove : ByteArray := prog_3_method_5_code
def yX1_remove : MethodName := ⟨RX1, "remove", "(I)V"⟩
abbrev cX1_isCharged : ByteArray := prog_3_method_6_code
def yX1_isCharged : MethodName := ⟨RX1, "isCharged", "(II)Z"⟩
abbrev cX1_scan : ByteArray := prog_3_method_7_code
def yX1_scan : MethodName := ⟨RX1, "scan", "(II)I"⟩
abbrev cX1_listSizes : ByteArray := prog_3_method_8_code
def yX1_listSizes : MethodName := ⟨RX1, "listSizes", "(I[I)I"⟩
abbrev cX1_sumDirectory : ByteArray := prog_3_method_9_code
def yX1_sumDirectory : MethodName := ⟨RX1, "sumDirectory", "(I)I"⟩
abbrev cX1_findLargest : ByteArray := prog_3_method_10_code
def yX1_findLargest : MethodName := ⟨RX1, "findLargest", "(I)I"⟩
def RX2 : String := "StorageQuotas$State"
def TX2 : u_T := fun k => match k with
  | 0 => ("StorageQuotas$State", "today", "I", false)
  | 1 => ("StorageQuotas$State", "graceLengths", "[I", true)
  | 2 => ("StorageQuotas$State", "exempted", "[Z", true)
  | 3 => ("StorageQuotas$State", "usages", "[I", true)
  | 4 => ("StorageQuotas$State", "softs", "[I", true)
  | 5 => ("StorageQuotas$State", "hards", "[I", true)
  | 6 => ("StorageQuotas$State", "starts", "[I", true)
  | 7 => ("StorageQuotas$State", "refusalCounts", "[I", true)
  | 8 => ("StorageQuotas$State", "files", "LStorageQuotas$FileTable;", true)
  | _ => ("StorageQuotas$State", "log", "LStorageQuotas$EventLog;", true)
def tyX2 : Nat → FieldType := fun k => match k with
  | 0 => .int
  | 1 => .array .int
  | 2 => .array .boolean
  | 3 => .array .int
  | 4 => .array .int
  | 5 => .array .int
  | 6 => .array .int
  | 7 => .array .int
  | 8 => .object "StorageQuotas$FileTable"
  | _ => .object "StorageQuotas$EventLog"
abbrev wsX20 : List Cond := u_ws RX2 TX2 10
theorem nmX2 : ∀ a, a < 10 → ∀ b, b < 10 → a ≠ b → (TX2 a).2.1 ≠ (TX2 b).2.1 := by decide +kernel
theorem tyX2_ok : ∀ k, k < 10 → parseFieldDescriptor (TX2 k).2.2.1 = some (tyX2 k) := by decide +kernel
abbrev cX2_init : ByteArray := prog_4_method_1_code
def yX2_init : MethodName := ⟨RX2, "<init>", "()V"⟩
abbrev cX2_copyFrom : ByteArray := prog_4_method_2_code
def yX2_copyFrom : MethodName := ⟨RX2, "copyFrom", "(LStorageQuotas$State;)V"⟩
abbrev cX2_canAdd : ByteArray := prog_4_method_3_code
def yX2_canAdd : MethodName := ⟨RX2, "canAdd", "(I)Z"⟩
abbrev cX2_addFile : ByteArray := prog_4_method_4_code
def yX2_addFile : MethodName := ⟨RX2, "addFile", "(IIII)I"⟩
abbrev cX2_resizeFile : ByteArray := prog_4_method_5_code
def yX2_resizeFile : MethodName := ⟨RX2, "resizeFile", "(II)I"⟩
abbrev cX2_changeBlocks : ByteArray := prog_4_method_6_code
def yX2_changeBlocks : MethodName := ⟨RX2, "changeBlocks", "(III)I"⟩
abbrev cX2_removeFile : ByteArray := prog_4_method_7_code
def yX2_removeFile : MethodName := ⟨RX2, "removeFile", "(I)I"⟩
abbrev cX2_moveFile : ByteArray := prog_4_method_8_code
def yX2_moveFile : MethodName := ⟨RX2, "moveFile", "(III)I"⟩
abbrev cX2_charge : ByteArray := prog_4_method_9_code
def yX2_charge : MethodName := ⟨RX2, "charge", "(III)V"⟩
abbrev cX2_firstRefusal : ByteArray := prog_4_method_10_code
def yX2_firstRefusal : MethodName := ⟨RX2, "firstRefusal", "(IIIIII)I"⟩
abbrev cX2_causeOf : ByteArray := prog_4_method_11_code
def yX2_causeOf : MethodName := ⟨RX2, "causeOf", "(II)I"⟩
abbrev cX2_greatestIncrease : ByteArray := prog_4_method_12_code
def yX2_greatestIncrease : MethodName := ⟨RX2, "greatestIncrease", "(I)I"⟩
abbrev cX2_noteRefusal : ByteArray := prog_4_method_13_code
def yX2_noteRefusal : MethodName := ⟨RX2, "noteRefusal", "(III)V"⟩
abbrev cX2_reviewAll : ByteArray := prog_4_method_14_code
def yX2_reviewAll : MethodName := ⟨RX2, "reviewAll", "()V"⟩
abbrev cX2_review : ByteArray := prog_4_method_15_code
def yX2_review : MethodName := ⟨RX2, "review", "(I)V"⟩
abbrev cX2_isRunning : ByteArray := prog_4_method_16_code
def yX2_isRunning : MethodName := ⟨RX2, "isRunning", "(I)Z"⟩
abbrev cX2_daysRunning : ByteArray := prog_4_method_17_code
def yX2_daysRunning : MethodName := ⟨RX2, "daysRunning", "(I)I"⟩
abbrev cX2_isOver : ByteArray := prog_4_method_18_code
def yX2_isOver : MethodName := ⟨RX2, "isOver", "(I)Z"⟩
abbrev cX2_canPass : ByteArray := prog_4_method_19_code
def yX2_canPass : MethodName := ⟨RX2, "canPass", "(I)Z"⟩
abbrev cX2_passDays : ByteArray := prog_4_method_20_code
def yX2_passDays : MethodName := ⟨RX2, "passDays", "(I)I"⟩
abbrev cX2_beginDay : ByteArray := prog_4_method_21_code
def yX2_beginDay : MethodName := ⟨RX2, "beginDay", "()I"⟩
abbrev cX2_countExempted : ByteArray := prog_4_method_22_code
def yX2_countExempted : MethodName := ⟨RX2, "countExempted", "()I"⟩
def RX3 : String := "StorageQuotas$TextReader"
def TX3 : u_T := fun k => match k with
  | 0 => ("StorageQuotas$TextReader", "characters", "[C", true)
  | 1 => ("StorageQuotas$TextReader", "length", "I", false)
  | 2 => ("StorageQuotas$TextReader", "position", "I", false)
  | 3 => ("StorageQuotas$TextReader", "command", "C", false)
  | _ => ("StorageQuotas$TextReader", "numbers", "[I", true)
def tyX3 : Nat → FieldType := fun k => match k with
  | 0 => .array .char
  | 1 => .int
  | 2 => .int
  | 3 => .char
  | _ => .array .int
abbrev wsX30 : List Cond := u_ws RX3 TX3 5
theorem nmX3 : ∀ a, a < 5 → ∀ b, b < 5 → a ≠ b → (TX3 a).2.1 ≠ (TX3 b).2.1 := by decide +kernel
theorem tyX3_ok : ∀ k, k < 5 → parseFieldDescriptor (TX3 k).2.2.1 = some (tyX3 k) := by decide +kernel
abbrev cX3_init : ByteArray := prog_5_method_1_code
def yX3_init : MethodName := ⟨RX3, "<init>", "()V"⟩
abbrev cX3_findError : ByteArray := prog_5_method_2_code
def yX3_findError : MethodName := ⟨RX3, "findError", "()I"⟩
abbrev cX3_readCommand : ByteArray := prog_5_method_3_code
def yX3_readCommand : MethodName := ⟨RX3, "readCommand", "()Z"⟩
abbrev cX3_greatestNumbers : ByteArray := prog_5_method_4_code
def yX3_greatestNumbers : MethodName := ⟨RX3, "greatestNumbers", "(C)[I"⟩
abbrev cX3_readCharacter : ByteArray := prog_5_method_5_code
def yX3_readCharacter : MethodName := ⟨RX3, "readCharacter", "(C)Z"⟩
abbrev cX3_readNumber : ByteArray := prog_5_method_6_code
def yX3_readNumber : MethodName := ⟨RX3, "readNumber", "(II)I"⟩
abbrev cX3_canExtend : ByteArray := prog_5_method_7_code
def yX3_canExtend : MethodName := ⟨RX3, "canExtend", "(II)Z"⟩
abbrev cX3_digitHere : ByteArray := prog_5_method_8_code
def yX3_digitHere : MethodName := ⟨RX3, "digitHere", "()I"⟩
def RX4 : String := "StorageQuotas"
def TX4 : u_T := fun k => match k with
  | 0 => ("StorageQuotas", "state", "LStorageQuotas$State;", true)
  | 1 => ("StorageQuotas", "trial", "LStorageQuotas$State;", true)
  | 2 => ("StorageQuotas", "saved", "[LStorageQuotas$State;", true)
  | 3 => ("StorageQuotas", "savedCount", "I", false)
  | 4 => ("StorageQuotas", "slots", "[LStorageQuotas$State;", true)
  | 5 => ("StorageQuotas", "slotFilled", "[Z", true)
  | 6 => ("StorageQuotas", "text", "LStorageQuotas$TextReader;", true)
  | _ => ("StorageQuotas", "sizeRow", "[I", true)
def tyX4 : Nat → FieldType := fun k => match k with
  | 0 => .object "StorageQuotas$State"
  | 1 => .object "StorageQuotas$State"
  | 2 => .array (.object "StorageQuotas$State")
  | 3 => .int
  | 4 => .array (.object "StorageQuotas$State")
  | 5 => .array .boolean
  | 6 => .object "StorageQuotas$TextReader"
  | _ => .array .int
abbrev wsX40 : List Cond := u_ws RX4 TX4 8
theorem nmX4 : ∀ a, a < 8 → ∀ b, b < 8 → a ≠ b → (TX4 a).2.1 ≠ (TX4 b).2.1 := by decide +kernel
theorem tyX4_ok : ∀ k, k < 8 → parseFieldDescriptor (TX4 k).2.2.1 = some (tyX4 k) := by decide +kernel
abbrev cX4_init : ByteArray := prog_1_method_1_code
def yX4_init : MethodName := ⟨RX4, "<init>", "()V"⟩
abbrev cX4_create : ByteArray := prog_1_method_2_code
def yX4_create : MethodName := ⟨RX4, "create", "(IIIII)I"⟩
abbrev cX4_resize : ByteArray := prog_1_method_3_code
def yX4_resize : MethodName := ⟨RX4, "resize", "(III)I"⟩
abbrev cX4_delete : ByteArray := prog_1_method_4_code
def yX4_delete : MethodName := ⟨RX4, "delete", "(II)I"⟩
abbrev cX4_move : ByteArray := prog_1_method_5_code
def yX4_move : MethodName := ⟨RX4, "move", "(IIII)I"⟩
abbrev cX4_setLimits : ByteArray := prog_1_method_6_code
def yX4_setLimits : MethodName := ⟨RX4, "setLimits", "(IIII)I"⟩
abbrev cX4_setGrace : ByteArray := prog_1_method_7_code
def yX4_setGrace : MethodName := ⟨RX4, "setGrace", "(II)I"⟩
abbrev cX4_restartGrace : ByteArray := prog_1_method_8_code
def yX4_restartGrace : MethodName := ⟨RX4, "restartGrace", "(II)I"⟩
abbrev cX4_setExempt : ByteArray := prog_1_method_9_code
def yX4_setExempt : MethodName := ⟨RX4, "setExempt", "(IZ)I"⟩
abbrev cX4_nextDays : ByteArray := prog_1_method_10_code
def yX4_nextDays : MethodName := ⟨RX4, "nextDays", "(I)I"⟩
abbrev cX4_appendText : ByteArray := prog_1_method_11_code
def yX4_appendText : MethodName := ⟨RX4, "appendText", "(I)I"⟩
abbrev cX4_clearText : ByteArray := prog_1_method_12_code
def yX4_clearText : MethodName := ⟨RX4, "clearText", "()I"⟩
abbrev cX4_errorPosition : ByteArray := prog_1_method_13_code
def yX4_errorPosition : MethodName := ⟨RX4, "errorPosition", "()I"⟩
abbrev cX4_runText : ByteArray := prog_1_method_14_code
def yX4_runText : MethodName := ⟨RX4, "runText", "()I"⟩
abbrev cX4_undo : ByteArray := prog_1_method_15_code
def yX4_undo : MethodName := ⟨RX4, "undo", "()I"⟩
abbrev cX4_save : ByteArray := prog_1_method_16_code
def yX4_save : MethodName := ⟨RX4, "save", "(I)I"⟩
abbrev cX4_restore : ByteArray := prog_1_method_17_code
def yX4_restore : MethodName := ⟨RX4, "restore", "(I)I"⟩
abbrev cX4_usage : ByteArray := prog_1_method_18_code
def yX4_usage : MethodName := ⟨RX4, "usage", "(II)I"⟩
abbrev cX4_scannedUsage : ByteArray := prog_1_method_19_code
def yX4_scannedUsage : MethodName := ⟨RX4, "scannedUsage", "(II)I"⟩
abbrev cX4_softLimit : ByteArray := prog_1_method_20_code
def yX4_softLimit : MethodName := ⟨RX4, "softLimit", "(II)I"⟩
abbrev cX4_hardLimit : ByteArray := prog_1_method_21_code
def yX4_hardLimit : MethodName := ⟨RX4, "hardLimit", "(II)I"⟩
abbrev cX4_graceStart : ByteArray := prog_1_method_22_code
def yX4_graceStart : MethodName := ⟨RX4, "graceStart", "(II)I"⟩
abbrev cX4_graceLeft : ByteArray := prog_1_method_23_code
def yX4_graceLeft : MethodName := ⟨RX4, "graceLeft", "(II)I"⟩
abbrev cX4_available : ByteArray := prog_1_method_24_code
def yX4_available : MethodName := ⟨RX4, "available", "(II)I"⟩
abbrev cX4_refusals : ByteArray := prog_1_method_25_code
def yX4_refusals : MethodName := ⟨RX4, "refusals", "(I)I"⟩
abbrev cX4_fewestDeletions : ByteArray := prog_1_method_26_code
def yX4_fewestDeletions : MethodName := ⟨RX4, "fewestDeletions", "(I)I"⟩
abbrev cX4_sizeOf : ByteArray := prog_1_method_27_code
def yX4_sizeOf : MethodName := ⟨RX4, "sizeOf", "(II)I"⟩
abbrev cX4_ownerOf : ByteArray := prog_1_method_28_code
def yX4_ownerOf : MethodName := ⟨RX4, "ownerOf", "(II)I"⟩
abbrev cX4_groupOf : ByteArray := prog_1_method_29_code
def yX4_groupOf : MethodName := ⟨RX4, "groupOf", "(II)I"⟩
abbrev cX4_fileCount : ByteArray := prog_1_method_30_code
def yX4_fileCount : MethodName := ⟨RX4, "fileCount", "()I"⟩
abbrev cX4_directorySize : ByteArray := prog_1_method_31_code
def yX4_directorySize : MethodName := ⟨RX4, "directorySize", "(I)I"⟩
abbrev cX4_largestFile : ByteArray := prog_1_method_32_code
def yX4_largestFile : MethodName := ⟨RX4, "largestFile", "(I)I"⟩
abbrev cX4_ifCreated : ByteArray := prog_1_method_33_code
def yX4_ifCreated : MethodName := ⟨RX4, "ifCreated", "(III)I"⟩
abbrev cX4_refusedOnDay : ByteArray := prog_1_method_34_code
def yX4_refusedOnDay : MethodName := ⟨RX4, "refusedOnDay", "(III)I"⟩
abbrev cX4_day : ByteArray := prog_1_method_35_code
def yX4_day : MethodName := ⟨RX4, "day", "()I"⟩
abbrev cX4_graceLength : ByteArray := prog_1_method_36_code
def yX4_graceLength : MethodName := ⟨RX4, "graceLength", "(I)I"⟩
abbrev cX4_isExempt : ByteArray := prog_1_method_37_code
def yX4_isExempt : MethodName := ⟨RX4, "isExempt", "(I)Z"⟩
abbrev cX4_runningGraces : ByteArray := prog_1_method_38_code
def yX4_runningGraces : MethodName := ⟨RX4, "runningGraces", "()I"⟩
abbrev cX4_overGraces : ByteArray := prog_1_method_39_code
def yX4_overGraces : MethodName := ⟨RX4, "overGraces", "()I"⟩
abbrev cX4_event : ByteArray := prog_1_method_40_code
def yX4_event : MethodName := ⟨RX4, "event", "(II)I"⟩
abbrev cX4_eventCount : ByteArray := prog_1_method_41_code
def yX4_eventCount : MethodName := ⟨RX4, "eventCount", "()I"⟩
abbrev cX4_savedStates : ByteArray := prog_1_method_42_code
def yX4_savedStates : MethodName := ⟨RX4, "savedStates", "()I"⟩
abbrev cX4_textLength : ByteArray := prog_1_method_43_code
def yX4_textLength : MethodName := ⟨RX4, "textLength", "()I"⟩
abbrev cX4_requireUser : ByteArray := prog_1_method_44_code
def yX4_requireUser : MethodName := ⟨RX4, "requireUser", "(I)V"⟩
abbrev cX4_requireGroup : ByteArray := prog_1_method_45_code
def yX4_requireGroup : MethodName := ⟨RX4, "requireGroup", "(I)V"⟩
abbrev cX4_requireAccount : ByteArray := prog_1_method_46_code
def yX4_requireAccount : MethodName := ⟨RX4, "requireAccount", "(I)V"⟩
abbrev cX4_requireResource : ByteArray := prog_1_method_47_code
def yX4_requireResource : MethodName := ⟨RX4, "requireResource", "(I)V"⟩
abbrev cX4_requirePair : ByteArray := prog_1_method_48_code
def yX4_requirePair : MethodName := ⟨RX4, "requirePair", "(II)I"⟩
abbrev cX4_requireDirectory : ByteArray := prog_1_method_49_code
def yX4_requireDirectory : MethodName := ⟨RX4, "requireDirectory", "(I)V"⟩
abbrev cX4_requireKey : ByteArray := prog_1_method_50_code
def yX4_requireKey : MethodName := ⟨RX4, "requireKey", "(II)I"⟩
abbrev cX4_requireSize : ByteArray := prog_1_method_51_code
def yX4_requireSize : MethodName := ⟨RX4, "requireSize", "(I)V"⟩
abbrev cX4_requireLimits : ByteArray := prog_1_method_52_code
def yX4_requireLimits : MethodName := ⟨RX4, "requireLimits", "(II)V"⟩
abbrev cX4_requireSlot : ByteArray := prog_1_method_53_code
def yX4_requireSlot : MethodName := ⟨RX4, "requireSlot", "(I)V"⟩
abbrev cX4_requireFile : ByteArray := prog_1_method_54_code
def yX4_requireFile : MethodName := ⟨RX4, "requireFile", "(I)I"⟩
abbrev cX4_pairOf : ByteArray := prog_1_method_55_code
def yX4_pairOf : MethodName := ⟨RX4, "pairOf", "(II)I"⟩
abbrev cX4_groupAccount : ByteArray := prog_1_method_56_code
def yX4_groupAccount : MethodName := ⟨RX4, "groupAccount", "(I)I"⟩
abbrev cX4_keyOf : ByteArray := prog_1_method_57_code
def yX4_keyOf : MethodName := ⟨RX4, "keyOf", "(II)I"⟩
abbrev cX4_keepState : ByteArray := prog_1_method_58_code
def yX4_keepState : MethodName := ⟨RX4, "keepState", "()V"⟩
abbrev cX4_executeCommand : ByteArray := prog_1_method_59_code
def yX4_executeCommand : MethodName := ⟨RX4, "executeCommand", "()Z"⟩
abbrev cX4_takeLargest : ByteArray := prog_1_method_60_code
def yX4_takeLargest : MethodName := ⟨RX4, "takeLargest", "([II)I"⟩
def RX5 : String := "StorageQuotasModel"
def TX5 : u_T := fun k => match k with
  | 0 => ("StorageQuotasModel", "thrown", "I", false)
  | 1 => ("StorageQuotasModel", "s", "[I", true)
  | 2 => ("StorageQuotasModel", "saved", "I", false)
  | 3 => ("StorageQuotasModel", "isFilled", "[Z", true)
  | 4 => ("StorageQuotasModel", "text", "[I", true)
  | 5 => ("StorageQuotasModel", "length", "I", false)
  | 6 => ("StorageQuotasModel", "at", "I", false)
  | 7 => ("StorageQuotasModel", "letter", "I", false)
  | 8 => ("StorageQuotasModel", "numbers", "[I", true)
  | 9 => ("StorageQuotasModel", "rise", "[I", true)
  | _ => ("StorageQuotasModel", "isDeleted", "[Z", true)
def tyX5 : Nat → FieldType := fun k => match k with
  | 0 => .int
  | 1 => .array .int
  | 2 => .int
  | 3 => .array .boolean
  | 4 => .array .int
  | 5 => .int
  | 6 => .int
  | 7 => .int
  | 8 => .array .int
  | 9 => .array .int
  | _ => .array .boolean
abbrev wsX50 : List Cond := u_ws RX5 TX5 11
theorem nmX5 : ∀ a, a < 11 → ∀ b, b < 11 → a ≠ b → (TX5 a).2.1 ≠ (TX5 b).2.1 := by decide +kernel
theorem tyX5_ok : ∀ k, k < 11 → parseFieldDescriptor (TX5 k).2.2.1 = some (tyX5 k) := by decide +kernel
abbrev cX5_init : ByteArray := prog_7_method_1_code
def yX5_init : MethodName := ⟨RX5, "<init>", "()V"⟩
abbrev cX5_thrown : ByteArray := prog_7_method_2_code
def yX5_thrown : MethodName := ⟨RX5, "thrown", "()I"⟩
abbrev cX5_in : ByteArray := prog_7_method_3_code
def yX5_in : MethodName := ⟨RX5, "in", "(III)Z"⟩
abbrev cX5_holds : ByteArray := prog_7_method_4_code
def yX5_holds : MethodName := ⟨RX5, "holds", "(I)Z"⟩
abbrev cX5_isUser : ByteArray := prog_7_method_5_code
def yX5_isUser : MethodName := ⟨RX5, "isUser", "(I)Z"⟩
abbrev cX5_isGroup : ByteArray := prog_7_method_6_code
def yX5_isGroup : MethodName := ⟨RX5, "isGroup", "(I)Z"⟩
abbrev cX5_isPlace : ByteArray := prog_7_method_7_code
def yX5_isPlace : MethodName := ⟨RX5, "isPlace", "(II)Z"⟩
abbrev cX5_isPair : ByteArray := prog_7_method_8_code
def yX5_isPair : MethodName := ⟨RX5, "isPair", "(II)Z"⟩
abbrev cX5_of : ByteArray := prog_7_method_9_code
def yX5_of : MethodName := ⟨RX5, "of", "(II)I"⟩
abbrev cX5_lay : ByteArray := prog_7_method_10_code
def yX5_lay : MethodName := ⟨RX5, "lay", "(III)V"⟩
abbrev cX5_fileAt : ByteArray := prog_7_method_11_code
def yX5_fileAt : MethodName := ⟨RX5, "fileAt", "(II)I"⟩
abbrev cX5_isCharged : ByteArray := prog_7_method_12_code
def yX5_isCharged : MethodName := ⟨RX5, "isCharged", "(II)Z"⟩
abbrev cX5_usageOf : ByteArray := prog_7_method_13_code
def yX5_usageOf : MethodName := ⟨RX5, "usageOf", "(II)I"⟩
abbrev cX5_logs : ByteArray := prog_7_method_14_code
def yX5_logs : MethodName := ⟨RX5, "logs", "(III)V"⟩
abbrev cX5_reviews : ByteArray := prog_7_method_15_code
def yX5_reviews : MethodName := ⟨RX5, "reviews", "(II)V"⟩
abbrev cX5_reviewsAll : ByteArray := prog_7_method_16_code
def yX5_reviewsAll : MethodName := ⟨RX5, "reviewsAll", "()V"⟩
abbrev cX5_isOver : ByteArray := prog_7_method_17_code
def yX5_isOver : MethodName := ⟨RX5, "isOver", "(III)Z"⟩
abbrev cX5_cause : ByteArray := prog_7_method_18_code
def yX5_cause : MethodName := ⟨RX5, "cause", "(IIIZ)I"⟩
abbrev cX5_isFree : ByteArray := prog_7_method_19_code
def yX5_isFree : MethodName := ⟨RX5, "isFree", "(I)Z"⟩
abbrev cX5_accountOf : ByteArray := prog_7_method_20_code
def yX5_accountOf : MethodName := ⟨RX5, "accountOf", "(III)I"⟩
abbrev cX5_reason : ByteArray := prog_7_method_21_code
def yX5_reason : MethodName := ⟨RX5, "reason", "(II)I"⟩
abbrev cX5_rises : ByteArray := prog_7_method_22_code
def yX5_rises : MethodName := ⟨RX5, "rises", "(IIII)V"⟩
abbrev cX5_refuses : ByteArray := prog_7_method_23_code
def yX5_refuses : MethodName := ⟨RX5, "refuses", "(II)I"⟩
abbrev cX5_creates : ByteArray := prog_7_method_24_code
def yX5_creates : MethodName := ⟨RX5, "creates", "(IIII)I"⟩
abbrev cX5_resizes : ByteArray := prog_7_method_25_code
def yX5_resizes : MethodName := ⟨RX5, "resizes", "(II)I"⟩
abbrev cX5_deletes : ByteArray := prog_7_method_26_code
def yX5_deletes : MethodName := ⟨RX5, "deletes", "(I)I"⟩
abbrev cX5_moves : ByteArray := prog_7_method_27_code
def yX5_moves : MethodName := ⟨RX5, "moves", "(III)I"⟩
abbrev cX5_daysPass : ByteArray := prog_7_method_28_code
def yX5_daysPass : MethodName := ⟨RX5, "daysPass", "(I)I"⟩
abbrev cX5_copies : ByteArray := prog_7_method_29_code
def yX5_copies : MethodName := ⟨RX5, "copies", "(II)V"⟩
abbrev cX5_keeps : ByteArray := prog_7_method_30_code
def yX5_keeps : MethodName := ⟨RX5, "keeps", "()V"⟩
abbrev cX5_create : ByteArray := prog_7_method_31_code
def yX5_create : MethodName := ⟨RX5, "create", "(IIIII)I"⟩
abbrev cX5_resize : ByteArray := prog_7_method_32_code
def yX5_resize : MethodName := ⟨RX5, "resize", "(III)I"⟩
abbrev cX5_delete : ByteArray := prog_7_method_33_code
def yX5_delete : MethodName := ⟨RX5, "delete", "(II)I"⟩
abbrev cX5_move : ByteArray := prog_7_method_34_code
def yX5_move : MethodName := ⟨RX5, "move", "(IIII)I"⟩
abbrev cX5_setLimits : ByteArray := prog_7_method_35_code
def yX5_setLimits : MethodName := ⟨RX5, "setLimits", "(IIII)I"⟩
abbrev cX5_setGrace : ByteArray := prog_7_method_36_code
def yX5_setGrace : MethodName := ⟨RX5, "setGrace", "(II)I"⟩
abbrev cX5_restartGrace : ByteArray := prog_7_method_37_code
def yX5_restartGrace : MethodName := ⟨RX5, "restartGrace", "(II)I"⟩
abbrev cX5_setExempt : ByteArray := prog_7_method_38_code
def yX5_setExempt : MethodName := ⟨RX5, "setExempt", "(IZ)I"⟩
abbrev cX5_nextDays : ByteArray := prog_7_method_39_code
def yX5_nextDays : MethodName := ⟨RX5, "nextDays", "(I)I"⟩
abbrev cX5_appendText : ByteArray := prog_7_method_40_code
def yX5_appendText : MethodName := ⟨RX5, "appendText", "(I)I"⟩
abbrev cX5_clearText : ByteArray := prog_7_method_41_code
def yX5_clearText : MethodName := ⟨RX5, "clearText", "()I"⟩
abbrev cX5_sign : ByteArray := prog_7_method_42_code
def yX5_sign : MethodName := ⟨RX5, "sign", "()I"⟩
abbrev cX5_takes : ByteArray := prog_7_method_43_code
def yX5_takes : MethodName := ⟨RX5, "takes", "(I)Z"⟩
abbrev cX5_number : ByteArray := prog_7_method_44_code
def yX5_number : MethodName := ⟨RX5, "number", "(II)I"⟩
abbrev cX5_greatest : ByteArray := prog_7_method_45_code
def yX5_greatest : MethodName := ⟨RX5, "greatest", "(II)I"⟩
abbrev cX5_readsCommand : ByteArray := prog_7_method_46_code
def yX5_readsCommand : MethodName := ⟨RX5, "readsCommand", "()Z"⟩
abbrev cX5_isValid : ByteArray := prog_7_method_47_code
def yX5_isValid : MethodName := ⟨RX5, "isValid", "()Z"⟩
abbrev cX5_errorPosition : ByteArray := prog_7_method_48_code
def yX5_errorPosition : MethodName := ⟨RX5, "errorPosition", "()I"⟩
abbrev cX5_isDone : ByteArray := prog_7_method_49_code
def yX5_isDone : MethodName := ⟨RX5, "isDone", "()Z"⟩
abbrev cX5_runText : ByteArray := prog_7_method_50_code
def yX5_runText : MethodName := ⟨RX5, "runText", "()I"⟩
abbrev cX5_undo : ByteArray := prog_7_method_51_code
def yX5_undo : MethodName := ⟨RX5, "undo", "()I"⟩
abbrev cX5_save : ByteArray := prog_7_method_52_code
def yX5_save : MethodName := ⟨RX5, "save", "(I)I"⟩
abbrev cX5_restore : ByteArray := prog_7_method_53_code
def yX5_restore : MethodName := ⟨RX5, "restore", "(I)I"⟩
abbrev cX5_usage : ByteArray := prog_7_method_54_code
def yX5_usage : MethodName := ⟨RX5, "usage", "(II)I"⟩
abbrev cX5_scannedUsage : ByteArray := prog_7_method_55_code
def yX5_scannedUsage : MethodName := ⟨RX5, "scannedUsage", "(II)I"⟩
abbrev cX5_softLimit : ByteArray := prog_7_method_56_code
def yX5_softLimit : MethodName := ⟨RX5, "softLimit", "(II)I"⟩
abbrev cX5_hardLimit : ByteArray := prog_7_method_57_code
def yX5_hardLimit : MethodName := ⟨RX5, "hardLimit", "(II)I"⟩
abbrev cX5_graceStart : ByteArray := prog_7_method_58_code
def yX5_graceStart : MethodName := ⟨RX5, "graceStart", "(II)I"⟩
abbrev cX5_graceLeft : ByteArray := prog_7_method_59_code
def yX5_graceLeft : MethodName := ⟨RX5, "graceLeft", "(II)I"⟩
abbrev cX5_available : ByteArray := prog_7_method_60_code
def yX5_available : MethodName := ⟨RX5, "available", "(II)I"⟩
abbrev cX5_refusals : ByteArray := prog_7_method_61_code
def yX5_refusals : MethodName := ⟨RX5, "refusals", "(I)I"⟩
abbrev cX5_largest : ByteArray := prog_7_method_62_code
def yX5_largest : MethodName := ⟨RX5, "largest", "(I)I"⟩
abbrev cX5_forgets : ByteArray := prog_7_method_63_code
def yX5_forgets : MethodName := ⟨RX5, "forgets", "()V"⟩
abbrev cX5_fewest : ByteArray := prog_7_method_64_code
def yX5_fewest : MethodName := ⟨RX5, "fewest", "(I)I"⟩
abbrev cX5_fewestDeletions : ByteArray := prog_7_method_65_code
def yX5_fewestDeletions : MethodName := ⟨RX5, "fewestDeletions", "(I)I"⟩
abbrev cX5_told : ByteArray := prog_7_method_66_code
def yX5_told : MethodName := ⟨RX5, "told", "(III)I"⟩
abbrev cX5_sizeOf : ByteArray := prog_7_method_67_code
def yX5_sizeOf : MethodName := ⟨RX5, "sizeOf", "(II)I"⟩
abbrev cX5_ownerOf : ByteArray := prog_7_method_68_code
def yX5_ownerOf : MethodName := ⟨RX5, "ownerOf", "(II)I"⟩
abbrev cX5_groupOf : ByteArray := prog_7_method_69_code
def yX5_groupOf : MethodName := ⟨RX5, "groupOf", "(II)I"⟩
abbrev cX5_fileCount : ByteArray := prog_7_method_70_code
def yX5_fileCount : MethodName := ⟨RX5, "fileCount", "()I"⟩
abbrev cX5_directorySize : ByteArray := prog_7_method_71_code
def yX5_directorySize : MethodName := ⟨RX5, "directorySize", "(I)I"⟩
abbrev cX5_largestFile : ByteArray := prog_7_method_72_code
def yX5_largestFile : MethodName := ⟨RX5, "largestFile", "(I)I"⟩
abbrev cX5_ifCreated : ByteArray := prog_7_method_73_code
def yX5_ifCreated : MethodName := ⟨RX5, "ifCreated", "(III)I"⟩
abbrev cX5_reviewed : ByteArray := prog_7_method_74_code
def yX5_reviewed : MethodName := ⟨RX5, "reviewed", "(IIII)I"⟩
abbrev cX5_dayOfRefusal : ByteArray := prog_7_method_75_code
def yX5_dayOfRefusal : MethodName := ⟨RX5, "dayOfRefusal", "(III)I"⟩
abbrev cX5_refusedOnDay : ByteArray := prog_7_method_76_code
def yX5_refusedOnDay : MethodName := ⟨RX5, "refusedOnDay", "(III)I"⟩
abbrev cX5_day : ByteArray := prog_7_method_77_code
def yX5_day : MethodName := ⟨RX5, "day", "()I"⟩
abbrev cX5_graceLength : ByteArray := prog_7_method_78_code
def yX5_graceLength : MethodName := ⟨RX5, "graceLength", "(I)I"⟩
abbrev cX5_isExempt : ByteArray := prog_7_method_79_code
def yX5_isExempt : MethodName := ⟨RX5, "isExempt", "(I)Z"⟩
abbrev cX5_graces : ByteArray := prog_7_method_80_code
def yX5_graces : MethodName := ⟨RX5, "graces", "(Z)I"⟩
abbrev cX5_runningGraces : ByteArray := prog_7_method_81_code
def yX5_runningGraces : MethodName := ⟨RX5, "runningGraces", "()I"⟩
abbrev cX5_overGraces : ByteArray := prog_7_method_82_code
def yX5_overGraces : MethodName := ⟨RX5, "overGraces", "()I"⟩
abbrev cX5_event : ByteArray := prog_7_method_83_code
def yX5_event : MethodName := ⟨RX5, "event", "(II)I"⟩
abbrev cX5_eventCount : ByteArray := prog_7_method_84_code
def yX5_eventCount : MethodName := ⟨RX5, "eventCount", "()I"⟩
abbrev cX5_savedStates : ByteArray := prog_7_method_85_code
def yX5_savedStates : MethodName := ⟨RX5, "savedStates", "()I"⟩
abbrev cX5_textLength : ByteArray := prog_7_method_86_code
def yX5_textLength : MethodName := ⟨RX5, "textLength", "()I"⟩
def RJ9 : String := "java/lang/Math"
def TJ9 : u_T := fun k => match k with
  | _ => ("", "", "", false)
def tyJ9 : Nat → FieldType := fun k => match k with
  | _ => .int
abbrev wsJ90 : List Cond := u_ws RJ9 TJ9 0
theorem nmJ9 : ∀ a, a < 0 → ∀ b, b < 0 → a ≠ b → (TJ9 a).2.1 ≠ (TJ9 b).2.1 := by decide +kernel
theorem tyJ9_ok : ∀ k, k < 0 → parseFieldDescriptor (TJ9 k).2.2.1 = some (tyJ9 k) := by decide +kernel
abbrev cJ9_max_7cf53 : ByteArray := prog_12_method_65_code
def yJ9_max_7cf53 : MethodName := ⟨RJ9, "max", "(II)I"⟩
abbrev cJ9_min_7cf53 : ByteArray := prog_12_method_69_code
def yJ9_min_7cf53 : MethodName := ⟨RJ9, "min", "(II)I"⟩
def RJ0 : String := "java/lang/String"
def TJ0 : u_T := fun k => match k with
  | _ => ("", "", "", false)
def tyJ0 : Nat → FieldType := fun k => match k with
  | _ => .int
abbrev wsJ00 : List Cond := u_ws RJ0 TJ0 0
theorem nmJ0 : ∀ a, a < 0 → ∀ b, b < 0 → a ≠ b → (TJ0 a).2.1 ≠ (TJ0 b).2.1 := by decide +kernel
theorem tyJ0_ok : ∀ k, k < 0 → parseFieldDescriptor (TJ0 k).2.2.1 = some (tyJ0 k) := by decide +kernel
def RJ10 : String := "java/lang/System"
def TJ10 : u_T := fun k => match k with
  | _ => ("", "", "", false)
def tyJ10 : Nat → FieldType := fun k => match k with
  | _ => .int
abbrev wsJ100 : List Cond := u_ws RJ10 TJ10 0
theorem nmJ10 : ∀ a, a < 0 → ∀ b, b < 0 → a ≠ b → (TJ10 a).2.1 ≠ (TJ10 b).2.1 := by decide +kernel
theorem tyJ10_ok : ∀ k, k < 0 → parseFieldDescriptor (TJ10 k).2.2.1 = some (tyJ10 k) := by decide +kernel
def RL : String := "StorageQuotasLaw"
abbrev cL_create : ByteArray := method_3_code
def yL_create : MethodName := ⟨RL, "create", "(LStorageQuotas;IIIII[J)I"⟩
abbrev cL_resize : ByteArray := method_4_code
def yL_resize : MethodName := ⟨RL, "resize", "(LStorageQuotas;III[J)I"⟩
abbrev cL_delete : ByteArray := method_5_code
def yL_delete : MethodName := ⟨RL, "delete", "(LStorageQuotas;II[J)I"⟩
abbrev cL_move : ByteArray := method_6_code
def yL_move : MethodName := ⟨RL, "move", "(LStorageQuotas;IIII[J)I"⟩
abbrev cL_setLimits : ByteArray := method_7_code
def yL_setLimits : MethodName := ⟨RL, "setLimits", "(LStorageQuotas;IIII[J)I"⟩
abbrev cL_setGrace : ByteArray := method_8_code
def yL_setGrace : MethodName := ⟨RL, "setGrace", "(LStorageQuotas;II[J)I"⟩
abbrev cL_restartGrace : ByteArray := method_9_code
def yL_restartGrace : MethodName := ⟨RL, "restartGrace", "(LStorageQuotas;II[J)I"⟩
abbrev cL_setExempt : ByteArray := method_10_code
def yL_setExempt : MethodName := ⟨RL, "setExempt", "(LStorageQuotas;IZ[J)I"⟩
abbrev cL_nextDays : ByteArray := method_11_code
def yL_nextDays : MethodName := ⟨RL, "nextDays", "(LStorageQuotas;I[J)I"⟩
abbrev cL_appendText : ByteArray := method_12_code
def yL_appendText : MethodName := ⟨RL, "appendText", "(LStorageQuotas;I[J)I"⟩
abbrev cL_runText : ByteArray := method_13_code
def yL_runText : MethodName := ⟨RL, "runText", "(LStorageQuotas;[J)I"⟩
abbrev cL_undo : ByteArray := method_14_code
def yL_undo : MethodName := ⟨RL, "undo", "(LStorageQuotas;[J)I"⟩
abbrev cL_save : ByteArray := method_15_code
def yL_save : MethodName := ⟨RL, "save", "(LStorageQuotas;I[J)I"⟩
abbrev cL_restore : ByteArray := method_16_code
def yL_restore : MethodName := ⟨RL, "restore", "(LStorageQuotas;I[J)I"⟩
abbrev cL_usage : ByteArray := method_17_code
def yL_usage : MethodName := ⟨RL, "usage", "(LStorageQuotas;II[J)I"⟩
abbrev cL_scannedUsage : ByteArray := method_18_code
def yL_scannedUsage : MethodName := ⟨RL, "scannedUsage", "(LStorageQuotas;II[J)I"⟩
abbrev cL_softLimit : ByteArray := method_19_code
def yL_softLimit : MethodName := ⟨RL, "softLimit", "(LStorageQuotas;II[J)I"⟩
abbrev cL_hardLimit : ByteArray := method_20_code
def yL_hardLimit : MethodName := ⟨RL, "hardLimit", "(LStorageQuotas;II[J)I"⟩
abbrev cL_graceStart : ByteArray := method_21_code
def yL_graceStart : MethodName := ⟨RL, "graceStart", "(LStorageQuotas;II[J)I"⟩
abbrev cL_graceLeft : ByteArray := method_22_code
def yL_graceLeft : MethodName := ⟨RL, "graceLeft", "(LStorageQuotas;II[J)I"⟩
abbrev cL_available : ByteArray := method_23_code
def yL_available : MethodName := ⟨RL, "available", "(LStorageQuotas;II[J)I"⟩
abbrev cL_refusals : ByteArray := method_24_code
def yL_refusals : MethodName := ⟨RL, "refusals", "(LStorageQuotas;I[J)I"⟩
abbrev cL_fewestDeletions : ByteArray := method_25_code
def yL_fewestDeletions : MethodName := ⟨RL, "fewestDeletions", "(LStorageQuotas;I[J)I"⟩
abbrev cL_sizeOf : ByteArray := method_26_code
def yL_sizeOf : MethodName := ⟨RL, "sizeOf", "(LStorageQuotas;II[J)I"⟩
abbrev cL_ownerOf : ByteArray := method_27_code
def yL_ownerOf : MethodName := ⟨RL, "ownerOf", "(LStorageQuotas;II[J)I"⟩
abbrev cL_groupOf : ByteArray := method_28_code
def yL_groupOf : MethodName := ⟨RL, "groupOf", "(LStorageQuotas;II[J)I"⟩
abbrev cL_directorySize : ByteArray := method_29_code
def yL_directorySize : MethodName := ⟨RL, "directorySize", "(LStorageQuotas;I[J)I"⟩
abbrev cL_largestFile : ByteArray := method_30_code
def yL_largestFile : MethodName := ⟨RL, "largestFile", "(LStorageQuotas;I[J)I"⟩
abbrev cL_ifCreated : ByteArray := method_31_code
def yL_ifCreated : MethodName := ⟨RL, "ifCreated", "(LStorageQuotas;III[J)I"⟩
abbrev cL_refusedOnDay : ByteArray := method_32_code
def yL_refusedOnDay : MethodName := ⟨RL, "refusedOnDay", "(LStorageQuotas;III[J)I"⟩
abbrev cL_graceLength : ByteArray := method_33_code
def yL_graceLength : MethodName := ⟨RL, "graceLength", "(LStorageQuotas;I[J)I"⟩
abbrev cL_isExempt : ByteArray := method_34_code
def yL_isExempt : MethodName := ⟨RL, "isExempt", "(LStorageQuotas;I[J)I"⟩
abbrev cL_event : ByteArray := method_35_code
def yL_event : MethodName := ⟨RL, "event", "(LStorageQuotas;II[J)I"⟩
abbrev cL_law : ByteArray := code
def yL_law : MethodName := ⟨RL, "law", "([I)Z"⟩
abbrev vwCl : List vw_C := [(RX0, TX0, 5), (RX1, TX1, 5), (RX2, TX2, 10), (RX3, TX3, 5), (RX4, TX4, 8), (RX5, TX5, 11)]
end
section
/-! A small machine over a memory of numbered objects: rows of ints and rows of references. Its runs are what is reasoned about; that the bytecode does the same is proved behind. -/
abbrev Mem : Type := (Nat → Nat × Nat) × Nat × (Nat → Nat → Int32) × (Nat → Nat → Nat)
def tkM (σ : Mem) (v : Nat) : Nat × Nat := σ.1 v
def nxM (σ : Mem) : Nat := σ.2.1
def rdM (σ : Mem) (v j : Nat) : Int32 := σ.2.2.1 v j
def prM (σ : Mem) (v j : Nat) : Nat := σ.2.2.2 v j
def wrM (σ : Mem) (v j : Nat) (x : Int32) : Mem := (σ.1, σ.2.1, (fun a i => if a = v ∧ i = j then x else σ.2.2.1 a i), σ.2.2.2)
def wpM (σ : Mem) (v j : Nat) (x : Nat) : Mem := (σ.1, σ.2.1, σ.2.2.1, fun a i => if a = v ∧ i = j then x else σ.2.2.2 a i)
def nwM (σ : Mem) (κ n : Nat) : Mem := ((fun a => if a = σ.2.1 then (κ, n) else σ.1 a), σ.2.1 + 1, (fun a i => if a = σ.2.1 then 0 else σ.2.2.1 a i), fun a i => if a = σ.2.1 then 0 else σ.2.2.2 a i)
def cpM (σ : Mem) (sv sp dv dp n : Nat) : Mem := (σ.1, σ.2.1, (fun a i => if a = dv ∧ (dp ≤ i ∧ i < dp + n) then σ.2.2.1 sv (sp + (i - dp)) else σ.2.2.1 a i), σ.2.2.2)
/-- an instruction: as it is decoded, its length, what its numbers stand for, a constant -/
abbrev IcM : Type := Instr × Nat × List Nat × Int32
/-- pc, locals, stack, cells and slots made so far -/
abbrev FrM : Type := Nat × List (Option Value) × List Value × Nat × Nat
/-- a value returned, or the number of the exception that was thrown -/
abbrev OutM : Type := (Option Value ⊕ Nat) × Mem
def gaM (a : List Nat) (i : Nat) : Nat := a.getD i 0
def sI1 (f : Int32 → List Value → Option OutM) : List Value → Option OutM
  | .int x :: r => f x r
  | _ => none
def sI2 (f : Int32 → Int32 → List Value → Option OutM) : List Value → Option OutM
  | .int y :: .int x :: r => f x y r
  | _ => none
def sL2 (f : Int64 → Int64 → List Value → Option OutM) : List Value → Option OutM
  | .long y :: .long x :: r => f x y r
  | _ => none
def sR1 (f : Nat → List Value → Option OutM) : List Value → Option OutM
  | .ref v :: r => f v r
  | _ => none
def sIR (f : Int32 → Nat → List Value → Option OutM) : List Value → Option OutM
  | .int i :: .ref v :: r => f i v r
  | _ => none
def sIIR (f : Int32 → Int32 → Nat → List Value → Option OutM) : List Value → Option OutM
  | .int x :: .int i :: .ref v :: r => f x i v r
  | _ => none
def sLIR (f : Int64 → Int32 → Nat → List Value → Option OutM) : List Value → Option OutM
  | .long x :: .int i :: .ref v :: r => f x i v r
  | _ => none
def sRIR (f : Nat → Int32 → Nat → List Value → Option OutM) : List Value → Option OutM
  | .ref u :: .int i :: .ref v :: r => f u i v r
  | _ => none
def sRR (f : Nat → Nat → List Value → Option OutM) : List Value → Option OutM
  | .ref u :: .ref v :: r => f u v r
  | _ => none
def sCp (f : Int32 → Int32 → Nat → Int32 → Nat → List Value → Option OutM) : List Value → Option OutM
  | .int n :: .int dp :: .ref dv :: .int sp :: .ref sv :: r => f n dp dv sp sv r
  | _ => none
def oI (f : Int32 → Option OutM) : Option Value → Option OutM
  | some (.int x) => f x
  | _ => none
def oR (f : Nat → Option OutM) : Option Value → Option OutM
  | some (.ref x) => f x
  | _ => none
def isOne : Value → Bool
  | .int _ | .ref _ => true
  | _ => false
def catM : List Value → Nat
  | [] => 0
  | .long _ :: r => catM r + 2
  | .double _ :: r => catM r + 2
  | _ :: r => catM r + 1
/-- a switch: its keys and targets by pairs -/
def swM (x : Int32) (d : Nat) (K : Nat → Option OutM) : List Nat → Option OutM
  | k :: t :: r => if x = Int32.ofNat k then K t else swM x d K r
  | _ => K d
/-- the handler for an exception that comes out of the call at pc -/
def hdM : List (Nat × Nat × Nat × Nat) → Nat → Nat → Option Nat
  | [], _, _ => none
  | (s, e, h, x) :: r, pc, E => bif (Nat.ble s pc && Nat.blt pc e) && Nat.beq x E then some h else hdM r pc E
abbrev aOk (κ : Nat) (σ : Mem) (v : Nat) (i : Int32) : Prop := (tkM σ v).1 = κ ∧ ¬ (i < 0 ∨ (tkM σ v).2 ≤ i.toNatClampNeg)
end
section
def flL : List (Nat × Nat × Nat × Nat × Nat) := [(1, 9, 1, 0, 0), (2, 66, 1, 0, 1), (4, 237, 1, 0, 1), (1, 15, 1, 1, 0), (1, 19, 1, 2, 0), (2, 97, 1, 2, 1), (4, 231, 1, 2, 1), (1, 22, 1, 3, 0), (2, 100, 1, 3, 1), (4, 234, 1, 3, 1), (1, 25, 1, 4, 0), (2, 94, 1, 4, 1), (4, 228, 1, 4, 1), (0, 9, 0, 0, 0), (4, 277, 0, 0, 1), (0, 15, 0, 1, 0), (0, 18, 0, 2, 0), (0, 22, 0, 3, 0), (0, 25, 0, 4, 0), (2, 9, 2, 0, 0), (4, 129, 2, 0, 1), (2, 15, 2, 1, 0), (4, 118, 2, 1, 1), (2, 19, 2, 2, 0), (4, 132, 2, 2, 1), (2, 23, 2, 3, 0), (4, 107, 2, 3, 1), (2, 26, 2, 4, 0), (4, 98, 2, 4, 1), (2, 29, 2, 5, 0), (4, 101, 2, 5, 1), (2, 32, 2, 6, 0), (4, 126, 2, 6, 1), (2, 35, 2, 7, 0), (4, 211, 2, 7, 1), (2, 41, 2, 8, 0), (4, 188, 2, 8, 1), (2, 48, 2, 9, 0), (4, 268, 2, 9, 1), (3, 9, 3, 0, 0), (4, 154, 3, 0, 1), (3, 15, 3, 1, 0), (4, 149, 3, 1, 1), (3, 19, 3, 2, 0), (4, 163, 3, 2, 1), (3, 22, 3, 3, 0), (4, 307, 3, 3, 1), (3, 26, 3, 4, 0), (4, 304, 3, 4, 1), (4, 12, 4, 0, 0), (4, 16, 4, 1, 0), (4, 19, 4, 2, 0), (4, 23, 4, 3, 0), (4, 27, 4, 4, 0), (4, 30, 4, 5, 0), (4, 37, 4, 6, 0), (4, 41, 4, 7, 0), (5, 29, 5, 0, 0), (5, 7, 5, 1, 0), (5, 87, 5, 2, 0), (5, 13, 5, 3, 0), (5, 17, 5, 4, 0), (5, 132, 5, 5, 0), (5, 135, 5, 6, 0), (5, 142, 5, 7, 0), (5, 20, 5, 8, 0), (5, 23, 5, 9, 0), (5, 26, 5, 10, 0)]
def mlL : List (Nat × Nat × Nat × Nat) := [(6, 122, 44, 0), (4, 3, 1000, 0), (4, 11, 14, 1), (2, 3, 1000, 0), (2, 40, 4, 1), (1, 3, 1000, 0), (2, 47, 0, 1), (0, 3, 1000, 0), (4, 36, 36, 1), (3, 3, 1000, 0), (6, 167, 55, 0), (6, 171, 56, 0), (4, 158, 37, 1), (3, 30, 38, 0), (3, 38, 39, 0), (3, 34, 40, 0), (3, 42, 41, 0), (3, 64, 43, 0), (3, 68, 42, 0), (6, 224, 73, 0), (6, 240, 78, 0), (6, 250, 81, 0), (4, 121, 29, 1), (6, 254, 82, 0), (4, 258, 31, 1), (6, 261, 84, 0), (6, 265, 85, 0), (6, 269, 86, 0), (6, 126, 190, 0), (6, 7, 45, 0), (4, 45, 87, 0), (4, 49, 88, 0), (4, 52, 93, 0), (4, 240, 92, 0), (4, 290, 100, 0), (4, 56, 94, 0), (4, 59, 16, 1), (2, 69, 6, 1), (4, 70, 101, 0), (4, 179, 15, 1), (2, 52, 1003, 0), (2, 58, 5, 1), (1, 28, 1003, 0), (2, 62, 1, 1), (0, 28, 1003, 0), (4, 73, 17, 1), (2, 73, 23, 0), (2, 88, 99, 1), (2, 111, 98, 1), (2, 115, 24, 0), (2, 118, 31, 0), (2, 77, 26, 0), (2, 131, 2, 1), (2, 81, 7, 1), (2, 85, 22, 0), (2, 91, 27, 0), (2, 133, 28, 0), (2, 136, 29, 0), (6, 135, 191, 0), (6, 19, 46, 0), (4, 77, 97, 0), (4, 225, 6, 1), (4, 81, 18, 1), (2, 103, 19, 0), (6, 139, 192, 0), (6, 23, 47, 0), (4, 84, 20, 1), (2, 107, 8, 1), (6, 143, 193, 0), (6, 27, 48, 0), (4, 87, 21, 1), (6, 147, 194, 0), (6, 31, 49, 0), (4, 91, 91, 0), (4, 208, 89, 0), (4, 110, 90, 0), (4, 214, 98, 0), (4, 94, 95, 0), (4, 104, 28, 1), (6, 150, 195, 0), (6, 34, 50, 0), (6, 153, 196, 0), (6, 37, 51, 0), (6, 156, 197, 0), (6, 40, 52, 0), (4, 135, 35, 1), (6, 160, 198, 0), (6, 44, 53, 0), (4, 139, 32, 1), (4, 144, 33, 1), (2, 139, 34, 0), (2, 143, 30, 0), (6, 164, 199, 0), (6, 48, 54, 0), (6, 175, 200, 0), (6, 51, 57, 0), (4, 166, 38, 1), (4, 170, 102, 0), (4, 173, 40, 1), (6, 179, 201, 0), (6, 55, 58, 0), (6, 182, 202, 0), (6, 58, 59, 0), (4, 183, 96, 0), (6, 185, 203, 0), (6, 61, 60, 0), (6, 188, 204, 0), (6, 64, 61, 0), (6, 191, 205, 0), (6, 67, 62, 0), (4, 192, 10, 1), (1, 38, 9, 0), (1, 34, 99, 1), (6, 194, 206, 0), (6, 70, 63, 0), (6, 197, 207, 0), (6, 73, 64, 0), (6, 200, 208, 0), (6, 76, 65, 0), (6, 203, 209, 0), (6, 79, 66, 0), (4, 197, 30, 1), (4, 200, 1001, 0), (6, 206, 210, 0), (6, 82, 67, 0), (4, 205, 25, 1), (2, 123, 1002, 0), (2, 128, 1001, 0), (6, 209, 211, 0), (6, 85, 68, 0), (6, 212, 212, 0), (6, 88, 69, 0), (4, 217, 11, 1), (4, 221, 103, 0), (6, 215, 213, 0), (6, 91, 70, 0), (6, 218, 214, 0), (6, 94, 71, 0), (6, 221, 215, 0), (6, 97, 72, 0), (6, 228, 216, 0), (6, 100, 74, 0), (4, 243, 12, 1), (6, 231, 217, 0), (6, 103, 75, 0), (4, 246, 13, 1), (6, 234, 218, 0), (6, 106, 76, 0), (4, 249, 23, 1), (6, 237, 219, 0), (6, 109, 77, 0), (4, 255, 19, 1), (6, 244, 220, 0), (6, 112, 79, 0), (6, 247, 221, 0), (6, 115, 80, 0), (6, 258, 222, 0), (6, 119, 83, 0), (4, 272, 3, 1), (6, 125, 104, 0), (5, 1, 1000, 0), (6, 132, 105, 0), (6, 131, 134, 0), (5, 93, 108, 0), (5, 33, 106, 0), (5, 96, 109, 0), (5, 99, 110, 0), (5, 102, 114, 0), (5, 37, 112, 0), (5, 105, 107, 0), (5, 108, 133, 0), (5, 90, 132, 0), (5, 111, 127, 0), (5, 74, 125, 0), (5, 78, 126, 0), (5, 71, 124, 0), (5, 56, 122, 0), (5, 60, 123, 0), (5, 45, 116, 0), (5, 41, 115, 0), (5, 64, 120, 0), (5, 67, 121, 0), (5, 48, 117, 0), (5, 81, 113, 0), (5, 84, 119, 0), (5, 52, 118, 0), (6, 138, 135, 0), (5, 115, 128, 0), (6, 142, 136, 0), (5, 118, 129, 0), (6, 146, 137, 0), (5, 122, 130, 0), (6, 149, 138, 0), (5, 126, 111, 0), (6, 152, 139, 0), (6, 155, 140, 0), (6, 159, 141, 0), (6, 163, 142, 0), (5, 129, 131, 0), (6, 166, 143, 0), (6, 170, 144, 0), (6, 174, 151, 0), (5, 158, 150, 0), (5, 154, 149, 0), (5, 138, 145, 0), (5, 145, 146, 0), (5, 148, 148, 0), (5, 151, 147, 0), (6, 178, 153, 0), (5, 161, 152, 0), (6, 181, 154, 0), (6, 184, 155, 0), (6, 187, 156, 0), (6, 190, 157, 0), (6, 193, 158, 0), (6, 196, 159, 0), (6, 199, 160, 0), (6, 202, 161, 0), (6, 205, 162, 0), (6, 208, 163, 0), (6, 211, 164, 0), (6, 214, 168, 0), (5, 170, 167, 0), (5, 164, 166, 0), (5, 167, 165, 0), (6, 217, 170, 0), (5, 173, 169, 0), (6, 220, 171, 0), (6, 223, 172, 0), (6, 227, 173, 0), (6, 230, 174, 0), (6, 233, 175, 0), (6, 236, 176, 0), (6, 239, 179, 0), (5, 179, 178, 0), (5, 176, 177, 0), (6, 243, 180, 0), (6, 246, 181, 0), (6, 249, 182, 0), (6, 253, 184, 0), (5, 182, 183, 0), (6, 257, 185, 0), (6, 260, 186, 0), (6, 264, 187, 0), (6, 268, 188, 0), (6, 272, 189, 0)]
def cd_0 : List (List (Option IcM)) := [[some (.aload_n 0, 1, [0], 0), some (.invokespecial 3, 3, [0, 1, 9, 0, 0, 3, 36, 7], 0), none, none, some (.aload_n 0, 1, [0], 0), some (.iconst 0, 1, [], 0), some (.putfield 9, 3, [0, 0, 0, 0, 13, 0], 0), none, none, some (.aload_n 0, 1, [0], 0), some (.iconst 0, 1, [], 0), some (.putfield 15, 3, [0, 1, 0, 0, 15, 0], 0), none, none, some (.aload_n 0, 1, [0], 0), some (.bipush 12, 2, [], 12), none, some (.newarray .int, 2, [2, 3, 36], 0), none, some (.putfield 18, 3, [0, 2, 1, 0, 16, 1], 0), none, none, some (.aload_n 0, 1, [0], 0), some (.bipush 12, 2, [], 12), none, some (.newarray .int, 2, [2, 3, 36], 0), none, some (.putfield 22, 3, [0, 3, 1, 0, 17, 1], 0), none, none, some (.aload_n 0, 1, [0], 0), some (.bipush 12, 2, [], 12), none, some (.newarray .int, 2, [2, 3, 36], 0), none, some (.putfield 25, 3, [0, 4, 1, 0, 18, 1], 0), none, none, some (.return_, 1, [3, 36, 0], 0)]]
def cd_1 : List (List (Option IcM)) := [[some (.aload_n 0, 1, [0], 0), some (.aload_n 1, 1, [1], 0), some (.getfield 9, 3, [0, 0, 0, 0, 13], 0), none, none, some (.putfield 9, 3, [0, 0, 0, 0, 13, 0], 0), none, none, some (.aload_n 0, 1, [0], 0), some (.aload_n 1, 1, [1], 0), some (.getfield 15, 3, [0, 1, 0, 0, 15], 0), none, none, some (.putfield 15, 3, [0, 1, 0, 0, 15, 0], 0), none, none, some (.aload_n 1, 1, [1], 0), some (.getfield 18, 3, [0, 2, 1, 0, 16], 0), none, none, some (.iconst 0, 1, [], 0), some (.aload_n 0, 1, [0], 0), some (.getfield 18, 3, [0, 2, 1, 0, 16], 0), none, none, some (.iconst 0, 1, [], 0), some (.bipush 12, 2, [], 12), none, some (.invokestatic 28, 3, [0, 5, 8, 0, 0, 0, 0, 44], 0), none, none, some (.aload_n 1, 1, [1], 0), some (.getfield 22, 3, [0, 3, 1, 0, 17], 0), none, none, some (.iconst 0, 1, [], 0), some (.aload_n 0, 1, [0], 0), some (.getfield 22, 3, [0, 3, 1, 0, 17], 0), none, none, some (.iconst 0, 1, [], 0), some (.bipush 12, 2, [], 12), none, some (.invokestatic 28, 3, [0, 5, 8, 0, 0, 0, 0, 44], 0), none, none, some (.aload_n 1, 1, [1], 0), some (.getfield 25, 3, [0, 4, 1, 0, 18], 0), none, none, some (.iconst 0, 1, [], 0), some (.aload_n 0, 1, [0], 0), some (.getfield 25, 3, [0, 4, 1, 0, 18], 0), none, none, some (.iconst 0, 1, [], 0), some (.bipush 12, 2, [], 12), none, some (.invokestatic 28, 3, [0, 5, 8, 0, 0, 0, 0, 44], 0), none, none, some (.return_, 1, [0, 0, 0], 0)]]
def cd_2 : List (List (Option IcM)) := [[some (.aload_n 0, 1, [0], 0), some (.aload_n 0, 1, [0], 0), some (.getfield 15, 3, [0, 1, 0, 0, 15], 0), none, none, some (.ifCond .ne 8, 3, [13], 0), none, none, some (.bipush 11, 2, [], 11), none, some (.goto 9, 3, [19], 0), none, none, some (.aload_n 0, 1, [0], 0), some (.getfield 15, 3, [0, 1, 0, 0, 15], 0), none, none, some (.iconst 1, 1, [], 1), some (.isub, 1, [], 0), some (.putfield 15, 3, [0, 1, 0, 0, 15, 0], 0), none, none, some (.aload_n 0, 1, [0], 0), some (.getfield 18, 3, [0, 2, 1, 0, 16], 0), none, none, some (.aload_n 0, 1, [0], 0), some (.getfield 15, 3, [0, 1, 0, 0, 15], 0), none, none, some (.iload_n 1, 1, [1], 0), some (.iastore, 1, [], 0), some (.aload_n 0, 1, [0], 0), some (.getfield 22, 3, [0, 3, 1, 0, 17], 0), none, none, some (.aload_n 0, 1, [0], 0), some (.getfield 15, 3, [0, 1, 0, 0, 15], 0), none, none, some (.iload_n 2, 1, [2], 0), some (.iastore, 1, [], 0), some (.aload_n 0, 1, [0], 0), some (.getfield 25, 3, [0, 4, 1, 0, 18], 0), none, none, some (.aload_n 0, 1, [0], 0), some (.getfield 15, 3, [0, 1, 0, 0, 15], 0), none, none, some (.iload_n 3, 1, [3], 0), some (.iastore, 1, [], 0), some (.aload_n 0, 1, [0], 0), some (.getfield 9, 3, [0, 0, 0, 0, 13], 0), none, none, some (.bipush 12, 2, [], 12), none, some (.if_icmp .ge 13, 3, [71], 0), none, none, some (.aload_n 0, 1, [0], 0), some (.dup, 1, [], 0), some (.getfield 9, 3, [0, 0, 0, 0, 13], 0)],
  [none, none, some (.iconst 1, 1, [], 1), some (.iadd, 1, [], 0), some (.putfield 9, 3, [0, 0, 0, 0, 13, 0], 0), none, none, some (.return_, 1, [0, 0, 0], 0)]]
def cd_3 : List (List (Option IcM)) := [[some (.iload_n 1, 1, [1], 0), some (.aload_n 0, 1, [0], 0), some (.getfield 9, 3, [0, 0, 0, 0, 13], 0), none, none, some (.if_icmp .lt 5, 3, [10], 0), none, none, some (.iconst (-1), 1, [], (-1)), some (.ireturn, 1, [0, 0, 1], 0), some (.aload_n 0, 1, [0], 0), some (.getfield 15, 3, [0, 1, 0, 0, 15], 0), none, none, some (.iload_n 1, 1, [1], 0), some (.iadd, 1, [], 0), some (.bipush 12, 2, [], 12), none, some (.irem, 1, [], 0), some (.istore_n 3, 1, [3], 0), some (.iload_n 2, 1, [2], 0), some (.tableswitch 52 0 2 #[27, 34, 43], 27, [73, 0, 48, 1, 55, 2, 64], 0), none, none, none, none, none, none, none, none, none, none, none, none, none, none, none, none, none, none, none, none, none, none, none, none, none, none, some (.aload_n 0, 1, [0], 0), some (.getfield 18, 3, [0, 2, 1, 0, 16], 0), none, none, some (.iload_n 3, 1, [3], 0), some (.iaload, 1, [], 0), some (.ireturn, 1, [0, 0, 1], 0), some (.aload_n 0, 1, [0], 0), some (.getfield 22, 3, [0, 3, 1, 0, 17], 0), none, none, some (.iload_n 3, 1, [3], 0), some (.iaload, 1, [], 0), some (.iconst 2, 1, [], 2), some (.idiv, 1, [], 0), some (.ireturn, 1, [0, 0, 1], 0)],
  [some (.aload_n 0, 1, [0], 0), some (.getfield 22, 3, [0, 3, 1, 0, 17], 0), none, none, some (.iload_n 3, 1, [3], 0), some (.iaload, 1, [], 0), some (.iconst 2, 1, [], 2), some (.irem, 1, [], 0), some (.ireturn, 1, [0, 0, 1], 0), some (.aload_n 0, 1, [0], 0), some (.getfield 25, 3, [0, 4, 1, 0, 18], 0), none, none, some (.iload_n 3, 1, [3], 0), some (.iaload, 1, [], 0), some (.ireturn, 1, [0, 0, 1], 0)]]
def cd_4 : List (List (Option IcM)) := [[some (.aload_n 0, 1, [0], 0), some (.invokespecial 3, 3, [0, 1, 9, 0, 0, 4, 240, 5], 0), none, none, some (.aload_n 0, 1, [0], 0), some (.iconst 0, 1, [], 0), some (.putfield 9, 3, [1, 0, 0, 0, 0, 0], 0), none, none, some (.aload_n 0, 1, [0], 0), some (.bipush 60, 2, [], 60), none, some (.newarray .int, 2, [2, 4, 240], 0), none, some (.putfield 15, 3, [1, 1, 1, 0, 3, 1], 0), none, none, some (.aload_n 0, 1, [0], 0), some (.bipush 60, 2, [], 60), none, some (.newarray .int, 2, [2, 4, 240], 0), none, some (.putfield 19, 3, [1, 2, 1, 0, 4, 1], 0), none, none, some (.aload_n 0, 1, [0], 0), some (.bipush 60, 2, [], 60), none, some (.newarray .int, 2, [2, 4, 240], 0), none, some (.putfield 22, 3, [1, 3, 1, 0, 7, 1], 0), none, none, some (.aload_n 0, 1, [0], 0), some (.bipush 60, 2, [], 60), none, some (.newarray .int, 2, [2, 4, 240], 0), none, some (.putfield 25, 3, [1, 4, 1, 0, 10, 1], 0), none, none, some (.return_, 1, [4, 240, 0], 0)]]
def cd_5 : List (List (Option IcM)) := [[some (.aload_n 0, 1, [0], 0), some (.aload_n 1, 1, [1], 0), some (.getfield 9, 3, [1, 0, 0, 0, 0], 0), none, none, some (.putfield 9, 3, [1, 0, 0, 0, 0, 0], 0), none, none, some (.aload_n 1, 1, [1], 0), some (.getfield 15, 3, [1, 1, 1, 0, 3], 0), none, none, some (.iconst 0, 1, [], 0), some (.aload_n 0, 1, [0], 0), some (.getfield 15, 3, [1, 1, 1, 0, 3], 0), none, none, some (.iconst 0, 1, [], 0), some (.bipush 60, 2, [], 60), none, some (.invokestatic 28, 3, [0, 5, 8, 0, 0, 0, 0, 42], 0), none, none, some (.aload_n 1, 1, [1], 0), some (.getfield 19, 3, [1, 2, 1, 0, 4], 0), none, none, some (.iconst 0, 1, [], 0), some (.aload_n 0, 1, [0], 0), some (.getfield 19, 3, [1, 2, 1, 0, 4], 0), none, none, some (.iconst 0, 1, [], 0), some (.bipush 60, 2, [], 60), none, some (.invokestatic 28, 3, [0, 5, 8, 0, 0, 0, 0, 42], 0), none, none, some (.aload_n 1, 1, [1], 0), some (.getfield 22, 3, [1, 3, 1, 0, 7], 0), none, none, some (.iconst 0, 1, [], 0), some (.aload_n 0, 1, [0], 0), some (.getfield 22, 3, [1, 3, 1, 0, 7], 0), none, none, some (.iconst 0, 1, [], 0), some (.bipush 60, 2, [], 60), none, some (.invokestatic 28, 3, [0, 5, 8, 0, 0, 0, 0, 42], 0), none, none, some (.aload_n 1, 1, [1], 0), some (.getfield 25, 3, [1, 4, 1, 0, 10], 0), none, none, some (.iconst 0, 1, [], 0), some (.aload_n 0, 1, [0], 0), some (.getfield 25, 3, [1, 4, 1, 0, 10], 0), none, none, some (.iconst 0, 1, [], 0), some (.bipush 60, 2, [], 60)],
  [none, some (.invokestatic 28, 3, [0, 5, 8, 0, 0, 0, 0, 42], 0), none, none, some (.return_, 1, [0, 0, 0], 0)]]
def cd_6 : List (List (Option IcM)) := [[some (.iconst 0, 1, [], 0), some (.istore_n 2, 1, [2], 0), some (.iload_n 2, 1, [2], 0), some (.aload_n 0, 1, [0], 0), some (.getfield 9, 3, [1, 0, 0, 0, 0], 0), none, none, some (.if_icmp .ge 21, 3, [28], 0), none, none, some (.aload_n 0, 1, [0], 0), some (.getfield 15, 3, [1, 1, 1, 0, 3], 0), none, none, some (.iload_n 2, 1, [2], 0), some (.iaload, 1, [], 0), some (.iload_n 1, 1, [1], 0), some (.if_icmp .ne 5, 3, [22], 0), none, none, some (.iload_n 2, 1, [2], 0), some (.ireturn, 1, [0, 0, 1], 0), some (.iinc 2 1, 3, [2], 1), none, none, some (.goto (-23), 3, [2], 0), none, none, some (.iconst (-1), 1, [], (-1)), some (.ireturn, 1, [0, 0, 1], 0)]]
def cd_7 : List (List (Option IcM)) := [[some (.aload_n 0, 1, [0], 0), some (.getfield 9, 3, [1, 0, 0, 0, 0], 0), none, none, some (.bipush 60, 2, [], 60), none, some (.if_icmp .lt 4, 3, [10], 0), none, none, some (.return_, 1, [0, 0, 0], 0), some (.aload_n 0, 1, [0], 0), some (.getfield 15, 3, [1, 1, 1, 0, 3], 0), none, none, some (.aload_n 0, 1, [0], 0), some (.getfield 9, 3, [1, 0, 0, 0, 0], 0), none, none, some (.iload_n 3, 1, [3], 0), some (.iastore, 1, [], 0), some (.aload_n 0, 1, [0], 0), some (.getfield 19, 3, [1, 2, 1, 0, 4], 0), none, none, some (.aload_n 0, 1, [0], 0), some (.getfield 9, 3, [1, 0, 0, 0, 0], 0), none, none, some (.iload_n 1, 1, [1], 0), some (.iastore, 1, [], 0), some (.aload_n 0, 1, [0], 0), some (.getfield 22, 3, [1, 3, 1, 0, 7], 0), none, none, some (.aload_n 0, 1, [0], 0), some (.getfield 9, 3, [1, 0, 0, 0, 0], 0), none, none, some (.iload_n 2, 1, [2], 0), some (.iastore, 1, [], 0), some (.aload_n 0, 1, [0], 0), some (.getfield 25, 3, [1, 4, 1, 0, 10], 0), none, none, some (.aload_n 0, 1, [0], 0), some (.getfield 9, 3, [1, 0, 0, 0, 0], 0), none, none, some (.iload 4, 2, [4], 0), none, some (.iastore, 1, [], 0), some (.aload_n 0, 1, [0], 0), some (.dup, 1, [], 0), some (.getfield 9, 3, [1, 0, 0, 0, 0], 0), none, none, some (.iconst 1, 1, [], 1), some (.iadd, 1, [], 0), some (.putfield 9, 3, [1, 0, 0, 0, 0, 0], 0), none, none, some (.return_, 1, [0, 0, 0], 0)]]
def cd_8 : List (List (Option IcM)) := [[some (.aload_n 0, 1, [0], 0), some (.getfield 9, 3, [1, 0, 0, 0, 0], 0), none, none, some (.iconst 1, 1, [], 1), some (.isub, 1, [], 0), some (.istore_n 2, 1, [2], 0), some (.iload_n 1, 1, [1], 0), some (.ifCond .lt 8, 3, [16], 0), none, none, some (.iload_n 1, 1, [1], 0), some (.iload_n 2, 1, [2], 0), some (.if_icmp .le 4, 3, [17], 0), none, none, some (.return_, 1, [0, 0, 0], 0), some (.aload_n 0, 1, [0], 0), some (.getfield 15, 3, [1, 1, 1, 0, 3], 0), none, none, some (.iload_n 1, 1, [1], 0), some (.aload_n 0, 1, [0], 0), some (.getfield 15, 3, [1, 1, 1, 0, 3], 0), none, none, some (.iload_n 2, 1, [2], 0), some (.iaload, 1, [], 0), some (.iastore, 1, [], 0), some (.aload_n 0, 1, [0], 0), some (.getfield 19, 3, [1, 2, 1, 0, 4], 0), none, none, some (.iload_n 1, 1, [1], 0), some (.aload_n 0, 1, [0], 0), some (.getfield 19, 3, [1, 2, 1, 0, 4], 0), none, none, some (.iload_n 2, 1, [2], 0), some (.iaload, 1, [], 0), some (.iastore, 1, [], 0), some (.aload_n 0, 1, [0], 0), some (.getfield 22, 3, [1, 3, 1, 0, 7], 0), none, none, some (.iload_n 1, 1, [1], 0), some (.aload_n 0, 1, [0], 0), some (.getfield 22, 3, [1, 3, 1, 0, 7], 0), none, none, some (.iload_n 2, 1, [2], 0), some (.iaload, 1, [], 0), some (.iastore, 1, [], 0), some (.aload_n 0, 1, [0], 0), some (.getfield 25, 3, [1, 4, 1, 0, 10], 0), none, none, some (.iload_n 1, 1, [1], 0), some (.aload_n 0, 1, [0], 0), some (.getfield 25, 3, [1, 4, 1, 0, 10], 0), none, none, some (.iload_n 2, 1, [2], 0), some (.iaload, 1, [], 0)],
  [some (.iastore, 1, [], 0), some (.aload_n 0, 1, [0], 0), some (.iload_n 2, 1, [2], 0), some (.putfield 9, 3, [1, 0, 0, 0, 0, 0], 0), none, none, some (.return_, 1, [0, 0, 0], 0)]]
def cd_9 : List (List (Option IcM)) := [[some (.aload_n 0, 1, [0], 0), some (.getfield 19, 3, [1, 2, 1, 0, 4], 0), none, none, some (.iload_n 1, 1, [1], 0), some (.iaload, 1, [], 0), some (.iload_n 2, 1, [2], 0), some (.if_icmp .eq 16, 3, [23], 0), none, none, some (.aload_n 0, 1, [0], 0), some (.getfield 22, 3, [1, 3, 1, 0, 7], 0), none, none, some (.iload_n 1, 1, [1], 0), some (.iaload, 1, [], 0), some (.invokestatic 34, 3, [99, 1, 1, 0, 0, 0, 0, 112, 4], 0), none, none, some (.iload_n 2, 1, [2], 0), some (.if_icmp .ne 7, 3, [27], 0), none, none, some (.iconst 1, 1, [], 1), some (.goto 4, 3, [28], 0), none, none, some (.iconst 0, 1, [], 0), some (.ireturn, 1, [0, 0, 2], 0)]]
def cd_10 : List (List (Option IcM)) := [[some (.iconst 0, 1, [], 0), some (.istore_n 3, 1, [3], 0), some (.iconst 0, 1, [], 0), some (.istore 4, 2, [4], 0), none, some (.iload 4, 2, [4], 0), none, some (.aload_n 0, 1, [0], 0), some (.getfield 9, 3, [1, 0, 0, 0, 0], 0), none, none, some (.if_icmp .ge 37, 3, [48], 0), none, none, some (.aload_n 0, 1, [0], 0), some (.iload 4, 2, [4], 0), none, some (.iload_n 1, 1, [1], 0), some (.invokevirtual 38, 3, [9, 3, 2, 0, 0, 0, 0, 111, 1], 0), none, none, some (.ifCond .eq 21, 3, [42], 0), none, none, some (.iload_n 3, 1, [3], 0), some (.iload_n 2, 1, [2], 0), some (.ifCond .ne 13, 3, [39], 0), none, none, some (.aload_n 0, 1, [0], 0), some (.getfield 25, 3, [1, 4, 1, 0, 10], 0), none, none, some (.iload 4, 2, [4], 0), none, some (.iaload, 1, [], 0), some (.goto 4, 3, [40], 0), none, none, some (.iconst 1, 1, [], 1), some (.iadd, 1, [], 0), some (.istore_n 3, 1, [3], 0), some (.iinc 4 1, 3, [4], 1), none, none, some (.goto (-40), 3, [5], 0), none, none, some (.iload_n 3, 1, [3], 0), some (.ireturn, 1, [0, 0, 1], 0)]]
def cd_11 : List (List (Option IcM)) := [[some (.iconst 0, 1, [], 0), some (.istore_n 3, 1, [3], 0), some (.iconst 0, 1, [], 0), some (.istore 4, 2, [4], 0), none, some (.iload 4, 2, [4], 0), none, some (.aload_n 0, 1, [0], 0), some (.getfield 9, 3, [1, 0, 0, 0, 0], 0), none, none, some (.if_icmp .ge 38, 3, [49], 0), none, none, some (.iload_n 3, 1, [3], 0), some (.aload_n 2, 1, [2], 0), some (.arraylength, 1, [], 0), some (.if_icmp .ge 32, 3, [49], 0), none, none, some (.aload_n 0, 1, [0], 0), some (.iload 4, 2, [4], 0), none, some (.iload_n 1, 1, [1], 0), some (.invokevirtual 38, 3, [9, 3, 2, 0, 0, 0, 0, 111, 1], 0), none, none, some (.ifCond .eq 16, 3, [43], 0), none, none, some (.aload_n 2, 1, [2], 0), some (.iload_n 3, 1, [3], 0), some (.aload_n 0, 1, [0], 0), some (.getfield 25, 3, [1, 4, 1, 0, 10], 0), none, none, some (.iload 4, 2, [4], 0), none, some (.iaload, 1, [], 0), some (.iastore, 1, [], 0), some (.iinc 3 1, 3, [3], 1), none, none, some (.iinc 4 1, 3, [4], 1), none, none, some (.goto (-41), 3, [5], 0), none, none, some (.iload_n 3, 1, [3], 0), some (.ireturn, 1, [0, 0, 1], 0)]]
def cd_12 : List (List (Option IcM)) := [[some (.iconst 0, 1, [], 0), some (.istore_n 2, 1, [2], 0), some (.iconst 0, 1, [], 0), some (.istore_n 3, 1, [3], 0), some (.iload_n 3, 1, [3], 0), some (.aload_n 0, 1, [0], 0), some (.getfield 9, 3, [1, 0, 0, 0, 0], 0), none, none, some (.if_icmp .ge 31, 3, [40], 0), none, none, some (.aload_n 0, 1, [0], 0), some (.getfield 15, 3, [1, 1, 1, 0, 3], 0), none, none, some (.iload_n 3, 1, [3], 0), some (.iaload, 1, [], 0), some (.bipush 100, 2, [], 100), none, some (.idiv, 1, [], 0), some (.iload_n 1, 1, [1], 0), some (.if_icmp .ne 12, 3, [34], 0), none, none, some (.iload_n 2, 1, [2], 0), some (.aload_n 0, 1, [0], 0), some (.getfield 25, 3, [1, 4, 1, 0, 10], 0), none, none, some (.iload_n 3, 1, [3], 0), some (.iaload, 1, [], 0), some (.iadd, 1, [], 0), some (.istore_n 2, 1, [2], 0), some (.iinc 3 1, 3, [3], 1), none, none, some (.goto (-33), 3, [4], 0), none, none, some (.iload_n 2, 1, [2], 0), some (.ireturn, 1, [0, 0, 1], 0)]]
def cd_13 : List (List (Option IcM)) := [[some (.iconst (-1), 1, [], (-1)), some (.istore_n 2, 1, [2], 0), some (.iconst (-1), 1, [], (-1)), some (.istore_n 3, 1, [3], 0), some (.iconst 0, 1, [], 0), some (.istore 4, 2, [4], 0), none, some (.iload 4, 2, [4], 0), none, some (.aload_n 0, 1, [0], 0), some (.getfield 9, 3, [1, 0, 0, 0, 0], 0), none, none, some (.if_icmp .ge 80, 3, [93], 0), none, none, some (.aload_n 0, 1, [0], 0), some (.getfield 25, 3, [1, 4, 1, 0, 10], 0), none, none, some (.iload 4, 2, [4], 0), none, some (.iaload, 1, [], 0), some (.iload_n 3, 1, [3], 0), some (.if_icmp .gt 25, 3, [49], 0), none, none, some (.aload_n 0, 1, [0], 0), some (.getfield 25, 3, [1, 4, 1, 0, 10], 0), none, none, some (.iload 4, 2, [4], 0), none, some (.iaload, 1, [], 0), some (.iload_n 3, 1, [3], 0), some (.if_icmp .ne 18, 3, [53], 0), none, none, some (.aload_n 0, 1, [0], 0), some (.getfield 15, 3, [1, 1, 1, 0, 3], 0), none, none, some (.iload 4, 2, [4], 0), none, some (.iaload, 1, [], 0), some (.iload_n 2, 1, [2], 0), some (.if_icmp .ge 7, 3, [53], 0), none, none, some (.iconst 1, 1, [], 1), some (.goto 4, 3, [54], 0), none, none, some (.iconst 0, 1, [], 0), some (.istore 5, 2, [5], 0), none, some (.iload 5, 2, [5], 0), none, some (.ifCond .eq 29, 3, [87], 0), none, none, some (.aload_n 0, 1, [0], 0), some (.iload 4, 2, [4], 0), none],
  [some (.iload_n 1, 1, [1], 0), some (.invokevirtual 38, 3, [9, 3, 2, 0, 0, 0, 0, 111, 1], 0), none, none, some (.ifCond .eq 19, 3, [87], 0), none, none, some (.aload_n 0, 1, [0], 0), some (.getfield 15, 3, [1, 1, 1, 0, 3], 0), none, none, some (.iload 4, 2, [4], 0), none, some (.iaload, 1, [], 0), some (.istore_n 2, 1, [2], 0), some (.aload_n 0, 1, [0], 0), some (.getfield 25, 3, [1, 4, 1, 0, 10], 0), none, none, some (.iload 4, 2, [4], 0), none, some (.iaload, 1, [], 0), some (.istore_n 3, 1, [3], 0), some (.iinc 4 1, 3, [4], 1), none, none, some (.goto (-83), 3, [7], 0), none, none, some (.iload_n 2, 1, [2], 0), some (.ireturn, 1, [0, 0, 1], 0)]]
def cd_14 : List (List (Option IcM)) := [[some (.aload_n 0, 1, [0], 0), some (.invokespecial 3, 3, [0, 1, 9, 0, 0, 16, 375, 3], 0), none, none, some (.aload_n 0, 1, [0], 0), some (.iconst 0, 1, [], 0), some (.putfield 9, 3, [2, 0, 0, 0, 19, 0], 0), none, none, some (.aload_n 0, 1, [0], 0), some (.iconst 2, 1, [], 2), some (.newarray .int, 2, [2, 16, 375], 0), none, some (.putfield 15, 3, [2, 1, 1, 0, 21, 1], 0), none, none, some (.iconst 0, 1, [], 0), some (.istore_n 1, 1, [1], 0), some (.iload_n 1, 1, [1], 0), some (.iconst 2, 1, [], 2), some (.if_icmp .ge 17, 3, [37], 0), none, none, some (.aload_n 0, 1, [0], 0), some (.getfield 15, 3, [2, 1, 1, 0, 21], 0), none, none, some (.iload_n 1, 1, [1], 0), some (.bipush 7, 2, [], 7), none, some (.iastore, 1, [], 0), some (.iinc 1 1, 3, [1], 1), none, none, some (.goto (-16), 3, [18], 0), none, none, some (.aload_n 0, 1, [0], 0), some (.bipush 6, 2, [], 6), none, some (.newarray .boolean, 2, [3, 16, 375], 0), none, some (.putfield 19, 3, [2, 2, 1, 0, 23, 1], 0), none, none, some (.aload_n 0, 1, [0], 0), some (.bipush 18, 2, [], 18), none, some (.newarray .int, 2, [2, 16, 375], 0), none, some (.putfield 23, 3, [2, 3, 1, 0, 25, 1], 0), none, none, some (.aload_n 0, 1, [0], 0), some (.bipush 18, 2, [], 18), none, some (.newarray .int, 2, [2, 16, 375], 0), none, some (.putfield 26, 3, [2, 4, 1, 0, 27, 1], 0), none, none, some (.aload_n 0, 1, [0], 0), some (.bipush 18, 2, [], 18), none],
  [some (.newarray .int, 2, [2, 16, 375], 0), none, some (.putfield 29, 3, [2, 5, 1, 0, 29, 1], 0), none, none, some (.aload_n 0, 1, [0], 0), some (.bipush 18, 2, [], 18), none, some (.newarray .int, 2, [2, 16, 375], 0), none, some (.putfield 32, 3, [2, 6, 1, 0, 31, 1], 0), none, none, some (.iconst 0, 1, [], 0), some (.istore_n 1, 1, [1], 0), some (.iload_n 1, 1, [1], 0), some (.bipush 18, 2, [], 18), none, some (.if_icmp .ge 16, 3, [98], 0), none, none, some (.aload_n 0, 1, [0], 0), some (.getfield 32, 3, [2, 6, 1, 0, 31], 0), none, none, some (.iload_n 1, 1, [1], 0), some (.iconst (-1), 1, [], (-1)), some (.iastore, 1, [], 0), some (.iinc 1 1, 3, [1], 1), none, none, some (.goto (-16), 3, [79], 0), none, none, some (.aload_n 0, 1, [0], 0), some (.bipush 9, 2, [], 9), none, some (.newarray .int, 2, [2, 16, 375], 0), none, some (.putfield 35, 3, [2, 7, 1, 0, 33, 1], 0), none, none, some (.aload_n 0, 1, [0], 0), some (.new 38, 3, [0, 1, 5, 16, 375, 107], 0), none, none, some (.dup, 1, [], 0), some (.invokespecial 40, 3, [4, 1, 5, 4, 240, 16, 375, 4, 1], 0), none, none, some (.putfield 41, 3, [2, 8, 1, 0, 35, 1], 0), none, none, some (.aload_n 0, 1, [0], 0), some (.new 45, 3, [0, 0, 5, 16, 375, 139], 0), none, none, some (.dup, 1, [], 0), some (.invokespecial 47, 3, [0, 1, 5, 3, 36, 16, 375, 6, 0], 0), none, none, some (.putfield 48, 3, [2, 9, 1, 0, 37, 1], 0), none, none],
  [some (.return_, 1, [16, 375, 0], 0)]]
def cd_15 : List (List (Option IcM)) := [[some (.aload_n 0, 1, [0], 0), some (.aload_n 1, 1, [1], 0), some (.getfield 9, 3, [2, 0, 0, 0, 19], 0), none, none, some (.putfield 9, 3, [2, 0, 0, 0, 19, 0], 0), none, none, some (.aload_n 1, 1, [1], 0), some (.getfield 15, 3, [2, 1, 1, 0, 21], 0), none, none, some (.iconst 0, 1, [], 0), some (.aload_n 0, 1, [0], 0), some (.getfield 15, 3, [2, 1, 1, 0, 21], 0), none, none, some (.iconst 0, 1, [], 0), some (.iconst 2, 1, [], 2), some (.invokestatic 52, 3, [0, 5, 8, 0, 0, 0, 0, 40], 0), none, none, some (.iconst 0, 1, [], 0), some (.istore_n 2, 1, [2], 0), some (.iload_n 2, 1, [2], 0), some (.bipush 6, 2, [], 6), none, some (.if_icmp .ge 21, 3, [48], 0), none, none, some (.aload_n 0, 1, [0], 0), some (.getfield 19, 3, [2, 2, 1, 0, 23], 0), none, none, some (.iload_n 2, 1, [2], 0), some (.aload_n 1, 1, [1], 0), some (.getfield 19, 3, [2, 2, 1, 0, 23], 0), none, none, some (.iload_n 2, 1, [2], 0), some (.baload, 1, [], 0), some (.bastore, 1, [], 0), some (.iinc 2 1, 3, [2], 1), none, none, some (.goto (-21), 3, [24], 0), none, none, some (.aload_n 1, 1, [1], 0), some (.getfield 23, 3, [2, 3, 1, 0, 25], 0), none, none, some (.iconst 0, 1, [], 0), some (.aload_n 0, 1, [0], 0), some (.getfield 23, 3, [2, 3, 1, 0, 25], 0), none, none, some (.iconst 0, 1, [], 0), some (.bipush 18, 2, [], 18), none, some (.invokestatic 52, 3, [0, 5, 8, 0, 0, 0, 0, 40], 0), none, none, some (.aload_n 1, 1, [1], 0)],
  [some (.getfield 26, 3, [2, 4, 1, 0, 27], 0), none, none, some (.iconst 0, 1, [], 0), some (.aload_n 0, 1, [0], 0), some (.getfield 26, 3, [2, 4, 1, 0, 27], 0), none, none, some (.iconst 0, 1, [], 0), some (.bipush 18, 2, [], 18), none, some (.invokestatic 52, 3, [0, 5, 8, 0, 0, 0, 0, 40], 0), none, none, some (.aload_n 1, 1, [1], 0), some (.getfield 29, 3, [2, 5, 1, 0, 29], 0), none, none, some (.iconst 0, 1, [], 0), some (.aload_n 0, 1, [0], 0), some (.getfield 29, 3, [2, 5, 1, 0, 29], 0), none, none, some (.iconst 0, 1, [], 0), some (.bipush 18, 2, [], 18), none, some (.invokestatic 52, 3, [0, 5, 8, 0, 0, 0, 0, 40], 0), none, none, some (.aload_n 1, 1, [1], 0), some (.getfield 32, 3, [2, 6, 1, 0, 31], 0), none, none, some (.iconst 0, 1, [], 0), some (.aload_n 0, 1, [0], 0), some (.getfield 32, 3, [2, 6, 1, 0, 31], 0), none, none, some (.iconst 0, 1, [], 0), some (.bipush 18, 2, [], 18), none, some (.invokestatic 52, 3, [0, 5, 8, 0, 0, 0, 0, 40], 0), none, none, some (.aload_n 1, 1, [1], 0), some (.getfield 35, 3, [2, 7, 1, 0, 33], 0), none, none, some (.iconst 0, 1, [], 0), some (.aload_n 0, 1, [0], 0), some (.getfield 35, 3, [2, 7, 1, 0, 33], 0), none, none, some (.iconst 0, 1, [], 0), some (.bipush 9, 2, [], 9), none, some (.invokestatic 52, 3, [0, 5, 8, 0, 0, 0, 0, 40], 0), none, none, some (.aload_n 0, 1, [0], 0), some (.getfield 41, 3, [2, 8, 1, 0, 35], 0), none, none, some (.aload_n 1, 1, [1], 0)],
  [some (.getfield 41, 3, [2, 8, 1, 0, 35], 0), none, none, some (.invokevirtual 58, 3, [5, 2, 3, 0, 0, 0, 0, 41, 1], 0), none, none, some (.aload_n 0, 1, [0], 0), some (.getfield 48, 3, [2, 9, 1, 0, 37], 0), none, none, some (.aload_n 1, 1, [1], 0), some (.getfield 48, 3, [2, 9, 1, 0, 37], 0), none, none, some (.invokevirtual 62, 3, [1, 2, 3, 0, 0, 0, 0, 43, 0], 0), none, none, some (.return_, 1, [0, 0, 0], 0)]]
def cd_16 : List (List (Option IcM)) := [[some (.aload_n 0, 1, [0], 0), some (.getfield 41, 3, [2, 8, 1, 0, 35], 0), none, none, some (.getfield 66, 3, [1, 0, 0, 1, 1], 0), none, none, some (.bipush 60, 2, [], 60), none, some (.if_icmp .ge 19, 3, [28], 0), none, none, some (.aload_n 0, 1, [0], 0), some (.getfield 41, 3, [2, 8, 1, 0, 35], 0), none, none, some (.iload_n 1, 1, [1], 0), some (.invokevirtual 69, 3, [6, 2, 3, 0, 0, 0, 0, 37, 1], 0), none, none, some (.iconst (-1), 1, [], (-1)), some (.if_icmp .ne 7, 3, [28], 0), none, none, some (.iconst 1, 1, [], 1), some (.goto 4, 3, [29], 0), none, none, some (.iconst 0, 1, [], 0), some (.ireturn, 1, [0, 0, 2], 0)]]
def cd_17 : List (List (Option IcM)) := [[some (.aload_n 0, 1, [0], 0), some (.iload_n 1, 1, [1], 0), some (.iload 4, 2, [4], 0), none, some (.iconst 1, 1, [], 1), some (.iload_n 2, 1, [2], 0), some (.iload 4, 2, [4], 0), none, some (.iconst 1, 1, [], 1), some (.invokevirtual 73, 3, [23, 7, 2, 0, 0, 0, 0, 46, 2], 0), none, none, some (.istore 5, 2, [5], 0), none, some (.iload 5, 2, [5], 0), none, some (.ifCond .eq 14, 3, [30], 0), none, none, some (.aload_n 0, 1, [0], 0), some (.iload 5, 2, [5], 0), none, some (.iload_n 1, 1, [1], 0), some (.iload_n 2, 1, [2], 0), some (.invokevirtual 77, 3, [26, 4, 2, 0, 0, 0, 0, 51, 2], 0), none, none, some (.iload 5, 2, [5], 0), none, some (.ireturn, 1, [0, 0, 1], 0), some (.aload_n 0, 1, [0], 0), some (.getfield 41, 3, [2, 8, 1, 0, 35], 0), none, none, some (.iload_n 1, 1, [1], 0), some (.iload_n 2, 1, [2], 0), some (.iload_n 3, 1, [3], 0), some (.iload 4, 2, [4], 0), none, some (.invokevirtual 81, 3, [7, 5, 3, 0, 0, 0, 0, 53, 1], 0), none, none, some (.aload_n 0, 1, [0], 0), some (.iload_n 1, 1, [1], 0), some (.iload 4, 2, [4], 0), none, some (.iconst 1, 1, [], 1), some (.invokevirtual 85, 3, [22, 4, 2, 0, 0, 0, 0, 54, 2], 0), none, none, some (.aload_n 0, 1, [0], 0), some (.iload_n 2, 1, [2], 0), some (.invokestatic 88, 3, [99, 1, 1, 0, 0, 0, 0, 47, 4], 0), none, none, some (.iload 4, 2, [4], 0), none, some (.iconst 1, 1, [], 1), some (.invokevirtual 85, 3, [22, 4, 2, 0, 0, 0, 0, 54, 2], 0), none, none, some (.aload_n 0, 1, [0], 0), some (.invokevirtual 91, 3, [27, 1, 2, 0, 0, 0, 0, 55, 2], 0), none],
  [none, some (.iconst 0, 1, [], 0), some (.ireturn, 1, [0, 0, 1], 0)]]
def cd_18 : List (List (Option IcM)) := [[some (.iload_n 2, 1, [2], 0), some (.aload_n 0, 1, [0], 0), some (.getfield 41, 3, [2, 8, 1, 0, 35], 0), none, none, some (.getfield 94, 3, [1, 4, 1, 1, 11], 0), none, none, some (.iload_n 1, 1, [1], 0), some (.iaload, 1, [], 0), some (.isub, 1, [], 0), some (.istore_n 3, 1, [3], 0), some (.aload_n 0, 1, [0], 0), some (.aload_n 0, 1, [0], 0), some (.getfield 41, 3, [2, 8, 1, 0, 35], 0), none, none, some (.getfield 97, 3, [1, 2, 1, 1, 5], 0), none, none, some (.iload_n 1, 1, [1], 0), some (.iaload, 1, [], 0), some (.aload_n 0, 1, [0], 0), some (.getfield 41, 3, [2, 8, 1, 0, 35], 0), none, none, some (.getfield 100, 3, [1, 3, 1, 1, 8], 0), none, none, some (.iload_n 1, 1, [1], 0), some (.iaload, 1, [], 0), some (.iload_n 3, 1, [3], 0), some (.invokevirtual 103, 3, [19, 4, 2, 0, 0, 0, 0, 63, 2], 0), none, none, some (.istore 4, 2, [4], 0), none, some (.iload 4, 2, [4], 0), none, some (.ifCond .ne 13, 3, [52], 0), none, none, some (.aload_n 0, 1, [0], 0), some (.getfield 41, 3, [2, 8, 1, 0, 35], 0), none, none, some (.getfield 94, 3, [1, 4, 1, 1, 11], 0), none, none, some (.iload_n 1, 1, [1], 0), some (.iload_n 2, 1, [2], 0), some (.iastore, 1, [], 0), some (.iload 4, 2, [4], 0), none, some (.ireturn, 1, [0, 0, 1], 0)]]
def cd_19 : List (List (Option IcM)) := [[some (.aload_n 0, 1, [0], 0), some (.iload_n 1, 1, [1], 0), some (.iload_n 3, 1, [3], 0), some (.iconst 0, 1, [], 0), some (.iload_n 2, 1, [2], 0), some (.iload_n 3, 1, [3], 0), some (.iconst 0, 1, [], 0), some (.invokevirtual 73, 3, [23, 7, 2, 0, 0, 0, 0, 46, 2], 0), none, none, some (.istore 4, 2, [4], 0), none, some (.iload 4, 2, [4], 0), none, some (.ifCond .eq 14, 3, [28], 0), none, none, some (.aload_n 0, 1, [0], 0), some (.iload 4, 2, [4], 0), none, some (.iload_n 1, 1, [1], 0), some (.iload_n 2, 1, [2], 0), some (.invokevirtual 77, 3, [26, 4, 2, 0, 0, 0, 0, 51, 2], 0), none, none, some (.iload 4, 2, [4], 0), none, some (.ireturn, 1, [0, 0, 1], 0), some (.aload_n 0, 1, [0], 0), some (.iload_n 1, 1, [1], 0), some (.iload_n 3, 1, [3], 0), some (.iconst 0, 1, [], 0), some (.invokevirtual 85, 3, [22, 4, 2, 0, 0, 0, 0, 54, 2], 0), none, none, some (.aload_n 0, 1, [0], 0), some (.iload_n 2, 1, [2], 0), some (.invokestatic 88, 3, [99, 1, 1, 0, 0, 0, 0, 47, 4], 0), none, none, some (.iload_n 3, 1, [3], 0), some (.iconst 0, 1, [], 0), some (.invokevirtual 85, 3, [22, 4, 2, 0, 0, 0, 0, 54, 2], 0), none, none, some (.aload_n 0, 1, [0], 0), some (.invokevirtual 91, 3, [27, 1, 2, 0, 0, 0, 0, 55, 2], 0), none, none, some (.iconst 0, 1, [], 0), some (.ireturn, 1, [0, 0, 1], 0)]]
def cd_20 : List (List (Option IcM)) := [[some (.aload_n 0, 1, [0], 0), some (.getfield 41, 3, [2, 8, 1, 0, 35], 0), none, none, some (.getfield 94, 3, [1, 4, 1, 1, 11], 0), none, none, some (.iload_n 1, 1, [1], 0), some (.iaload, 1, [], 0), some (.istore_n 2, 1, [2], 0), some (.aload_n 0, 1, [0], 0), some (.aload_n 0, 1, [0], 0), some (.getfield 41, 3, [2, 8, 1, 0, 35], 0), none, none, some (.getfield 97, 3, [1, 2, 1, 1, 5], 0), none, none, some (.iload_n 1, 1, [1], 0), some (.iaload, 1, [], 0), some (.iload_n 2, 1, [2], 0), some (.ineg, 1, [], 0), some (.iconst (-1), 1, [], (-1)), some (.invokevirtual 85, 3, [22, 4, 2, 0, 0, 0, 0, 54, 2], 0), none, none, some (.aload_n 0, 1, [0], 0), some (.aload_n 0, 1, [0], 0), some (.getfield 41, 3, [2, 8, 1, 0, 35], 0), none, none, some (.getfield 100, 3, [1, 3, 1, 1, 8], 0), none, none, some (.iload_n 1, 1, [1], 0), some (.iaload, 1, [], 0), some (.invokestatic 88, 3, [99, 1, 1, 0, 0, 0, 0, 47, 4], 0), none, none, some (.iload_n 2, 1, [2], 0), some (.ineg, 1, [], 0), some (.iconst (-1), 1, [], (-1)), some (.invokevirtual 85, 3, [22, 4, 2, 0, 0, 0, 0, 54, 2], 0), none, none, some (.aload_n 0, 1, [0], 0), some (.getfield 41, 3, [2, 8, 1, 0, 35], 0), none, none, some (.iload_n 1, 1, [1], 0), some (.invokevirtual 107, 3, [8, 2, 3, 0, 0, 0, 0, 67, 1], 0), none, none, some (.aload_n 0, 1, [0], 0), some (.invokevirtual 91, 3, [27, 1, 2, 0, 0, 0, 0, 55, 2], 0), none, none, some (.iload_n 2, 1, [2], 0), some (.ireturn, 1, [0, 0, 1], 0)]]
def cd_21 : List (List (Option IcM)) := [[some (.aload_n 0, 1, [0], 0), some (.getfield 41, 3, [2, 8, 1, 0, 35], 0), none, none, some (.getfield 94, 3, [1, 4, 1, 1, 11], 0), none, none, some (.iload_n 1, 1, [1], 0), some (.iaload, 1, [], 0), some (.istore 4, 2, [4], 0), none, some (.iload_n 2, 1, [2], 0), some (.aload_n 0, 1, [0], 0), some (.getfield 41, 3, [2, 8, 1, 0, 35], 0), none, none, some (.getfield 97, 3, [1, 2, 1, 1, 5], 0), none, none, some (.iload_n 1, 1, [1], 0), some (.iaload, 1, [], 0), some (.if_icmp .ne 7, 3, [28], 0), none, none, some (.iconst 0, 1, [], 0), some (.goto 4, 3, [29], 0), none, none, some (.iconst 1, 1, [], 1), some (.istore 5, 2, [5], 0), none, some (.iload_n 3, 1, [3], 0), some (.aload_n 0, 1, [0], 0), some (.getfield 41, 3, [2, 8, 1, 0, 35], 0), none, none, some (.getfield 100, 3, [1, 3, 1, 1, 8], 0), none, none, some (.iload_n 1, 1, [1], 0), some (.iaload, 1, [], 0), some (.if_icmp .ne 7, 3, [48], 0), none, none, some (.iconst 0, 1, [], 0), some (.goto 4, 3, [49], 0), none, none, some (.iconst 1, 1, [], 1), some (.istore 6, 2, [6], 0), none, some (.iload 5, 2, [5], 0), none, some (.iload 4, 2, [4], 0), none, some (.imul, 1, [], 0), some (.istore 7, 2, [7], 0), none, some (.iload 6, 2, [6], 0), none, some (.iload 4, 2, [4], 0), none, some (.imul, 1, [], 0), some (.istore 8, 2, [8], 0)],
  [none, some (.aload_n 0, 1, [0], 0), some (.iload_n 2, 1, [2], 0), some (.iload 7, 2, [7], 0), none, some (.iload 5, 2, [5], 0), none, some (.iload_n 3, 1, [3], 0), some (.iload 8, 2, [8], 0), none, some (.iload 6, 2, [6], 0), none, some (.invokevirtual 73, 3, [23, 7, 2, 0, 0, 0, 0, 46, 2], 0), none, none, some (.istore 9, 2, [9], 0), none, some (.iload 9, 2, [9], 0), none, some (.ifCond .eq 14, 3, [97], 0), none, none, some (.aload_n 0, 1, [0], 0), some (.iload 9, 2, [9], 0), none, some (.iload_n 2, 1, [2], 0), some (.iload_n 3, 1, [3], 0), some (.invokevirtual 77, 3, [26, 4, 2, 0, 0, 0, 0, 51, 2], 0), none, none, some (.iload 9, 2, [9], 0), none, some (.ireturn, 1, [0, 0, 1], 0), some (.aload_n 0, 1, [0], 0), some (.aload_n 0, 1, [0], 0), some (.getfield 41, 3, [2, 8, 1, 0, 35], 0), none, none, some (.getfield 97, 3, [1, 2, 1, 1, 5], 0), none, none, some (.iload_n 1, 1, [1], 0), some (.iaload, 1, [], 0), some (.iload 7, 2, [7], 0), none, some (.ineg, 1, [], 0), some (.iload 5, 2, [5], 0), none, some (.ineg, 1, [], 0), some (.invokevirtual 85, 3, [22, 4, 2, 0, 0, 0, 0, 54, 2], 0), none, none, some (.aload_n 0, 1, [0], 0), some (.iload_n 2, 1, [2], 0), some (.iload 7, 2, [7], 0), none, some (.iload 5, 2, [5], 0), none, some (.invokevirtual 85, 3, [22, 4, 2, 0, 0, 0, 0, 54, 2], 0), none, none, some (.aload_n 0, 1, [0], 0), some (.aload_n 0, 1, [0], 0), some (.getfield 41, 3, [2, 8, 1, 0, 35], 0)],
  [none, none, some (.getfield 100, 3, [1, 3, 1, 1, 8], 0), none, none, some (.iload_n 1, 1, [1], 0), some (.iaload, 1, [], 0), some (.invokestatic 88, 3, [99, 1, 1, 0, 0, 0, 0, 47, 4], 0), none, none, some (.iload 8, 2, [8], 0), none, some (.ineg, 1, [], 0), some (.iload 6, 2, [6], 0), none, some (.ineg, 1, [], 0), some (.invokevirtual 85, 3, [22, 4, 2, 0, 0, 0, 0, 54, 2], 0), none, none, some (.aload_n 0, 1, [0], 0), some (.iload_n 3, 1, [3], 0), some (.invokestatic 88, 3, [99, 1, 1, 0, 0, 0, 0, 47, 4], 0), none, none, some (.iload 8, 2, [8], 0), none, some (.iload 6, 2, [6], 0), none, some (.invokevirtual 85, 3, [22, 4, 2, 0, 0, 0, 0, 54, 2], 0), none, none, some (.aload_n 0, 1, [0], 0), some (.getfield 41, 3, [2, 8, 1, 0, 35], 0), none, none, some (.getfield 97, 3, [1, 2, 1, 1, 5], 0), none, none, some (.iload_n 1, 1, [1], 0), some (.iload_n 2, 1, [2], 0), some (.iastore, 1, [], 0), some (.aload_n 0, 1, [0], 0), some (.getfield 41, 3, [2, 8, 1, 0, 35], 0), none, none, some (.getfield 100, 3, [1, 3, 1, 1, 8], 0), none, none, some (.iload_n 1, 1, [1], 0), some (.iload_n 3, 1, [3], 0), some (.iastore, 1, [], 0), some (.aload_n 0, 1, [0], 0), some (.invokevirtual 91, 3, [27, 1, 2, 0, 0, 0, 0, 55, 2], 0), none, none, some (.iconst 0, 1, [], 0), some (.ireturn, 1, [0, 0, 1], 0)]]
def cd_22 : List (List (Option IcM)) := [[some (.aload_n 0, 1, [0], 0), some (.getfield 23, 3, [2, 3, 1, 0, 25], 0), none, none, some (.iload_n 1, 1, [1], 0), some (.iconst 0, 1, [], 0), some (.invokestatic 111, 3, [98, 2, 1, 0, 0, 0, 0, 48, 4], 0), none, none, some (.dup2, 1, [], 0), some (.iaload, 1, [], 0), some (.iload_n 2, 1, [2], 0), some (.iadd, 1, [], 0), some (.iastore, 1, [], 0), some (.aload_n 0, 1, [0], 0), some (.getfield 23, 3, [2, 3, 1, 0, 25], 0), none, none, some (.iload_n 1, 1, [1], 0), some (.iconst 1, 1, [], 1), some (.invokestatic 111, 3, [98, 2, 1, 0, 0, 0, 0, 48, 4], 0), none, none, some (.dup2, 1, [], 0), some (.iaload, 1, [], 0), some (.iload_n 3, 1, [3], 0), some (.iadd, 1, [], 0), some (.iastore, 1, [], 0), some (.return_, 1, [0, 0, 0], 0)]]
def cd_23 : List (List (Option IcM)) := [[some (.aload_n 0, 1, [0], 0), some (.getfield 19, 3, [2, 2, 1, 0, 23], 0), none, none, some (.iload_n 1, 1, [1], 0), some (.baload, 1, [], 0), some (.ifCond .eq 5, 3, [11], 0), none, none, some (.iconst 0, 1, [], 0), some (.ireturn, 1, [0, 0, 1], 0), some (.iload 4, 2, [4], 0), none, some (.invokestatic 88, 3, [99, 1, 1, 0, 0, 0, 0, 47, 4], 0), none, none, some (.istore 7, 2, [7], 0), none, some (.aload_n 0, 1, [0], 0), some (.iload_n 1, 1, [1], 0), some (.iconst 0, 1, [], 0), some (.invokestatic 111, 3, [98, 2, 1, 0, 0, 0, 0, 48, 4], 0), none, none, some (.iload_n 2, 1, [2], 0), some (.invokevirtual 115, 3, [24, 3, 2, 0, 0, 0, 0, 49, 2], 0), none, none, some (.istore 8, 2, [8], 0), none, some (.iload 8, 2, [8], 0), none, some (.ifCond .eq 6, 3, [38], 0), none, none, some (.iload 8, 2, [8], 0), none, some (.ireturn, 1, [0, 0, 1], 0), some (.aload_n 0, 1, [0], 0), some (.iload_n 1, 1, [1], 0), some (.iconst 1, 1, [], 1), some (.invokestatic 111, 3, [98, 2, 1, 0, 0, 0, 0, 48, 4], 0), none, none, some (.iload_n 3, 1, [3], 0), some (.invokevirtual 115, 3, [24, 3, 2, 0, 0, 0, 0, 49, 2], 0), none, none, some (.istore 8, 2, [8], 0), none, some (.iload 8, 2, [8], 0), none, some (.ifCond .eq 8, 3, [60], 0), none, none, some (.iconst 2, 1, [], 2), some (.iload 8, 2, [8], 0), none, some (.iadd, 1, [], 0), some (.ireturn, 1, [0, 0, 1], 0), some (.aload_n 0, 1, [0], 0), some (.iload 7, 2, [7], 0), none, some (.iconst 0, 1, [], 0)],
  [some (.invokestatic 111, 3, [98, 2, 1, 0, 0, 0, 0, 48, 4], 0), none, none, some (.iload 5, 2, [5], 0), none, some (.invokevirtual 115, 3, [24, 3, 2, 0, 0, 0, 0, 49, 2], 0), none, none, some (.istore 8, 2, [8], 0), none, some (.iload 8, 2, [8], 0), none, some (.ifCond .eq 8, 3, [84], 0), none, none, some (.iconst 4, 1, [], 4), some (.iload 8, 2, [8], 0), none, some (.iadd, 1, [], 0), some (.ireturn, 1, [0, 0, 1], 0), some (.aload_n 0, 1, [0], 0), some (.iload 7, 2, [7], 0), none, some (.iconst 1, 1, [], 1), some (.invokestatic 111, 3, [98, 2, 1, 0, 0, 0, 0, 48, 4], 0), none, none, some (.iload 6, 2, [6], 0), none, some (.invokevirtual 115, 3, [24, 3, 2, 0, 0, 0, 0, 49, 2], 0), none, none, some (.istore 8, 2, [8], 0), none, some (.iload 8, 2, [8], 0), none, some (.ifCond .ne 7, 3, [107], 0), none, none, some (.iconst 0, 1, [], 0), some (.goto 8, 3, [112], 0), none, none, some (.bipush 6, 2, [], 6), none, some (.iload 8, 2, [8], 0), none, some (.iadd, 1, [], 0), some (.ireturn, 1, [0, 0, 1], 0)]]
def cd_24 : List (List (Option IcM)) := [[some (.iload_n 2, 1, [2], 0), some (.ifCond .gt 5, 3, [6], 0), none, none, some (.iconst 0, 1, [], 0), some (.ireturn, 1, [0, 0, 1], 0), some (.aload_n 0, 1, [0], 0), some (.getfield 23, 3, [2, 3, 1, 0, 25], 0), none, none, some (.iload_n 1, 1, [1], 0), some (.iaload, 1, [], 0), some (.iload_n 2, 1, [2], 0), some (.iadd, 1, [], 0), some (.istore_n 3, 1, [3], 0), some (.aload_n 0, 1, [0], 0), some (.getfield 29, 3, [2, 5, 1, 0, 29], 0), none, none, some (.iload_n 1, 1, [1], 0), some (.iaload, 1, [], 0), some (.ifCond .eq 15, 3, [36], 0), none, none, some (.iload_n 3, 1, [3], 0), some (.aload_n 0, 1, [0], 0), some (.getfield 29, 3, [2, 5, 1, 0, 29], 0), none, none, some (.iload_n 1, 1, [1], 0), some (.iaload, 1, [], 0), some (.if_icmp .le 5, 3, [36], 0), none, none, some (.iconst 1, 1, [], 1), some (.ireturn, 1, [0, 0, 1], 0), some (.aload_n 0, 1, [0], 0), some (.iload_n 1, 1, [1], 0), some (.invokevirtual 118, 3, [31, 2, 2, 0, 0, 0, 0, 50, 2], 0), none, none, some (.ifCond .eq 17, 3, [58], 0), none, none, some (.iload_n 3, 1, [3], 0), some (.aload_n 0, 1, [0], 0), some (.getfield 26, 3, [2, 4, 1, 0, 27], 0), none, none, some (.iload_n 1, 1, [1], 0), some (.iaload, 1, [], 0), some (.if_icmp .le 7, 3, [58], 0), none, none, some (.iconst 2, 1, [], 2), some (.goto 4, 3, [59], 0), none, none, some (.iconst 0, 1, [], 0), some (.ireturn, 1, [0, 0, 1], 0)]]
def cd_25 : List (List (Option IcM)) := [[some (.aload_n 0, 1, [0], 0), some (.iload_n 1, 1, [1], 0), some (.invokevirtual 118, 3, [31, 2, 2, 0, 0, 0, 0, 50, 2], 0), none, none, some (.istore_n 2, 1, [2], 0), some (.aload_n 0, 1, [0], 0), some (.getfield 29, 3, [2, 5, 1, 0, 29], 0), none, none, some (.iload_n 1, 1, [1], 0), some (.iaload, 1, [], 0), some (.ifCond .ne 10, 3, [22], 0), none, none, some (.iload_n 2, 1, [2], 0), some (.ifCond .ne 6, 3, [22], 0), none, none, some (.bipush (-2), 2, [], (-2)), none, some (.ireturn, 1, [0, 0, 1], 0), some (.ldc 122, 2, [784], 100000), none, some (.istore_n 3, 1, [3], 0), some (.aload_n 0, 1, [0], 0), some (.getfield 29, 3, [2, 5, 1, 0, 29], 0), none, none, some (.iload_n 1, 1, [1], 0), some (.iaload, 1, [], 0), some (.ifCond .eq 10, 3, [41], 0), none, none, some (.aload_n 0, 1, [0], 0), some (.getfield 29, 3, [2, 5, 1, 0, 29], 0), none, none, some (.iload_n 1, 1, [1], 0), some (.iaload, 1, [], 0), some (.istore_n 3, 1, [3], 0), some (.iload_n 2, 1, [2], 0), some (.ifCond .eq 14, 3, [56], 0), none, none, some (.iload_n 3, 1, [3], 0), some (.aload_n 0, 1, [0], 0), some (.getfield 26, 3, [2, 4, 1, 0, 27], 0), none, none, some (.iload_n 1, 1, [1], 0), some (.iaload, 1, [], 0), some (.invokestatic 123, 3, [0, 2, 7, 0, 0, 0, 0, 126], 0), none, none, some (.istore_n 3, 1, [3], 0), some (.iconst 0, 1, [], 0), some (.iload_n 3, 1, [3], 0), some (.aload_n 0, 1, [0], 0), some (.getfield 23, 3, [2, 3, 1, 0, 25], 0), none, none, some (.iload_n 1, 1, [1], 0), some (.iaload, 1, [], 0)],
  [some (.isub, 1, [], 0), some (.invokestatic 128, 3, [0, 2, 6, 0, 0, 0, 0, 127], 0), none, none, some (.ireturn, 1, [0, 0, 1], 0)]]
def cd_26 : List (List (Option IcM)) := [[some (.iload_n 1, 1, [1], 0), some (.iconst 4, 1, [], 4), some (.if_icmp .gt 7, 3, [9], 0), none, none, some (.iload_n 2, 1, [2], 0), some (.goto 7, 3, [13], 0), none, none, some (.iload_n 3, 1, [3], 0), some (.invokestatic 88, 3, [99, 1, 1, 0, 0, 0, 0, 47, 4], 0), none, none, some (.istore 4, 2, [4], 0), none, some (.iload_n 1, 1, [1], 0), some (.iconst 1, 1, [], 1), some (.isub, 1, [], 0), some (.iconst 2, 1, [], 2), some (.idiv, 1, [], 0), some (.iconst 2, 1, [], 2), some (.irem, 1, [], 0), some (.istore 5, 2, [5], 0), none, some (.aload_n 0, 1, [0], 0), some (.getfield 35, 3, [2, 7, 1, 0, 33], 0), none, none, some (.iload 4, 2, [4], 0), none, some (.dup2, 1, [], 0), some (.iaload, 1, [], 0), some (.iconst 1, 1, [], 1), some (.iadd, 1, [], 0), some (.iastore, 1, [], 0), some (.aload_n 0, 1, [0], 0), some (.getfield 48, 3, [2, 9, 1, 0, 37], 0), none, none, some (.iconst 4, 1, [], 4), some (.iload 4, 2, [4], 0), none, some (.iload 5, 2, [5], 0), none, some (.invokestatic 111, 3, [98, 2, 1, 0, 0, 0, 0, 48, 4], 0), none, none, some (.aload_n 0, 1, [0], 0), some (.getfield 9, 3, [2, 0, 0, 0, 19], 0), none, none, some (.invokevirtual 131, 3, [2, 4, 3, 0, 0, 0, 0, 52, 0], 0), none, none, some (.return_, 1, [0, 0, 0], 0)]]
def cd_27 : List (List (Option IcM)) := [[some (.iconst 0, 1, [], 0), some (.istore_n 1, 1, [1], 0), some (.iload_n 1, 1, [1], 0), some (.bipush 18, 2, [], 18), none, some (.if_icmp .ge 14, 3, [19], 0), none, none, some (.aload_n 0, 1, [0], 0), some (.iload_n 1, 1, [1], 0), some (.invokevirtual 133, 3, [28, 2, 2, 0, 0, 0, 0, 56, 2], 0), none, none, some (.iinc 1 1, 3, [1], 1), none, none, some (.goto (-14), 3, [2], 0), none, none, some (.return_, 1, [0, 0, 0], 0)]]
def cd_28 : List (List (Option IcM)) := [[some (.aload_n 0, 1, [0], 0), some (.getfield 26, 3, [2, 4, 1, 0, 27], 0), none, none, some (.iload_n 1, 1, [1], 0), some (.iaload, 1, [], 0), some (.ifCond .eq 22, 3, [28], 0), none, none, some (.aload_n 0, 1, [0], 0), some (.getfield 23, 3, [2, 3, 1, 0, 25], 0), none, none, some (.iload_n 1, 1, [1], 0), some (.iaload, 1, [], 0), some (.aload_n 0, 1, [0], 0), some (.getfield 26, 3, [2, 4, 1, 0, 27], 0), none, none, some (.iload_n 1, 1, [1], 0), some (.iaload, 1, [], 0), some (.if_icmp .le 7, 3, [28], 0), none, none, some (.iconst 1, 1, [], 1), some (.goto 4, 3, [29], 0), none, none, some (.iconst 0, 1, [], 0), some (.istore_n 2, 1, [2], 0), some (.iload_n 2, 1, [2], 0), some (.ifCond .eq 37, 3, [68], 0), none, none, some (.aload_n 0, 1, [0], 0), some (.iload_n 1, 1, [1], 0), some (.invokevirtual 136, 3, [29, 2, 2, 0, 0, 0, 0, 57, 2], 0), none, none, some (.ifCond .ne 29, 3, [68], 0), none, none, some (.aload_n 0, 1, [0], 0), some (.getfield 32, 3, [2, 6, 1, 0, 31], 0), none, none, some (.iload_n 1, 1, [1], 0), some (.aload_n 0, 1, [0], 0), some (.getfield 9, 3, [2, 0, 0, 0, 19], 0), none, none, some (.iastore, 1, [], 0), some (.aload_n 0, 1, [0], 0), some (.getfield 48, 3, [2, 9, 1, 0, 37], 0), none, none, some (.iconst 1, 1, [], 1), some (.iload_n 1, 1, [1], 0), some (.aload_n 0, 1, [0], 0), some (.getfield 9, 3, [2, 0, 0, 0, 19], 0), none, none, some (.invokevirtual 131, 3, [2, 4, 3, 0, 0, 0, 0, 52, 0], 0), none],
  [none, some (.goto 35, 3, [100], 0), none, none, some (.iload_n 2, 1, [2], 0), some (.ifCond .ne 31, 3, [100], 0), none, none, some (.aload_n 0, 1, [0], 0), some (.iload_n 1, 1, [1], 0), some (.invokevirtual 136, 3, [29, 2, 2, 0, 0, 0, 0, 57, 2], 0), none, none, some (.ifCond .eq 23, 3, [100], 0), none, none, some (.aload_n 0, 1, [0], 0), some (.getfield 32, 3, [2, 6, 1, 0, 31], 0), none, none, some (.iload_n 1, 1, [1], 0), some (.iconst (-1), 1, [], (-1)), some (.iastore, 1, [], 0), some (.aload_n 0, 1, [0], 0), some (.getfield 48, 3, [2, 9, 1, 0, 37], 0), none, none, some (.iconst 2, 1, [], 2), some (.iload_n 1, 1, [1], 0), some (.aload_n 0, 1, [0], 0), some (.getfield 9, 3, [2, 0, 0, 0, 19], 0), none, none, some (.invokevirtual 131, 3, [2, 4, 3, 0, 0, 0, 0, 52, 0], 0), none, none, some (.return_, 1, [0, 0, 0], 0)]]
def cd_29 : List (List (Option IcM)) := [[some (.aload_n 0, 1, [0], 0), some (.getfield 32, 3, [2, 6, 1, 0, 31], 0), none, none, some (.iload_n 1, 1, [1], 0), some (.iaload, 1, [], 0), some (.iconst (-1), 1, [], (-1)), some (.if_icmp .eq 7, 3, [14], 0), none, none, some (.iconst 1, 1, [], 1), some (.goto 4, 3, [15], 0), none, none, some (.iconst 0, 1, [], 0), some (.ireturn, 1, [0, 0, 2], 0)]]
def cd_30 : List (List (Option IcM)) := [[some (.aload_n 0, 1, [0], 0), some (.getfield 9, 3, [2, 0, 0, 0, 19], 0), none, none, some (.aload_n 0, 1, [0], 0), some (.getfield 32, 3, [2, 6, 1, 0, 31], 0), none, none, some (.iload_n 1, 1, [1], 0), some (.iaload, 1, [], 0), some (.isub, 1, [], 0), some (.ireturn, 1, [0, 0, 1], 0)]]
def cd_31 : List (List (Option IcM)) := [[some (.aload_n 0, 1, [0], 0), some (.getfield 32, 3, [2, 6, 1, 0, 31], 0), none, none, some (.iload_n 1, 1, [1], 0), some (.iaload, 1, [], 0), some (.iconst (-1), 1, [], (-1)), some (.if_icmp .eq 29, 3, [36], 0), none, none, some (.aload_n 0, 1, [0], 0), some (.getfield 9, 3, [2, 0, 0, 0, 19], 0), none, none, some (.aload_n 0, 1, [0], 0), some (.getfield 32, 3, [2, 6, 1, 0, 31], 0), none, none, some (.iload_n 1, 1, [1], 0), some (.iaload, 1, [], 0), some (.isub, 1, [], 0), some (.aload_n 0, 1, [0], 0), some (.getfield 15, 3, [2, 1, 1, 0, 21], 0), none, none, some (.iload_n 1, 1, [1], 0), some (.iconst 2, 1, [], 2), some (.irem, 1, [], 0), some (.iaload, 1, [], 0), some (.if_icmp .lt 7, 3, [36], 0), none, none, some (.iconst 1, 1, [], 1), some (.goto 4, 3, [37], 0), none, none, some (.iconst 0, 1, [], 0), some (.ireturn, 1, [0, 0, 2], 0)]]
def cd_32 : List (List (Option IcM)) := [[some (.aload_n 0, 1, [0], 0), some (.getfield 9, 3, [2, 0, 0, 0, 19], 0), none, none, some (.iload_n 1, 1, [1], 0), some (.iadd, 1, [], 0), some (.sipush 10000, 3, [], 10000), none, none, some (.if_icmp .gt 7, 3, [16], 0), none, none, some (.iconst 1, 1, [], 1), some (.goto 4, 3, [17], 0), none, none, some (.iconst 0, 1, [], 0), some (.ireturn, 1, [0, 0, 2], 0)]]
def cd_33 : List (List (Option IcM)) := [[some (.iconst 0, 1, [], 0), some (.istore_n 2, 1, [2], 0), some (.iconst 0, 1, [], 0), some (.istore_n 3, 1, [3], 0), some (.iload_n 3, 1, [3], 0), some (.iload_n 1, 1, [1], 0), some (.if_icmp .ge 26, 3, [32], 0), none, none, some (.aload_n 0, 1, [0], 0), some (.dup, 1, [], 0), some (.getfield 9, 3, [2, 0, 0, 0, 19], 0), none, none, some (.iconst 1, 1, [], 1), some (.iadd, 1, [], 0), some (.putfield 9, 3, [2, 0, 0, 0, 19, 0], 0), none, none, some (.iload_n 2, 1, [2], 0), some (.aload_n 0, 1, [0], 0), some (.invokevirtual 139, 3, [34, 1, 2, 0, 0, 0, 0, 90, 2], 0), none, none, some (.iadd, 1, [], 0), some (.istore_n 2, 1, [2], 0), some (.iinc 3 1, 3, [3], 1), none, none, some (.goto (-25), 3, [4], 0), none, none, some (.iload_n 2, 1, [2], 0), some (.ireturn, 1, [0, 0, 1], 0)]]
def cd_34 : List (List (Option IcM)) := [[some (.iconst 0, 1, [], 0), some (.istore_n 1, 1, [1], 0), some (.iconst 0, 1, [], 0), some (.istore_n 2, 1, [2], 0), some (.iload_n 2, 1, [2], 0), some (.bipush 18, 2, [], 18), none, some (.if_icmp .ge 49, 3, [56], 0), none, none, some (.aload_n 0, 1, [0], 0), some (.iload_n 2, 1, [2], 0), some (.invokevirtual 136, 3, [29, 2, 2, 0, 0, 0, 0, 57, 2], 0), none, none, some (.ifCond .eq 35, 3, [50], 0), none, none, some (.aload_n 0, 1, [0], 0), some (.iload_n 2, 1, [2], 0), some (.invokevirtual 143, 3, [30, 2, 2, 0, 0, 0, 0, 91, 2], 0), none, none, some (.aload_n 0, 1, [0], 0), some (.getfield 15, 3, [2, 1, 1, 0, 21], 0), none, none, some (.iload_n 2, 1, [2], 0), some (.iconst 2, 1, [], 2), some (.irem, 1, [], 0), some (.iaload, 1, [], 0), some (.if_icmp .ne 19, 3, [50], 0), none, none, some (.aload_n 0, 1, [0], 0), some (.getfield 48, 3, [2, 9, 1, 0, 37], 0), none, none, some (.iconst 3, 1, [], 3), some (.iload_n 2, 1, [2], 0), some (.aload_n 0, 1, [0], 0), some (.getfield 9, 3, [2, 0, 0, 0, 19], 0), none, none, some (.invokevirtual 131, 3, [2, 4, 3, 0, 0, 0, 0, 52, 0], 0), none, none, some (.iinc 1 1, 3, [1], 1), none, none, some (.iinc 2 1, 3, [2], 1), none, none, some (.goto (-49), 3, [4], 0), none, none, some (.iload_n 1, 1, [1], 0), some (.ireturn, 1, [0, 0, 1], 0)]]
def cd_35 : List (List (Option IcM)) := [[some (.iconst 0, 1, [], 0), some (.istore_n 1, 1, [1], 0), some (.iconst 0, 1, [], 0), some (.istore_n 2, 1, [2], 0), some (.iload_n 2, 1, [2], 0), some (.bipush 6, 2, [], 6), none, some (.if_icmp .ge 21, 3, [28], 0), none, none, some (.aload_n 0, 1, [0], 0), some (.getfield 19, 3, [2, 2, 1, 0, 23], 0), none, none, some (.iload_n 2, 1, [2], 0), some (.baload, 1, [], 0), some (.ifCond .eq 6, 3, [22], 0), none, none, some (.iinc 1 1, 3, [1], 1), none, none, some (.iinc 2 1, 3, [2], 1), none, none, some (.goto (-21), 3, [4], 0), none, none, some (.iload_n 1, 1, [1], 0), some (.ireturn, 1, [0, 0, 1], 0)]]
def cd_36 : List (List (Option IcM)) := [[some (.aload_n 0, 1, [0], 0), some (.invokespecial 3, 3, [0, 1, 9, 0, 0, 2, 105, 9], 0), none, none, some (.aload_n 0, 1, [0], 0), some (.bipush 100, 2, [], 100), none, some (.newarray .char, 2, [4, 2, 105], 0), none, some (.putfield 9, 3, [3, 0, 1, 0, 39, 1], 0), none, none, some (.aload_n 0, 1, [0], 0), some (.iconst 0, 1, [], 0), some (.putfield 15, 3, [3, 1, 0, 0, 41, 0], 0), none, none, some (.aload_n 0, 1, [0], 0), some (.iconst 0, 1, [], 0), some (.putfield 19, 3, [3, 2, 0, 0, 43, 0], 0), none, none, some (.aload_n 0, 1, [0], 0), some (.bipush 32, 2, [], 32), none, some (.putfield 22, 3, [3, 3, 2, 0, 45, 0], 0), none, none, some (.aload_n 0, 1, [0], 0), some (.iconst 5, 1, [], 5), some (.newarray .int, 2, [2, 2, 105], 0), none, some (.putfield 26, 3, [3, 4, 1, 0, 47, 1], 0), none, none, some (.return_, 1, [2, 105, 0], 0)]]
def cd_37 : List (List (Option IcM)) := [[some (.aload_n 0, 1, [0], 0), some (.iconst 0, 1, [], 0), some (.putfield 19, 3, [3, 2, 0, 0, 43, 0], 0), none, none, some (.aload_n 0, 1, [0], 0), some (.invokevirtual 30, 3, [38, 1, 2, 0, 0, 0, 0, 13, 3], 0), none, none, some (.istore_n 1, 1, [1], 0), some (.iconst 1, 1, [], 1), some (.istore_n 2, 1, [2], 0), some (.iload_n 1, 1, [1], 0), some (.ifCond .eq 48, 3, [61], 0), none, none, some (.aload_n 0, 1, [0], 0), some (.getfield 19, 3, [3, 2, 0, 0, 43], 0), none, none, some (.aload_n 0, 1, [0], 0), some (.getfield 15, 3, [3, 1, 0, 0, 41], 0), none, none, some (.if_icmp .ge 37, 3, [61], 0), none, none, some (.iload_n 2, 1, [2], 0), some (.bipush 100, 2, [], 100), none, some (.if_icmp .ge 31, 3, [61], 0), none, none, some (.aload_n 0, 1, [0], 0), some (.bipush 59, 2, [], 59), none, some (.invokevirtual 34, 3, [40, 2, 2, 0, 0, 0, 0, 15, 3], 0), none, none, some (.ifCond .eq 14, 3, [53], 0), none, none, some (.aload_n 0, 1, [0], 0), some (.invokevirtual 30, 3, [38, 1, 2, 0, 0, 0, 0, 13, 3], 0), none, none, some (.ifCond .eq 7, 3, [53], 0), none, none, some (.iconst 1, 1, [], 1), some (.goto 4, 3, [54], 0), none, none, some (.iconst 0, 1, [], 0), some (.istore_n 1, 1, [1], 0), some (.iinc 2 1, 3, [2], 1), none, none, some (.goto (-46), 3, [12], 0), none, none, some (.iload_n 1, 1, [1], 0), some (.ifCond .eq 7, 3, [69], 0), none],
  [none, some (.iconst (-1), 1, [], (-1)), some (.goto 7, 3, [73], 0), none, none, some (.aload_n 0, 1, [0], 0), some (.getfield 19, 3, [3, 2, 0, 0, 43], 0), none, none, some (.ireturn, 1, [0, 0, 1], 0)]]
def cd_38 : List (List (Option IcM)) := [[some (.aload_n 0, 1, [0], 0), some (.getfield 19, 3, [3, 2, 0, 0, 43], 0), none, none, some (.aload_n 0, 1, [0], 0), some (.getfield 15, 3, [3, 1, 0, 0, 41], 0), none, none, some (.if_icmp .lt 5, 3, [13], 0), none, none, some (.iconst 0, 1, [], 0), some (.ireturn, 1, [0, 0, 2], 0), some (.aload_n 0, 1, [0], 0), some (.aload_n 0, 1, [0], 0), some (.getfield 9, 3, [3, 0, 1, 0, 39], 0), none, none, some (.aload_n 0, 1, [0], 0), some (.getfield 19, 3, [3, 2, 0, 0, 43], 0), none, none, some (.caload, 1, [], 0), some (.putfield 22, 3, [3, 3, 2, 0, 45, 0], 0), none, none, some (.aload_n 0, 1, [0], 0), some (.getfield 22, 3, [3, 3, 2, 0, 45], 0), none, none, some (.invokestatic 38, 3, [39, 1, 0, 0, 0, 0, 0, 14, 3], 0), none, none, some (.astore_n 1, 1, [1], 0), some (.aload_n 1, 1, [1], 0), some (.arraylength, 1, [], 0), some (.ifCond .ne 5, 3, [41], 0), none, none, some (.iconst 0, 1, [], 0), some (.ireturn, 1, [0, 0, 2], 0), some (.aload_n 0, 1, [0], 0), some (.dup, 1, [], 0), some (.getfield 19, 3, [3, 2, 0, 0, 43], 0), none, none, some (.iconst 1, 1, [], 1), some (.iadd, 1, [], 0), some (.putfield 19, 3, [3, 2, 0, 0, 43, 0], 0), none, none, some (.aload_n 0, 1, [0], 0), some (.getfield 22, 3, [3, 3, 2, 0, 45], 0), none, none, some (.bipush 110, 2, [], 110), none, some (.if_icmp .ne 7, 3, [64], 0), none, none, some (.iconst 1, 1, [], 1), some (.goto 4, 3, [65], 0), none, none],
  [some (.iconst 0, 1, [], 0), some (.istore_n 2, 1, [2], 0), some (.iconst 0, 1, [], 0), some (.istore_n 3, 1, [3], 0), some (.iload_n 3, 1, [3], 0), some (.aload_n 1, 1, [1], 0), some (.arraylength, 1, [], 0), some (.if_icmp .ge 55, 3, [126], 0), none, none, some (.iload_n 3, 1, [3], 0), some (.iconst 5, 1, [], 5), some (.if_icmp .ge 50, 3, [126], 0), none, none, some (.iload_n 3, 1, [3], 0), some (.ifCond .le 14, 3, [94], 0), none, none, some (.aload_n 0, 1, [0], 0), some (.bipush 44, 2, [], 44), none, some (.invokevirtual 34, 3, [40, 2, 2, 0, 0, 0, 0, 15, 3], 0), none, none, some (.ifCond .ne 5, 3, [94], 0), none, none, some (.iconst 0, 1, [], 0), some (.ireturn, 1, [0, 0, 2], 0), some (.aload_n 0, 1, [0], 0), some (.getfield 26, 3, [3, 4, 1, 0, 47], 0), none, none, some (.iload_n 3, 1, [3], 0), some (.aload_n 0, 1, [0], 0), some (.iload_n 2, 1, [2], 0), some (.aload_n 1, 1, [1], 0), some (.iload_n 3, 1, [3], 0), some (.iaload, 1, [], 0), some (.invokevirtual 42, 3, [41, 3, 2, 0, 0, 0, 0, 16, 3], 0), none, none, some (.iastore, 1, [], 0), some (.aload_n 0, 1, [0], 0), some (.getfield 26, 3, [3, 4, 1, 0, 47], 0), none, none, some (.iload_n 3, 1, [3], 0), some (.iaload, 1, [], 0), some (.iconst (-1), 1, [], (-1)), some (.if_icmp .ne 5, 3, [120], 0), none, none, some (.iconst 0, 1, [], 0), some (.ireturn, 1, [0, 0, 2], 0), some (.iinc 3 1, 3, [3], 1), none, none, some (.goto (-55), 3, [68], 0), none, none, some (.iconst 1, 1, [], 1), some (.ireturn, 1, [0, 0, 2], 0)]]
def cd_39 : List (List (Option IcM)) := [[some (.iload_n 0, 1, [0], 0), some (.lookupswitch 71 #[(99, 51), (100, 59), (109, 63), (110, 67), (114, 55)], 51, [72, 99, 52, 100, 60, 109, 64, 110, 68, 114, 56], 0), none, none, none, none, none, none, none, none, none, none, none, none, none, none, none, none, none, none, none, none, none, none, none, none, none, none, none, none, none, none, none, none, none, none, none, none, none, none, none, none, none, none, none, none, none, none, none, none, none, none, some (.getstatic 46, 3, [2, 276], 0), none, none, some (.areturn, 1, [0, 0, 1], 0), some (.getstatic 49, 3, [3, 278], 0), none, none, some (.areturn, 1, [0, 0, 1], 0), some (.getstatic 52, 3, [4, 280], 0), none, none, some (.areturn, 1, [0, 0, 1], 0)],
  [some (.getstatic 55, 3, [5, 282], 0), none, none, some (.areturn, 1, [0, 0, 1], 0), some (.getstatic 58, 3, [6, 284], 0), none, none, some (.areturn, 1, [0, 0, 1], 0), some (.getstatic 61, 3, [7, 286], 0), none, none, some (.areturn, 1, [0, 0, 1], 0)]]
def cd_40 : List (List (Option IcM)) := [[some (.aload_n 0, 1, [0], 0), some (.getfield 19, 3, [3, 2, 0, 0, 43], 0), none, none, some (.aload_n 0, 1, [0], 0), some (.getfield 15, 3, [3, 1, 0, 0, 41], 0), none, none, some (.if_icmp .ge 16, 3, [24], 0), none, none, some (.aload_n 0, 1, [0], 0), some (.getfield 9, 3, [3, 0, 1, 0, 39], 0), none, none, some (.aload_n 0, 1, [0], 0), some (.getfield 19, 3, [3, 2, 0, 0, 43], 0), none, none, some (.caload, 1, [], 0), some (.iload_n 1, 1, [1], 0), some (.if_icmp .eq 5, 3, [26], 0), none, none, some (.iconst 0, 1, [], 0), some (.ireturn, 1, [0, 0, 2], 0), some (.aload_n 0, 1, [0], 0), some (.dup, 1, [], 0), some (.getfield 19, 3, [3, 2, 0, 0, 43], 0), none, none, some (.iconst 1, 1, [], 1), some (.iadd, 1, [], 0), some (.putfield 19, 3, [3, 2, 0, 0, 43, 0], 0), none, none, some (.iconst 1, 1, [], 1), some (.ireturn, 1, [0, 0, 2], 0)]]
def cd_41 : List (List (Option IcM)) := [[some (.aload_n 0, 1, [0], 0), some (.invokevirtual 64, 3, [43, 1, 2, 0, 0, 0, 0, 17, 3], 0), none, none, some (.istore_n 3, 1, [3], 0), some (.iload_n 3, 1, [3], 0), some (.iload_n 1, 1, [1], 0), some (.if_icmp .lt 8, 3, [15], 0), none, none, some (.iload_n 3, 1, [3], 0), some (.iload_n 2, 1, [2], 0), some (.if_icmp .le 5, 3, [17], 0), none, none, some (.iconst (-1), 1, [], (-1)), some (.ireturn, 1, [0, 0, 1], 0), some (.aload_n 0, 1, [0], 0), some (.dup, 1, [], 0), some (.getfield 19, 3, [3, 2, 0, 0, 43], 0), none, none, some (.iconst 1, 1, [], 1), some (.iadd, 1, [], 0), some (.putfield 19, 3, [3, 2, 0, 0, 43, 0], 0), none, none, some (.aload_n 0, 1, [0], 0), some (.getfield 19, 3, [3, 2, 0, 0, 43], 0), none, none, some (.aload_n 0, 1, [0], 0), some (.getfield 15, 3, [3, 1, 0, 0, 41], 0), none, none, some (.if_icmp .ge 43, 3, [78], 0), none, none, some (.aload_n 0, 1, [0], 0), some (.invokevirtual 64, 3, [43, 1, 2, 0, 0, 0, 0, 17, 3], 0), none, none, some (.iconst (-1), 1, [], (-1)), some (.if_icmp .eq 35, 3, [78], 0), none, none, some (.aload_n 0, 1, [0], 0), some (.iload_n 3, 1, [3], 0), some (.iload_n 2, 1, [2], 0), some (.invokevirtual 68, 3, [42, 3, 2, 0, 0, 0, 0, 18, 3], 0), none, none, some (.ifCond .eq 26, 3, [78], 0), none, none, some (.iload_n 3, 1, [3], 0), some (.bipush 10, 2, [], 10), none, some (.imul, 1, [], 0), some (.aload_n 0, 1, [0], 0), some (.invokevirtual 64, 3, [43, 1, 2, 0, 0, 0, 0, 17, 3], 0), none, none, some (.iadd, 1, [], 0)],
  [some (.istore_n 3, 1, [3], 0), some (.aload_n 0, 1, [0], 0), some (.dup, 1, [], 0), some (.getfield 19, 3, [3, 2, 0, 0, 43], 0), none, none, some (.iconst 1, 1, [], 1), some (.iadd, 1, [], 0), some (.putfield 19, 3, [3, 2, 0, 0, 43, 0], 0), none, none, some (.goto (-48), 3, [27], 0), none, none, some (.iload_n 3, 1, [3], 0), some (.ireturn, 1, [0, 0, 1], 0)]]
def cd_42 : List (List (Option IcM)) := [[some (.iload_n 1, 1, [1], 0), some (.ifCond .eq 20, 3, [21], 0), none, none, some (.iload_n 1, 1, [1], 0), some (.bipush 10, 2, [], 10), none, some (.imul, 1, [], 0), some (.aload_n 0, 1, [0], 0), some (.invokevirtual 64, 3, [43, 1, 2, 0, 0, 0, 0, 17, 3], 0), none, none, some (.iadd, 1, [], 0), some (.iload_n 2, 1, [2], 0), some (.if_icmp .gt 7, 3, [21], 0), none, none, some (.iconst 1, 1, [], 1), some (.goto 4, 3, [22], 0), none, none, some (.iconst 0, 1, [], 0), some (.ireturn, 1, [0, 0, 2], 0)]]
def cd_43 : List (List (Option IcM)) := [[some (.aload_n 0, 1, [0], 0), some (.getfield 19, 3, [3, 2, 0, 0, 43], 0), none, none, some (.aload_n 0, 1, [0], 0), some (.getfield 15, 3, [3, 1, 0, 0, 41], 0), none, none, some (.if_icmp .lt 5, 3, [13], 0), none, none, some (.iconst (-1), 1, [], (-1)), some (.ireturn, 1, [0, 0, 1], 0), some (.aload_n 0, 1, [0], 0), some (.getfield 9, 3, [3, 0, 1, 0, 39], 0), none, none, some (.aload_n 0, 1, [0], 0), some (.getfield 19, 3, [3, 2, 0, 0, 43], 0), none, none, some (.caload, 1, [], 0), some (.istore_n 1, 1, [1], 0), some (.iload_n 1, 1, [1], 0), some (.bipush 48, 2, [], 48), none, some (.if_icmp .lt 16, 3, [42], 0), none, none, some (.iload_n 1, 1, [1], 0), some (.bipush 57, 2, [], 57), none, some (.if_icmp .gt 10, 3, [42], 0), none, none, some (.iload_n 1, 1, [1], 0), some (.bipush 48, 2, [], 48), none, some (.isub, 1, [], 0), some (.goto 4, 3, [43], 0), none, none, some (.iconst (-1), 1, [], (-1)), some (.ireturn, 1, [0, 0, 1], 0)]]
def cd_44 : List (List (Option IcM)) := [[some (.aload_n 0, 1, [0], 0), some (.invokespecial 3, 3, [0, 1, 9, 0, 0, 177, 4030, 1], 0), none, none, some (.aload_n 0, 1, [0], 0), some (.new 9, 3, [0, 2, 10, 177, 4030, 101], 0), none, none, some (.dup, 1, [], 0), some (.invokespecial 11, 3, [14, 1, 5, 16, 375, 177, 4030, 2, 2], 0), none, none, some (.putfield 12, 3, [4, 0, 1, 0, 49, 1], 0), none, none, some (.aload_n 0, 1, [0], 0), some (.new 9, 3, [0, 2, 10, 177, 4030, 101], 0), none, none, some (.dup, 1, [], 0), some (.invokespecial 11, 3, [14, 1, 5, 16, 375, 177, 4030, 2, 2], 0), none, none, some (.putfield 16, 3, [4, 1, 1, 0, 50, 1], 0), none, none, some (.aload_n 0, 1, [0], 0), some (.bipush 6, 2, [], 6), none, some (.anewarray 9, 3, [6, 177, 4030, 101], 0), none, none, some (.putfield 19, 3, [4, 2, 1, 0, 51, 1], 0), none, none, some (.iconst 0, 1, [], 0), some (.istore_n 1, 1, [1], 0), some (.iload_n 1, 1, [1], 0), some (.bipush 6, 2, [], 6), none, some (.if_icmp .ge 22, 3, [62], 0), none, none, some (.aload_n 0, 1, [0], 0), some (.getfield 19, 3, [4, 2, 1, 0, 51], 0), none, none, some (.iload_n 1, 1, [1], 0), some (.new 9, 3, [0, 2, 10, 177, 4030, 101], 0), none, none, some (.dup, 1, [], 0), some (.invokespecial 11, 3, [14, 1, 5, 16, 375, 177, 4030, 2, 2], 0), none, none, some (.aastore, 1, [], 0), some (.iinc 1 1, 3, [1], 1), none, none, some (.goto (-22), 3, [37], 0), none, none, some (.aload_n 0, 1, [0], 0), some (.iconst 0, 1, [], 0)],
  [some (.putfield 23, 3, [4, 3, 0, 0, 52, 0], 0), none, none, some (.aload_n 0, 1, [0], 0), some (.iconst 2, 1, [], 2), some (.anewarray 9, 3, [6, 177, 4030, 101], 0), none, none, some (.putfield 27, 3, [4, 4, 1, 0, 53, 1], 0), none, none, some (.iconst 0, 1, [], 0), some (.istore_n 1, 1, [1], 0), some (.iload_n 1, 1, [1], 0), some (.iconst 2, 1, [], 2), some (.if_icmp .ge 22, 3, [101], 0), none, none, some (.aload_n 0, 1, [0], 0), some (.getfield 27, 3, [4, 4, 1, 0, 53], 0), none, none, some (.iload_n 1, 1, [1], 0), some (.new 9, 3, [0, 2, 10, 177, 4030, 101], 0), none, none, some (.dup, 1, [], 0), some (.invokespecial 11, 3, [14, 1, 5, 16, 375, 177, 4030, 2, 2], 0), none, none, some (.aastore, 1, [], 0), some (.iinc 1 1, 3, [1], 1), none, none, some (.goto (-21), 3, [77], 0), none, none, some (.aload_n 0, 1, [0], 0), some (.iconst 2, 1, [], 2), some (.newarray .boolean, 2, [3, 177, 4030], 0), none, some (.putfield 30, 3, [4, 5, 1, 0, 54, 1], 0), none, none, some (.aload_n 0, 1, [0], 0), some (.new 34, 3, [0, 3, 5, 177, 4030, 204], 0), none, none, some (.dup, 1, [], 0), some (.invokespecial 36, 3, [36, 1, 5, 2, 105, 177, 4030, 8, 3], 0), none, none, some (.putfield 37, 3, [4, 6, 1, 0, 55, 1], 0), none, none, some (.aload_n 0, 1, [0], 0), some (.bipush 60, 2, [], 60), none, some (.newarray .int, 2, [2, 177, 4030], 0), none, some (.putfield 41, 3, [4, 7, 1, 0, 56, 1], 0), none, none, some (.return_, 1, [177, 4030, 0], 0)]]
def cd_45 : List (List (Option IcM)) := [[some (.iload_n 1, 1, [1], 0), some (.invokestatic 45, 3, [87, 1, 0, 1, 6, 6, 36, 30, 4], 0), none, none, some (.iload_n 2, 1, [2], 0), some (.invokestatic 49, 3, [88, 1, 0, 1, 6, 6, 36, 31, 4], 0), none, none, some (.iload_n 3, 1, [3], 0), some (.iload 4, 2, [4], 0), none, some (.invokestatic 52, 3, [93, 2, 0, 2, 12, 6, 36, 32, 4], 0), none, none, some (.istore 6, 2, [6], 0), none, some (.iload 5, 2, [5], 0), none, some (.invokestatic 56, 3, [94, 1, 0, 1, 6, 6, 36, 35, 4], 0), none, none, some (.aload_n 0, 1, [0], 0), some (.getfield 12, 3, [4, 0, 1, 0, 49], 0), none, none, some (.iload 6, 2, [6], 0), none, some (.invokevirtual 59, 3, [16, 2, 3, 0, 0, 6, 36, 36, 2], 0), none, none, some (.ifCond .ne 13, 3, [43], 0), none, none, some (.new 63, 3, [3, 0, 0, 6, 36, 463, 65, 67, 2, 472], 0), none, none, none, none, none, none, none, none, none, some (.aload_n 0, 1, [0], 0), some (.invokevirtual 70, 3, [101, 1, 2, 0, 0, 6, 36, 38, 4], 0), none, none, some (.aload_n 0, 1, [0], 0), some (.getfield 12, 3, [4, 0, 1, 0, 49], 0), none, none, some (.iload_n 1, 1, [1], 0), some (.iload_n 2, 1, [2], 0), some (.iload 6, 2, [6], 0), none, some (.iload 5, 2, [5], 0), none, some (.invokevirtual 73, 3, [17, 5, 3, 0, 0, 6, 36, 45, 2], 0), none, none, some (.ireturn, 1, [6, 36, 1], 0)]]
def cd_46 : List (List (Option IcM)) := [[some (.iload_n 1, 1, [1], 0), some (.iload_n 2, 1, [2], 0), some (.invokestatic 52, 3, [93, 2, 0, 2, 12, 4, 24, 32, 4], 0), none, none, some (.istore 4, 2, [4], 0), none, some (.iload_n 3, 1, [3], 0), some (.invokestatic 56, 3, [94, 1, 0, 1, 6, 4, 24, 35, 4], 0), none, none, some (.aload_n 0, 1, [0], 0), some (.iload 4, 2, [4], 0), none, some (.invokevirtual 77, 3, [97, 2, 2, 1, 6, 4, 24, 60, 4], 0), none, none, some (.istore 5, 2, [5], 0), none, some (.aload_n 0, 1, [0], 0), some (.invokevirtual 70, 3, [101, 1, 2, 0, 0, 4, 24, 38, 4], 0), none, none, some (.aload_n 0, 1, [0], 0), some (.getfield 12, 3, [4, 0, 1, 0, 49], 0), none, none, some (.iload 5, 2, [5], 0), none, some (.iload_n 3, 1, [3], 0), some (.invokevirtual 81, 3, [18, 3, 3, 0, 0, 4, 24, 62, 2], 0), none, none, some (.ireturn, 1, [4, 24, 1], 0)]]
def cd_47 : List (List (Option IcM)) := [[some (.iload_n 1, 1, [1], 0), some (.iload_n 2, 1, [2], 0), some (.invokestatic 52, 3, [93, 2, 0, 2, 12, 3, 18, 32, 4], 0), none, none, some (.istore_n 3, 1, [3], 0), some (.aload_n 0, 1, [0], 0), some (.iload_n 3, 1, [3], 0), some (.invokevirtual 77, 3, [97, 2, 2, 1, 6, 3, 18, 60, 4], 0), none, none, some (.istore 4, 2, [4], 0), none, some (.aload_n 0, 1, [0], 0), some (.invokevirtual 70, 3, [101, 1, 2, 0, 0, 3, 18, 38, 4], 0), none, none, some (.aload_n 0, 1, [0], 0), some (.getfield 12, 3, [4, 0, 1, 0, 49], 0), none, none, some (.iload 4, 2, [4], 0), none, some (.invokevirtual 84, 3, [20, 2, 3, 0, 0, 3, 18, 66, 2], 0), none, none, some (.ireturn, 1, [3, 18, 1], 0)]]
def cd_48 : List (List (Option IcM)) := [[some (.iload_n 1, 1, [1], 0), some (.iload_n 2, 1, [2], 0), some (.invokestatic 52, 3, [93, 2, 0, 2, 12, 5, 30, 32, 4], 0), none, none, some (.istore 5, 2, [5], 0), none, some (.iload_n 3, 1, [3], 0), some (.invokestatic 45, 3, [87, 1, 0, 1, 6, 5, 30, 30, 4], 0), none, none, some (.iload 4, 2, [4], 0), none, some (.invokestatic 49, 3, [88, 1, 0, 1, 6, 5, 30, 31, 4], 0), none, none, some (.aload_n 0, 1, [0], 0), some (.iload 5, 2, [5], 0), none, some (.invokevirtual 77, 3, [97, 2, 2, 1, 6, 5, 30, 60, 4], 0), none, none, some (.istore 6, 2, [6], 0), none, some (.aload_n 0, 1, [0], 0), some (.invokevirtual 70, 3, [101, 1, 2, 0, 0, 5, 30, 38, 4], 0), none, none, some (.aload_n 0, 1, [0], 0), some (.getfield 12, 3, [4, 0, 1, 0, 49], 0), none, none, some (.iload 6, 2, [6], 0), none, some (.iload_n 3, 1, [3], 0), some (.iload 4, 2, [4], 0), none, some (.invokevirtual 87, 3, [21, 4, 3, 0, 0, 5, 30, 70, 2], 0), none, none, some (.ireturn, 1, [5, 30, 1], 0)]]
def cd_49 : List (List (Option IcM)) := [[some (.iload_n 1, 1, [1], 0), some (.iload_n 2, 1, [2], 0), some (.invokestatic 91, 3, [91, 2, 0, 2, 12, 4, 24, 73, 4], 0), none, none, some (.istore 5, 2, [5], 0), none, some (.iload_n 3, 1, [3], 0), some (.iload 4, 2, [4], 0), none, some (.invokestatic 94, 3, [95, 2, 0, 2, 12, 4, 24, 77, 4], 0), none, none, some (.aload_n 0, 1, [0], 0), some (.invokevirtual 70, 3, [101, 1, 2, 0, 0, 4, 24, 38, 4], 0), none, none, some (.aload_n 0, 1, [0], 0), some (.getfield 12, 3, [4, 0, 1, 0, 49], 0), none, none, some (.getfield 98, 3, [2, 4, 1, 1, 28], 0), none, none, some (.iload 5, 2, [5], 0), none, some (.iload_n 3, 1, [3], 0), some (.iastore, 1, [], 0), some (.aload_n 0, 1, [0], 0), some (.getfield 12, 3, [4, 0, 1, 0, 49], 0), none, none, some (.getfield 101, 3, [2, 5, 1, 1, 30], 0), none, none, some (.iload 5, 2, [5], 0), none, some (.iload 4, 2, [4], 0), none, some (.iastore, 1, [], 0), some (.aload_n 0, 1, [0], 0), some (.getfield 12, 3, [4, 0, 1, 0, 49], 0), none, none, some (.iload 5, 2, [5], 0), none, some (.invokevirtual 104, 3, [28, 2, 3, 0, 0, 4, 24, 78, 2], 0), none, none, some (.aload_n 0, 1, [0], 0), some (.getfield 12, 3, [4, 0, 1, 0, 49], 0), none, none, some (.getfield 107, 3, [2, 3, 1, 1, 26], 0), none, none, some (.iload 5, 2, [5], 0), none, some (.iaload, 1, [], 0), some (.ireturn, 1, [4, 24, 1], 0)]]
def cd_50 : List (List (Option IcM)) := [[some (.iload_n 1, 1, [1], 0), some (.invokestatic 110, 3, [90, 1, 0, 1, 6, 2, 12, 75, 4], 0), none, none, some (.iload_n 2, 1, [2], 0), some (.iconst 1, 1, [], 1), some (.if_icmp .lt 9, 3, [15], 0), none, none, some (.iload_n 2, 1, [2], 0), some (.bipush 60, 2, [], 60), none, some (.if_icmp .le 13, 3, [25], 0), none, none, some (.new 113, 3, [2, 0, 0, 2, 12, 439, 115, 117, 2, 624], 0), none, none, none, none, none, none, none, none, none, some (.aload_n 0, 1, [0], 0), some (.invokevirtual 70, 3, [101, 1, 2, 0, 0, 2, 12, 38, 4], 0), none, none, some (.aload_n 0, 1, [0], 0), some (.getfield 12, 3, [4, 0, 1, 0, 49], 0), none, none, some (.getfield 118, 3, [2, 1, 1, 1, 22], 0), none, none, some (.iload_n 1, 1, [1], 0), some (.iaload, 1, [], 0), some (.istore_n 3, 1, [3], 0), some (.aload_n 0, 1, [0], 0), some (.getfield 12, 3, [4, 0, 1, 0, 49], 0), none, none, some (.getfield 118, 3, [2, 1, 1, 1, 22], 0), none, none, some (.iload_n 1, 1, [1], 0), some (.iload_n 2, 1, [2], 0), some (.iastore, 1, [], 0), some (.iload_n 3, 1, [3], 0), some (.ireturn, 1, [2, 12, 1], 0)]]
def cd_51 : List (List (Option IcM)) := [[some (.iload_n 1, 1, [1], 0), some (.iload_n 2, 1, [2], 0), some (.invokestatic 91, 3, [91, 2, 0, 2, 12, 3, 18, 73, 4], 0), none, none, some (.istore_n 3, 1, [3], 0), some (.aload_n 0, 1, [0], 0), some (.getfield 12, 3, [4, 0, 1, 0, 49], 0), none, none, some (.iload_n 3, 1, [3], 0), some (.invokevirtual 121, 3, [29, 2, 3, 0, 0, 3, 18, 22, 2], 0), none, none, some (.ifCond .ne 13, 3, [27], 0), none, none, some (.new 63, 3, [3, 0, 0, 3, 18, 463, 124, 67, 2, 632], 0), none, none, none, none, none, none, none, none, none, some (.aload_n 0, 1, [0], 0), some (.invokevirtual 70, 3, [101, 1, 2, 0, 0, 3, 18, 38, 4], 0), none, none, some (.aload_n 0, 1, [0], 0), some (.getfield 12, 3, [4, 0, 1, 0, 49], 0), none, none, some (.getfield 126, 3, [2, 6, 1, 1, 32], 0), none, none, some (.iload_n 3, 1, [3], 0), some (.iaload, 1, [], 0), some (.istore 4, 2, [4], 0), none, some (.aload_n 0, 1, [0], 0), some (.getfield 12, 3, [4, 0, 1, 0, 49], 0), none, none, some (.getfield 126, 3, [2, 6, 1, 1, 32], 0), none, none, some (.iload_n 3, 1, [3], 0), some (.aload_n 0, 1, [0], 0), some (.getfield 12, 3, [4, 0, 1, 0, 49], 0), none, none, some (.getfield 129, 3, [2, 0, 0, 1, 20], 0), none, none, some (.iastore, 1, [], 0), some (.iload 4, 2, [4], 0), none, some (.ireturn, 1, [3, 18, 1], 0)]]
def cd_52 : List (List (Option IcM)) := [[some (.iload_n 1, 1, [1], 0), some (.invokestatic 45, 3, [87, 1, 0, 1, 6, 1, 6, 30, 4], 0), none, none, some (.aload_n 0, 1, [0], 0), some (.invokevirtual 70, 3, [101, 1, 2, 0, 0, 1, 6, 38, 4], 0), none, none, some (.aload_n 0, 1, [0], 0), some (.getfield 12, 3, [4, 0, 1, 0, 49], 0), none, none, some (.getfield 132, 3, [2, 2, 1, 1, 24], 0), none, none, some (.iload_n 1, 1, [1], 0), some (.iload_n 2, 1, [2], 0), some (.bastore, 1, [], 0), some (.aload_n 0, 1, [0], 0), some (.getfield 12, 3, [4, 0, 1, 0, 49], 0), none, none, some (.invokevirtual 135, 3, [35, 1, 3, 0, 0, 1, 6, 85, 2], 0), none, none, some (.ireturn, 1, [1, 6, 1], 0)]]
def cd_53 : List (List (Option IcM)) := [[some (.iload_n 1, 1, [1], 0), some (.iconst 1, 1, [], 1), some (.if_icmp .lt 9, 3, [11], 0), none, none, some (.iload_n 1, 1, [1], 0), some (.bipush 100, 2, [], 100), none, some (.if_icmp .le 13, 3, [21], 0), none, none, some (.new 113, 3, [2, 0, 0, 2, 12, 439, 115, 117, 2, 624], 0), none, none, none, none, none, none, none, none, none, some (.aload_n 0, 1, [0], 0), some (.getfield 12, 3, [4, 0, 1, 0, 49], 0), none, none, some (.iload_n 1, 1, [1], 0), some (.invokevirtual 139, 3, [32, 2, 3, 0, 0, 2, 12, 88, 2], 0), none, none, some (.ifCond .ne 13, 3, [42], 0), none, none, some (.new 63, 3, [3, 0, 0, 2, 12, 463, 142, 67, 2, 655], 0), none, none, none, none, none, none, none, none, none, some (.aload_n 0, 1, [0], 0), some (.invokevirtual 70, 3, [101, 1, 2, 0, 0, 2, 12, 38, 4], 0), none, none, some (.aload_n 0, 1, [0], 0), some (.getfield 12, 3, [4, 0, 1, 0, 49], 0), none, none, some (.iload_n 1, 1, [1], 0), some (.invokevirtual 144, 3, [33, 2, 3, 0, 0, 2, 12, 89, 2], 0), none, none, some (.ireturn, 1, [2, 12, 1], 0)]]
def cd_54 : List (List (Option IcM)) := [[some (.iload_n 1, 1, [1], 0), some (.bipush 32, 2, [], 32), none, some (.if_icmp .lt 9, 3, [12], 0), none, none, some (.iload_n 1, 1, [1], 0), some (.bipush 126, 2, [], 126), none, some (.if_icmp .le 13, 3, [22], 0), none, none, some (.new 113, 3, [2, 0, 0, 2, 12, 439, 147, 117, 2, 675], 0), none, none, none, none, none, none, none, none, none, some (.aload_n 0, 1, [0], 0), some (.getfield 37, 3, [4, 6, 1, 0, 55], 0), none, none, some (.getfield 149, 3, [3, 1, 0, 1, 42], 0), none, none, some (.bipush 100, 2, [], 100), none, some (.if_icmp .lt 13, 3, [44], 0), none, none, some (.new 63, 3, [3, 0, 0, 2, 12, 463, 152, 67, 2, 676], 0), none, none, none, none, none, none, none, none, none, some (.aload_n 0, 1, [0], 0), some (.getfield 37, 3, [4, 6, 1, 0, 55], 0), none, none, some (.getfield 154, 3, [3, 0, 1, 1, 40], 0), none, none, some (.aload_n 0, 1, [0], 0), some (.getfield 37, 3, [4, 6, 1, 0, 55], 0), none, none, some (.getfield 149, 3, [3, 1, 0, 1, 42], 0), none, none, some (.iload_n 1, 1, [1], 0), some (.i2c, 1, [], 0), some (.castore, 1, [], 0), some (.aload_n 0, 1, [0], 0), some (.getfield 37, 3, [4, 6, 1, 0, 55], 0), none],
  [none, some (.dup, 1, [], 0), some (.getfield 149, 3, [3, 1, 0, 1, 42], 0), none, none, some (.iconst 1, 1, [], 1), some (.iadd, 1, [], 0), some (.putfield 149, 3, [3, 1, 0, 1, 42, 0], 0), none, none, some (.aload_n 0, 1, [0], 0), some (.getfield 37, 3, [4, 6, 1, 0, 55], 0), none, none, some (.getfield 149, 3, [3, 1, 0, 1, 42], 0), none, none, some (.ireturn, 1, [2, 12, 1], 0)]]
def cd_55 : List (List (Option IcM)) := [[some (.aload_n 0, 1, [0], 0), some (.getfield 37, 3, [4, 6, 1, 0, 55], 0), none, none, some (.getfield 149, 3, [3, 1, 0, 1, 42], 0), none, none, some (.istore_n 1, 1, [1], 0), some (.aload_n 0, 1, [0], 0), some (.getfield 37, 3, [4, 6, 1, 0, 55], 0), none, none, some (.iconst 0, 1, [], 0), some (.putfield 149, 3, [3, 1, 0, 1, 42, 0], 0), none, none, some (.iload_n 1, 1, [1], 0), some (.ireturn, 1, [0, 0, 1], 0)]]
def cd_56 : List (List (Option IcM)) := [[some (.aload_n 0, 1, [0], 0), some (.getfield 37, 3, [4, 6, 1, 0, 55], 0), none, none, some (.invokevirtual 158, 3, [37, 1, 3, 0, 0, 0, 0, 12, 3], 0), none, none, some (.ireturn, 1, [0, 0, 1], 0)]]
def cd_57 : List (List (Option IcM)) := [[some (.aload_n 0, 1, [0], 0), some (.getfield 37, 3, [4, 6, 1, 0, 55], 0), none, none, some (.invokevirtual 158, 3, [37, 1, 3, 0, 0, 1, 6, 12, 3], 0), none, none, some (.iconst (-1), 1, [], (-1)), some (.if_icmp .eq 13, 3, [21], 0), none, none, some (.new 63, 3, [3, 0, 0, 1, 6, 463, 161, 67, 2, 684], 0), none, none, none, none, none, none, none, none, none, some (.aload_n 0, 1, [0], 0), some (.invokevirtual 70, 3, [101, 1, 2, 0, 0, 1, 6, 38, 4], 0), none, none, some (.aload_n 0, 1, [0], 0), some (.getfield 37, 3, [4, 6, 1, 0, 55], 0), none, none, some (.iconst 0, 1, [], 0), some (.putfield 163, 3, [3, 2, 0, 1, 44, 0], 0), none, none, some (.iconst 0, 1, [], 0), some (.istore_n 1, 1, [1], 0), some (.iconst 1, 1, [], 1), some (.istore_n 2, 1, [2], 0), some (.iload_n 2, 1, [2], 0), some (.ifCond .eq 52, 3, [90], 0), none, none, some (.iload_n 1, 1, [1], 0), some (.bipush 100, 2, [], 100), none, some (.if_icmp .ge 46, 3, [90], 0), none, none, some (.aload_n 0, 1, [0], 0), some (.getfield 37, 3, [4, 6, 1, 0, 55], 0), none, none, some (.invokevirtual 166, 3, [38, 1, 3, 0, 0, 1, 6, 96, 3], 0), none, none, some (.ifCond .eq 14, 3, [68], 0), none, none, some (.aload_n 0, 1, [0], 0), some (.invokevirtual 170, 3, [102, 1, 2, 0, 0, 1, 6, 97, 4], 0), none, none, some (.ifCond .eq 7, 3, [68], 0), none, none],
  [some (.iconst 1, 1, [], 1), some (.goto 4, 3, [69], 0), none, none, some (.iconst 0, 1, [], 0), some (.istore_n 2, 1, [2], 0), some (.iload_n 2, 1, [2], 0), some (.ifCond .eq (-34), 3, [37], 0), none, none, some (.iinc 1 1, 3, [1], 1), none, none, some (.aload_n 0, 1, [0], 0), some (.getfield 37, 3, [4, 6, 1, 0, 55], 0), none, none, some (.bipush 59, 2, [], 59), none, some (.invokevirtual 173, 3, [40, 2, 3, 0, 0, 1, 6, 98, 3], 0), none, none, some (.istore_n 2, 1, [2], 0), some (.goto (-50), 3, [37], 0), none, none, some (.iload_n 1, 1, [1], 0), some (.ireturn, 1, [1, 6, 1], 0)]]
def cd_58 : List (List (Option IcM)) := [[some (.aload_n 0, 1, [0], 0), some (.getfield 23, 3, [4, 3, 0, 0, 52], 0), none, none, some (.ifCond .gt 13, 3, [17], 0), none, none, some (.new 63, 3, [3, 0, 0, 1, 6, 463, 177, 67, 2, 698], 0), none, none, none, none, none, none, none, none, none, some (.aload_n 0, 1, [0], 0), some (.dup, 1, [], 0), some (.getfield 23, 3, [4, 3, 0, 0, 52], 0), none, none, some (.iconst 1, 1, [], 1), some (.isub, 1, [], 0), some (.putfield 23, 3, [4, 3, 0, 0, 52, 0], 0), none, none, some (.aload_n 0, 1, [0], 0), some (.getfield 12, 3, [4, 0, 1, 0, 49], 0), none, none, some (.aload_n 0, 1, [0], 0), some (.getfield 19, 3, [4, 2, 1, 0, 51], 0), none, none, some (.aload_n 0, 1, [0], 0), some (.getfield 23, 3, [4, 3, 0, 0, 52], 0), none, none, some (.aaload, 1, [], 0), some (.invokevirtual 179, 3, [15, 2, 3, 0, 0, 1, 6, 39, 2], 0), none, none, some (.aload_n 0, 1, [0], 0), some (.getfield 23, 3, [4, 3, 0, 0, 52], 0), none, none, some (.ireturn, 1, [1, 6, 1], 0)]]
def cd_59 : List (List (Option IcM)) := [[some (.iload_n 1, 1, [1], 0), some (.invokestatic 183, 3, [96, 1, 0, 1, 6, 1, 6, 103, 4], 0), none, none, some (.aload_n 0, 1, [0], 0), some (.getfield 27, 3, [4, 4, 1, 0, 53], 0), none, none, some (.iload_n 1, 1, [1], 0), some (.aaload, 1, [], 0), some (.aload_n 0, 1, [0], 0), some (.getfield 12, 3, [4, 0, 1, 0, 49], 0), none, none, some (.invokevirtual 179, 3, [15, 2, 3, 0, 0, 1, 6, 39, 2], 0), none, none, some (.aload_n 0, 1, [0], 0), some (.getfield 30, 3, [4, 5, 1, 0, 54], 0), none, none, some (.iload_n 1, 1, [1], 0), some (.iconst 1, 1, [], 1), some (.bastore, 1, [], 0), some (.aload_n 0, 1, [0], 0), some (.getfield 12, 3, [4, 0, 1, 0, 49], 0), none, none, some (.getfield 129, 3, [2, 0, 0, 1, 20], 0), none, none, some (.ireturn, 1, [1, 6, 1], 0)]]
def cd_60 : List (List (Option IcM)) := [[some (.iload_n 1, 1, [1], 0), some (.invokestatic 183, 3, [96, 1, 0, 1, 6, 2, 12, 103, 4], 0), none, none, some (.aload_n 0, 1, [0], 0), some (.getfield 30, 3, [4, 5, 1, 0, 54], 0), none, none, some (.iload_n 1, 1, [1], 0), some (.baload, 1, [], 0), some (.ifCond .ne 13, 3, [23], 0), none, none, some (.new 63, 3, [3, 0, 0, 2, 12, 463, 186, 67, 2, 717], 0), none, none, none, none, none, none, none, none, none, some (.aload_n 0, 1, [0], 0), some (.invokevirtual 70, 3, [101, 1, 2, 0, 0, 2, 12, 38, 4], 0), none, none, some (.aload_n 0, 1, [0], 0), some (.getfield 12, 3, [4, 0, 1, 0, 49], 0), none, none, some (.aload_n 0, 1, [0], 0), some (.getfield 27, 3, [4, 4, 1, 0, 53], 0), none, none, some (.iload_n 1, 1, [1], 0), some (.aaload, 1, [], 0), some (.invokevirtual 179, 3, [15, 2, 3, 0, 0, 2, 12, 39, 2], 0), none, none, some (.aload_n 0, 1, [0], 0), some (.getfield 12, 3, [4, 0, 1, 0, 49], 0), none, none, some (.getfield 129, 3, [2, 0, 0, 1, 20], 0), none, none, some (.ireturn, 1, [2, 12, 1], 0)]]
def cd_61 : List (List (Option IcM)) := [[some (.aload_n 0, 1, [0], 0), some (.getfield 12, 3, [4, 0, 1, 0, 49], 0), none, none, some (.getfield 107, 3, [2, 3, 1, 1, 26], 0), none, none, some (.iload_n 1, 1, [1], 0), some (.iload_n 2, 1, [2], 0), some (.invokestatic 91, 3, [91, 2, 0, 2, 12, 2, 12, 73, 4], 0), none, none, some (.iaload, 1, [], 0), some (.ireturn, 1, [2, 12, 1], 0)]]
def cd_62 : List (List (Option IcM)) := [[some (.iload_n 1, 1, [1], 0), some (.iload_n 2, 1, [2], 0), some (.invokestatic 91, 3, [91, 2, 0, 2, 12, 2, 12, 73, 4], 0), none, none, some (.pop, 1, [], 0), some (.aload_n 0, 1, [0], 0), some (.getfield 12, 3, [4, 0, 1, 0, 49], 0), none, none, some (.getfield 188, 3, [2, 8, 1, 1, 36], 0), none, none, some (.iload_n 1, 1, [1], 0), some (.iload_n 2, 1, [2], 0), some (.invokevirtual 192, 3, [10, 3, 3, 0, 0, 2, 12, 110, 1], 0), none, none, some (.ireturn, 1, [2, 12, 1], 0)]]
def cd_63 : List (List (Option IcM)) := [[some (.aload_n 0, 1, [0], 0), some (.getfield 12, 3, [4, 0, 1, 0, 49], 0), none, none, some (.getfield 98, 3, [2, 4, 1, 1, 28], 0), none, none, some (.iload_n 1, 1, [1], 0), some (.iload_n 2, 1, [2], 0), some (.invokestatic 91, 3, [91, 2, 0, 2, 12, 2, 12, 73, 4], 0), none, none, some (.iaload, 1, [], 0), some (.ireturn, 1, [2, 12, 1], 0)]]
def cd_64 : List (List (Option IcM)) := [[some (.aload_n 0, 1, [0], 0), some (.getfield 12, 3, [4, 0, 1, 0, 49], 0), none, none, some (.getfield 101, 3, [2, 5, 1, 1, 30], 0), none, none, some (.iload_n 1, 1, [1], 0), some (.iload_n 2, 1, [2], 0), some (.invokestatic 91, 3, [91, 2, 0, 2, 12, 2, 12, 73, 4], 0), none, none, some (.iaload, 1, [], 0), some (.ireturn, 1, [2, 12, 1], 0)]]
def cd_65 : List (List (Option IcM)) := [[some (.aload_n 0, 1, [0], 0), some (.getfield 12, 3, [4, 0, 1, 0, 49], 0), none, none, some (.getfield 126, 3, [2, 6, 1, 1, 32], 0), none, none, some (.iload_n 1, 1, [1], 0), some (.iload_n 2, 1, [2], 0), some (.invokestatic 91, 3, [91, 2, 0, 2, 12, 2, 12, 73, 4], 0), none, none, some (.iaload, 1, [], 0), some (.ireturn, 1, [2, 12, 1], 0)]]
def cd_66 : List (List (Option IcM)) := [[some (.iload_n 1, 1, [1], 0), some (.iload_n 2, 1, [2], 0), some (.invokestatic 91, 3, [91, 2, 0, 2, 12, 2, 12, 73, 4], 0), none, none, some (.istore_n 3, 1, [3], 0), some (.aload_n 0, 1, [0], 0), some (.getfield 12, 3, [4, 0, 1, 0, 49], 0), none, none, some (.iload_n 3, 1, [3], 0), some (.invokevirtual 121, 3, [29, 2, 3, 0, 0, 2, 12, 22, 2], 0), none, none, some (.ifCond .ne 5, 3, [19], 0), none, none, some (.iconst (-1), 1, [], (-1)), some (.ireturn, 1, [2, 12, 1], 0), some (.iconst 0, 1, [], 0), some (.aload_n 0, 1, [0], 0), some (.getfield 12, 3, [4, 0, 1, 0, 49], 0), none, none, some (.getfield 118, 3, [2, 1, 1, 1, 22], 0), none, none, some (.iload_n 2, 1, [2], 0), some (.iaload, 1, [], 0), some (.aload_n 0, 1, [0], 0), some (.getfield 12, 3, [4, 0, 1, 0, 49], 0), none, none, some (.iload_n 3, 1, [3], 0), some (.invokevirtual 197, 3, [30, 2, 3, 0, 0, 2, 12, 121, 2], 0), none, none, some (.isub, 1, [], 0), some (.invokestatic 200, 3, [0, 2, 6, 0, 0, 2, 12, 122], 0), none, none, some (.ireturn, 1, [2, 12, 1], 0)]]
def cd_67 : List (List (Option IcM)) := [[some (.aload_n 0, 1, [0], 0), some (.getfield 12, 3, [4, 0, 1, 0, 49], 0), none, none, some (.iload_n 1, 1, [1], 0), some (.iload_n 2, 1, [2], 0), some (.invokestatic 91, 3, [91, 2, 0, 2, 12, 2, 12, 73, 4], 0), none, none, some (.invokevirtual 205, 3, [25, 2, 3, 0, 0, 2, 12, 125, 2], 0), none, none, some (.ireturn, 1, [2, 12, 1], 0)]]
def cd_68 : List (List (Option IcM)) := [[some (.iload_n 1, 1, [1], 0), some (.invokestatic 208, 3, [89, 1, 0, 1, 6, 1, 6, 74, 4], 0), none, none, some (.aload_n 0, 1, [0], 0), some (.getfield 12, 3, [4, 0, 1, 0, 49], 0), none, none, some (.getfield 211, 3, [2, 7, 1, 1, 34], 0), none, none, some (.iload_n 1, 1, [1], 0), some (.iaload, 1, [], 0), some (.ireturn, 1, [1, 6, 1], 0)]]
def cd_69 : List (List (Option IcM)) := [[some (.iload_n 1, 1, [1], 0), some (.invokestatic 208, 3, [89, 1, 0, 1, 6, 1, 6, 74, 4], 0), none, none, some (.iload_n 1, 1, [1], 0), some (.iconst 0, 1, [], 0), some (.invokestatic 214, 3, [98, 2, 0, 0, 0, 1, 6, 76, 4], 0), none, none, some (.istore_n 2, 1, [2], 0), some (.aload_n 0, 1, [0], 0), some (.getfield 12, 3, [4, 0, 1, 0, 49], 0), none, none, some (.getfield 98, 3, [2, 4, 1, 1, 28], 0), none, none, some (.iload_n 2, 1, [2], 0), some (.iaload, 1, [], 0), some (.istore_n 3, 1, [3], 0), some (.iload_n 3, 1, [3], 0), some (.ifCond .ne 5, 3, [26], 0), none, none, some (.iconst 0, 1, [], 0), some (.ireturn, 1, [1, 6, 1], 0), some (.aload_n 0, 1, [0], 0), some (.getfield 12, 3, [4, 0, 1, 0, 49], 0), none, none, some (.getfield 188, 3, [2, 8, 1, 1, 36], 0), none, none, some (.iload_n 1, 1, [1], 0), some (.aload_n 0, 1, [0], 0), some (.getfield 41, 3, [4, 7, 1, 0, 56], 0), none, none, some (.invokevirtual 217, 3, [11, 3, 3, 0, 0, 1, 6, 132, 1], 0), none, none, some (.istore 4, 2, [4], 0), none, some (.aload_n 0, 1, [0], 0), some (.getfield 12, 3, [4, 0, 1, 0, 49], 0), none, none, some (.getfield 107, 3, [2, 3, 1, 1, 26], 0), none, none, some (.iload_n 2, 1, [2], 0), some (.iaload, 1, [], 0), some (.istore 5, 2, [5], 0), none, some (.iconst 0, 1, [], 0), some (.istore 6, 2, [6], 0), none, some (.iload 5, 2, [5], 0), none, some (.iload_n 3, 1, [3], 0), some (.if_icmp .le 30, 3, [90], 0), none, none, some (.iload 6, 2, [6], 0)],
  [none, some (.iload 4, 2, [4], 0), none, some (.if_icmp .ge 23, 3, [90], 0), none, none, some (.iload 5, 2, [5], 0), none, some (.aload_n 0, 1, [0], 0), some (.getfield 41, 3, [4, 7, 1, 0, 56], 0), none, none, some (.iload 4, 2, [4], 0), none, some (.invokestatic 221, 3, [103, 2, 0, 0, 0, 1, 6, 133, 4], 0), none, none, some (.isub, 1, [], 0), some (.istore 5, 2, [5], 0), none, some (.iinc 6 1, 3, [6], 1), none, none, some (.goto (-30), 3, [57], 0), none, none, some (.iload 6, 2, [6], 0), none, some (.ireturn, 1, [1, 6, 1], 0)]]
def cd_70 : List (List (Option IcM)) := [[some (.aload_n 0, 1, [0], 0), some (.getfield 12, 3, [4, 0, 1, 0, 49], 0), none, none, some (.getfield 188, 3, [2, 8, 1, 1, 36], 0), none, none, some (.iload_n 1, 1, [1], 0), some (.iload_n 2, 1, [2], 0), some (.invokestatic 52, 3, [93, 2, 0, 2, 12, 2, 12, 32, 4], 0), none, none, some (.invokevirtual 225, 3, [6, 2, 3, 0, 0, 2, 12, 61, 1], 0), none, none, some (.istore_n 3, 1, [3], 0), some (.iload_n 3, 1, [3], 0), some (.iconst (-1), 1, [], (-1)), some (.if_icmp .ne 7, 3, [25], 0), none, none, some (.iconst (-1), 1, [], (-1)), some (.goto 15, 3, [37], 0), none, none, some (.aload_n 0, 1, [0], 0), some (.getfield 12, 3, [4, 0, 1, 0, 49], 0), none, none, some (.getfield 188, 3, [2, 8, 1, 1, 36], 0), none, none, some (.getfield 228, 3, [1, 4, 1, 1, 12], 0), none, none, some (.iload_n 3, 1, [3], 0), some (.iaload, 1, [], 0), some (.ireturn, 1, [2, 12, 1], 0)]]
def cd_71 : List (List (Option IcM)) := [[some (.aload_n 0, 1, [0], 0), some (.getfield 12, 3, [4, 0, 1, 0, 49], 0), none, none, some (.getfield 188, 3, [2, 8, 1, 1, 36], 0), none, none, some (.iload_n 1, 1, [1], 0), some (.iload_n 2, 1, [2], 0), some (.invokestatic 52, 3, [93, 2, 0, 2, 12, 2, 12, 32, 4], 0), none, none, some (.invokevirtual 225, 3, [6, 2, 3, 0, 0, 2, 12, 61, 1], 0), none, none, some (.istore_n 3, 1, [3], 0), some (.iload_n 3, 1, [3], 0), some (.iconst (-1), 1, [], (-1)), some (.if_icmp .ne 7, 3, [25], 0), none, none, some (.iconst (-1), 1, [], (-1)), some (.goto 15, 3, [37], 0), none, none, some (.aload_n 0, 1, [0], 0), some (.getfield 12, 3, [4, 0, 1, 0, 49], 0), none, none, some (.getfield 188, 3, [2, 8, 1, 1, 36], 0), none, none, some (.getfield 231, 3, [1, 2, 1, 1, 6], 0), none, none, some (.iload_n 3, 1, [3], 0), some (.iaload, 1, [], 0), some (.ireturn, 1, [2, 12, 1], 0)]]
def cd_72 : List (List (Option IcM)) := [[some (.aload_n 0, 1, [0], 0), some (.getfield 12, 3, [4, 0, 1, 0, 49], 0), none, none, some (.getfield 188, 3, [2, 8, 1, 1, 36], 0), none, none, some (.iload_n 1, 1, [1], 0), some (.iload_n 2, 1, [2], 0), some (.invokestatic 52, 3, [93, 2, 0, 2, 12, 2, 12, 32, 4], 0), none, none, some (.invokevirtual 225, 3, [6, 2, 3, 0, 0, 2, 12, 61, 1], 0), none, none, some (.istore_n 3, 1, [3], 0), some (.iload_n 3, 1, [3], 0), some (.iconst (-1), 1, [], (-1)), some (.if_icmp .ne 7, 3, [25], 0), none, none, some (.iconst (-1), 1, [], (-1)), some (.goto 15, 3, [37], 0), none, none, some (.aload_n 0, 1, [0], 0), some (.getfield 12, 3, [4, 0, 1, 0, 49], 0), none, none, some (.getfield 188, 3, [2, 8, 1, 1, 36], 0), none, none, some (.getfield 234, 3, [1, 3, 1, 1, 9], 0), none, none, some (.iload_n 3, 1, [3], 0), some (.iaload, 1, [], 0), some (.ireturn, 1, [2, 12, 1], 0)]]
def cd_73 : List (List (Option IcM)) := [[some (.aload_n 0, 1, [0], 0), some (.getfield 12, 3, [4, 0, 1, 0, 49], 0), none, none, some (.getfield 188, 3, [2, 8, 1, 1, 36], 0), none, none, some (.getfield 237, 3, [1, 0, 0, 1, 2], 0), none, none, some (.ireturn, 1, [0, 0, 1], 0)]]
def cd_74 : List (List (Option IcM)) := [[some (.iload_n 1, 1, [1], 0), some (.invokestatic 240, 3, [92, 1, 0, 1, 6, 1, 6, 33, 4], 0), none, none, some (.aload_n 0, 1, [0], 0), some (.getfield 12, 3, [4, 0, 1, 0, 49], 0), none, none, some (.getfield 188, 3, [2, 8, 1, 1, 36], 0), none, none, some (.iload_n 1, 1, [1], 0), some (.invokevirtual 243, 3, [12, 2, 3, 0, 0, 1, 6, 142, 1], 0), none, none, some (.ireturn, 1, [1, 6, 1], 0)]]
def cd_75 : List (List (Option IcM)) := [[some (.iload_n 1, 1, [1], 0), some (.invokestatic 208, 3, [89, 1, 0, 1, 6, 1, 6, 74, 4], 0), none, none, some (.aload_n 0, 1, [0], 0), some (.getfield 12, 3, [4, 0, 1, 0, 49], 0), none, none, some (.getfield 188, 3, [2, 8, 1, 1, 36], 0), none, none, some (.iload_n 1, 1, [1], 0), some (.invokevirtual 246, 3, [13, 2, 3, 0, 0, 1, 6, 145, 1], 0), none, none, some (.ireturn, 1, [1, 6, 1], 0)]]
def cd_76 : List (List (Option IcM)) := [[some (.iload_n 1, 1, [1], 0), some (.invokestatic 45, 3, [87, 1, 0, 1, 6, 3, 18, 30, 4], 0), none, none, some (.iload_n 2, 1, [2], 0), some (.invokestatic 49, 3, [88, 1, 0, 1, 6, 3, 18, 31, 4], 0), none, none, some (.iload_n 3, 1, [3], 0), some (.invokestatic 56, 3, [94, 1, 0, 1, 6, 3, 18, 35, 4], 0), none, none, some (.aload_n 0, 1, [0], 0), some (.getfield 12, 3, [4, 0, 1, 0, 49], 0), none, none, some (.iload_n 1, 1, [1], 0), some (.iload_n 3, 1, [3], 0), some (.iconst 1, 1, [], 1), some (.iload_n 2, 1, [2], 0), some (.iload_n 3, 1, [3], 0), some (.iconst 1, 1, [], 1), some (.invokevirtual 249, 3, [23, 7, 3, 0, 0, 3, 18, 148, 2], 0), none, none, some (.ireturn, 1, [3, 18, 1], 0)]]
def cd_77 : List (List (Option IcM)) := [[some (.iload_n 1, 1, [1], 0), some (.invokestatic 45, 3, [87, 1, 0, 1, 6, 3, 18, 30, 4], 0), none, none, some (.iload_n 2, 1, [2], 0), some (.invokestatic 49, 3, [88, 1, 0, 1, 6, 3, 18, 31, 4], 0), none, none, some (.iload_n 3, 1, [3], 0), some (.iconst 1, 1, [], 1), some (.if_icmp .lt 10, 3, [20], 0), none, none, some (.iload_n 3, 1, [3], 0), some (.sipush 5000, 3, [], 5000), none, none, some (.if_icmp .le 13, 3, [30], 0), none, none, some (.new 113, 3, [2, 0, 0, 3, 18, 439, 253, 117, 2, 868], 0), none, none, none, none, none, none, none, none, none, some (.aload_n 0, 1, [0], 0), some (.getfield 16, 3, [4, 1, 1, 0, 50], 0), none, none, some (.aload_n 0, 1, [0], 0), some (.getfield 12, 3, [4, 0, 1, 0, 49], 0), none, none, some (.invokevirtual 179, 3, [15, 2, 3, 0, 0, 3, 18, 39, 2], 0), none, none, some (.iconst 1, 1, [], 1), some (.istore 4, 2, [4], 0), none, some (.iload 4, 2, [4], 0), none, some (.sipush 400, 3, [], 400), none, none, some (.if_icmp .gt 38, 3, [87], 0), none, none, some (.aload_n 0, 1, [0], 0), some (.getfield 16, 3, [4, 1, 1, 0, 50], 0), none, none, some (.dup, 1, [], 0), some (.getfield 129, 3, [2, 0, 0, 1, 20], 0), none, none, some (.iconst 1, 1, [], 1), some (.iadd, 1, [], 0), some (.putfield 129, 3, [2, 0, 0, 1, 20, 0], 0), none],
  [none, some (.aload_n 0, 1, [0], 0), some (.getfield 16, 3, [4, 1, 1, 0, 50], 0), none, none, some (.iload_n 1, 1, [1], 0), some (.iload_n 2, 1, [2], 0), some (.iload_n 3, 1, [3], 0), some (.invokevirtual 255, 3, [19, 4, 3, 0, 0, 3, 18, 151, 2], 0), none, none, some (.ifCond .eq 6, 3, [81], 0), none, none, some (.iload 4, 2, [4], 0), none, some (.ireturn, 1, [3, 18, 1], 0), some (.iinc 4 1, 3, [4], 1), none, none, some (.goto (-40), 3, [44], 0), none, none, some (.iconst (-1), 1, [], (-1)), some (.ireturn, 1, [3, 18, 1], 0)]]
def cd_78 : List (List (Option IcM)) := [[some (.aload_n 0, 1, [0], 0), some (.getfield 12, 3, [4, 0, 1, 0, 49], 0), none, none, some (.getfield 129, 3, [2, 0, 0, 1, 20], 0), none, none, some (.ireturn, 1, [0, 0, 1], 0)]]
def cd_79 : List (List (Option IcM)) := [[some (.iload_n 1, 1, [1], 0), some (.invokestatic 110, 3, [90, 1, 0, 1, 6, 1, 6, 75, 4], 0), none, none, some (.aload_n 0, 1, [0], 0), some (.getfield 12, 3, [4, 0, 1, 0, 49], 0), none, none, some (.getfield 118, 3, [2, 1, 1, 1, 22], 0), none, none, some (.iload_n 1, 1, [1], 0), some (.iaload, 1, [], 0), some (.ireturn, 1, [1, 6, 1], 0)]]
def cd_80 : List (List (Option IcM)) := [[some (.iload_n 1, 1, [1], 0), some (.invokestatic 45, 3, [87, 1, 0, 1, 6, 1, 6, 30, 4], 0), none, none, some (.aload_n 0, 1, [0], 0), some (.getfield 12, 3, [4, 0, 1, 0, 49], 0), none, none, some (.getfield 132, 3, [2, 2, 1, 1, 24], 0), none, none, some (.iload_n 1, 1, [1], 0), some (.baload, 1, [], 0), some (.ireturn, 1, [1, 6, 2], 0)]]
def cd_81 : List (List (Option IcM)) := [[some (.iconst 0, 1, [], 0), some (.istore_n 1, 1, [1], 0), some (.iconst 0, 1, [], 0), some (.istore_n 2, 1, [2], 0), some (.iload_n 2, 1, [2], 0), some (.bipush 18, 2, [], 18), none, some (.if_icmp .ge 23, 3, [30], 0), none, none, some (.aload_n 0, 1, [0], 0), some (.getfield 12, 3, [4, 0, 1, 0, 49], 0), none, none, some (.iload_n 2, 1, [2], 0), some (.invokevirtual 121, 3, [29, 2, 3, 0, 0, 0, 0, 22, 2], 0), none, none, some (.ifCond .eq 6, 3, [24], 0), none, none, some (.iinc 1 1, 3, [1], 1), none, none, some (.iinc 2 1, 3, [2], 1), none, none, some (.goto (-23), 3, [4], 0), none, none, some (.iload_n 1, 1, [1], 0), some (.ireturn, 1, [0, 0, 1], 0)]]
def cd_82 : List (List (Option IcM)) := [[some (.iconst 0, 1, [], 0), some (.istore_n 1, 1, [1], 0), some (.iconst 0, 1, [], 0), some (.istore_n 2, 1, [2], 0), some (.iload_n 2, 1, [2], 0), some (.bipush 18, 2, [], 18), none, some (.if_icmp .ge 23, 3, [30], 0), none, none, some (.aload_n 0, 1, [0], 0), some (.getfield 12, 3, [4, 0, 1, 0, 49], 0), none, none, some (.iload_n 2, 1, [2], 0), some (.invokevirtual 258, 3, [31, 2, 3, 0, 0, 0, 0, 24, 2], 0), none, none, some (.ifCond .eq 6, 3, [24], 0), none, none, some (.iinc 1 1, 3, [1], 1), none, none, some (.iinc 2 1, 3, [2], 1), none, none, some (.goto (-23), 3, [4], 0), none, none, some (.iload_n 1, 1, [1], 0), some (.ireturn, 1, [0, 0, 1], 0)]]
def cd_83 : List (List (Option IcM)) := [[some (.iload_n 1, 1, [1], 0), some (.ifCond .ge 14, 3, [15], 0), none, none, some (.new 261, 3, [1, 0, 0, 2, 12, 353, 263, 265, 3, 891], 0), none, none, none, none, none, none, none, none, none, none, some (.iload_n 2, 1, [2], 0), some (.ifCond .lt 8, 3, [24], 0), none, none, some (.iload_n 2, 1, [2], 0), some (.iconst 4, 1, [], 4), some (.if_icmp .lt 14, 3, [35], 0), none, none, some (.new 113, 3, [2, 0, 0, 2, 12, 439, 266, 117, 3, 892], 0), none, none, none, none, none, none, none, none, none, none, some (.aload_n 0, 1, [0], 0), some (.getfield 12, 3, [4, 0, 1, 0, 49], 0), none, none, some (.getfield 268, 3, [2, 9, 1, 1, 38], 0), none, none, some (.iload_n 1, 1, [1], 0), some (.iload_n 2, 1, [2], 0), some (.invokevirtual 272, 3, [3, 3, 3, 0, 0, 2, 12, 158, 0], 0), none, none, some (.ireturn, 1, [2, 12, 1], 0)]]
def cd_84 : List (List (Option IcM)) := [[some (.aload_n 0, 1, [0], 0), some (.getfield 12, 3, [4, 0, 1, 0, 49], 0), none, none, some (.getfield 268, 3, [2, 9, 1, 1, 38], 0), none, none, some (.getfield 277, 3, [0, 0, 0, 1, 14], 0), none, none, some (.ireturn, 1, [0, 0, 1], 0)]]
def cd_85 : List (List (Option IcM)) := [[some (.aload_n 0, 1, [0], 0), some (.getfield 23, 3, [4, 3, 0, 0, 52], 0), none, none, some (.ireturn, 1, [0, 0, 1], 0)]]
def cd_86 : List (List (Option IcM)) := [[some (.aload_n 0, 1, [0], 0), some (.getfield 37, 3, [4, 6, 1, 0, 55], 0), none, none, some (.getfield 149, 3, [3, 1, 0, 1, 42], 0), none, none, some (.ireturn, 1, [0, 0, 1], 0)]]
def cd_87 : List (List (Option IcM)) := [[some (.iload_n 0, 1, [0], 0), some (.ifCond .lt 9, 3, [10], 0), none, none, some (.iload_n 0, 1, [0], 0), some (.bipush 6, 2, [], 6), none, some (.if_icmp .lt 14, 3, [21], 0), none, none, some (.new 261, 3, [1, 0, 0, 1, 6, 353, 278, 265, 3, 394], 0), none, none, none, none, none, none, none, none, none, none, some (.return_, 1, [1, 6, 0], 0)]]
def cd_88 : List (List (Option IcM)) := [[some (.iload_n 0, 1, [0], 0), some (.ifCond .lt 8, 3, [9], 0), none, none, some (.iload_n 0, 1, [0], 0), some (.iconst 3, 1, [], 3), some (.if_icmp .lt 14, 3, [20], 0), none, none, some (.new 261, 3, [1, 0, 0, 1, 6, 353, 280, 265, 3, 424], 0), none, none, none, none, none, none, none, none, none, none, some (.return_, 1, [1, 6, 0], 0)]]
def cd_89 : List (List (Option IcM)) := [[some (.iload_n 0, 1, [0], 0), some (.ifCond .lt 9, 3, [10], 0), none, none, some (.iload_n 0, 1, [0], 0), some (.bipush 9, 2, [], 9), none, some (.if_icmp .lt 14, 3, [21], 0), none, none, some (.new 261, 3, [1, 0, 0, 1, 6, 353, 282, 265, 3, 604], 0), none, none, none, none, none, none, none, none, none, none, some (.return_, 1, [1, 6, 0], 0)]]
def cd_90 : List (List (Option IcM)) := [[some (.iload_n 0, 1, [0], 0), some (.ifCond .lt 8, 3, [9], 0), none, none, some (.iload_n 0, 1, [0], 0), some (.iconst 2, 1, [], 2), some (.if_icmp .lt 14, 3, [20], 0), none, none, some (.new 261, 3, [1, 0, 0, 1, 6, 353, 284, 265, 3, 608], 0), none, none, none, none, none, none, none, none, none, none, some (.return_, 1, [1, 6, 0], 0)]]
def cd_91 : List (List (Option IcM)) := [[some (.iload_n 0, 1, [0], 0), some (.invokestatic 208, 3, [89, 1, 0, 1, 6, 2, 12, 74, 4], 0), none, none, some (.iload_n 1, 1, [1], 0), some (.invokestatic 110, 3, [90, 1, 0, 1, 6, 2, 12, 75, 4], 0), none, none, some (.iload_n 0, 1, [0], 0), some (.iload_n 1, 1, [1], 0), some (.invokestatic 214, 3, [98, 2, 0, 0, 0, 2, 12, 76, 4], 0), none, none, some (.ireturn, 1, [2, 12, 1], 0)]]
def cd_92 : List (List (Option IcM)) := [[some (.iload_n 0, 1, [0], 0), some (.ifCond .lt 9, 3, [10], 0), none, none, some (.iload_n 0, 1, [0], 0), some (.bipush 10, 2, [], 10), none, some (.if_icmp .lt 14, 3, [21], 0), none, none, some (.new 261, 3, [1, 0, 0, 1, 6, 353, 286, 265, 3, 431], 0), none, none, none, none, none, none, none, none, none, none, some (.return_, 1, [1, 6, 0], 0)]]
def cd_93 : List (List (Option IcM)) := [[some (.iload_n 0, 1, [0], 0), some (.invokestatic 240, 3, [92, 1, 0, 1, 6, 2, 12, 33, 4], 0), none, none, some (.iload_n 1, 1, [1], 0), some (.ifCond .lt 9, 3, [14], 0), none, none, some (.iload_n 1, 1, [1], 0), some (.bipush 100, 2, [], 100), none, some (.if_icmp .lt 14, 3, [25], 0), none, none, some (.new 261, 3, [1, 0, 0, 2, 12, 353, 288, 265, 3, 432], 0), none, none, none, none, none, none, none, none, none, none, some (.iload_n 0, 1, [0], 0), some (.iload_n 1, 1, [1], 0), some (.invokestatic 290, 3, [100, 2, 0, 0, 0, 2, 12, 34, 4], 0), none, none, some (.ireturn, 1, [2, 12, 1], 0)]]
def cd_94 : List (List (Option IcM)) := [[some (.iload_n 0, 1, [0], 0), some (.ifCond .lt 10, 3, [11], 0), none, none, some (.iload_n 0, 1, [0], 0), some (.sipush 5000, 3, [], 5000), none, none, some (.if_icmp .le 14, 3, [22], 0), none, none, some (.new 113, 3, [2, 0, 0, 1, 6, 439, 293, 117, 3, 448], 0), none, none, none, none, none, none, none, none, none, none, some (.return_, 1, [1, 6, 0], 0)]]
def cd_95 : List (List (Option IcM)) := [[some (.iload_n 0, 1, [0], 0), some (.ifCond .lt 21, 3, [22], 0), none, none, some (.iload_n 0, 1, [0], 0), some (.ldc_w 295, 3, [613], 100000), none, none, some (.if_icmp .gt 14, 3, [22], 0), none, none, some (.iload_n 1, 1, [1], 0), some (.ifCond .lt 10, 3, [22], 0), none, none, some (.iload_n 1, 1, [1], 0), some (.ldc_w 295, 3, [613], 100000), none, none, some (.if_icmp .le 14, 3, [33], 0), none, none, some (.new 113, 3, [2, 0, 0, 2, 12, 439, 296, 117, 3, 614], 0), none, none, none, none, none, none, none, none, none, none, some (.iload_n 0, 1, [0], 0), some (.ifCond .eq 23, 3, [57], 0), none, none, some (.iload_n 1, 1, [1], 0), some (.ifCond .eq 19, 3, [57], 0), none, none, some (.iload_n 0, 1, [0], 0), some (.iload_n 1, 1, [1], 0), some (.if_icmp .le 14, 3, [57], 0), none, none, some (.new 113, 3, [2, 0, 0, 2, 12, 439, 298, 117, 3, 615], 0), none, none, none, none, none, none, none, none, none, none, some (.return_, 1, [2, 12, 0], 0)]]
def cd_96 : List (List (Option IcM)) := [[some (.iload_n 0, 1, [0], 0), some (.ifCond .lt 8, 3, [9], 0), none, none, some (.iload_n 0, 1, [0], 0), some (.iconst 2, 1, [], 2), some (.if_icmp .lt 14, 3, [20], 0), none, none, some (.new 261, 3, [1, 0, 0, 1, 6, 353, 300, 265, 3, 709], 0), none, none, none, none, none, none, none, none, none, none, some (.return_, 1, [1, 6, 0], 0)]]
def cd_97 : List (List (Option IcM)) := [[some (.aload_n 0, 1, [0], 0), some (.getfield 12, 3, [4, 0, 1, 0, 49], 0), none, none, some (.getfield 188, 3, [2, 8, 1, 1, 36], 0), none, none, some (.iload_n 1, 1, [1], 0), some (.invokevirtual 225, 3, [6, 2, 3, 0, 0, 1, 6, 61, 1], 0), none, none, some (.istore_n 2, 1, [2], 0), some (.iload_n 2, 1, [2], 0), some (.iconst (-1), 1, [], (-1)), some (.if_icmp .ne 14, 3, [28], 0), none, none, some (.new 63, 3, [3, 0, 0, 1, 6, 463, 302, 67, 3, 556], 0), none, none, none, none, none, none, none, none, none, none, some (.iload_n 2, 1, [2], 0), some (.ireturn, 1, [1, 6, 1], 0)]]
def cd_98 : List (List (Option IcM)) := [[some (.iload_n 0, 1, [0], 0), some (.iconst 2, 1, [], 2), some (.imul, 1, [], 0), some (.iload_n 1, 1, [1], 0), some (.iadd, 1, [], 0), some (.ireturn, 1, [0, 0, 1], 0)]]
def cd_99 : List (List (Option IcM)) := [[some (.bipush 6, 2, [], 6), none, some (.iload_n 0, 1, [0], 0), some (.iadd, 1, [], 0), some (.ireturn, 1, [0, 0, 1], 0)]]
def cd_100 : List (List (Option IcM)) := [[some (.iload_n 0, 1, [0], 0), some (.bipush 100, 2, [], 100), none, some (.imul, 1, [], 0), some (.iload_n 1, 1, [1], 0), some (.iadd, 1, [], 0), some (.ireturn, 1, [0, 0, 1], 0)]]
def cd_101 : List (List (Option IcM)) := [[some (.aload_n 0, 1, [0], 0), some (.getfield 23, 3, [4, 3, 0, 0, 52], 0), none, none, some (.bipush 6, 2, [], 6), none, some (.if_icmp .ge 30, 3, [36], 0), none, none, some (.aload_n 0, 1, [0], 0), some (.getfield 19, 3, [4, 2, 1, 0, 51], 0), none, none, some (.aload_n 0, 1, [0], 0), some (.getfield 23, 3, [4, 3, 0, 0, 52], 0), none, none, some (.aaload, 1, [], 0), some (.aload_n 0, 1, [0], 0), some (.getfield 12, 3, [4, 0, 1, 0, 49], 0), none, none, some (.invokevirtual 179, 3, [15, 2, 3, 0, 0, 0, 0, 39, 2], 0), none, none, some (.aload_n 0, 1, [0], 0), some (.dup, 1, [], 0), some (.getfield 23, 3, [4, 3, 0, 0, 52], 0), none, none, some (.iconst 1, 1, [], 1), some (.iadd, 1, [], 0), some (.putfield 23, 3, [4, 3, 0, 0, 52, 0], 0), none, none, some (.return_, 1, [0, 0, 0], 0), some (.aload_n 0, 1, [0], 0), some (.getfield 19, 3, [4, 2, 1, 0, 51], 0), none, none, some (.iconst 0, 1, [], 0), some (.aaload, 1, [], 0), some (.astore_n 1, 1, [1], 0), some (.iconst 1, 1, [], 1), some (.istore_n 2, 1, [2], 0), some (.iload_n 2, 1, [2], 0), some (.bipush 6, 2, [], 6), none, some (.if_icmp .ge 23, 3, [71], 0), none, none, some (.aload_n 0, 1, [0], 0), some (.getfield 19, 3, [4, 2, 1, 0, 51], 0), none, none, some (.iload_n 2, 1, [2], 0), some (.iconst 1, 1, [], 1), some (.isub, 1, [], 0), some (.aload_n 0, 1, [0], 0), some (.getfield 19, 3, [4, 2, 1, 0, 51], 0), none, none, some (.iload_n 2, 1, [2], 0), some (.aaload, 1, [], 0)],
  [some (.aastore, 1, [], 0), some (.iinc 2 1, 3, [2], 1), none, none, some (.goto (-23), 3, [45], 0), none, none, some (.aload_n 0, 1, [0], 0), some (.getfield 19, 3, [4, 2, 1, 0, 51], 0), none, none, some (.iconst 5, 1, [], 5), some (.aload_n 1, 1, [1], 0), some (.aastore, 1, [], 0), some (.aload_n 1, 1, [1], 0), some (.aload_n 0, 1, [0], 0), some (.getfield 12, 3, [4, 0, 1, 0, 49], 0), none, none, some (.invokevirtual 179, 3, [15, 2, 3, 0, 0, 0, 0, 39, 2], 0), none, none, some (.return_, 1, [0, 0, 0], 0)]]
def cd_102 : List (List (Option IcM)) := [[some (.aload_n 0, 1, [0], 0), some (.getfield 37, 3, [4, 6, 1, 0, 55], 0), none, none, some (.getfield 304, 3, [3, 4, 1, 1, 48], 0), none, none, some (.astore_n 1, 1, [1], 0), some (.aload_n 0, 1, [0], 0), some (.getfield 37, 3, [4, 6, 1, 0, 55], 0), none, none, some (.getfield 307, 3, [3, 3, 2, 1, 46], 0), none, none, some (.bipush 99, 2, [], 99), none, some (.if_icmp .ne 46, 3, [63], 0), none, none, some (.aload_n 1, 1, [1], 0), some (.iconst 2, 1, [], 2), some (.iaload, 1, [], 0), some (.aload_n 1, 1, [1], 0), some (.iconst 3, 1, [], 3), some (.iaload, 1, [], 0), some (.invokestatic 290, 3, [100, 2, 0, 0, 0, 0, 0, 34, 4], 0), none, none, some (.istore_n 2, 1, [2], 0), some (.aload_n 0, 1, [0], 0), some (.getfield 12, 3, [4, 0, 1, 0, 49], 0), none, none, some (.iload_n 2, 1, [2], 0), some (.invokevirtual 59, 3, [16, 2, 3, 0, 0, 0, 0, 36, 2], 0), none, none, some (.istore_n 3, 1, [3], 0), some (.iload_n 3, 1, [3], 0), some (.ifCond .eq 21, 3, [61], 0), none, none, some (.aload_n 0, 1, [0], 0), some (.getfield 12, 3, [4, 0, 1, 0, 49], 0), none, none, some (.aload_n 1, 1, [1], 0), some (.iconst 0, 1, [], 0), some (.iaload, 1, [], 0), some (.aload_n 1, 1, [1], 0), some (.iconst 1, 1, [], 1), some (.iaload, 1, [], 0), some (.iload_n 2, 1, [2], 0), some (.aload_n 1, 1, [1], 0), some (.iconst 4, 1, [], 4), some (.iaload, 1, [], 0), some (.invokevirtual 73, 3, [17, 5, 3, 0, 0, 0, 0, 45, 2], 0), none, none, some (.pop, 1, [], 0), some (.iload_n 3, 1, [3], 0), some (.ireturn, 1, [0, 0, 2], 0), some (.aload_n 0, 1, [0], 0)],
  [some (.getfield 37, 3, [4, 6, 1, 0, 55], 0), none, none, some (.getfield 307, 3, [3, 3, 2, 1, 46], 0), none, none, some (.bipush 110, 2, [], 110), none, some (.if_icmp .ne 31, 3, [103], 0), none, none, some (.aload_n 0, 1, [0], 0), some (.getfield 12, 3, [4, 0, 1, 0, 49], 0), none, none, some (.aload_n 1, 1, [1], 0), some (.iconst 0, 1, [], 0), some (.iaload, 1, [], 0), some (.invokevirtual 139, 3, [32, 2, 3, 0, 0, 0, 0, 88, 2], 0), none, none, some (.istore_n 2, 1, [2], 0), some (.iload_n 2, 1, [2], 0), some (.ifCond .eq 14, 3, [101], 0), none, none, some (.aload_n 0, 1, [0], 0), some (.getfield 12, 3, [4, 0, 1, 0, 49], 0), none, none, some (.aload_n 1, 1, [1], 0), some (.iconst 0, 1, [], 0), some (.iaload, 1, [], 0), some (.invokevirtual 144, 3, [33, 2, 3, 0, 0, 0, 0, 89, 2], 0), none, none, some (.pop, 1, [], 0), some (.iload_n 2, 1, [2], 0), some (.ireturn, 1, [0, 0, 2], 0), some (.aload_n 0, 1, [0], 0), some (.getfield 12, 3, [4, 0, 1, 0, 49], 0), none, none, some (.getfield 188, 3, [2, 8, 1, 1, 36], 0), none, none, some (.aload_n 1, 1, [1], 0), some (.iconst 0, 1, [], 0), some (.iaload, 1, [], 0), some (.aload_n 1, 1, [1], 0), some (.iconst 1, 1, [], 1), some (.iaload, 1, [], 0), some (.invokestatic 290, 3, [100, 2, 0, 0, 0, 0, 0, 34, 4], 0), none, none, some (.invokevirtual 225, 3, [6, 2, 3, 0, 0, 0, 0, 61, 1], 0), none, none, some (.istore_n 2, 1, [2], 0), some (.iload_n 2, 1, [2], 0), some (.iconst (-1), 1, [], (-1)), some (.if_icmp .ne 5, 3, [130], 0), none, none],
  [some (.iconst 0, 1, [], 0), some (.ireturn, 1, [0, 0, 2], 0), some (.aload_n 0, 1, [0], 0), some (.getfield 37, 3, [4, 6, 1, 0, 55], 0), none, none, some (.getfield 307, 3, [3, 3, 2, 1, 46], 0), none, none, some (.bipush 114, 2, [], 114), none, some (.if_icmp .ne 18, 3, [157], 0), none, none, some (.aload_n 0, 1, [0], 0), some (.getfield 12, 3, [4, 0, 1, 0, 49], 0), none, none, some (.iload_n 2, 1, [2], 0), some (.aload_n 1, 1, [1], 0), some (.iconst 2, 1, [], 2), some (.iaload, 1, [], 0), some (.invokevirtual 81, 3, [18, 3, 3, 0, 0, 0, 0, 62, 2], 0), none, none, some (.pop, 1, [], 0), some (.goto 42, 3, [196], 0), none, none, some (.aload_n 0, 1, [0], 0), some (.getfield 37, 3, [4, 6, 1, 0, 55], 0), none, none, some (.getfield 307, 3, [3, 3, 2, 1, 46], 0), none, none, some (.bipush 109, 2, [], 109), none, some (.if_icmp .ne 21, 3, [187], 0), none, none, some (.aload_n 0, 1, [0], 0), some (.getfield 12, 3, [4, 0, 1, 0, 49], 0), none, none, some (.iload_n 2, 1, [2], 0), some (.aload_n 1, 1, [1], 0), some (.iconst 2, 1, [], 2), some (.iaload, 1, [], 0), some (.aload_n 1, 1, [1], 0), some (.iconst 3, 1, [], 3), some (.iaload, 1, [], 0), some (.invokevirtual 87, 3, [21, 4, 3, 0, 0, 0, 0, 70, 2], 0), none, none, some (.pop, 1, [], 0), some (.goto 12, 3, [196], 0), none, none, some (.aload_n 0, 1, [0], 0), some (.getfield 12, 3, [4, 0, 1, 0, 49], 0), none, none, some (.iload_n 2, 1, [2], 0)],
  [some (.invokevirtual 84, 3, [20, 2, 3, 0, 0, 0, 0, 66, 2], 0), none, none, some (.pop, 1, [], 0), some (.iconst 1, 1, [], 1), some (.ireturn, 1, [0, 0, 2], 0)]]
def cd_103 : List (List (Option IcM)) := [[some (.iconst 0, 1, [], 0), some (.istore_n 2, 1, [2], 0), some (.iconst 1, 1, [], 1), some (.istore_n 3, 1, [3], 0), some (.iload_n 3, 1, [3], 0), some (.iload_n 1, 1, [1], 0), some (.if_icmp .ge 20, 3, [26], 0), none, none, some (.aload_n 0, 1, [0], 0), some (.iload_n 3, 1, [3], 0), some (.iaload, 1, [], 0), some (.aload_n 0, 1, [0], 0), some (.iload_n 2, 1, [2], 0), some (.iaload, 1, [], 0), some (.if_icmp .le 5, 3, [20], 0), none, none, some (.iload_n 3, 1, [3], 0), some (.istore_n 2, 1, [2], 0), some (.iinc 3 1, 3, [3], 1), none, none, some (.goto (-19), 3, [4], 0), none, none, some (.aload_n 0, 1, [0], 0), some (.iload_n 2, 1, [2], 0), some (.iaload, 1, [], 0), some (.istore_n 3, 1, [3], 0), some (.aload_n 0, 1, [0], 0), some (.iload_n 2, 1, [2], 0), some (.iconst (-1), 1, [], (-1)), some (.iastore, 1, [], 0), some (.iload_n 3, 1, [3], 0), some (.ireturn, 1, [0, 0, 1], 0)]]
def cd_104 : List (List (Option IcM)) := [[some (.aload_n 0, 1, [0], 0), some (.invokespecial 1, 3, [0, 1, 9, 0, 0, 6, 3384, 160], 0), none, none, some (.aload_n 0, 1, [0], 0), some (.sipush 3213, 3, [], 3213), none, none, some (.newarray .int, 2, [2, 6, 3384], 0), none, some (.putfield 7, 3, [5, 1, 1, 0, 58, 1], 0), none, none, some (.aload_n 0, 1, [0], 0), some (.iconst 2, 1, [], 2), some (.newarray .boolean, 2, [3, 6, 3384], 0), none, some (.putfield 13, 3, [5, 3, 1, 0, 60, 1], 0), none, none, some (.aload_n 0, 1, [0], 0), some (.bipush 100, 2, [], 100), none, some (.newarray .int, 2, [2, 6, 3384], 0), none, some (.putfield 17, 3, [5, 4, 1, 0, 61, 1], 0), none, none, some (.aload_n 0, 1, [0], 0), some (.iconst 5, 1, [], 5), some (.newarray .int, 2, [2, 6, 3384], 0), none, some (.putfield 20, 3, [5, 8, 1, 0, 65, 1], 0), none, none, some (.aload_n 0, 1, [0], 0), some (.iconst 4, 1, [], 4), some (.newarray .int, 2, [2, 6, 3384], 0), none, some (.putfield 23, 3, [5, 9, 1, 0, 66, 1], 0), none, none, some (.aload_n 0, 1, [0], 0), some (.bipush 60, 2, [], 60), none, some (.newarray .boolean, 2, [3, 6, 3384], 0), none, some (.putfield 26, 3, [5, 10, 1, 0, 67, 1], 0), none, none, some (.aload_n 0, 1, [0], 0), some (.getfield 7, 3, [5, 1, 1, 0, 58], 0), none, none, some (.iconst 1, 1, [], 1), some (.bipush 7, 2, [], 7), none, some (.iastore, 1, [], 0), some (.aload_n 0, 1, [0], 0), some (.getfield 7, 3, [5, 1, 1, 0, 58], 0), none, none, some (.iconst 2, 1, [], 2), some (.bipush 7, 2, [], 7)],
  [none, some (.iastore, 1, [], 0), some (.iconst 0, 1, [], 0), some (.istore_n 1, 1, [1], 0), some (.iload_n 1, 1, [1], 0), some (.bipush 18, 2, [], 18), none, some (.if_icmp .ge 20, 3, [91], 0), none, none, some (.aload_n 0, 1, [0], 0), some (.getfield 7, 3, [5, 1, 1, 0, 58], 0), none, none, some (.sipush 281, 3, [], 281), none, none, some (.iload_n 1, 1, [1], 0), some (.iadd, 1, [], 0), some (.iconst (-1), 1, [], (-1)), some (.iastore, 1, [], 0), some (.iinc 1 1, 3, [1], 1), none, none, some (.goto (-20), 3, [68], 0), none, none, some (.return_, 1, [6, 3384, 0], 0)]]
def cd_105 : List (List (Option IcM)) := [[some (.aload_n 0, 1, [0], 0), some (.getfield 29, 3, [5, 0, 0, 0, 57], 0), none, none, some (.ireturn, 1, [0, 0, 1], 0)]]
def cd_106 : List (List (Option IcM)) := [[some (.iload_n 0, 1, [0], 0), some (.iload_n 1, 1, [1], 0), some (.if_icmp .lt 12, 3, [14], 0), none, none, some (.iload_n 0, 1, [0], 0), some (.iload_n 2, 1, [2], 0), some (.if_icmp .gt 7, 3, [14], 0), none, none, some (.iconst 1, 1, [], 1), some (.goto 4, 3, [15], 0), none, none, some (.iconst 0, 1, [], 0), some (.ireturn, 1, [0, 0, 2], 0)]]
def cd_107 : List (List (Option IcM)) := [[some (.aload_n 0, 1, [0], 0), some (.iload_n 1, 1, [1], 0), some (.putfield 29, 3, [5, 0, 0, 0, 57, 0], 0), none, none, some (.iload_n 1, 1, [1], 0), some (.ifCond .ne 7, 3, [13], 0), none, none, some (.iconst 1, 1, [], 1), some (.goto 4, 3, [14], 0), none, none, some (.iconst 0, 1, [], 0), some (.ireturn, 1, [0, 0, 2], 0)]]
def cd_108 : List (List (Option IcM)) := [[some (.iload_n 0, 1, [0], 0), some (.iconst 0, 1, [], 0), some (.iconst 5, 1, [], 5), some (.invokestatic 33, 3, [106, 3, 0, 0, 0, 0, 0, 164, 5], 0), none, none, some (.ireturn, 1, [0, 0, 2], 0)]]
def cd_109 : List (List (Option IcM)) := [[some (.iload_n 0, 1, [0], 0), some (.iconst 0, 1, [], 0), some (.iconst 2, 1, [], 2), some (.invokestatic 33, 3, [106, 3, 0, 0, 0, 0, 0, 164, 5], 0), none, none, some (.ireturn, 1, [0, 0, 2], 0)]]
def cd_110 : List (List (Option IcM)) := [[some (.iload_n 0, 1, [0], 0), some (.iconst 0, 1, [], 0), some (.bipush 9, 2, [], 9), none, some (.invokestatic 33, 3, [106, 3, 0, 0, 0, 0, 0, 164, 5], 0), none, none, some (.ifCond .eq 17, 3, [24], 0), none, none, some (.iload_n 1, 1, [1], 0), some (.iconst 0, 1, [], 0), some (.bipush 99, 2, [], 99), none, some (.invokestatic 33, 3, [106, 3, 0, 0, 0, 0, 0, 164, 5], 0), none, none, some (.ifCond .eq 7, 3, [24], 0), none, none, some (.iconst 1, 1, [], 1), some (.goto 4, 3, [25], 0), none, none, some (.iconst 0, 1, [], 0), some (.ireturn, 1, [0, 0, 2], 0)]]
def cd_111 : List (List (Option IcM)) := [[some (.iload_n 0, 1, [0], 0), some (.iconst 0, 1, [], 0), some (.bipush 8, 2, [], 8), none, some (.invokestatic 33, 3, [106, 3, 0, 0, 0, 0, 0, 164, 5], 0), none, none, some (.ifCond .eq 16, 3, [23], 0), none, none, some (.iload_n 1, 1, [1], 0), some (.iconst 0, 1, [], 0), some (.iconst 1, 1, [], 1), some (.invokestatic 33, 3, [106, 3, 0, 0, 0, 0, 0, 164, 5], 0), none, none, some (.ifCond .eq 7, 3, [23], 0), none, none, some (.iconst 1, 1, [], 1), some (.goto 4, 3, [24], 0), none, none, some (.iconst 0, 1, [], 0), some (.ireturn, 1, [0, 0, 2], 0)]]
def cd_112 : List (List (Option IcM)) := [[some (.aload_n 0, 1, [0], 0), some (.getfield 7, 3, [5, 1, 1, 0, 58], 0), none, none, some (.iconst 5, 1, [], 5), some (.iconst 4, 1, [], 4), some (.iload_n 1, 1, [1], 0), some (.imul, 1, [], 0), some (.iadd, 1, [], 0), some (.iload_n 2, 1, [2], 0), some (.iadd, 1, [], 0), some (.iaload, 1, [], 0), some (.ireturn, 1, [0, 0, 1], 0)]]
def cd_113 : List (List (Option IcM)) := [[some (.aload_n 0, 1, [0], 0), some (.getfield 7, 3, [5, 1, 1, 0, 58], 0), none, none, some (.iconst 5, 1, [], 5), some (.iconst 4, 1, [], 4), some (.iload_n 1, 1, [1], 0), some (.imul, 1, [], 0), some (.iadd, 1, [], 0), some (.iload_n 2, 1, [2], 0), some (.iadd, 1, [], 0), some (.iload_n 3, 1, [3], 0), some (.iastore, 1, [], 0), some (.return_, 1, [0, 0, 0], 0)]]
def cd_114 : List (List (Option IcM)) := [[some (.iconst 0, 1, [], 0), some (.istore_n 3, 1, [3], 0), some (.iload_n 3, 1, [3], 0), some (.aload_n 0, 1, [0], 0), some (.getfield 7, 3, [5, 1, 1, 0, 58], 0), none, none, some (.iconst 4, 1, [], 4), some (.iaload, 1, [], 0), some (.if_icmp .ge 26, 3, [35], 0), none, none, some (.aload_n 0, 1, [0], 0), some (.iload_n 3, 1, [3], 0), some (.iconst 0, 1, [], 0), some (.invokevirtual 37, 3, [112, 3, 2, 0, 0, 0, 0, 168, 5], 0), none, none, some (.bipush 100, 2, [], 100), none, some (.iload_n 1, 1, [1], 0), some (.imul, 1, [], 0), some (.iload_n 2, 1, [2], 0), some (.iadd, 1, [], 0), some (.if_icmp .ne 5, 3, [29], 0), none, none, some (.iload_n 3, 1, [3], 0), some (.ireturn, 1, [0, 0, 1], 0), some (.iinc 3 1, 3, [3], 1), none, none, some (.goto (-30), 3, [2], 0), none, none, some (.iconst (-1), 1, [], (-1)), some (.ireturn, 1, [0, 0, 1], 0)]]
def cd_115 : List (List (Option IcM)) := [[some (.aload_n 0, 1, [0], 0), some (.iload_n 1, 1, [1], 0), some (.iconst 1, 1, [], 1), some (.invokevirtual 37, 3, [112, 3, 2, 0, 0, 0, 0, 168, 5], 0), none, none, some (.iload_n 2, 1, [2], 0), some (.if_icmp .eq 16, 3, [23], 0), none, none, some (.bipush 6, 2, [], 6), none, some (.aload_n 0, 1, [0], 0), some (.iload_n 1, 1, [1], 0), some (.iconst 2, 1, [], 2), some (.invokevirtual 37, 3, [112, 3, 2, 0, 0, 0, 0, 168, 5], 0), none, none, some (.iadd, 1, [], 0), some (.iload_n 2, 1, [2], 0), some (.if_icmp .ne 7, 3, [27], 0), none, none, some (.iconst 1, 1, [], 1), some (.goto 4, 3, [28], 0), none, none, some (.iconst 0, 1, [], 0), some (.ireturn, 1, [0, 0, 2], 0)]]
def cd_116 : List (List (Option IcM)) := [[some (.iconst 0, 1, [], 0), some (.istore_n 3, 1, [3], 0), some (.iconst 0, 1, [], 0), some (.istore 4, 2, [4], 0), none, some (.iload 4, 2, [4], 0), none, some (.aload_n 0, 1, [0], 0), some (.getfield 7, 3, [5, 1, 1, 0, 58], 0), none, none, some (.iconst 4, 1, [], 4), some (.iaload, 1, [], 0), some (.if_icmp .ge 45, 3, [58], 0), none, none, some (.iload_n 2, 1, [2], 0), some (.ifCond .ne 13, 3, [30], 0), none, none, some (.aload_n 0, 1, [0], 0), some (.iload 4, 2, [4], 0), none, some (.iconst 3, 1, [], 3), some (.invokevirtual 37, 3, [112, 3, 2, 0, 0, 0, 0, 168, 5], 0), none, none, some (.goto 4, 3, [31], 0), none, none, some (.iconst 1, 1, [], 1), some (.istore 5, 2, [5], 0), none, some (.iload_n 3, 1, [3], 0), some (.aload_n 0, 1, [0], 0), some (.iload 4, 2, [4], 0), none, some (.iload_n 1, 1, [1], 0), some (.invokevirtual 41, 3, [115, 3, 2, 0, 0, 0, 0, 179, 5], 0), none, none, some (.ifCond .eq 8, 3, [49], 0), none, none, some (.iload 5, 2, [5], 0), none, some (.goto 4, 3, [50], 0), none, none, some (.iconst 0, 1, [], 0), some (.iadd, 1, [], 0), some (.istore_n 3, 1, [3], 0), some (.iinc 4 1, 3, [4], 1), none, none, some (.goto (-50), 3, [5], 0), none, none, some (.iload_n 3, 1, [3], 0), some (.ireturn, 1, [0, 0, 1], 0)]]
def cd_117 : List (List (Option IcM)) := [[some (.bipush 47, 2, [], 47), none, some (.istore 4, 2, [4], 0), none, some (.iload 4, 2, [4], 0), none, some (.iconst 3, 1, [], 3), some (.if_icmp .le 33, 3, [40], 0), none, none, some (.aload_n 0, 1, [0], 0), some (.getfield 7, 3, [5, 1, 1, 0, 58], 0), none, none, some (.sipush 309, 3, [], 309), none, none, some (.iload 4, 2, [4], 0), none, some (.iadd, 1, [], 0), some (.aload_n 0, 1, [0], 0), some (.getfield 7, 3, [5, 1, 1, 0, 58], 0), none, none, some (.sipush 309, 3, [], 309), none, none, some (.iload 4, 2, [4], 0), none, some (.iadd, 1, [], 0), some (.iconst 4, 1, [], 4), some (.isub, 1, [], 0), some (.iaload, 1, [], 0), some (.iastore, 1, [], 0), some (.iinc 4 (-1), 3, [4], (-1)), none, none, some (.goto (-33), 3, [4], 0), none, none, some (.aload_n 0, 1, [0], 0), some (.getfield 7, 3, [5, 1, 1, 0, 58], 0), none, none, some (.sipush 309, 3, [], 309), none, none, some (.iload_n 1, 1, [1], 0), some (.iastore, 1, [], 0), some (.aload_n 0, 1, [0], 0), some (.getfield 7, 3, [5, 1, 1, 0, 58], 0), none, none, some (.sipush 310, 3, [], 310), none, none, some (.iload_n 2, 1, [2], 0), some (.iastore, 1, [], 0), some (.aload_n 0, 1, [0], 0), some (.getfield 7, 3, [5, 1, 1, 0, 58], 0), none, none, some (.sipush 311, 3, [], 311), none],
  [none, some (.iload_n 3, 1, [3], 0), some (.iastore, 1, [], 0), some (.aload_n 0, 1, [0], 0), some (.getfield 7, 3, [5, 1, 1, 0, 58], 0), none, none, some (.sipush 312, 3, [], 312), none, none, some (.aload_n 0, 1, [0], 0), some (.getfield 7, 3, [5, 1, 1, 0, 58], 0), none, none, some (.iconst 0, 1, [], 0), some (.iaload, 1, [], 0), some (.iastore, 1, [], 0), some (.aload_n 0, 1, [0], 0), some (.getfield 7, 3, [5, 1, 1, 0, 58], 0), none, none, some (.sipush 308, 3, [], 308), none, none, some (.dup2, 1, [], 0), some (.iaload, 1, [], 0), some (.aload_n 0, 1, [0], 0), some (.getfield 7, 3, [5, 1, 1, 0, 58], 0), none, none, some (.sipush 308, 3, [], 308), none, none, some (.iaload, 1, [], 0), some (.bipush 12, 2, [], 12), none, some (.if_icmp .ge 7, 3, [107], 0), none, none, some (.iconst 1, 1, [], 1), some (.goto 4, 3, [108], 0), none, none, some (.iconst 0, 1, [], 0), some (.iadd, 1, [], 0), some (.iastore, 1, [], 0), some (.return_, 1, [0, 0, 0], 0)]]
def cd_118 : List (List (Option IcM)) := [[some (.iconst 2, 1, [], 2), some (.iload_n 1, 1, [1], 0), some (.imul, 1, [], 0), some (.iload_n 2, 1, [2], 0), some (.iadd, 1, [], 0), some (.istore_n 3, 1, [3], 0), some (.aload_n 0, 1, [0], 0), some (.getfield 7, 3, [5, 1, 1, 0, 58], 0), none, none, some (.sipush 245, 3, [], 245), none, none, some (.iload_n 3, 1, [3], 0), some (.iadd, 1, [], 0), some (.iaload, 1, [], 0), some (.ifCond .eq 26, 3, [42], 0), none, none, some (.aload_n 0, 1, [0], 0), some (.iload_n 1, 1, [1], 0), some (.iload_n 2, 1, [2], 0), some (.invokevirtual 45, 3, [116, 3, 2, 0, 0, 0, 0, 178, 5], 0), none, none, some (.aload_n 0, 1, [0], 0), some (.getfield 7, 3, [5, 1, 1, 0, 58], 0), none, none, some (.sipush 245, 3, [], 245), none, none, some (.iload_n 3, 1, [3], 0), some (.iadd, 1, [], 0), some (.iaload, 1, [], 0), some (.if_icmp .le 7, 3, [42], 0), none, none, some (.iconst 1, 1, [], 1), some (.goto 4, 3, [43], 0), none, none, some (.iconst 0, 1, [], 0), some (.istore 4, 2, [4], 0), none, some (.iload 4, 2, [4], 0), none, some (.ifCond .eq 43, 3, [90], 0), none, none, some (.aload_n 0, 1, [0], 0), some (.getfield 7, 3, [5, 1, 1, 0, 58], 0), none, none, some (.sipush 281, 3, [], 281), none, none, some (.iload_n 3, 1, [3], 0), some (.iadd, 1, [], 0), some (.iaload, 1, [], 0), some (.iconst (-1), 1, [], (-1)), some (.if_icmp .ne 29, 3, [90], 0), none, none],
  [some (.aload_n 0, 1, [0], 0), some (.getfield 7, 3, [5, 1, 1, 0, 58], 0), none, none, some (.sipush 281, 3, [], 281), none, none, some (.iload_n 3, 1, [3], 0), some (.iadd, 1, [], 0), some (.aload_n 0, 1, [0], 0), some (.getfield 7, 3, [5, 1, 1, 0, 58], 0), none, none, some (.iconst 0, 1, [], 0), some (.iaload, 1, [], 0), some (.iastore, 1, [], 0), some (.aload_n 0, 1, [0], 0), some (.iconst 1, 1, [], 1), some (.iload_n 1, 1, [1], 0), some (.iload_n 2, 1, [2], 0), some (.invokevirtual 48, 3, [117, 4, 2, 0, 0, 0, 0, 182, 5], 0), none, none, some (.goto 40, 3, [127], 0), none, none, some (.iload 4, 2, [4], 0), none, some (.ifCond .ne 35, 3, [127], 0), none, none, some (.aload_n 0, 1, [0], 0), some (.getfield 7, 3, [5, 1, 1, 0, 58], 0), none, none, some (.sipush 281, 3, [], 281), none, none, some (.iload_n 3, 1, [3], 0), some (.iadd, 1, [], 0), some (.iaload, 1, [], 0), some (.iconst (-1), 1, [], (-1)), some (.if_icmp .eq 21, 3, [127], 0), none, none, some (.aload_n 0, 1, [0], 0), some (.getfield 7, 3, [5, 1, 1, 0, 58], 0), none, none, some (.sipush 281, 3, [], 281), none, none, some (.iload_n 3, 1, [3], 0), some (.iadd, 1, [], 0), some (.iconst (-1), 1, [], (-1)), some (.iastore, 1, [], 0), some (.aload_n 0, 1, [0], 0), some (.iconst 2, 1, [], 2), some (.iload_n 1, 1, [1], 0), some (.iload_n 2, 1, [2], 0), some (.invokevirtual 48, 3, [117, 4, 2, 0, 0, 0, 0, 182, 5], 0), none, none, some (.return_, 1, [0, 0, 0], 0)]]
def cd_119 : List (List (Option IcM)) := [[some (.iconst 0, 1, [], 0), some (.istore_n 1, 1, [1], 0), some (.iload_n 1, 1, [1], 0), some (.bipush 18, 2, [], 18), none, some (.if_icmp .ge 19, 3, [24], 0), none, none, some (.aload_n 0, 1, [0], 0), some (.iload_n 1, 1, [1], 0), some (.iconst 2, 1, [], 2), some (.idiv, 1, [], 0), some (.iload_n 1, 1, [1], 0), some (.iconst 2, 1, [], 2), some (.irem, 1, [], 0), some (.invokevirtual 52, 3, [118, 3, 2, 0, 0, 0, 0, 185, 5], 0), none, none, some (.iinc 1 1, 3, [1], 1), none, none, some (.goto (-19), 3, [2], 0), none, none, some (.return_, 1, [0, 0, 0], 0)]]
def cd_120 : List (List (Option IcM)) := [[some (.iload_n 1, 1, [1], 0), some (.iconst (-1), 1, [], (-1)), some (.if_icmp .eq 21, 3, [23], 0), none, none, some (.iload_n 2, 1, [2], 0), some (.iload_n 1, 1, [1], 0), some (.isub, 1, [], 0), some (.aload_n 0, 1, [0], 0), some (.getfield 7, 3, [5, 1, 1, 0, 58], 0), none, none, some (.iconst 1, 1, [], 1), some (.iload_n 3, 1, [3], 0), some (.iadd, 1, [], 0), some (.iaload, 1, [], 0), some (.if_icmp .lt 7, 3, [23], 0), none, none, some (.iconst 1, 1, [], 1), some (.goto 4, 3, [24], 0), none, none, some (.iconst 0, 1, [], 0), some (.ireturn, 1, [0, 0, 2], 0)]]
def cd_121 : List (List (Option IcM)) := [[some (.iload_n 3, 1, [3], 0), some (.ifCond .ne 5, 3, [6], 0), none, none, some (.iconst 0, 1, [], 0), some (.ireturn, 1, [0, 0, 1], 0), some (.aload_n 0, 1, [0], 0), some (.getfield 7, 3, [5, 1, 1, 0, 58], 0), none, none, some (.sipush 263, 3, [], 263), none, none, some (.iload_n 1, 1, [1], 0), some (.iadd, 1, [], 0), some (.iaload, 1, [], 0), some (.ifCond .eq 23, 3, [39], 0), none, none, some (.iload_n 2, 1, [2], 0), some (.iload_n 3, 1, [3], 0), some (.iadd, 1, [], 0), some (.aload_n 0, 1, [0], 0), some (.getfield 7, 3, [5, 1, 1, 0, 58], 0), none, none, some (.sipush 263, 3, [], 263), none, none, some (.iload_n 1, 1, [1], 0), some (.iadd, 1, [], 0), some (.iaload, 1, [], 0), some (.if_icmp .le 7, 3, [39], 0), none, none, some (.iconst 1, 1, [], 1), some (.goto 29, 3, [65], 0), none, none, some (.iload 4, 2, [4], 0), none, some (.ifCond .eq 23, 3, [64], 0), none, none, some (.iload_n 2, 1, [2], 0), some (.iload_n 3, 1, [3], 0), some (.iadd, 1, [], 0), some (.aload_n 0, 1, [0], 0), some (.getfield 7, 3, [5, 1, 1, 0, 58], 0), none, none, some (.sipush 245, 3, [], 245), none, none, some (.iload_n 1, 1, [1], 0), some (.iadd, 1, [], 0), some (.iaload, 1, [], 0), some (.if_icmp .le 7, 3, [64], 0), none, none, some (.iconst 2, 1, [], 2), some (.goto 4, 3, [65], 0), none, none],
  [some (.iconst 0, 1, [], 0), some (.ireturn, 1, [0, 0, 1], 0)]]
def cd_122 : List (List (Option IcM)) := [[some (.aload_n 0, 1, [0], 0), some (.getfield 7, 3, [5, 1, 1, 0, 58], 0), none, none, some (.iconst 3, 1, [], 3), some (.iaload, 1, [], 0), some (.iload_n 1, 1, [1], 0), some (.ishr, 1, [], 0), some (.iconst 1, 1, [], 1), some (.iand, 1, [], 0), some (.iconst 1, 1, [], 1), some (.if_icmp .ne 7, 3, [18], 0), none, none, some (.iconst 1, 1, [], 1), some (.goto 4, 3, [19], 0), none, none, some (.iconst 0, 1, [], 0), some (.ireturn, 1, [0, 0, 2], 0)]]
def cd_123 : List (List (Option IcM)) := [[some (.iload_n 0, 1, [0], 0), some (.iconst 2, 1, [], 2), some (.if_icmp .ge 7, 3, [9], 0), none, none, some (.iload_n 1, 1, [1], 0), some (.goto 7, 3, [13], 0), none, none, some (.bipush 6, 2, [], 6), none, some (.iload_n 2, 1, [2], 0), some (.iadd, 1, [], 0), some (.ireturn, 1, [0, 0, 1], 0)]]
def cd_124 : List (List (Option IcM)) := [[some (.iconst 0, 1, [], 0), some (.istore_n 3, 1, [3], 0), some (.iload_n 3, 1, [3], 0), some (.iconst 4, 1, [], 4), some (.if_icmp .ge 94, 3, [98], 0), none, none, some (.aload_n 0, 1, [0], 0), some (.iload_n 1, 1, [1], 0), some (.invokevirtual 56, 3, [122, 2, 2, 0, 0, 0, 0, 176, 5], 0), none, none, some (.ifCond .ne 86, 3, [98], 0), none, none, some (.iload_n 3, 1, [3], 0), some (.iload_n 1, 1, [1], 0), some (.iload_n 2, 1, [2], 0), some (.invokestatic 60, 3, [123, 3, 0, 0, 0, 0, 0, 177, 5], 0), none, none, some (.istore 4, 2, [4], 0), none, some (.iconst 2, 1, [], 2), some (.iload 4, 2, [4], 0), none, some (.imul, 1, [], 0), some (.iload_n 3, 1, [3], 0), some (.iconst 2, 1, [], 2), some (.irem, 1, [], 0), some (.iadd, 1, [], 0), some (.istore 5, 2, [5], 0), none, some (.aload_n 0, 1, [0], 0), some (.iload 5, 2, [5], 0), none, some (.aload_n 0, 1, [0], 0), some (.iload 4, 2, [4], 0), none, some (.iload_n 3, 1, [3], 0), some (.iconst 2, 1, [], 2), some (.irem, 1, [], 0), some (.invokevirtual 45, 3, [116, 3, 2, 0, 0, 0, 0, 178, 5], 0), none, none, some (.aload_n 0, 1, [0], 0), some (.getfield 23, 3, [5, 9, 1, 0, 66], 0), none, none, some (.iload_n 3, 1, [3], 0), some (.iaload, 1, [], 0), some (.aload_n 0, 1, [0], 0), some (.aload_n 0, 1, [0], 0), some (.getfield 7, 3, [5, 1, 1, 0, 58], 0), none, none, some (.sipush 281, 3, [], 281), none, none, some (.iload 5, 2, [5], 0), none, some (.iadd, 1, [], 0), some (.iaload, 1, [], 0), some (.aload_n 0, 1, [0], 0)],
  [some (.getfield 7, 3, [5, 1, 1, 0, 58], 0), none, none, some (.iconst 0, 1, [], 0), some (.iaload, 1, [], 0), some (.iload_n 3, 1, [3], 0), some (.iconst 2, 1, [], 2), some (.irem, 1, [], 0), some (.invokevirtual 64, 3, [120, 4, 2, 0, 0, 0, 0, 180, 5], 0), none, none, some (.invokevirtual 67, 3, [121, 5, 2, 0, 0, 0, 0, 181, 5], 0), none, none, some (.istore 6, 2, [6], 0), none, some (.iload 6, 2, [6], 0), none, some (.ifCond .le 10, 3, [92], 0), none, none, some (.iconst 2, 1, [], 2), some (.iload_n 3, 1, [3], 0), some (.imul, 1, [], 0), some (.iload 6, 2, [6], 0), none, some (.iadd, 1, [], 0), some (.ireturn, 1, [0, 0, 1], 0), some (.iinc 3 1, 3, [3], 1), none, none, some (.goto (-93), 3, [2], 0), none, none, some (.iconst 0, 1, [], 0), some (.ireturn, 1, [0, 0, 1], 0)]]
def cd_125 : List (List (Option IcM)) := [[some (.aload_n 0, 1, [0], 0), some (.getfield 23, 3, [5, 9, 1, 0, 66], 0), none, none, some (.iconst 0, 1, [], 0), some (.iload_n 1, 1, [1], 0), some (.iastore, 1, [], 0), some (.aload_n 0, 1, [0], 0), some (.getfield 23, 3, [5, 9, 1, 0, 66], 0), none, none, some (.iconst 1, 1, [], 1), some (.iload_n 2, 1, [2], 0), some (.iastore, 1, [], 0), some (.aload_n 0, 1, [0], 0), some (.getfield 23, 3, [5, 9, 1, 0, 66], 0), none, none, some (.iconst 2, 1, [], 2), some (.iload_n 3, 1, [3], 0), some (.iastore, 1, [], 0), some (.aload_n 0, 1, [0], 0), some (.getfield 23, 3, [5, 9, 1, 0, 66], 0), none, none, some (.iconst 3, 1, [], 3), some (.iload 4, 2, [4], 0), none, some (.iastore, 1, [], 0), some (.return_, 1, [0, 0, 0], 0)]]
def cd_126 : List (List (Option IcM)) := [[some (.aload_n 0, 1, [0], 0), some (.iload_n 1, 1, [1], 0), some (.iload_n 2, 1, [2], 0), some (.invokevirtual 71, 3, [124, 3, 2, 0, 0, 0, 0, 175, 5], 0), none, none, some (.istore_n 3, 1, [3], 0), some (.iload_n 3, 1, [3], 0), some (.ifCond .le 44, 3, [52], 0), none, none, some (.iload_n 3, 1, [3], 0), some (.iconst 1, 1, [], 1), some (.isub, 1, [], 0), some (.iconst 2, 1, [], 2), some (.idiv, 1, [], 0), some (.iload_n 1, 1, [1], 0), some (.iload_n 2, 1, [2], 0), some (.invokestatic 60, 3, [123, 3, 0, 0, 0, 0, 0, 177, 5], 0), none, none, some (.istore 4, 2, [4], 0), none, some (.aload_n 0, 1, [0], 0), some (.getfield 7, 3, [5, 1, 1, 0, 58], 0), none, none, some (.sipush 299, 3, [], 299), none, none, some (.iload 4, 2, [4], 0), none, some (.iadd, 1, [], 0), some (.dup2, 1, [], 0), some (.iaload, 1, [], 0), some (.iconst 1, 1, [], 1), some (.iadd, 1, [], 0), some (.iastore, 1, [], 0), some (.aload_n 0, 1, [0], 0), some (.iconst 4, 1, [], 4), some (.iload 4, 2, [4], 0), none, some (.iload_n 3, 1, [3], 0), some (.iconst 1, 1, [], 1), some (.isub, 1, [], 0), some (.iconst 2, 1, [], 2), some (.idiv, 1, [], 0), some (.iconst 2, 1, [], 2), some (.irem, 1, [], 0), some (.invokevirtual 48, 3, [117, 4, 2, 0, 0, 0, 0, 182, 5], 0), none, none, some (.iload_n 3, 1, [3], 0), some (.ireturn, 1, [0, 0, 1], 0)]]
def cd_127 : List (List (Option IcM)) := [[some (.aload_n 0, 1, [0], 0), some (.iload 4, 2, [4], 0), none, some (.iconst 1, 1, [], 1), some (.iload 4, 2, [4], 0), none, some (.iconst 1, 1, [], 1), some (.invokevirtual 74, 3, [125, 5, 2, 0, 0, 0, 0, 173, 5], 0), none, none, some (.aload_n 0, 1, [0], 0), some (.iload_n 1, 1, [1], 0), some (.iload_n 2, 1, [2], 0), some (.invokevirtual 78, 3, [126, 3, 2, 0, 0, 0, 0, 174, 5], 0), none, none, some (.istore 5, 2, [5], 0), none, some (.iload 5, 2, [5], 0), none, some (.ifCond .ne 66, 3, [86], 0), none, none, some (.aload_n 0, 1, [0], 0), some (.aload_n 0, 1, [0], 0), some (.getfield 7, 3, [5, 1, 1, 0, 58], 0), none, none, some (.iconst 4, 1, [], 4), some (.iaload, 1, [], 0), some (.iconst 0, 1, [], 0), some (.iload_n 3, 1, [3], 0), some (.invokevirtual 81, 3, [113, 4, 2, 0, 0, 0, 0, 183, 5], 0), none, none, some (.aload_n 0, 1, [0], 0), some (.aload_n 0, 1, [0], 0), some (.getfield 7, 3, [5, 1, 1, 0, 58], 0), none, none, some (.iconst 4, 1, [], 4), some (.iaload, 1, [], 0), some (.iconst 1, 1, [], 1), some (.iload_n 1, 1, [1], 0), some (.invokevirtual 81, 3, [113, 4, 2, 0, 0, 0, 0, 183, 5], 0), none, none, some (.aload_n 0, 1, [0], 0), some (.aload_n 0, 1, [0], 0), some (.getfield 7, 3, [5, 1, 1, 0, 58], 0), none, none, some (.iconst 4, 1, [], 4), some (.iaload, 1, [], 0), some (.iconst 2, 1, [], 2), some (.iload_n 2, 1, [2], 0), some (.invokevirtual 81, 3, [113, 4, 2, 0, 0, 0, 0, 183, 5], 0), none, none, some (.aload_n 0, 1, [0], 0), some (.aload_n 0, 1, [0], 0), some (.getfield 7, 3, [5, 1, 1, 0, 58], 0), none, none],
  [some (.iconst 4, 1, [], 4), some (.iaload, 1, [], 0), some (.iconst 3, 1, [], 3), some (.iload 4, 2, [4], 0), none, some (.invokevirtual 81, 3, [113, 4, 2, 0, 0, 0, 0, 183, 5], 0), none, none, some (.aload_n 0, 1, [0], 0), some (.getfield 7, 3, [5, 1, 1, 0, 58], 0), none, none, some (.iconst 4, 1, [], 4), some (.dup2, 1, [], 0), some (.iaload, 1, [], 0), some (.iconst 1, 1, [], 1), some (.iadd, 1, [], 0), some (.iastore, 1, [], 0), some (.aload_n 0, 1, [0], 0), some (.invokevirtual 84, 3, [119, 1, 2, 0, 0, 0, 0, 184, 5], 0), none, none, some (.iload 5, 2, [5], 0), none, some (.ireturn, 1, [0, 0, 1], 0)]]
def cd_128 : List (List (Option IcM)) := [[some (.iload_n 2, 1, [2], 0), some (.aload_n 0, 1, [0], 0), some (.iload_n 1, 1, [1], 0), some (.iconst 3, 1, [], 3), some (.invokevirtual 37, 3, [112, 3, 2, 0, 0, 0, 0, 168, 5], 0), none, none, some (.if_icmp .le 14, 3, [21], 0), none, none, some (.iload_n 2, 1, [2], 0), some (.aload_n 0, 1, [0], 0), some (.iload_n 1, 1, [1], 0), some (.iconst 3, 1, [], 3), some (.invokevirtual 37, 3, [112, 3, 2, 0, 0, 0, 0, 168, 5], 0), none, none, some (.isub, 1, [], 0), some (.goto 4, 3, [22], 0), none, none, some (.iconst 0, 1, [], 0), some (.istore_n 3, 1, [3], 0), some (.aload_n 0, 1, [0], 0), some (.iload_n 3, 1, [3], 0), some (.iconst 0, 1, [], 0), some (.iload_n 3, 1, [3], 0), some (.iconst 0, 1, [], 0), some (.invokevirtual 74, 3, [125, 5, 2, 0, 0, 0, 0, 173, 5], 0), none, none, some (.aload_n 0, 1, [0], 0), some (.aload_n 0, 1, [0], 0), some (.iload_n 1, 1, [1], 0), some (.iconst 1, 1, [], 1), some (.invokevirtual 37, 3, [112, 3, 2, 0, 0, 0, 0, 168, 5], 0), none, none, some (.aload_n 0, 1, [0], 0), some (.iload_n 1, 1, [1], 0), some (.iconst 2, 1, [], 2), some (.invokevirtual 37, 3, [112, 3, 2, 0, 0, 0, 0, 168, 5], 0), none, none, some (.invokevirtual 78, 3, [126, 3, 2, 0, 0, 0, 0, 174, 5], 0), none, none, some (.istore 4, 2, [4], 0), none, some (.iload 4, 2, [4], 0), none, some (.ifCond .ne 14, 3, [65], 0), none, none, some (.aload_n 0, 1, [0], 0), some (.iload_n 1, 1, [1], 0), some (.iconst 3, 1, [], 3), some (.iload_n 2, 1, [2], 0), some (.invokevirtual 81, 3, [113, 4, 2, 0, 0, 0, 0, 183, 5], 0), none, none, some (.aload_n 0, 1, [0], 0), some (.invokevirtual 84, 3, [119, 1, 2, 0, 0, 0, 0, 184, 5], 0), none],
  [none, some (.iload 4, 2, [4], 0), none, some (.ireturn, 1, [0, 0, 1], 0)]]
def cd_129 : List (List (Option IcM)) := [[some (.aload_n 0, 1, [0], 0), some (.iload_n 1, 1, [1], 0), some (.iconst 3, 1, [], 3), some (.invokevirtual 37, 3, [112, 3, 2, 0, 0, 0, 0, 168, 5], 0), none, none, some (.istore_n 2, 1, [2], 0), some (.aload_n 0, 1, [0], 0), some (.getfield 7, 3, [5, 1, 1, 0, 58], 0), none, none, some (.iconst 4, 1, [], 4), some (.dup2, 1, [], 0), some (.iaload, 1, [], 0), some (.iconst 1, 1, [], 1), some (.isub, 1, [], 0), some (.iastore, 1, [], 0), some (.iconst 4, 1, [], 4), some (.iload_n 1, 1, [1], 0), some (.imul, 1, [], 0), some (.istore_n 3, 1, [3], 0), some (.iload_n 3, 1, [3], 0), some (.iconst 4, 1, [], 4), some (.aload_n 0, 1, [0], 0), some (.getfield 7, 3, [5, 1, 1, 0, 58], 0), none, none, some (.iconst 4, 1, [], 4), some (.iaload, 1, [], 0), some (.imul, 1, [], 0), some (.if_icmp .ge 27, 3, [57], 0), none, none, some (.aload_n 0, 1, [0], 0), some (.getfield 7, 3, [5, 1, 1, 0, 58], 0), none, none, some (.iconst 5, 1, [], 5), some (.iload_n 3, 1, [3], 0), some (.iadd, 1, [], 0), some (.aload_n 0, 1, [0], 0), some (.getfield 7, 3, [5, 1, 1, 0, 58], 0), none, none, some (.iconst 5, 1, [], 5), some (.iload_n 3, 1, [3], 0), some (.iadd, 1, [], 0), some (.iconst 4, 1, [], 4), some (.iadd, 1, [], 0), some (.iaload, 1, [], 0), some (.iastore, 1, [], 0), some (.iinc 3 1, 3, [3], 1), none, none, some (.goto (-33), 3, [21], 0), none, none, some (.aload_n 0, 1, [0], 0), some (.invokevirtual 84, 3, [119, 1, 2, 0, 0, 0, 0, 184, 5], 0), none, none, some (.iload_n 2, 1, [2], 0), some (.ireturn, 1, [0, 0, 1], 0)]]
def cd_130 : List (List (Option IcM)) := [[some (.aload_n 0, 1, [0], 0), some (.iload_n 1, 1, [1], 0), some (.iconst 3, 1, [], 3), some (.invokevirtual 37, 3, [112, 3, 2, 0, 0, 0, 0, 168, 5], 0), none, none, some (.istore 4, 2, [4], 0), none, some (.aload_n 0, 1, [0], 0), some (.iload_n 1, 1, [1], 0), some (.iconst 1, 1, [], 1), some (.invokevirtual 37, 3, [112, 3, 2, 0, 0, 0, 0, 168, 5], 0), none, none, some (.iload_n 2, 1, [2], 0), some (.if_icmp .eq 7, 3, [22], 0), none, none, some (.iconst 1, 1, [], 1), some (.goto 4, 3, [23], 0), none, none, some (.iconst 0, 1, [], 0), some (.istore 5, 2, [5], 0), none, some (.aload_n 0, 1, [0], 0), some (.iload_n 1, 1, [1], 0), some (.iconst 2, 1, [], 2), some (.invokevirtual 37, 3, [112, 3, 2, 0, 0, 0, 0, 168, 5], 0), none, none, some (.iload_n 3, 1, [3], 0), some (.if_icmp .eq 7, 3, [39], 0), none, none, some (.iconst 1, 1, [], 1), some (.goto 4, 3, [40], 0), none, none, some (.iconst 0, 1, [], 0), some (.istore 6, 2, [6], 0), none, some (.aload_n 0, 1, [0], 0), some (.iload 5, 2, [5], 0), none, some (.ifCond .eq 8, 3, [53], 0), none, none, some (.iload 4, 2, [4], 0), none, some (.goto 4, 3, [54], 0), none, none, some (.iconst 0, 1, [], 0), some (.iload 5, 2, [5], 0), none, some (.ifCond .eq 7, 3, [63], 0), none, none, some (.iconst 1, 1, [], 1), some (.goto 4, 3, [64], 0), none, none, some (.iconst 0, 1, [], 0)],
  [some (.iload 6, 2, [6], 0), none, some (.ifCond .eq 8, 3, [74], 0), none, none, some (.iload 4, 2, [4], 0), none, some (.goto 4, 3, [75], 0), none, none, some (.iconst 0, 1, [], 0), some (.iload 6, 2, [6], 0), none, some (.ifCond .eq 7, 3, [84], 0), none, none, some (.iconst 1, 1, [], 1), some (.goto 4, 3, [85], 0), none, none, some (.iconst 0, 1, [], 0), some (.invokevirtual 74, 3, [125, 5, 2, 0, 0, 0, 0, 173, 5], 0), none, none, some (.aload_n 0, 1, [0], 0), some (.iload_n 2, 1, [2], 0), some (.iload_n 3, 1, [3], 0), some (.invokevirtual 78, 3, [126, 3, 2, 0, 0, 0, 0, 174, 5], 0), none, none, some (.istore 7, 2, [7], 0), none, some (.iload 7, 2, [7], 0), none, some (.ifCond .ne 21, 3, [119], 0), none, none, some (.aload_n 0, 1, [0], 0), some (.iload_n 1, 1, [1], 0), some (.iconst 1, 1, [], 1), some (.iload_n 2, 1, [2], 0), some (.invokevirtual 81, 3, [113, 4, 2, 0, 0, 0, 0, 183, 5], 0), none, none, some (.aload_n 0, 1, [0], 0), some (.iload_n 1, 1, [1], 0), some (.iconst 2, 1, [], 2), some (.iload_n 3, 1, [3], 0), some (.invokevirtual 81, 3, [113, 4, 2, 0, 0, 0, 0, 183, 5], 0), none, none, some (.aload_n 0, 1, [0], 0), some (.invokevirtual 84, 3, [119, 1, 2, 0, 0, 0, 0, 184, 5], 0), none, none, some (.iload 7, 2, [7], 0), none, some (.ireturn, 1, [0, 0, 1], 0)]]
def cd_131 : List (List (Option IcM)) := [[some (.iconst 0, 1, [], 0), some (.istore_n 2, 1, [2], 0), some (.iconst 0, 1, [], 0), some (.istore_n 3, 1, [3], 0), some (.iload_n 3, 1, [3], 0), some (.iload_n 1, 1, [1], 0), some (.if_icmp .ge 98, 3, [104], 0), none, none, some (.aload_n 0, 1, [0], 0), some (.getfield 7, 3, [5, 1, 1, 0, 58], 0), none, none, some (.iconst 0, 1, [], 0), some (.dup2, 1, [], 0), some (.iaload, 1, [], 0), some (.iconst 1, 1, [], 1), some (.iadd, 1, [], 0), some (.iastore, 1, [], 0), some (.iconst 0, 1, [], 0), some (.istore 4, 2, [4], 0), none, some (.iload 4, 2, [4], 0), none, some (.bipush 18, 2, [], 18), none, some (.if_icmp .ge 72, 3, [98], 0), none, none, some (.aload_n 0, 1, [0], 0), some (.getfield 7, 3, [5, 1, 1, 0, 58], 0), none, none, some (.sipush 281, 3, [], 281), none, none, some (.iload 4, 2, [4], 0), none, some (.iadd, 1, [], 0), some (.iaload, 1, [], 0), some (.iconst (-1), 1, [], (-1)), some (.if_icmp .eq 51, 3, [92], 0), none, none, some (.aload_n 0, 1, [0], 0), some (.getfield 7, 3, [5, 1, 1, 0, 58], 0), none, none, some (.iconst 0, 1, [], 0), some (.iaload, 1, [], 0), some (.aload_n 0, 1, [0], 0), some (.getfield 7, 3, [5, 1, 1, 0, 58], 0), none, none, some (.sipush 281, 3, [], 281), none, none, some (.iload 4, 2, [4], 0), none, some (.iadd, 1, [], 0), some (.iaload, 1, [], 0), some (.isub, 1, [], 0), some (.aload_n 0, 1, [0], 0), some (.getfield 7, 3, [5, 1, 1, 0, 58], 0)],
  [none, none, some (.iconst 1, 1, [], 1), some (.iload 4, 2, [4], 0), none, some (.iconst 2, 1, [], 2), some (.irem, 1, [], 0), some (.iadd, 1, [], 0), some (.iaload, 1, [], 0), some (.if_icmp .ne 19, 3, [92], 0), none, none, some (.aload_n 0, 1, [0], 0), some (.iconst 3, 1, [], 3), some (.iload 4, 2, [4], 0), none, some (.iconst 2, 1, [], 2), some (.idiv, 1, [], 0), some (.iload 4, 2, [4], 0), none, some (.iconst 2, 1, [], 2), some (.irem, 1, [], 0), some (.invokevirtual 48, 3, [117, 4, 2, 0, 0, 0, 0, 182, 5], 0), none, none, some (.iinc 2 1, 3, [2], 1), none, none, some (.iinc 4 1, 3, [4], 1), none, none, some (.goto (-73), 3, [22], 0), none, none, some (.iinc 3 1, 3, [3], 1), none, none, some (.goto (-97), 3, [4], 0), none, none, some (.iload_n 2, 1, [2], 0), some (.ireturn, 1, [0, 0, 1], 0)]]
def cd_132 : List (List (Option IcM)) := [[some (.iconst 0, 1, [], 0), some (.istore_n 3, 1, [3], 0), some (.iload_n 3, 1, [3], 0), some (.sipush 357, 3, [], 357), none, none, some (.if_icmp .ge 33, 3, [39], 0), none, none, some (.aload_n 0, 1, [0], 0), some (.getfield 7, 3, [5, 1, 1, 0, 58], 0), none, none, some (.sipush 357, 3, [], 357), none, none, some (.iload_n 2, 1, [2], 0), some (.imul, 1, [], 0), some (.iload_n 3, 1, [3], 0), some (.iadd, 1, [], 0), some (.aload_n 0, 1, [0], 0), some (.getfield 7, 3, [5, 1, 1, 0, 58], 0), none, none, some (.sipush 357, 3, [], 357), none, none, some (.iload_n 1, 1, [1], 0), some (.imul, 1, [], 0), some (.iload_n 3, 1, [3], 0), some (.iadd, 1, [], 0), some (.iaload, 1, [], 0), some (.iastore, 1, [], 0), some (.iinc 3 1, 3, [3], 1), none, none, some (.goto (-34), 3, [2], 0), none, none, some (.return_, 1, [0, 0, 0], 0)]]
def cd_133 : List (List (Option IcM)) := [[some (.iconst 1, 1, [], 1), some (.istore_n 1, 1, [1], 0), some (.iload_n 1, 1, [1], 0), some (.bipush 6, 2, [], 6), none, some (.if_icmp .ge 26, 3, [31], 0), none, none, some (.aload_n 0, 1, [0], 0), some (.getfield 87, 3, [5, 2, 0, 0, 59], 0), none, none, some (.bipush 6, 2, [], 6), none, some (.if_icmp .ne 17, 3, [31], 0), none, none, some (.aload_n 0, 1, [0], 0), some (.iload_n 1, 1, [1], 0), some (.iconst 1, 1, [], 1), some (.iadd, 1, [], 0), some (.iload_n 1, 1, [1], 0), some (.invokevirtual 90, 3, [132, 3, 2, 0, 0, 0, 0, 171, 5], 0), none, none, some (.iinc 1 1, 3, [1], 1), none, none, some (.goto (-26), 3, [2], 0), none, none, some (.aload_n 0, 1, [0], 0), some (.dup, 1, [], 0), some (.getfield 87, 3, [5, 2, 0, 0, 59], 0), none, none, some (.aload_n 0, 1, [0], 0), some (.getfield 87, 3, [5, 2, 0, 0, 59], 0), none, none, some (.bipush 6, 2, [], 6), none, some (.if_icmp .ge 7, 3, [49], 0), none, none, some (.iconst 1, 1, [], 1), some (.goto 4, 3, [50], 0), none, none, some (.iconst 0, 1, [], 0), some (.iadd, 1, [], 0), some (.putfield 87, 3, [5, 2, 0, 0, 59, 0], 0), none, none, some (.aload_n 0, 1, [0], 0), some (.iconst 0, 1, [], 0), some (.aload_n 0, 1, [0], 0), some (.getfield 87, 3, [5, 2, 0, 0, 59], 0), none, none, some (.invokevirtual 90, 3, [132, 3, 2, 0, 0, 0, 0, 171, 5], 0), none, none, some (.return_, 1, [0, 0, 0], 0)]]
def cd_134 : List (List (Option IcM)) := [[some (.iload_n 1, 1, [1], 0), some (.invokestatic 93, 3, [108, 1, 0, 0, 0, 0, 0, 163, 5], 0), none, none, some (.ifCond .eq 23, 3, [27], 0), none, none, some (.iload_n 2, 1, [2], 0), some (.invokestatic 96, 3, [109, 1, 0, 0, 0, 0, 0, 165, 5], 0), none, none, some (.ifCond .eq 16, 3, [27], 0), none, none, some (.iload_n 3, 1, [3], 0), some (.iload 4, 2, [4], 0), none, some (.invokestatic 99, 3, [110, 2, 0, 0, 0, 0, 0, 166, 5], 0), none, none, some (.ifCond .eq 7, 3, [27], 0), none, none, some (.iconst 1, 1, [], 1), some (.goto 4, 3, [28], 0), none, none, some (.iconst 0, 1, [], 0), some (.istore 6, 2, [6], 0), none, some (.iload 6, 2, [6], 0), none, some (.ifCond .eq 29, 3, [61], 0), none, none, some (.aload_n 0, 1, [0], 0), some (.iload_n 3, 1, [3], 0), some (.iload 4, 2, [4], 0), none, some (.invokevirtual 102, 3, [114, 3, 2, 0, 0, 0, 0, 167, 5], 0), none, none, some (.iconst (-1), 1, [], (-1)), some (.if_icmp .ne 18, 3, [61], 0), none, none, some (.aload_n 0, 1, [0], 0), some (.getfield 7, 3, [5, 1, 1, 0, 58], 0), none, none, some (.iconst 4, 1, [], 4), some (.iaload, 1, [], 0), some (.bipush 60, 2, [], 60), none, some (.if_icmp .ge 7, 3, [61], 0), none, none, some (.iconst 1, 1, [], 1), some (.goto 4, 3, [62], 0), none, none, some (.iconst 0, 1, [], 0), some (.istore 7, 2, [7], 0), none],
  [some (.aload_n 0, 1, [0], 0), some (.iload 6, 2, [6], 0), none, some (.ifCond .ne 7, 3, [74], 0), none, none, some (.iconst 1, 1, [], 1), some (.goto 29, 3, [100], 0), none, none, some (.iload 5, 2, [5], 0), none, some (.iconst 0, 1, [], 0), some (.sipush 5000, 3, [], 5000), none, none, some (.invokestatic 33, 3, [106, 3, 0, 0, 0, 0, 0, 164, 5], 0), none, none, some (.ifCond .ne 7, 3, [90], 0), none, none, some (.iconst 2, 1, [], 2), some (.goto 13, 3, [100], 0), none, none, some (.iload 7, 2, [7], 0), none, some (.ifCond .ne 7, 3, [99], 0), none, none, some (.iconst 3, 1, [], 3), some (.goto 4, 3, [100], 0), none, none, some (.iconst 0, 1, [], 0), some (.invokevirtual 105, 3, [107, 2, 2, 0, 0, 0, 0, 169, 5], 0), none, none, some (.ifCond .ne 5, 3, [108], 0), none, none, some (.iconst 0, 1, [], 0), some (.ireturn, 1, [0, 0, 1], 0), some (.aload_n 0, 1, [0], 0), some (.invokevirtual 108, 3, [133, 1, 2, 0, 0, 0, 0, 170, 5], 0), none, none, some (.aload_n 0, 1, [0], 0), some (.iload_n 1, 1, [1], 0), some (.iload_n 2, 1, [2], 0), some (.bipush 100, 2, [], 100), none, some (.iload_n 3, 1, [3], 0), some (.imul, 1, [], 0), some (.iload 4, 2, [4], 0), none, some (.iadd, 1, [], 0), some (.iload 5, 2, [5], 0), none, some (.invokevirtual 111, 3, [127, 5, 2, 0, 0, 0, 0, 172, 5], 0), none, none, some (.ireturn, 1, [0, 0, 1], 0)]]
def cd_135 : List (List (Option IcM)) := [[some (.iload_n 1, 1, [1], 0), some (.iload_n 2, 1, [2], 0), some (.invokestatic 99, 3, [110, 2, 0, 0, 0, 0, 0, 166, 5], 0), none, none, some (.istore 4, 2, [4], 0), none, some (.aload_n 0, 1, [0], 0), some (.iload 4, 2, [4], 0), none, some (.ifCond .ne 7, 3, [17], 0), none, none, some (.iconst 1, 1, [], 1), some (.goto 33, 3, [47], 0), none, none, some (.iload_n 3, 1, [3], 0), some (.iconst 0, 1, [], 0), some (.sipush 5000, 3, [], 5000), none, none, some (.invokestatic 33, 3, [106, 3, 0, 0, 0, 0, 0, 164, 5], 0), none, none, some (.ifCond .ne 7, 3, [32], 0), none, none, some (.iconst 2, 1, [], 2), some (.goto 18, 3, [47], 0), none, none, some (.aload_n 0, 1, [0], 0), some (.iload_n 1, 1, [1], 0), some (.iload_n 2, 1, [2], 0), some (.invokevirtual 102, 3, [114, 3, 2, 0, 0, 0, 0, 167, 5], 0), none, none, some (.iconst (-1), 1, [], (-1)), some (.if_icmp .ne 7, 3, [46], 0), none, none, some (.iconst 3, 1, [], 3), some (.goto 4, 3, [47], 0), none, none, some (.iconst 0, 1, [], 0), some (.invokevirtual 105, 3, [107, 2, 2, 0, 0, 0, 0, 169, 5], 0), none, none, some (.ifCond .ne 5, 3, [55], 0), none, none, some (.iconst 0, 1, [], 0), some (.ireturn, 1, [0, 0, 1], 0), some (.aload_n 0, 1, [0], 0), some (.invokevirtual 108, 3, [133, 1, 2, 0, 0, 0, 0, 170, 5], 0), none, none, some (.aload_n 0, 1, [0], 0), some (.aload_n 0, 1, [0], 0), some (.iload_n 1, 1, [1], 0), some (.iload_n 2, 1, [2], 0), some (.invokevirtual 102, 3, [114, 3, 2, 0, 0, 0, 0, 167, 5], 0)],
  [none, none, some (.iload_n 3, 1, [3], 0), some (.invokevirtual 115, 3, [128, 3, 2, 0, 0, 0, 0, 187, 5], 0), none, none, some (.ireturn, 1, [0, 0, 1], 0)]]
def cd_136 : List (List (Option IcM)) := [[some (.aload_n 0, 1, [0], 0), some (.iload_n 1, 1, [1], 0), some (.iload_n 2, 1, [2], 0), some (.invokestatic 99, 3, [110, 2, 0, 0, 0, 0, 0, 166, 5], 0), none, none, some (.ifCond .ne 7, 3, [13], 0), none, none, some (.iconst 1, 1, [], 1), some (.goto 18, 3, [28], 0), none, none, some (.aload_n 0, 1, [0], 0), some (.iload_n 1, 1, [1], 0), some (.iload_n 2, 1, [2], 0), some (.invokevirtual 102, 3, [114, 3, 2, 0, 0, 0, 0, 167, 5], 0), none, none, some (.iconst (-1), 1, [], (-1)), some (.if_icmp .ne 7, 3, [27], 0), none, none, some (.iconst 2, 1, [], 2), some (.goto 4, 3, [28], 0), none, none, some (.iconst 0, 1, [], 0), some (.invokevirtual 105, 3, [107, 2, 2, 0, 0, 0, 0, 169, 5], 0), none, none, some (.ifCond .ne 5, 3, [36], 0), none, none, some (.iconst 0, 1, [], 0), some (.ireturn, 1, [0, 0, 1], 0), some (.aload_n 0, 1, [0], 0), some (.invokevirtual 108, 3, [133, 1, 2, 0, 0, 0, 0, 170, 5], 0), none, none, some (.aload_n 0, 1, [0], 0), some (.aload_n 0, 1, [0], 0), some (.iload_n 1, 1, [1], 0), some (.iload_n 2, 1, [2], 0), some (.invokevirtual 102, 3, [114, 3, 2, 0, 0, 0, 0, 167, 5], 0), none, none, some (.invokevirtual 118, 3, [129, 2, 2, 0, 0, 0, 0, 189, 5], 0), none, none, some (.ireturn, 1, [0, 0, 1], 0)]]
def cd_137 : List (List (Option IcM)) := [[some (.iload_n 1, 1, [1], 0), some (.iload_n 2, 1, [2], 0), some (.invokestatic 99, 3, [110, 2, 0, 0, 0, 0, 0, 166, 5], 0), none, none, some (.ifCond .eq 22, 3, [27], 0), none, none, some (.iload_n 3, 1, [3], 0), some (.invokestatic 93, 3, [108, 1, 0, 0, 0, 0, 0, 163, 5], 0), none, none, some (.ifCond .eq 15, 3, [27], 0), none, none, some (.iload 4, 2, [4], 0), none, some (.invokestatic 96, 3, [109, 1, 0, 0, 0, 0, 0, 165, 5], 0), none, none, some (.ifCond .eq 7, 3, [27], 0), none, none, some (.iconst 1, 1, [], 1), some (.goto 4, 3, [28], 0), none, none, some (.iconst 0, 1, [], 0), some (.istore 5, 2, [5], 0), none, some (.aload_n 0, 1, [0], 0), some (.iload 5, 2, [5], 0), none, some (.ifCond .ne 7, 3, [40], 0), none, none, some (.iconst 1, 1, [], 1), some (.goto 18, 3, [55], 0), none, none, some (.aload_n 0, 1, [0], 0), some (.iload_n 1, 1, [1], 0), some (.iload_n 2, 1, [2], 0), some (.invokevirtual 102, 3, [114, 3, 2, 0, 0, 0, 0, 167, 5], 0), none, none, some (.iconst (-1), 1, [], (-1)), some (.if_icmp .ne 7, 3, [54], 0), none, none, some (.iconst 2, 1, [], 2), some (.goto 4, 3, [55], 0), none, none, some (.iconst 0, 1, [], 0), some (.invokevirtual 105, 3, [107, 2, 2, 0, 0, 0, 0, 169, 5], 0), none, none, some (.ifCond .ne 5, 3, [63], 0), none, none, some (.iconst 0, 1, [], 0), some (.ireturn, 1, [0, 0, 1], 0), some (.aload_n 0, 1, [0], 0)],
  [some (.invokevirtual 108, 3, [133, 1, 2, 0, 0, 0, 0, 170, 5], 0), none, none, some (.aload_n 0, 1, [0], 0), some (.aload_n 0, 1, [0], 0), some (.iload_n 1, 1, [1], 0), some (.iload_n 2, 1, [2], 0), some (.invokevirtual 102, 3, [114, 3, 2, 0, 0, 0, 0, 167, 5], 0), none, none, some (.iload_n 3, 1, [3], 0), some (.iload 4, 2, [4], 0), none, some (.invokevirtual 122, 3, [130, 4, 2, 0, 0, 0, 0, 191, 5], 0), none, none, some (.ireturn, 1, [0, 0, 1], 0)]]
def cd_138 : List (List (Option IcM)) := [[some (.iload_n 3, 1, [3], 0), some (.iconst 0, 1, [], 0), some (.ldc 125, 2, [1060], 100000), none, some (.invokestatic 33, 3, [106, 3, 0, 0, 0, 0, 0, 164, 5], 0), none, none, some (.ifCond .eq 33, 3, [40], 0), none, none, some (.iload 4, 2, [4], 0), none, some (.iconst 0, 1, [], 0), some (.ldc 125, 2, [1060], 100000), none, some (.invokestatic 33, 3, [106, 3, 0, 0, 0, 0, 0, 164, 5], 0), none, none, some (.ifCond .eq 22, 3, [40], 0), none, none, some (.iload_n 3, 1, [3], 0), some (.ifCond .eq 14, 3, [36], 0), none, none, some (.iload 4, 2, [4], 0), none, some (.ifCond .eq 9, 3, [36], 0), none, none, some (.iload_n 3, 1, [3], 0), some (.iload 4, 2, [4], 0), none, some (.if_icmp .gt 7, 3, [40], 0), none, none, some (.iconst 1, 1, [], 1), some (.goto 4, 3, [41], 0), none, none, some (.iconst 0, 1, [], 0), some (.istore 5, 2, [5], 0), none, some (.aload_n 0, 1, [0], 0), some (.iload_n 1, 1, [1], 0), some (.iload_n 2, 1, [2], 0), some (.invokestatic 126, 3, [111, 2, 0, 0, 0, 0, 0, 193, 5], 0), none, none, some (.ifCond .ne 7, 3, [56], 0), none, none, some (.iconst 1, 1, [], 1), some (.goto 13, 3, [66], 0), none, none, some (.iload 5, 2, [5], 0), none, some (.ifCond .ne 7, 3, [65], 0), none, none, some (.iconst 2, 1, [], 2), some (.goto 4, 3, [66], 0), none],
  [none, some (.iconst 0, 1, [], 0), some (.invokevirtual 105, 3, [107, 2, 2, 0, 0, 0, 0, 169, 5], 0), none, none, some (.ifCond .ne 5, 3, [74], 0), none, none, some (.iconst 0, 1, [], 0), some (.ireturn, 1, [0, 0, 1], 0), some (.aload_n 0, 1, [0], 0), some (.invokevirtual 108, 3, [133, 1, 2, 0, 0, 0, 0, 170, 5], 0), none, none, some (.aload_n 0, 1, [0], 0), some (.getfield 7, 3, [5, 1, 1, 0, 58], 0), none, none, some (.sipush 245, 3, [], 245), none, none, some (.iconst 2, 1, [], 2), some (.iload_n 1, 1, [1], 0), some (.imul, 1, [], 0), some (.iadd, 1, [], 0), some (.iload_n 2, 1, [2], 0), some (.iadd, 1, [], 0), some (.iload_n 3, 1, [3], 0), some (.iastore, 1, [], 0), some (.aload_n 0, 1, [0], 0), some (.getfield 7, 3, [5, 1, 1, 0, 58], 0), none, none, some (.sipush 263, 3, [], 263), none, none, some (.iconst 2, 1, [], 2), some (.iload_n 1, 1, [1], 0), some (.imul, 1, [], 0), some (.iadd, 1, [], 0), some (.iload_n 2, 1, [2], 0), some (.iadd, 1, [], 0), some (.iload 4, 2, [4], 0), none, some (.iastore, 1, [], 0), some (.aload_n 0, 1, [0], 0), some (.iload_n 1, 1, [1], 0), some (.iload_n 2, 1, [2], 0), some (.invokevirtual 52, 3, [118, 3, 2, 0, 0, 0, 0, 185, 5], 0), none, none, some (.aload_n 0, 1, [0], 0), some (.iload_n 1, 1, [1], 0), some (.iload_n 2, 1, [2], 0), some (.invokevirtual 45, 3, [116, 3, 2, 0, 0, 0, 0, 178, 5], 0), none, none, some (.ireturn, 1, [0, 0, 1], 0)]]
def cd_139 : List (List (Option IcM)) := [[some (.aload_n 0, 1, [0], 0), some (.iload_n 1, 1, [1], 0), some (.iconst 0, 1, [], 0), some (.iconst 1, 1, [], 1), some (.invokestatic 33, 3, [106, 3, 0, 0, 0, 0, 0, 164, 5], 0), none, none, some (.ifCond .ne 7, 3, [14], 0), none, none, some (.iconst 1, 1, [], 1), some (.goto 18, 3, [29], 0), none, none, some (.iload_n 2, 1, [2], 0), some (.iconst 1, 1, [], 1), some (.bipush 60, 2, [], 60), none, some (.invokestatic 33, 3, [106, 3, 0, 0, 0, 0, 0, 164, 5], 0), none, none, some (.ifCond .ne 7, 3, [28], 0), none, none, some (.iconst 2, 1, [], 2), some (.goto 4, 3, [29], 0), none, none, some (.iconst 0, 1, [], 0), some (.invokevirtual 105, 3, [107, 2, 2, 0, 0, 0, 0, 169, 5], 0), none, none, some (.ifCond .ne 5, 3, [37], 0), none, none, some (.iconst 0, 1, [], 0), some (.ireturn, 1, [0, 0, 1], 0), some (.aload_n 0, 1, [0], 0), some (.invokevirtual 108, 3, [133, 1, 2, 0, 0, 0, 0, 170, 5], 0), none, none, some (.aload_n 0, 1, [0], 0), some (.getfield 7, 3, [5, 1, 1, 0, 58], 0), none, none, some (.iconst 1, 1, [], 1), some (.iload_n 1, 1, [1], 0), some (.iadd, 1, [], 0), some (.iaload, 1, [], 0), some (.istore_n 3, 1, [3], 0), some (.aload_n 0, 1, [0], 0), some (.getfield 7, 3, [5, 1, 1, 0, 58], 0), none, none, some (.iconst 1, 1, [], 1), some (.iload_n 1, 1, [1], 0), some (.iadd, 1, [], 0), some (.iload_n 2, 1, [2], 0), some (.iastore, 1, [], 0), some (.iload_n 3, 1, [3], 0), some (.ireturn, 1, [0, 0, 1], 0)]]
def cd_140 : List (List (Option IcM)) := [[some (.iload_n 1, 1, [1], 0), some (.iload_n 2, 1, [2], 0), some (.invokestatic 126, 3, [111, 2, 0, 0, 0, 0, 0, 193, 5], 0), none, none, some (.istore_n 3, 1, [3], 0), some (.aload_n 0, 1, [0], 0), some (.iload_n 3, 1, [3], 0), some (.ifCond .ne 7, 3, [15], 0), none, none, some (.iconst 1, 1, [], 1), some (.goto 26, 3, [38], 0), none, none, some (.aload_n 0, 1, [0], 0), some (.getfield 7, 3, [5, 1, 1, 0, 58], 0), none, none, some (.sipush 281, 3, [], 281), none, none, some (.iconst 2, 1, [], 2), some (.iload_n 1, 1, [1], 0), some (.imul, 1, [], 0), some (.iadd, 1, [], 0), some (.iload_n 2, 1, [2], 0), some (.iadd, 1, [], 0), some (.iaload, 1, [], 0), some (.iconst (-1), 1, [], (-1)), some (.if_icmp .ne 7, 3, [37], 0), none, none, some (.iconst 2, 1, [], 2), some (.goto 4, 3, [38], 0), none, none, some (.iconst 0, 1, [], 0), some (.invokevirtual 105, 3, [107, 2, 2, 0, 0, 0, 0, 169, 5], 0), none, none, some (.ifCond .ne 5, 3, [46], 0), none, none, some (.iconst 0, 1, [], 0), some (.ireturn, 1, [0, 0, 1], 0), some (.aload_n 0, 1, [0], 0), some (.invokevirtual 108, 3, [133, 1, 2, 0, 0, 0, 0, 170, 5], 0), none, none, some (.aload_n 0, 1, [0], 0), some (.getfield 7, 3, [5, 1, 1, 0, 58], 0), none, none, some (.sipush 281, 3, [], 281), none, none, some (.iconst 2, 1, [], 2), some (.iload_n 1, 1, [1], 0), some (.imul, 1, [], 0), some (.iadd, 1, [], 0), some (.iload_n 2, 1, [2], 0), some (.iadd, 1, [], 0), some (.iaload, 1, [], 0)],
  [some (.istore 4, 2, [4], 0), none, some (.aload_n 0, 1, [0], 0), some (.getfield 7, 3, [5, 1, 1, 0, 58], 0), none, none, some (.sipush 281, 3, [], 281), none, none, some (.iconst 2, 1, [], 2), some (.iload_n 1, 1, [1], 0), some (.imul, 1, [], 0), some (.iadd, 1, [], 0), some (.iload_n 2, 1, [2], 0), some (.iadd, 1, [], 0), some (.aload_n 0, 1, [0], 0), some (.getfield 7, 3, [5, 1, 1, 0, 58], 0), none, none, some (.iconst 0, 1, [], 0), some (.iaload, 1, [], 0), some (.iastore, 1, [], 0), some (.iload 4, 2, [4], 0), none, some (.ireturn, 1, [0, 0, 1], 0)]]
def cd_141 : List (List (Option IcM)) := [[some (.aload_n 0, 1, [0], 0), some (.iload_n 1, 1, [1], 0), some (.invokestatic 93, 3, [108, 1, 0, 0, 0, 0, 0, 163, 5], 0), none, none, some (.ifCond .eq 7, 3, [12], 0), none, none, some (.iconst 0, 1, [], 0), some (.goto 4, 3, [13], 0), none, none, some (.iconst 1, 1, [], 1), some (.invokevirtual 105, 3, [107, 2, 2, 0, 0, 0, 0, 169, 5], 0), none, none, some (.ifCond .ne 5, 3, [21], 0), none, none, some (.iconst 0, 1, [], 0), some (.ireturn, 1, [0, 0, 1], 0), some (.aload_n 0, 1, [0], 0), some (.invokevirtual 108, 3, [133, 1, 2, 0, 0, 0, 0, 170, 5], 0), none, none, some (.aload_n 0, 1, [0], 0), some (.getfield 7, 3, [5, 1, 1, 0, 58], 0), none, none, some (.iconst 3, 1, [], 3), some (.dup2, 1, [], 0), some (.iaload, 1, [], 0), some (.aload_n 0, 1, [0], 0), some (.iload_n 1, 1, [1], 0), some (.invokevirtual 56, 3, [122, 2, 2, 0, 0, 0, 0, 176, 5], 0), none, none, some (.ifCond .eq 9, 3, [46], 0), none, none, some (.iconst 1, 1, [], 1), some (.iload_n 1, 1, [1], 0), some (.ishl, 1, [], 0), some (.goto 4, 3, [47], 0), none, none, some (.iconst 0, 1, [], 0), some (.isub, 1, [], 0), some (.iastore, 1, [], 0), some (.aload_n 0, 1, [0], 0), some (.getfield 7, 3, [5, 1, 1, 0, 58], 0), none, none, some (.iconst 3, 1, [], 3), some (.dup2, 1, [], 0), some (.iaload, 1, [], 0), some (.iload_n 2, 1, [2], 0), some (.ifCond .eq 9, 3, [66], 0), none, none, some (.iconst 1, 1, [], 1), some (.iload_n 1, 1, [1], 0), some (.ishl, 1, [], 0), some (.goto 4, 3, [67], 0)],
  [none, none, some (.iconst 0, 1, [], 0), some (.iadd, 1, [], 0), some (.iastore, 1, [], 0), some (.iconst 0, 1, [], 0), some (.istore_n 3, 1, [3], 0), some (.iconst 0, 1, [], 0), some (.istore 4, 2, [4], 0), none, some (.iload 4, 2, [4], 0), none, some (.bipush 6, 2, [], 6), none, some (.if_icmp .ge 26, 3, [104], 0), none, none, some (.iload_n 3, 1, [3], 0), some (.aload_n 0, 1, [0], 0), some (.iload 4, 2, [4], 0), none, some (.invokevirtual 56, 3, [122, 2, 2, 0, 0, 0, 0, 176, 5], 0), none, none, some (.ifCond .eq 7, 3, [95], 0), none, none, some (.iconst 1, 1, [], 1), some (.goto 4, 3, [96], 0), none, none, some (.iconst 0, 1, [], 0), some (.iadd, 1, [], 0), some (.istore_n 3, 1, [3], 0), some (.iinc 4 1, 3, [4], 1), none, none, some (.goto (-27), 3, [74], 0), none, none, some (.iload_n 3, 1, [3], 0), some (.ireturn, 1, [0, 0, 1], 0)]]
def cd_142 : List (List (Option IcM)) := [[some (.aload_n 0, 1, [0], 0), some (.iload_n 1, 1, [1], 0), some (.iconst 1, 1, [], 1), some (.bipush 100, 2, [], 100), none, some (.invokestatic 33, 3, [106, 3, 0, 0, 0, 0, 0, 164, 5], 0), none, none, some (.ifCond .ne 7, 3, [15], 0), none, none, some (.iconst 1, 1, [], 1), some (.goto 22, 3, [34], 0), none, none, some (.aload_n 0, 1, [0], 0), some (.getfield 7, 3, [5, 1, 1, 0, 58], 0), none, none, some (.iconst 0, 1, [], 0), some (.iaload, 1, [], 0), some (.iload_n 1, 1, [1], 0), some (.iadd, 1, [], 0), some (.sipush 10000, 3, [], 10000), none, none, some (.if_icmp .le 7, 3, [33], 0), none, none, some (.iconst 2, 1, [], 2), some (.goto 4, 3, [34], 0), none, none, some (.iconst 0, 1, [], 0), some (.invokevirtual 105, 3, [107, 2, 2, 0, 0, 0, 0, 169, 5], 0), none, none, some (.ifCond .ne 5, 3, [42], 0), none, none, some (.iconst 0, 1, [], 0), some (.ireturn, 1, [0, 0, 1], 0), some (.aload_n 0, 1, [0], 0), some (.invokevirtual 108, 3, [133, 1, 2, 0, 0, 0, 0, 170, 5], 0), none, none, some (.aload_n 0, 1, [0], 0), some (.iload_n 1, 1, [1], 0), some (.invokevirtual 129, 3, [131, 2, 2, 0, 0, 0, 0, 198, 5], 0), none, none, some (.ireturn, 1, [0, 0, 1], 0)]]
def cd_143 : List (List (Option IcM)) := [[some (.aload_n 0, 1, [0], 0), some (.iload_n 1, 1, [1], 0), some (.bipush 32, 2, [], 32), none, some (.bipush 126, 2, [], 126), none, some (.invokestatic 33, 3, [106, 3, 0, 0, 0, 0, 0, 164, 5], 0), none, none, some (.ifCond .ne 7, 3, [16], 0), none, none, some (.iconst 1, 1, [], 1), some (.goto 17, 3, [30], 0), none, none, some (.aload_n 0, 1, [0], 0), some (.getfield 132, 3, [5, 5, 0, 0, 62], 0), none, none, some (.bipush 100, 2, [], 100), none, some (.if_icmp .ne 7, 3, [29], 0), none, none, some (.iconst 2, 1, [], 2), some (.goto 4, 3, [30], 0), none, none, some (.iconst 0, 1, [], 0), some (.invokevirtual 105, 3, [107, 2, 2, 0, 0, 0, 0, 169, 5], 0), none, none, some (.ifCond .ne 5, 3, [38], 0), none, none, some (.iconst 0, 1, [], 0), some (.ireturn, 1, [0, 0, 1], 0), some (.aload_n 0, 1, [0], 0), some (.getfield 17, 3, [5, 4, 1, 0, 61], 0), none, none, some (.aload_n 0, 1, [0], 0), some (.getfield 132, 3, [5, 5, 0, 0, 62], 0), none, none, some (.iload_n 1, 1, [1], 0), some (.iastore, 1, [], 0), some (.aload_n 0, 1, [0], 0), some (.dup, 1, [], 0), some (.getfield 132, 3, [5, 5, 0, 0, 62], 0), none, none, some (.iconst 1, 1, [], 1), some (.iadd, 1, [], 0), some (.putfield 132, 3, [5, 5, 0, 0, 62, 0], 0), none, none, some (.aload_n 0, 1, [0], 0), some (.getfield 132, 3, [5, 5, 0, 0, 62], 0), none, none, some (.ireturn, 1, [0, 0, 1], 0)]]
def cd_144 : List (List (Option IcM)) := [[some (.aload_n 0, 1, [0], 0), some (.iconst 0, 1, [], 0), some (.putfield 29, 3, [5, 0, 0, 0, 57, 0], 0), none, none, some (.aload_n 0, 1, [0], 0), some (.getfield 132, 3, [5, 5, 0, 0, 62], 0), none, none, some (.istore_n 1, 1, [1], 0), some (.aload_n 0, 1, [0], 0), some (.iconst 0, 1, [], 0), some (.putfield 132, 3, [5, 5, 0, 0, 62, 0], 0), none, none, some (.iload_n 1, 1, [1], 0), some (.ireturn, 1, [0, 0, 1], 0)]]
def cd_145 : List (List (Option IcM)) := [[some (.aload_n 0, 1, [0], 0), some (.getfield 135, 3, [5, 6, 0, 0, 63], 0), none, none, some (.aload_n 0, 1, [0], 0), some (.getfield 132, 3, [5, 5, 0, 0, 62], 0), none, none, some (.if_icmp .ge 15, 3, [23], 0), none, none, some (.aload_n 0, 1, [0], 0), some (.getfield 17, 3, [5, 4, 1, 0, 61], 0), none, none, some (.aload_n 0, 1, [0], 0), some (.getfield 135, 3, [5, 6, 0, 0, 63], 0), none, none, some (.iaload, 1, [], 0), some (.goto 4, 3, [24], 0), none, none, some (.iconst 0, 1, [], 0), some (.ireturn, 1, [0, 0, 1], 0)]]
def cd_146 : List (List (Option IcM)) := [[some (.aload_n 0, 1, [0], 0), some (.invokevirtual 138, 3, [145, 1, 2, 0, 0, 0, 0, 204, 5], 0), none, none, some (.iload_n 1, 1, [1], 0), some (.if_icmp .ne 7, 3, [12], 0), none, none, some (.iconst 1, 1, [], 1), some (.goto 4, 3, [13], 0), none, none, some (.iconst 0, 1, [], 0), some (.istore_n 2, 1, [2], 0), some (.aload_n 0, 1, [0], 0), some (.dup, 1, [], 0), some (.getfield 135, 3, [5, 6, 0, 0, 63], 0), none, none, some (.iload_n 2, 1, [2], 0), some (.ifCond .eq 7, 3, [27], 0), none, none, some (.iconst 1, 1, [], 1), some (.goto 4, 3, [28], 0), none, none, some (.iconst 0, 1, [], 0), some (.iadd, 1, [], 0), some (.putfield 135, 3, [5, 6, 0, 0, 63, 0], 0), none, none, some (.iload_n 2, 1, [2], 0), some (.ireturn, 1, [0, 0, 2], 0)]]
def cd_147 : List (List (Option IcM)) := [[some (.aload_n 0, 1, [0], 0), some (.invokevirtual 138, 3, [145, 1, 2, 0, 0, 0, 0, 204, 5], 0), none, none, some (.bipush 48, 2, [], 48), none, some (.iload_n 1, 1, [1], 0), some (.iadd, 1, [], 0), some (.bipush 57, 2, [], 57), none, some (.invokestatic 33, 3, [106, 3, 0, 0, 0, 0, 0, 164, 5], 0), none, none, some (.ifCond .eq 14, 3, [27], 0), none, none, some (.aload_n 0, 1, [0], 0), some (.invokevirtual 138, 3, [145, 1, 2, 0, 0, 0, 0, 204, 5], 0), none, none, some (.bipush 48, 2, [], 48), none, some (.isub, 1, [], 0), some (.iload_n 2, 1, [2], 0), some (.if_icmp .le 5, 3, [29], 0), none, none, some (.iconst (-1), 1, [], (-1)), some (.ireturn, 1, [0, 0, 1], 0), some (.aload_n 0, 1, [0], 0), some (.invokevirtual 138, 3, [145, 1, 2, 0, 0, 0, 0, 204, 5], 0), none, none, some (.bipush 48, 2, [], 48), none, some (.isub, 1, [], 0), some (.istore_n 3, 1, [3], 0), some (.aload_n 0, 1, [0], 0), some (.dup, 1, [], 0), some (.getfield 135, 3, [5, 6, 0, 0, 63], 0), none, none, some (.iconst 1, 1, [], 1), some (.iadd, 1, [], 0), some (.putfield 135, 3, [5, 6, 0, 0, 63, 0], 0), none, none, some (.iload_n 3, 1, [3], 0), some (.ifCond .le 59, 3, [107], 0), none, none, some (.aload_n 0, 1, [0], 0), some (.invokevirtual 138, 3, [145, 1, 2, 0, 0, 0, 0, 204, 5], 0), none, none, some (.bipush 48, 2, [], 48), none, some (.bipush 57, 2, [], 57), none, some (.invokestatic 33, 3, [106, 3, 0, 0, 0, 0, 0, 164, 5], 0), none, none, some (.ifCond .eq 45, 3, [107], 0), none],
  [none, some (.bipush 10, 2, [], 10), none, some (.iload_n 3, 1, [3], 0), some (.imul, 1, [], 0), some (.aload_n 0, 1, [0], 0), some (.invokevirtual 138, 3, [145, 1, 2, 0, 0, 0, 0, 204, 5], 0), none, none, some (.iadd, 1, [], 0), some (.bipush 48, 2, [], 48), none, some (.isub, 1, [], 0), some (.iload_n 2, 1, [2], 0), some (.if_icmp .gt 29, 3, [107], 0), none, none, some (.bipush 10, 2, [], 10), none, some (.iload_n 3, 1, [3], 0), some (.imul, 1, [], 0), some (.aload_n 0, 1, [0], 0), some (.invokevirtual 138, 3, [145, 1, 2, 0, 0, 0, 0, 204, 5], 0), none, none, some (.iadd, 1, [], 0), some (.bipush 48, 2, [], 48), none, some (.isub, 1, [], 0), some (.istore_n 3, 1, [3], 0), some (.aload_n 0, 1, [0], 0), some (.dup, 1, [], 0), some (.getfield 135, 3, [5, 6, 0, 0, 63], 0), none, none, some (.iconst 1, 1, [], 1), some (.iadd, 1, [], 0), some (.putfield 135, 3, [5, 6, 0, 0, 63, 0], 0), none, none, some (.goto (-57), 3, [47], 0), none, none, some (.iload_n 3, 1, [3], 0), some (.ireturn, 1, [0, 0, 1], 0)]]
def cd_148 : List (List (Option IcM)) := [[some (.iload_n 0, 1, [0], 0), some (.bipush 99, 2, [], 99), none, some (.if_icmp .ne 7, 3, [10], 0), none, none, some (.iconst 2, 1, [], 2), some (.goto 4, 3, [11], 0), none, none, some (.iconst 0, 1, [], 0), some (.istore_n 2, 1, [2], 0), some (.iload_n 1, 1, [1], 0), some (.iload_n 2, 1, [2], 0), some (.if_icmp .eq 10, 3, [24], 0), none, none, some (.iload_n 1, 1, [1], 0), some (.iload_n 2, 1, [2], 0), some (.iconst 1, 1, [], 1), some (.iadd, 1, [], 0), some (.if_icmp .ne 35, 3, [56], 0), none, none, some (.iload_n 0, 1, [0], 0), some (.bipush 110, 2, [], 110), none, some (.if_icmp .ne 16, 3, [43], 0), none, none, some (.iload_n 1, 1, [1], 0), some (.ifCond .ne 8, 3, [39], 0), none, none, some (.bipush 100, 2, [], 100), none, some (.goto 19, 3, [55], 0), none, none, some (.iconst (-1), 1, [], (-1)), some (.goto 15, 3, [55], 0), none, none, some (.iload_n 1, 1, [1], 0), some (.iload_n 2, 1, [2], 0), some (.if_icmp .ne 8, 3, [53], 0), none, none, some (.bipush 9, 2, [], 9), none, some (.goto 5, 3, [55], 0), none, none, some (.bipush 99, 2, [], 99), none, some (.ireturn, 1, [0, 0, 1], 0), some (.iload_n 0, 1, [0], 0), some (.lookupswitch 98 #[(99, 35), (109, 78), (114, 65)], 35, [155, 99, 92, 109, 135, 114, 122], 0), none, none, none, none, none, none],
  [none, none, none, none, none, none, none, none, none, none, none, none, none, none, none, none, none, none, none, none, none, none, none, none, none, none, none, none, some (.iload_n 1, 1, [1], 0), some (.ifCond .ne 7, 3, [100], 0), none, none, some (.iconst 5, 1, [], 5), some (.goto 24, 3, [121], 0), none, none, some (.iload_n 1, 1, [1], 0), some (.iconst 1, 1, [], 1), some (.if_icmp .ne 7, 3, [109], 0), none, none, some (.iconst 2, 1, [], 2), some (.goto 15, 3, [121], 0), none, none, some (.iload_n 1, 1, [1], 0), some (.iconst 4, 1, [], 4), some (.if_icmp .ne 9, 3, [120], 0), none, none, some (.sipush 5000, 3, [], 5000), none, none, some (.goto 4, 3, [121], 0), none, none, some (.iconst (-1), 1, [], (-1)), some (.ireturn, 1, [0, 0, 1], 0), some (.iload_n 1, 1, [1], 0), some (.iconst 2, 1, [], 2), some (.if_icmp .ne 9, 3, [133], 0), none, none, some (.sipush 5000, 3, [], 5000)],
  [none, none, some (.goto 4, 3, [134], 0), none, none, some (.iconst (-1), 1, [], (-1)), some (.ireturn, 1, [0, 0, 1], 0), some (.iload_n 1, 1, [1], 0), some (.iconst 2, 1, [], 2), some (.if_icmp .ne 7, 3, [144], 0), none, none, some (.iconst 5, 1, [], 5), some (.goto 13, 3, [154], 0), none, none, some (.iload_n 1, 1, [1], 0), some (.iconst 3, 1, [], 3), some (.if_icmp .ne 7, 3, [153], 0), none, none, some (.iconst 2, 1, [], 2), some (.goto 4, 3, [154], 0), none, none, some (.iconst (-1), 1, [], (-1)), some (.ireturn, 1, [0, 0, 1], 0), some (.iconst (-1), 1, [], (-1)), some (.ireturn, 1, [0, 0, 1], 0)]]
def cd_149 : List (List (Option IcM)) := [[some (.aload_n 0, 1, [0], 0), some (.aload_n 0, 1, [0], 0), some (.invokevirtual 138, 3, [145, 1, 2, 0, 0, 0, 0, 204, 5], 0), none, none, some (.putfield 142, 3, [5, 7, 0, 0, 64, 0], 0), none, none, some (.aload_n 0, 1, [0], 0), some (.bipush 99, 2, [], 99), none, some (.invokevirtual 145, 3, [146, 2, 2, 0, 0, 0, 0, 205, 5], 0), none, none, some (.ifCond .ne 41, 3, [55], 0), none, none, some (.aload_n 0, 1, [0], 0), some (.bipush 114, 2, [], 114), none, some (.invokevirtual 145, 3, [146, 2, 2, 0, 0, 0, 0, 205, 5], 0), none, none, some (.ifCond .ne 32, 3, [55], 0), none, none, some (.aload_n 0, 1, [0], 0), some (.bipush 100, 2, [], 100), none, some (.invokevirtual 145, 3, [146, 2, 2, 0, 0, 0, 0, 205, 5], 0), none, none, some (.ifCond .ne 23, 3, [55], 0), none, none, some (.aload_n 0, 1, [0], 0), some (.bipush 109, 2, [], 109), none, some (.invokevirtual 145, 3, [146, 2, 2, 0, 0, 0, 0, 205, 5], 0), none, none, some (.ifCond .ne 14, 3, [55], 0), none, none, some (.aload_n 0, 1, [0], 0), some (.bipush 110, 2, [], 110), none, some (.invokevirtual 145, 3, [146, 2, 2, 0, 0, 0, 0, 205, 5], 0), none, none, some (.ifCond .ne 5, 3, [55], 0), none, none, some (.iconst 0, 1, [], 0), some (.ireturn, 1, [0, 0, 2], 0), some (.iconst 0, 1, [], 0), some (.istore_n 1, 1, [1], 0), some (.iload_n 1, 1, [1], 0), some (.iconst 5, 1, [], 5), some (.if_icmp .ge 78, 3, [137], 0), none, none, some (.aload_n 0, 1, [0], 0), some (.getfield 142, 3, [5, 7, 0, 0, 64], 0)],
  [none, none, some (.iload_n 1, 1, [1], 0), some (.invokestatic 148, 3, [148, 2, 0, 0, 0, 0, 0, 206, 5], 0), none, none, some (.ifCond .lt 67, 3, [137], 0), none, none, some (.iload_n 1, 1, [1], 0), some (.ifCond .le 14, 3, [88], 0), none, none, some (.aload_n 0, 1, [0], 0), some (.bipush 44, 2, [], 44), none, some (.invokevirtual 145, 3, [146, 2, 2, 0, 0, 0, 0, 205, 5], 0), none, none, some (.ifCond .ne 5, 3, [88], 0), none, none, some (.iconst 0, 1, [], 0), some (.ireturn, 1, [0, 0, 2], 0), some (.aload_n 0, 1, [0], 0), some (.getfield 20, 3, [5, 8, 1, 0, 65], 0), none, none, some (.iload_n 1, 1, [1], 0), some (.aload_n 0, 1, [0], 0), some (.aload_n 0, 1, [0], 0), some (.getfield 142, 3, [5, 7, 0, 0, 64], 0), none, none, some (.bipush 110, 2, [], 110), none, some (.if_icmp .ne 7, 3, [107], 0), none, none, some (.iconst 1, 1, [], 1), some (.goto 4, 3, [108], 0), none, none, some (.iconst 0, 1, [], 0), some (.aload_n 0, 1, [0], 0), some (.getfield 142, 3, [5, 7, 0, 0, 64], 0), none, none, some (.iload_n 1, 1, [1], 0), some (.invokestatic 148, 3, [148, 2, 0, 0, 0, 0, 0, 206, 5], 0), none, none, some (.invokevirtual 151, 3, [147, 3, 2, 0, 0, 0, 0, 207, 5], 0), none, none, some (.iastore, 1, [], 0), some (.aload_n 0, 1, [0], 0), some (.getfield 20, 3, [5, 8, 1, 0, 65], 0), none, none, some (.iload_n 1, 1, [1], 0), some (.iaload, 1, [], 0), some (.ifCond .ge 5, 3, [131], 0), none],
  [none, some (.iconst 0, 1, [], 0), some (.ireturn, 1, [0, 0, 2], 0), some (.iinc 1 1, 3, [1], 1), none, none, some (.goto (-77), 3, [57], 0), none, none, some (.iconst 1, 1, [], 1), some (.ireturn, 1, [0, 0, 2], 0)]]
def cd_150 : List (List (Option IcM)) := [[some (.aload_n 0, 1, [0], 0), some (.iconst 0, 1, [], 0), some (.putfield 135, 3, [5, 6, 0, 0, 63, 0], 0), none, none, some (.aload_n 0, 1, [0], 0), some (.invokevirtual 154, 3, [149, 1, 2, 0, 0, 0, 0, 203, 5], 0), none, none, some (.ifCond .eq 27, 3, [36], 0), none, none, some (.aload_n 0, 1, [0], 0), some (.getfield 135, 3, [5, 6, 0, 0, 63], 0), none, none, some (.aload_n 0, 1, [0], 0), some (.getfield 132, 3, [5, 5, 0, 0, 62], 0), none, none, some (.if_icmp .ne 5, 3, [25], 0), none, none, some (.iconst 1, 1, [], 1), some (.ireturn, 1, [0, 0, 2], 0), some (.aload_n 0, 1, [0], 0), some (.bipush 59, 2, [], 59), none, some (.invokevirtual 145, 3, [146, 2, 2, 0, 0, 0, 0, 205, 5], 0), none, none, some (.ifCond .ne (-26), 3, [5], 0), none, none, some (.iconst 0, 1, [], 0), some (.ireturn, 1, [0, 0, 2], 0), some (.iconst 0, 1, [], 0), some (.ireturn, 1, [0, 0, 2], 0)]]
def cd_151 : List (List (Option IcM)) := [[some (.aload_n 0, 1, [0], 0), some (.iconst 0, 1, [], 0), some (.putfield 29, 3, [5, 0, 0, 0, 57, 0], 0), none, none, some (.aload_n 0, 1, [0], 0), some (.invokevirtual 158, 3, [150, 1, 2, 0, 0, 0, 0, 202, 5], 0), none, none, some (.ifCond .eq 7, 3, [16], 0), none, none, some (.iconst (-1), 1, [], (-1)), some (.goto 7, 3, [20], 0), none, none, some (.aload_n 0, 1, [0], 0), some (.getfield 135, 3, [5, 6, 0, 0, 63], 0), none, none, some (.ireturn, 1, [0, 0, 1], 0)]]
def cd_152 : List (List (Option IcM)) := [[some (.aload_n 0, 1, [0], 0), some (.getfield 142, 3, [5, 7, 0, 0, 64], 0), none, none, some (.bipush 110, 2, [], 110), none, some (.if_icmp .ne 61, 3, [67], 0), none, none, some (.aload_n 0, 1, [0], 0), some (.getfield 7, 3, [5, 1, 1, 0, 58], 0), none, none, some (.iconst 0, 1, [], 0), some (.iaload, 1, [], 0), some (.aload_n 0, 1, [0], 0), some (.getfield 20, 3, [5, 8, 1, 0, 65], 0), none, none, some (.iconst 0, 1, [], 0), some (.iaload, 1, [], 0), some (.iadd, 1, [], 0), some (.sipush 10000, 3, [], 10000), none, none, some (.if_icmp .gt 7, 3, [32], 0), none, none, some (.iconst 1, 1, [], 1), some (.goto 4, 3, [33], 0), none, none, some (.iconst 0, 1, [], 0), some (.istore_n 1, 1, [1], 0), some (.iload_n 1, 1, [1], 0), some (.ifCond .eq 16, 3, [51], 0), none, none, some (.aload_n 0, 1, [0], 0), some (.aload_n 0, 1, [0], 0), some (.getfield 20, 3, [5, 8, 1, 0, 65], 0), none, none, some (.iconst 0, 1, [], 0), some (.iaload, 1, [], 0), some (.invokevirtual 129, 3, [131, 2, 2, 0, 0, 0, 0, 198, 5], 0), none, none, some (.goto 4, 3, [52], 0), none, none, some (.iconst 0, 1, [], 0), some (.istore_n 2, 1, [2], 0), some (.iload_n 1, 1, [1], 0), some (.ifCond .eq 11, 3, [65], 0), none, none, some (.iload_n 2, 1, [2], 0), some (.ifCond .lt 7, 3, [65], 0), none, none, some (.iconst 1, 1, [], 1), some (.goto 4, 3, [66], 0), none],
  [none, some (.iconst 0, 1, [], 0), some (.ireturn, 1, [0, 0, 2], 0), some (.aload_n 0, 1, [0], 0), some (.getfield 142, 3, [5, 7, 0, 0, 64], 0), none, none, some (.bipush 99, 2, [], 99), none, some (.if_icmp .ne 7, 3, [80], 0), none, none, some (.iconst 2, 1, [], 2), some (.goto 4, 3, [81], 0), none, none, some (.iconst 0, 1, [], 0), some (.istore_n 1, 1, [1], 0), some (.aload_n 0, 1, [0], 0), some (.aload_n 0, 1, [0], 0), some (.getfield 20, 3, [5, 8, 1, 0, 65], 0), none, none, some (.iload_n 1, 1, [1], 0), some (.iaload, 1, [], 0), some (.aload_n 0, 1, [0], 0), some (.getfield 20, 3, [5, 8, 1, 0, 65], 0), none, none, some (.iload_n 1, 1, [1], 0), some (.iconst 1, 1, [], 1), some (.iadd, 1, [], 0), some (.iaload, 1, [], 0), some (.invokevirtual 102, 3, [114, 3, 2, 0, 0, 0, 0, 167, 5], 0), none, none, some (.istore_n 2, 1, [2], 0), some (.iconst 0, 1, [], 0), some (.istore_n 3, 1, [3], 0), some (.aload_n 0, 1, [0], 0), some (.getfield 142, 3, [5, 7, 0, 0, 64], 0), none, none, some (.bipush 99, 2, [], 99), none, some (.if_icmp .ne 22, 3, [131], 0), none, none, some (.iload_n 2, 1, [2], 0), some (.iconst (-1), 1, [], (-1)), some (.if_icmp .ne 22, 3, [136], 0), none, none, some (.aload_n 0, 1, [0], 0), some (.getfield 7, 3, [5, 1, 1, 0, 58], 0), none, none, some (.iconst 4, 1, [], 4), some (.iaload, 1, [], 0), some (.bipush 60, 2, [], 60), none, some (.if_icmp .ne 13, 3, [138], 0), none, none],
  [some (.goto 8, 3, [136], 0), none, none, some (.iload_n 2, 1, [2], 0), some (.iconst (-1), 1, [], (-1)), some (.if_icmp .ne 5, 3, [138], 0), none, none, some (.iconst 0, 1, [], 0), some (.ireturn, 1, [0, 0, 2], 0), some (.aload_n 0, 1, [0], 0), some (.getfield 142, 3, [5, 7, 0, 0, 64], 0), none, none, some (.lookupswitch 100 #[(99, 34), (100, 91), (114, 76)], 34, [242, 99, 176, 100, 233, 114, 218], 0), none, none, none, none, none, none, none, none, none, none, none, none, none, none, none, none, none, none, none, none, none, none, none, none, none, none, none, none, none, none, none, none, none, some (.aload_n 0, 1, [0], 0), some (.aload_n 0, 1, [0], 0), some (.getfield 20, 3, [5, 8, 1, 0, 65], 0), none, none, some (.iconst 0, 1, [], 0), some (.iaload, 1, [], 0), some (.aload_n 0, 1, [0], 0), some (.getfield 20, 3, [5, 8, 1, 0, 65], 0), none, none, some (.iconst 1, 1, [], 1), some (.iaload, 1, [], 0), some (.bipush 100, 2, [], 100), none, some (.aload_n 0, 1, [0], 0)],
  [some (.getfield 20, 3, [5, 8, 1, 0, 65], 0), none, none, some (.iconst 2, 1, [], 2), some (.iaload, 1, [], 0), some (.imul, 1, [], 0), some (.aload_n 0, 1, [0], 0), some (.getfield 20, 3, [5, 8, 1, 0, 65], 0), none, none, some (.iconst 3, 1, [], 3), some (.iaload, 1, [], 0), some (.iadd, 1, [], 0), some (.aload_n 0, 1, [0], 0), some (.getfield 20, 3, [5, 8, 1, 0, 65], 0), none, none, some (.iconst 4, 1, [], 4), some (.iaload, 1, [], 0), some (.invokevirtual 111, 3, [127, 5, 2, 0, 0, 0, 0, 172, 5], 0), none, none, some (.istore_n 3, 1, [3], 0), some (.goto 45, 3, [260], 0), none, none, some (.aload_n 0, 1, [0], 0), some (.iload_n 2, 1, [2], 0), some (.aload_n 0, 1, [0], 0), some (.getfield 20, 3, [5, 8, 1, 0, 65], 0), none, none, some (.iconst 2, 1, [], 2), some (.iaload, 1, [], 0), some (.invokevirtual 115, 3, [128, 3, 2, 0, 0, 0, 0, 187, 5], 0), none, none, some (.istore_n 3, 1, [3], 0), some (.goto 30, 3, [260], 0), none, none, some (.aload_n 0, 1, [0], 0), some (.iload_n 2, 1, [2], 0), some (.invokevirtual 118, 3, [129, 2, 2, 0, 0, 0, 0, 189, 5], 0), none, none, some (.istore_n 3, 1, [3], 0), some (.goto 21, 3, [260], 0), none, none, some (.aload_n 0, 1, [0], 0), some (.iload_n 2, 1, [2], 0), some (.aload_n 0, 1, [0], 0), some (.getfield 20, 3, [5, 8, 1, 0, 65], 0), none, none, some (.iconst 2, 1, [], 2), some (.iaload, 1, [], 0), some (.aload_n 0, 1, [0], 0), some (.getfield 20, 3, [5, 8, 1, 0, 65], 0), none, none, some (.iconst 3, 1, [], 3), some (.iaload, 1, [], 0)],
  [some (.invokevirtual 122, 3, [130, 4, 2, 0, 0, 0, 0, 191, 5], 0), none, none, some (.istore_n 3, 1, [3], 0), some (.iload_n 3, 1, [3], 0), some (.ifCond .lt 7, 3, [268], 0), none, none, some (.iconst 1, 1, [], 1), some (.goto 4, 3, [269], 0), none, none, some (.iconst 0, 1, [], 0), some (.ireturn, 1, [0, 0, 2], 0)]]
def cd_153 : List (List (Option IcM)) := [[some (.aload_n 0, 1, [0], 0), some (.aload_n 0, 1, [0], 0), some (.invokevirtual 158, 3, [150, 1, 2, 0, 0, 0, 0, 202, 5], 0), none, none, some (.ifCond .eq 7, 3, [12], 0), none, none, some (.iconst 0, 1, [], 0), some (.goto 4, 3, [13], 0), none, none, some (.iconst 1, 1, [], 1), some (.invokevirtual 105, 3, [107, 2, 2, 0, 0, 0, 0, 169, 5], 0), none, none, some (.ifCond .ne 5, 3, [21], 0), none, none, some (.iconst 0, 1, [], 0), some (.ireturn, 1, [0, 0, 1], 0), some (.aload_n 0, 1, [0], 0), some (.invokevirtual 108, 3, [133, 1, 2, 0, 0, 0, 0, 170, 5], 0), none, none, some (.aload_n 0, 1, [0], 0), some (.iconst 0, 1, [], 0), some (.putfield 135, 3, [5, 6, 0, 0, 63, 0], 0), none, none, some (.iconst 0, 1, [], 0), some (.istore_n 1, 1, [1], 0), some (.aload_n 0, 1, [0], 0), some (.invokevirtual 154, 3, [149, 1, 2, 0, 0, 0, 0, 203, 5], 0), none, none, some (.ifCond .eq 23, 3, [59], 0), none, none, some (.aload_n 0, 1, [0], 0), some (.invokevirtual 161, 3, [152, 1, 2, 0, 0, 0, 0, 209, 5], 0), none, none, some (.ifCond .eq 16, 3, [59], 0), none, none, some (.iinc 1 1, 3, [1], 1), none, none, some (.aload_n 0, 1, [0], 0), some (.bipush 59, 2, [], 59), none, some (.invokevirtual 145, 3, [146, 2, 2, 0, 0, 0, 0, 205, 5], 0), none, none, some (.pop, 1, [], 0), some (.goto (-24), 3, [32], 0), none, none, some (.iload_n 1, 1, [1], 0), some (.ireturn, 1, [0, 0, 1], 0)]]
def cd_154 : List (List (Option IcM)) := [[some (.aload_n 0, 1, [0], 0), some (.aload_n 0, 1, [0], 0), some (.getfield 87, 3, [5, 2, 0, 0, 59], 0), none, none, some (.ifCond .le 7, 3, [12], 0), none, none, some (.iconst 0, 1, [], 0), some (.goto 4, 3, [13], 0), none, none, some (.iconst 1, 1, [], 1), some (.invokevirtual 105, 3, [107, 2, 2, 0, 0, 0, 0, 169, 5], 0), none, none, some (.ifCond .ne 5, 3, [21], 0), none, none, some (.iconst 0, 1, [], 0), some (.ireturn, 1, [0, 0, 1], 0), some (.aload_n 0, 1, [0], 0), some (.aload_n 0, 1, [0], 0), some (.getfield 87, 3, [5, 2, 0, 0, 59], 0), none, none, some (.iconst 0, 1, [], 0), some (.invokevirtual 90, 3, [132, 3, 2, 0, 0, 0, 0, 171, 5], 0), none, none, some (.aload_n 0, 1, [0], 0), some (.dup, 1, [], 0), some (.getfield 87, 3, [5, 2, 0, 0, 59], 0), none, none, some (.iconst 1, 1, [], 1), some (.isub, 1, [], 0), some (.putfield 87, 3, [5, 2, 0, 0, 59, 0], 0), none, none, some (.aload_n 0, 1, [0], 0), some (.getfield 87, 3, [5, 2, 0, 0, 59], 0), none, none, some (.ireturn, 1, [0, 0, 1], 0)]]
def cd_155 : List (List (Option IcM)) := [[some (.aload_n 0, 1, [0], 0), some (.iload_n 1, 1, [1], 0), some (.iconst 0, 1, [], 0), some (.iconst 1, 1, [], 1), some (.invokestatic 33, 3, [106, 3, 0, 0, 0, 0, 0, 164, 5], 0), none, none, some (.ifCond .eq 7, 3, [14], 0), none, none, some (.iconst 0, 1, [], 0), some (.goto 4, 3, [15], 0), none, none, some (.iconst 1, 1, [], 1), some (.invokevirtual 105, 3, [107, 2, 2, 0, 0, 0, 0, 169, 5], 0), none, none, some (.ifCond .ne 5, 3, [23], 0), none, none, some (.iconst 0, 1, [], 0), some (.ireturn, 1, [0, 0, 1], 0), some (.aload_n 0, 1, [0], 0), some (.iconst 0, 1, [], 0), some (.bipush 7, 2, [], 7), none, some (.iload_n 1, 1, [1], 0), some (.iadd, 1, [], 0), some (.invokevirtual 90, 3, [132, 3, 2, 0, 0, 0, 0, 171, 5], 0), none, none, some (.aload_n 0, 1, [0], 0), some (.getfield 13, 3, [5, 3, 1, 0, 60], 0), none, none, some (.iload_n 1, 1, [1], 0), some (.iconst 1, 1, [], 1), some (.bastore, 1, [], 0), some (.aload_n 0, 1, [0], 0), some (.getfield 7, 3, [5, 1, 1, 0, 58], 0), none, none, some (.iconst 0, 1, [], 0), some (.iaload, 1, [], 0), some (.ireturn, 1, [0, 0, 1], 0)]]
def cd_156 : List (List (Option IcM)) := [[some (.aload_n 0, 1, [0], 0), some (.iload_n 1, 1, [1], 0), some (.iconst 0, 1, [], 0), some (.iconst 1, 1, [], 1), some (.invokestatic 33, 3, [106, 3, 0, 0, 0, 0, 0, 164, 5], 0), none, none, some (.ifCond .ne 7, 3, [14], 0), none, none, some (.iconst 1, 1, [], 1), some (.goto 17, 3, [28], 0), none, none, some (.aload_n 0, 1, [0], 0), some (.getfield 13, 3, [5, 3, 1, 0, 60], 0), none, none, some (.iload_n 1, 1, [1], 0), some (.baload, 1, [], 0), some (.ifCond .ne 7, 3, [27], 0), none, none, some (.iconst 2, 1, [], 2), some (.goto 4, 3, [28], 0), none, none, some (.iconst 0, 1, [], 0), some (.invokevirtual 105, 3, [107, 2, 2, 0, 0, 0, 0, 169, 5], 0), none, none, some (.ifCond .ne 5, 3, [36], 0), none, none, some (.iconst 0, 1, [], 0), some (.ireturn, 1, [0, 0, 1], 0), some (.aload_n 0, 1, [0], 0), some (.invokevirtual 108, 3, [133, 1, 2, 0, 0, 0, 0, 170, 5], 0), none, none, some (.aload_n 0, 1, [0], 0), some (.bipush 7, 2, [], 7), none, some (.iload_n 1, 1, [1], 0), some (.iadd, 1, [], 0), some (.iconst 0, 1, [], 0), some (.invokevirtual 90, 3, [132, 3, 2, 0, 0, 0, 0, 171, 5], 0), none, none, some (.aload_n 0, 1, [0], 0), some (.getfield 7, 3, [5, 1, 1, 0, 58], 0), none, none, some (.iconst 0, 1, [], 0), some (.iaload, 1, [], 0), some (.ireturn, 1, [0, 0, 1], 0)]]
def cd_157 : List (List (Option IcM)) := [[some (.aload_n 0, 1, [0], 0), some (.iload_n 1, 1, [1], 0), some (.iload_n 2, 1, [2], 0), some (.invokestatic 126, 3, [111, 2, 0, 0, 0, 0, 0, 193, 5], 0), none, none, some (.ifCond .eq 7, 3, [13], 0), none, none, some (.iconst 0, 1, [], 0), some (.goto 4, 3, [14], 0), none, none, some (.iconst 1, 1, [], 1), some (.invokevirtual 105, 3, [107, 2, 2, 0, 0, 0, 0, 169, 5], 0), none, none, some (.ifCond .eq 12, 3, [29], 0), none, none, some (.aload_n 0, 1, [0], 0), some (.iload_n 1, 1, [1], 0), some (.iload_n 2, 1, [2], 0), some (.invokevirtual 45, 3, [116, 3, 2, 0, 0, 0, 0, 178, 5], 0), none, none, some (.goto 4, 3, [30], 0), none, none, some (.iconst 0, 1, [], 0), some (.ireturn, 1, [0, 0, 1], 0)]]
def cd_158 : List (List (Option IcM)) := [[some (.aload_n 0, 1, [0], 0), some (.iload_n 1, 1, [1], 0), some (.iload_n 2, 1, [2], 0), some (.invokestatic 126, 3, [111, 2, 0, 0, 0, 0, 0, 193, 5], 0), none, none, some (.ifCond .eq 7, 3, [13], 0), none, none, some (.iconst 0, 1, [], 0), some (.goto 4, 3, [14], 0), none, none, some (.iconst 1, 1, [], 1), some (.invokevirtual 105, 3, [107, 2, 2, 0, 0, 0, 0, 169, 5], 0), none, none, some (.ifCond .eq 12, 3, [29], 0), none, none, some (.aload_n 0, 1, [0], 0), some (.iload_n 1, 1, [1], 0), some (.iload_n 2, 1, [2], 0), some (.invokevirtual 45, 3, [116, 3, 2, 0, 0, 0, 0, 178, 5], 0), none, none, some (.goto 4, 3, [30], 0), none, none, some (.iconst 0, 1, [], 0), some (.ireturn, 1, [0, 0, 1], 0)]]
def cd_159 : List (List (Option IcM)) := [[some (.aload_n 0, 1, [0], 0), some (.iload_n 1, 1, [1], 0), some (.iload_n 2, 1, [2], 0), some (.invokestatic 126, 3, [111, 2, 0, 0, 0, 0, 0, 193, 5], 0), none, none, some (.ifCond .eq 7, 3, [13], 0), none, none, some (.iconst 0, 1, [], 0), some (.goto 4, 3, [14], 0), none, none, some (.iconst 1, 1, [], 1), some (.invokevirtual 105, 3, [107, 2, 2, 0, 0, 0, 0, 169, 5], 0), none, none, some (.ifCond .eq 20, 3, [37], 0), none, none, some (.aload_n 0, 1, [0], 0), some (.getfield 7, 3, [5, 1, 1, 0, 58], 0), none, none, some (.sipush 245, 3, [], 245), none, none, some (.iconst 2, 1, [], 2), some (.iload_n 1, 1, [1], 0), some (.imul, 1, [], 0), some (.iadd, 1, [], 0), some (.iload_n 2, 1, [2], 0), some (.iadd, 1, [], 0), some (.iaload, 1, [], 0), some (.goto 4, 3, [38], 0), none, none, some (.iconst 0, 1, [], 0), some (.ireturn, 1, [0, 0, 1], 0)]]
def cd_160 : List (List (Option IcM)) := [[some (.aload_n 0, 1, [0], 0), some (.iload_n 1, 1, [1], 0), some (.iload_n 2, 1, [2], 0), some (.invokestatic 126, 3, [111, 2, 0, 0, 0, 0, 0, 193, 5], 0), none, none, some (.ifCond .eq 7, 3, [13], 0), none, none, some (.iconst 0, 1, [], 0), some (.goto 4, 3, [14], 0), none, none, some (.iconst 1, 1, [], 1), some (.invokevirtual 105, 3, [107, 2, 2, 0, 0, 0, 0, 169, 5], 0), none, none, some (.ifCond .eq 20, 3, [37], 0), none, none, some (.aload_n 0, 1, [0], 0), some (.getfield 7, 3, [5, 1, 1, 0, 58], 0), none, none, some (.sipush 263, 3, [], 263), none, none, some (.iconst 2, 1, [], 2), some (.iload_n 1, 1, [1], 0), some (.imul, 1, [], 0), some (.iadd, 1, [], 0), some (.iload_n 2, 1, [2], 0), some (.iadd, 1, [], 0), some (.iaload, 1, [], 0), some (.goto 4, 3, [38], 0), none, none, some (.iconst 0, 1, [], 0), some (.ireturn, 1, [0, 0, 1], 0)]]
def cd_161 : List (List (Option IcM)) := [[some (.aload_n 0, 1, [0], 0), some (.iload_n 1, 1, [1], 0), some (.iload_n 2, 1, [2], 0), some (.invokestatic 126, 3, [111, 2, 0, 0, 0, 0, 0, 193, 5], 0), none, none, some (.ifCond .eq 7, 3, [13], 0), none, none, some (.iconst 0, 1, [], 0), some (.goto 4, 3, [14], 0), none, none, some (.iconst 1, 1, [], 1), some (.invokevirtual 105, 3, [107, 2, 2, 0, 0, 0, 0, 169, 5], 0), none, none, some (.ifCond .eq 20, 3, [37], 0), none, none, some (.aload_n 0, 1, [0], 0), some (.getfield 7, 3, [5, 1, 1, 0, 58], 0), none, none, some (.sipush 281, 3, [], 281), none, none, some (.iconst 2, 1, [], 2), some (.iload_n 1, 1, [1], 0), some (.imul, 1, [], 0), some (.iadd, 1, [], 0), some (.iload_n 2, 1, [2], 0), some (.iadd, 1, [], 0), some (.iaload, 1, [], 0), some (.goto 4, 3, [38], 0), none, none, some (.iconst 0, 1, [], 0), some (.ireturn, 1, [0, 0, 1], 0)]]
def cd_162 : List (List (Option IcM)) := [[some (.aload_n 0, 1, [0], 0), some (.iload_n 1, 1, [1], 0), some (.iload_n 2, 1, [2], 0), some (.invokestatic 126, 3, [111, 2, 0, 0, 0, 0, 0, 193, 5], 0), none, none, some (.ifCond .eq 7, 3, [13], 0), none, none, some (.iconst 0, 1, [], 0), some (.goto 4, 3, [14], 0), none, none, some (.iconst 1, 1, [], 1), some (.invokevirtual 105, 3, [107, 2, 2, 0, 0, 0, 0, 169, 5], 0), none, none, some (.ifCond .ne 5, 3, [22], 0), none, none, some (.iconst 0, 1, [], 0), some (.ireturn, 1, [0, 0, 1], 0), some (.aload_n 0, 1, [0], 0), some (.getfield 7, 3, [5, 1, 1, 0, 58], 0), none, none, some (.sipush 281, 3, [], 281), none, none, some (.iconst 2, 1, [], 2), some (.iload_n 1, 1, [1], 0), some (.imul, 1, [], 0), some (.iadd, 1, [], 0), some (.iload_n 2, 1, [2], 0), some (.iadd, 1, [], 0), some (.iaload, 1, [], 0), some (.istore_n 3, 1, [3], 0), some (.aload_n 0, 1, [0], 0), some (.getfield 7, 3, [5, 1, 1, 0, 58], 0), none, none, some (.iconst 1, 1, [], 1), some (.iload_n 2, 1, [2], 0), some (.iadd, 1, [], 0), some (.iaload, 1, [], 0), some (.aload_n 0, 1, [0], 0), some (.getfield 7, 3, [5, 1, 1, 0, 58], 0), none, none, some (.iconst 0, 1, [], 0), some (.iaload, 1, [], 0), some (.iload_n 3, 1, [3], 0), some (.isub, 1, [], 0), some (.isub, 1, [], 0), some (.istore 4, 2, [4], 0), none, some (.iload_n 3, 1, [3], 0), some (.iconst (-1), 1, [], (-1)), some (.if_icmp .ne 7, 3, [65], 0), none, none, some (.iconst (-1), 1, [], (-1)), some (.goto 14, 3, [76], 0), none],
  [none, some (.iload 4, 2, [4], 0), none, some (.ifCond .ge 7, 3, [74], 0), none, none, some (.iconst 0, 1, [], 0), some (.goto 5, 3, [76], 0), none, none, some (.iload 4, 2, [4], 0), none, some (.ireturn, 1, [0, 0, 1], 0)]]
def cd_163 : List (List (Option IcM)) := [[some (.aload_n 0, 1, [0], 0), some (.iload_n 1, 1, [1], 0), some (.iload_n 2, 1, [2], 0), some (.invokestatic 126, 3, [111, 2, 0, 0, 0, 0, 0, 193, 5], 0), none, none, some (.ifCond .eq 7, 3, [13], 0), none, none, some (.iconst 0, 1, [], 0), some (.goto 4, 3, [14], 0), none, none, some (.iconst 1, 1, [], 1), some (.invokevirtual 105, 3, [107, 2, 2, 0, 0, 0, 0, 169, 5], 0), none, none, some (.ifCond .ne 5, 3, [22], 0), none, none, some (.iconst 0, 1, [], 0), some (.ireturn, 1, [0, 0, 1], 0), some (.iconst 2, 1, [], 2), some (.iload_n 1, 1, [1], 0), some (.imul, 1, [], 0), some (.iload_n 2, 1, [2], 0), some (.iadd, 1, [], 0), some (.istore_n 3, 1, [3], 0), some (.aload_n 0, 1, [0], 0), some (.aload_n 0, 1, [0], 0), some (.getfield 7, 3, [5, 1, 1, 0, 58], 0), none, none, some (.sipush 281, 3, [], 281), none, none, some (.iload_n 3, 1, [3], 0), some (.iadd, 1, [], 0), some (.iaload, 1, [], 0), some (.aload_n 0, 1, [0], 0), some (.getfield 7, 3, [5, 1, 1, 0, 58], 0), none, none, some (.iconst 0, 1, [], 0), some (.iaload, 1, [], 0), some (.iload_n 2, 1, [2], 0), some (.invokevirtual 64, 3, [120, 4, 2, 0, 0, 0, 0, 180, 5], 0), none, none, some (.ifCond .eq 5, 3, [54], 0), none, none, some (.iconst 0, 1, [], 0), some (.ireturn, 1, [0, 0, 1], 0), some (.aload_n 0, 1, [0], 0), some (.getfield 7, 3, [5, 1, 1, 0, 58], 0), none, none, some (.sipush 263, 3, [], 263), none, none, some (.iload_n 3, 1, [3], 0), some (.iadd, 1, [], 0), some (.iaload, 1, [], 0)],
  [some (.aload_n 0, 1, [0], 0), some (.iload_n 1, 1, [1], 0), some (.iload_n 2, 1, [2], 0), some (.invokevirtual 45, 3, [116, 3, 2, 0, 0, 0, 0, 178, 5], 0), none, none, some (.isub, 1, [], 0), some (.istore 4, 2, [4], 0), none, some (.aload_n 0, 1, [0], 0), some (.getfield 7, 3, [5, 1, 1, 0, 58], 0), none, none, some (.sipush 263, 3, [], 263), none, none, some (.iload_n 3, 1, [3], 0), some (.iadd, 1, [], 0), some (.iaload, 1, [], 0), some (.ifCond .ne 8, 3, [91], 0), none, none, some (.bipush (-2), 2, [], (-2)), none, some (.goto 14, 3, [102], 0), none, none, some (.iload 4, 2, [4], 0), none, some (.ifCond .ge 7, 3, [100], 0), none, none, some (.iconst 0, 1, [], 0), some (.goto 5, 3, [102], 0), none, none, some (.iload 4, 2, [4], 0), none, some (.ireturn, 1, [0, 0, 1], 0)]]
def cd_164 : List (List (Option IcM)) := [[some (.aload_n 0, 1, [0], 0), some (.iload_n 1, 1, [1], 0), some (.iconst 0, 1, [], 0), some (.bipush 8, 2, [], 8), none, some (.invokestatic 33, 3, [106, 3, 0, 0, 0, 0, 0, 164, 5], 0), none, none, some (.ifCond .eq 7, 3, [15], 0), none, none, some (.iconst 0, 1, [], 0), some (.goto 4, 3, [16], 0), none, none, some (.iconst 1, 1, [], 1), some (.invokevirtual 105, 3, [107, 2, 2, 0, 0, 0, 0, 169, 5], 0), none, none, some (.ifCond .eq 16, 3, [35], 0), none, none, some (.aload_n 0, 1, [0], 0), some (.getfield 7, 3, [5, 1, 1, 0, 58], 0), none, none, some (.sipush 299, 3, [], 299), none, none, some (.iload_n 1, 1, [1], 0), some (.iadd, 1, [], 0), some (.iaload, 1, [], 0), some (.goto 4, 3, [36], 0), none, none, some (.iconst 0, 1, [], 0), some (.ireturn, 1, [0, 0, 1], 0)]]
def cd_165 : List (List (Option IcM)) := [[some (.iconst (-1), 1, [], (-1)), some (.istore_n 2, 1, [2], 0), some (.iconst 0, 1, [], 0), some (.istore_n 3, 1, [3], 0), some (.iload_n 3, 1, [3], 0), some (.aload_n 0, 1, [0], 0), some (.getfield 7, 3, [5, 1, 1, 0, 58], 0), none, none, some (.iconst 4, 1, [], 4), some (.iaload, 1, [], 0), some (.if_icmp .ge 94, 3, [105], 0), none, none, some (.iload_n 2, 1, [2], 0), some (.iconst (-1), 1, [], (-1)), some (.if_icmp .ne 7, 3, [23], 0), none, none, some (.iconst 1, 1, [], 1), some (.goto 16, 3, [36], 0), none, none, some (.aload_n 0, 1, [0], 0), some (.iload_n 3, 1, [3], 0), some (.iconst 3, 1, [], 3), some (.invokevirtual 37, 3, [112, 3, 2, 0, 0, 0, 0, 168, 5], 0), none, none, some (.aload_n 0, 1, [0], 0), some (.iload_n 2, 1, [2], 0), some (.iconst 3, 1, [], 3), some (.invokevirtual 37, 3, [112, 3, 2, 0, 0, 0, 0, 168, 5], 0), none, none, some (.isub, 1, [], 0), some (.istore 4, 2, [4], 0), none, some (.iload 4, 2, [4], 0), none, some (.ifCond .gt 23, 3, [63], 0), none, none, some (.iload 4, 2, [4], 0), none, some (.ifCond .ne 22, 3, [67], 0), none, none, some (.aload_n 0, 1, [0], 0), some (.iload_n 3, 1, [3], 0), some (.iconst 0, 1, [], 0), some (.invokevirtual 37, 3, [112, 3, 2, 0, 0, 0, 0, 168, 5], 0), none, none, some (.aload_n 0, 1, [0], 0), some (.iload_n 2, 1, [2], 0), some (.iconst 0, 1, [], 0), some (.invokevirtual 37, 3, [112, 3, 2, 0, 0, 0, 0, 168, 5], 0), none, none, some (.if_icmp .ge 7, 3, [67], 0), none, none, some (.iconst 1, 1, [], 1)],
  [some (.goto 4, 3, [68], 0), none, none, some (.iconst 0, 1, [], 0), some (.istore 5, 2, [5], 0), none, some (.iload 5, 2, [5], 0), none, some (.ifCond .eq 25, 3, [97], 0), none, none, some (.aload_n 0, 1, [0], 0), some (.iload_n 3, 1, [3], 0), some (.iload_n 1, 1, [1], 0), some (.invokevirtual 41, 3, [115, 3, 2, 0, 0, 0, 0, 179, 5], 0), none, none, some (.ifCond .eq 16, 3, [97], 0), none, none, some (.aload_n 0, 1, [0], 0), some (.getfield 26, 3, [5, 10, 1, 0, 67], 0), none, none, some (.iload_n 3, 1, [3], 0), some (.baload, 1, [], 0), some (.ifCond .ne 7, 3, [97], 0), none, none, some (.iload_n 3, 1, [3], 0), some (.goto 4, 3, [98], 0), none, none, some (.iload_n 2, 1, [2], 0), some (.istore_n 2, 1, [2], 0), some (.iinc 3 1, 3, [3], 1), none, none, some (.goto (-98), 3, [4], 0), none, none, some (.iload_n 2, 1, [2], 0), some (.ireturn, 1, [0, 0, 1], 0)]]
def cd_166 : List (List (Option IcM)) := [[some (.iconst 0, 1, [], 0), some (.istore_n 1, 1, [1], 0), some (.iload_n 1, 1, [1], 0), some (.bipush 60, 2, [], 60), none, some (.if_icmp .ge 16, 3, [21], 0), none, none, some (.aload_n 0, 1, [0], 0), some (.getfield 26, 3, [5, 10, 1, 0, 67], 0), none, none, some (.iload_n 1, 1, [1], 0), some (.iconst 0, 1, [], 0), some (.bastore, 1, [], 0), some (.iinc 1 1, 3, [1], 1), none, none, some (.goto (-16), 3, [2], 0), none, none, some (.return_, 1, [0, 0, 0], 0)]]
def cd_167 : List (List (Option IcM)) := [[some (.aload_n 0, 1, [0], 0), some (.getfield 7, 3, [5, 1, 1, 0, 58], 0), none, none, some (.sipush 245, 3, [], 245), none, none, some (.iconst 2, 1, [], 2), some (.iload_n 1, 1, [1], 0), some (.imul, 1, [], 0), some (.iadd, 1, [], 0), some (.iaload, 1, [], 0), some (.istore_n 2, 1, [2], 0), some (.aload_n 0, 1, [0], 0), some (.iload_n 1, 1, [1], 0), some (.iconst 0, 1, [], 0), some (.invokevirtual 45, 3, [116, 3, 2, 0, 0, 0, 0, 178, 5], 0), none, none, some (.istore_n 3, 1, [3], 0), some (.iconst 0, 1, [], 0), some (.istore 4, 2, [4], 0), none, some (.aload_n 0, 1, [0], 0), some (.invokevirtual 164, 3, [166, 1, 2, 0, 0, 0, 0, 223, 5], 0), none, none, some (.iload_n 2, 1, [2], 0), some (.ifCond .eq 39, 3, [67], 0), none, none, some (.iload_n 3, 1, [3], 0), some (.iload_n 2, 1, [2], 0), some (.if_icmp .le 34, 3, [67], 0), none, none, some (.aload_n 0, 1, [0], 0), some (.iload_n 1, 1, [1], 0), some (.invokevirtual 167, 3, [165, 2, 2, 0, 0, 0, 0, 224, 5], 0), none, none, some (.istore 5, 2, [5], 0), none, some (.aload_n 0, 1, [0], 0), some (.getfield 26, 3, [5, 10, 1, 0, 67], 0), none, none, some (.iload 5, 2, [5], 0), none, some (.iconst 1, 1, [], 1), some (.bastore, 1, [], 0), some (.iload_n 3, 1, [3], 0), some (.aload_n 0, 1, [0], 0), some (.iload 5, 2, [5], 0), none, some (.iconst 3, 1, [], 3), some (.invokevirtual 37, 3, [112, 3, 2, 0, 0, 0, 0, 168, 5], 0), none, none, some (.isub, 1, [], 0), some (.istore_n 3, 1, [3], 0), some (.iinc 4 1, 3, [4], 1), none, none],
  [some (.goto (-37), 3, [27], 0), none, none, some (.iload 4, 2, [4], 0), none, some (.ireturn, 1, [0, 0, 1], 0)]]
def cd_168 : List (List (Option IcM)) := [[some (.aload_n 0, 1, [0], 0), some (.iload_n 1, 1, [1], 0), some (.iconst 0, 1, [], 0), some (.bipush 8, 2, [], 8), none, some (.invokestatic 33, 3, [106, 3, 0, 0, 0, 0, 0, 164, 5], 0), none, none, some (.ifCond .eq 7, 3, [15], 0), none, none, some (.iconst 0, 1, [], 0), some (.goto 4, 3, [16], 0), none, none, some (.iconst 1, 1, [], 1), some (.invokevirtual 105, 3, [107, 2, 2, 0, 0, 0, 0, 169, 5], 0), none, none, some (.ifCond .eq 11, 3, [30], 0), none, none, some (.aload_n 0, 1, [0], 0), some (.iload_n 1, 1, [1], 0), some (.invokevirtual 170, 3, [167, 2, 2, 0, 0, 0, 0, 222, 5], 0), none, none, some (.goto 4, 3, [31], 0), none, none, some (.iconst 0, 1, [], 0), some (.ireturn, 1, [0, 0, 1], 0)]]
def cd_169 : List (List (Option IcM)) := [[some (.aload_n 0, 1, [0], 0), some (.iload_n 1, 1, [1], 0), some (.iload_n 2, 1, [2], 0), some (.invokestatic 99, 3, [110, 2, 0, 0, 0, 0, 0, 166, 5], 0), none, none, some (.ifCond .eq 7, 3, [13], 0), none, none, some (.iconst 0, 1, [], 0), some (.goto 4, 3, [14], 0), none, none, some (.iconst 1, 1, [], 1), some (.invokevirtual 105, 3, [107, 2, 2, 0, 0, 0, 0, 169, 5], 0), none, none, some (.ifCond .ne 5, 3, [22], 0), none, none, some (.iconst 0, 1, [], 0), some (.ireturn, 1, [0, 0, 1], 0), some (.aload_n 0, 1, [0], 0), some (.iload_n 1, 1, [1], 0), some (.iload_n 2, 1, [2], 0), some (.invokevirtual 102, 3, [114, 3, 2, 0, 0, 0, 0, 167, 5], 0), none, none, some (.istore 4, 2, [4], 0), none, some (.iload 4, 2, [4], 0), none, some (.iconst (-1), 1, [], (-1)), some (.if_icmp .ne 7, 3, [40], 0), none, none, some (.iconst (-1), 1, [], (-1)), some (.goto 10, 3, [47], 0), none, none, some (.aload_n 0, 1, [0], 0), some (.iload 4, 2, [4], 0), none, some (.iload_n 3, 1, [3], 0), some (.invokevirtual 37, 3, [112, 3, 2, 0, 0, 0, 0, 168, 5], 0), none, none, some (.ireturn, 1, [0, 0, 1], 0)]]
def cd_170 : List (List (Option IcM)) := [[some (.aload_n 0, 1, [0], 0), some (.iload_n 1, 1, [1], 0), some (.iload_n 2, 1, [2], 0), some (.iconst 3, 1, [], 3), some (.invokevirtual 173, 3, [169, 4, 2, 0, 0, 0, 0, 226, 5], 0), none, none, some (.ireturn, 1, [0, 0, 1], 0)]]
def cd_171 : List (List (Option IcM)) := [[some (.aload_n 0, 1, [0], 0), some (.iload_n 1, 1, [1], 0), some (.iload_n 2, 1, [2], 0), some (.iconst 1, 1, [], 1), some (.invokevirtual 173, 3, [169, 4, 2, 0, 0, 0, 0, 226, 5], 0), none, none, some (.ireturn, 1, [0, 0, 1], 0)]]
def cd_172 : List (List (Option IcM)) := [[some (.aload_n 0, 1, [0], 0), some (.iload_n 1, 1, [1], 0), some (.iload_n 2, 1, [2], 0), some (.iconst 2, 1, [], 2), some (.invokevirtual 173, 3, [169, 4, 2, 0, 0, 0, 0, 226, 5], 0), none, none, some (.ireturn, 1, [0, 0, 1], 0)]]
def cd_173 : List (List (Option IcM)) := [[some (.aload_n 0, 1, [0], 0), some (.iconst 0, 1, [], 0), some (.putfield 29, 3, [5, 0, 0, 0, 57, 0], 0), none, none, some (.aload_n 0, 1, [0], 0), some (.getfield 7, 3, [5, 1, 1, 0, 58], 0), none, none, some (.iconst 4, 1, [], 4), some (.iaload, 1, [], 0), some (.ireturn, 1, [0, 0, 1], 0)]]
def cd_174 : List (List (Option IcM)) := [[some (.aload_n 0, 1, [0], 0), some (.iload_n 1, 1, [1], 0), some (.iconst 0, 1, [], 0), some (.bipush 9, 2, [], 9), none, some (.invokestatic 33, 3, [106, 3, 0, 0, 0, 0, 0, 164, 5], 0), none, none, some (.ifCond .eq 7, 3, [15], 0), none, none, some (.iconst 0, 1, [], 0), some (.goto 4, 3, [16], 0), none, none, some (.iconst 1, 1, [], 1), some (.invokevirtual 105, 3, [107, 2, 2, 0, 0, 0, 0, 169, 5], 0), none, none, some (.ifCond .ne 5, 3, [24], 0), none, none, some (.iconst 0, 1, [], 0), some (.ireturn, 1, [0, 0, 1], 0), some (.iconst 0, 1, [], 0), some (.istore_n 2, 1, [2], 0), some (.iconst 0, 1, [], 0), some (.istore_n 3, 1, [3], 0), some (.iload_n 3, 1, [3], 0), some (.aload_n 0, 1, [0], 0), some (.getfield 7, 3, [5, 1, 1, 0, 58], 0), none, none, some (.iconst 4, 1, [], 4), some (.iaload, 1, [], 0), some (.if_icmp .ge 35, 3, [70], 0), none, none, some (.iload_n 2, 1, [2], 0), some (.aload_n 0, 1, [0], 0), some (.iload_n 3, 1, [3], 0), some (.iconst 0, 1, [], 0), some (.invokevirtual 37, 3, [112, 3, 2, 0, 0, 0, 0, 168, 5], 0), none, none, some (.bipush 100, 2, [], 100), none, some (.idiv, 1, [], 0), some (.iload_n 1, 1, [1], 0), some (.if_icmp .ne 12, 3, [61], 0), none, none, some (.aload_n 0, 1, [0], 0), some (.iload_n 3, 1, [3], 0), some (.iconst 3, 1, [], 3), some (.invokevirtual 37, 3, [112, 3, 2, 0, 0, 0, 0, 168, 5], 0), none, none, some (.goto 4, 3, [62], 0), none, none, some (.iconst 0, 1, [], 0), some (.iadd, 1, [], 0), some (.istore_n 2, 1, [2], 0)],
  [some (.iinc 3 1, 3, [3], 1), none, none, some (.goto (-39), 3, [28], 0), none, none, some (.iload_n 2, 1, [2], 0), some (.ireturn, 1, [0, 0, 1], 0)]]
def cd_175 : List (List (Option IcM)) := [[some (.aload_n 0, 1, [0], 0), some (.iload_n 1, 1, [1], 0), some (.iconst 0, 1, [], 0), some (.bipush 8, 2, [], 8), none, some (.invokestatic 33, 3, [106, 3, 0, 0, 0, 0, 0, 164, 5], 0), none, none, some (.ifCond .eq 7, 3, [15], 0), none, none, some (.iconst 0, 1, [], 0), some (.goto 4, 3, [16], 0), none, none, some (.iconst 1, 1, [], 1), some (.invokevirtual 105, 3, [107, 2, 2, 0, 0, 0, 0, 169, 5], 0), none, none, some (.ifCond .ne 5, 3, [24], 0), none, none, some (.iconst 0, 1, [], 0), some (.ireturn, 1, [0, 0, 1], 0), some (.aload_n 0, 1, [0], 0), some (.invokevirtual 164, 3, [166, 1, 2, 0, 0, 0, 0, 223, 5], 0), none, none, some (.aload_n 0, 1, [0], 0), some (.iload_n 1, 1, [1], 0), some (.invokevirtual 167, 3, [165, 2, 2, 0, 0, 0, 0, 224, 5], 0), none, none, some (.istore_n 2, 1, [2], 0), some (.iload_n 2, 1, [2], 0), some (.iconst (-1), 1, [], (-1)), some (.if_icmp .ne 7, 3, [43], 0), none, none, some (.iconst (-1), 1, [], (-1)), some (.goto 9, 3, [49], 0), none, none, some (.aload_n 0, 1, [0], 0), some (.iload_n 2, 1, [2], 0), some (.iconst 0, 1, [], 0), some (.invokevirtual 37, 3, [112, 3, 2, 0, 0, 0, 0, 168, 5], 0), none, none, some (.ireturn, 1, [0, 0, 1], 0)]]
def cd_176 : List (List (Option IcM)) := [[some (.aload_n 0, 1, [0], 0), some (.iload_n 1, 1, [1], 0), some (.invokestatic 93, 3, [108, 1, 0, 0, 0, 0, 0, 163, 5], 0), none, none, some (.ifCond .eq 10, 3, [15], 0), none, none, some (.iload_n 2, 1, [2], 0), some (.invokestatic 96, 3, [109, 1, 0, 0, 0, 0, 0, 165, 5], 0), none, none, some (.ifCond .ne 7, 3, [19], 0), none, none, some (.iconst 1, 1, [], 1), some (.goto 19, 3, [35], 0), none, none, some (.iload_n 3, 1, [3], 0), some (.iconst 0, 1, [], 0), some (.sipush 5000, 3, [], 5000), none, none, some (.invokestatic 33, 3, [106, 3, 0, 0, 0, 0, 0, 164, 5], 0), none, none, some (.ifCond .ne 7, 3, [34], 0), none, none, some (.iconst 2, 1, [], 2), some (.goto 4, 3, [35], 0), none, none, some (.iconst 0, 1, [], 0), some (.invokevirtual 105, 3, [107, 2, 2, 0, 0, 0, 0, 169, 5], 0), none, none, some (.ifCond .ne 5, 3, [43], 0), none, none, some (.iconst 0, 1, [], 0), some (.ireturn, 1, [0, 0, 1], 0), some (.aload_n 0, 1, [0], 0), some (.iload_n 3, 1, [3], 0), some (.iconst 1, 1, [], 1), some (.iload_n 3, 1, [3], 0), some (.iconst 1, 1, [], 1), some (.invokevirtual 74, 3, [125, 5, 2, 0, 0, 0, 0, 173, 5], 0), none, none, some (.aload_n 0, 1, [0], 0), some (.iload_n 1, 1, [1], 0), some (.iload_n 2, 1, [2], 0), some (.invokevirtual 71, 3, [124, 3, 2, 0, 0, 0, 0, 175, 5], 0), none, none, some (.ireturn, 1, [0, 0, 1], 0)]]
def cd_177 : List (List (Option IcM)) := [[some (.aload_n 0, 1, [0], 0), some (.getfield 7, 3, [5, 1, 1, 0, 58], 0), none, none, some (.sipush 245, 3, [], 245), none, none, some (.iconst 2, 1, [], 2), some (.iload_n 1, 1, [1], 0), some (.imul, 1, [], 0), some (.iadd, 1, [], 0), some (.iaload, 1, [], 0), some (.ifCond .eq 23, 3, [35], 0), none, none, some (.iload_n 2, 1, [2], 0), some (.aload_n 0, 1, [0], 0), some (.getfield 7, 3, [5, 1, 1, 0, 58], 0), none, none, some (.sipush 245, 3, [], 245), none, none, some (.iconst 2, 1, [], 2), some (.iload_n 1, 1, [1], 0), some (.imul, 1, [], 0), some (.iadd, 1, [], 0), some (.iaload, 1, [], 0), some (.if_icmp .le 7, 3, [35], 0), none, none, some (.iconst 1, 1, [], 1), some (.goto 4, 3, [36], 0), none, none, some (.iconst 0, 1, [], 0), some (.istore 5, 2, [5], 0), none, some (.iload 5, 2, [5], 0), none, some (.ifCond .ne 7, 3, [47], 0), none, none, some (.iconst (-1), 1, [], (-1)), some (.goto 14, 3, [58], 0), none, none, some (.iload_n 3, 1, [3], 0), some (.iconst (-1), 1, [], (-1)), some (.if_icmp .ne 8, 3, [57], 0), none, none, some (.iload 4, 2, [4], 0), none, some (.goto 4, 3, [58], 0), none, none, some (.iload_n 3, 1, [3], 0), some (.ireturn, 1, [0, 0, 1], 0)]]
def cd_178 : List (List (Option IcM)) := [[some (.bipush 6, 2, [], 6), none, some (.iload_n 2, 1, [2], 0), some (.iadd, 1, [], 0), some (.istore 4, 2, [4], 0), none, some (.aload_n 0, 1, [0], 0), some (.iload_n 1, 1, [1], 0), some (.iconst 0, 1, [], 0), some (.invokevirtual 45, 3, [116, 3, 2, 0, 0, 0, 0, 178, 5], 0), none, none, some (.istore 5, 2, [5], 0), none, some (.aload_n 0, 1, [0], 0), some (.iload 4, 2, [4], 0), none, some (.iconst 0, 1, [], 0), some (.invokevirtual 45, 3, [116, 3, 2, 0, 0, 0, 0, 178, 5], 0), none, none, some (.istore 6, 2, [6], 0), none, some (.aload_n 0, 1, [0], 0), some (.getfield 7, 3, [5, 1, 1, 0, 58], 0), none, none, some (.sipush 281, 3, [], 281), none, none, some (.iconst 2, 1, [], 2), some (.iload_n 1, 1, [1], 0), some (.imul, 1, [], 0), some (.iadd, 1, [], 0), some (.iaload, 1, [], 0), some (.istore 7, 2, [7], 0), none, some (.aload_n 0, 1, [0], 0), some (.getfield 7, 3, [5, 1, 1, 0, 58], 0), none, none, some (.sipush 281, 3, [], 281), none, none, some (.iconst 2, 1, [], 2), some (.iload 4, 2, [4], 0), none, some (.imul, 1, [], 0), some (.iadd, 1, [], 0), some (.iaload, 1, [], 0), some (.istore 8, 2, [8], 0), none, some (.iconst 1, 1, [], 1), some (.istore 9, 2, [9], 0), none, some (.iload 9, 2, [9], 0), none, some (.sipush 400, 3, [], 400), none, none, some (.if_icmp .gt 109, 3, [169], 0), none, none, some (.aload_n 0, 1, [0], 0)],
  [some (.getfield 7, 3, [5, 1, 1, 0, 58], 0), none, none, some (.iconst 0, 1, [], 0), some (.iaload, 1, [], 0), some (.iload 9, 2, [9], 0), none, some (.iadd, 1, [], 0), some (.istore 10, 2, [10], 0), none, some (.aload_n 0, 1, [0], 0), some (.iconst 2, 1, [], 2), some (.iload_n 1, 1, [1], 0), some (.imul, 1, [], 0), some (.iload 5, 2, [5], 0), none, some (.iload_n 3, 1, [3], 0), some (.aload_n 0, 1, [0], 0), some (.iload 7, 2, [7], 0), none, some (.iload 10, 2, [10], 0), none, some (.iconst 0, 1, [], 0), some (.invokevirtual 64, 3, [120, 4, 2, 0, 0, 0, 0, 180, 5], 0), none, none, some (.invokevirtual 67, 3, [121, 5, 2, 0, 0, 0, 0, 181, 5], 0), none, none, some (.aload_n 0, 1, [0], 0), some (.iconst 2, 1, [], 2), some (.iload 4, 2, [4], 0), none, some (.imul, 1, [], 0), some (.iload 6, 2, [6], 0), none, some (.iload_n 3, 1, [3], 0), some (.aload_n 0, 1, [0], 0), some (.iload 8, 2, [8], 0), none, some (.iload 10, 2, [10], 0), none, some (.iconst 0, 1, [], 0), some (.invokevirtual 64, 3, [120, 4, 2, 0, 0, 0, 0, 180, 5], 0), none, none, some (.invokevirtual 67, 3, [121, 5, 2, 0, 0, 0, 0, 181, 5], 0), none, none, some (.iadd, 1, [], 0), some (.istore 11, 2, [11], 0), none, some (.iload 11, 2, [11], 0), none, some (.ifCond .le 6, 3, [124], 0), none, none, some (.iload 9, 2, [9], 0), none, some (.ireturn, 1, [0, 0, 1], 0), some (.iload 5, 2, [5], 0), none, some (.iload_n 3, 1, [3], 0), some (.iadd, 1, [], 0)],
  [some (.istore 5, 2, [5], 0), none, some (.iload 6, 2, [6], 0), none, some (.iload_n 3, 1, [3], 0), some (.iadd, 1, [], 0), some (.istore 6, 2, [6], 0), none, some (.aload_n 0, 1, [0], 0), some (.iload_n 1, 1, [1], 0), some (.iload 5, 2, [5], 0), none, some (.iload 7, 2, [7], 0), none, some (.iload 10, 2, [10], 0), none, some (.invokevirtual 176, 3, [177, 5, 2, 0, 0, 0, 0, 235, 5], 0), none, none, some (.istore 7, 2, [7], 0), none, some (.aload_n 0, 1, [0], 0), some (.iload 4, 2, [4], 0), none, some (.iload 6, 2, [6], 0), none, some (.iload 8, 2, [8], 0), none, some (.iload 10, 2, [10], 0), none, some (.invokevirtual 176, 3, [177, 5, 2, 0, 0, 0, 0, 235, 5], 0), none, none, some (.istore 8, 2, [8], 0), none, some (.iinc 9 1, 3, [9], 1), none, none, some (.goto (-111), 3, [55], 0), none, none, some (.iconst (-1), 1, [], (-1)), some (.ireturn, 1, [0, 0, 1], 0)]]
def cd_179 : List (List (Option IcM)) := [[some (.aload_n 0, 1, [0], 0), some (.iload_n 1, 1, [1], 0), some (.invokestatic 93, 3, [108, 1, 0, 0, 0, 0, 0, 163, 5], 0), none, none, some (.ifCond .eq 10, 3, [15], 0), none, none, some (.iload_n 2, 1, [2], 0), some (.invokestatic 96, 3, [109, 1, 0, 0, 0, 0, 0, 165, 5], 0), none, none, some (.ifCond .ne 7, 3, [19], 0), none, none, some (.iconst 1, 1, [], 1), some (.goto 19, 3, [35], 0), none, none, some (.iload_n 3, 1, [3], 0), some (.iconst 1, 1, [], 1), some (.sipush 5000, 3, [], 5000), none, none, some (.invokestatic 33, 3, [106, 3, 0, 0, 0, 0, 0, 164, 5], 0), none, none, some (.ifCond .ne 7, 3, [34], 0), none, none, some (.iconst 2, 1, [], 2), some (.goto 4, 3, [35], 0), none, none, some (.iconst 0, 1, [], 0), some (.invokevirtual 105, 3, [107, 2, 2, 0, 0, 0, 0, 169, 5], 0), none, none, some (.ifCond .ne 5, 3, [43], 0), none, none, some (.iconst 0, 1, [], 0), some (.ireturn, 1, [0, 0, 1], 0), some (.aload_n 0, 1, [0], 0), some (.iload_n 1, 1, [1], 0), some (.invokevirtual 56, 3, [122, 2, 2, 0, 0, 0, 0, 176, 5], 0), none, none, some (.ifCond .eq 7, 3, [55], 0), none, none, some (.iconst (-1), 1, [], (-1)), some (.goto 10, 3, [62], 0), none, none, some (.aload_n 0, 1, [0], 0), some (.iload_n 1, 1, [1], 0), some (.iload_n 2, 1, [2], 0), some (.iload_n 3, 1, [3], 0), some (.invokevirtual 179, 3, [178, 4, 2, 0, 0, 0, 0, 234, 5], 0), none, none, some (.ireturn, 1, [0, 0, 1], 0)]]
def cd_180 : List (List (Option IcM)) := [[some (.aload_n 0, 1, [0], 0), some (.iconst 0, 1, [], 0), some (.putfield 29, 3, [5, 0, 0, 0, 57, 0], 0), none, none, some (.aload_n 0, 1, [0], 0), some (.getfield 7, 3, [5, 1, 1, 0, 58], 0), none, none, some (.iconst 0, 1, [], 0), some (.iaload, 1, [], 0), some (.ireturn, 1, [0, 0, 1], 0)]]
def cd_181 : List (List (Option IcM)) := [[some (.aload_n 0, 1, [0], 0), some (.iload_n 1, 1, [1], 0), some (.iconst 0, 1, [], 0), some (.iconst 1, 1, [], 1), some (.invokestatic 33, 3, [106, 3, 0, 0, 0, 0, 0, 164, 5], 0), none, none, some (.ifCond .eq 7, 3, [14], 0), none, none, some (.iconst 0, 1, [], 0), some (.goto 4, 3, [15], 0), none, none, some (.iconst 1, 1, [], 1), some (.invokevirtual 105, 3, [107, 2, 2, 0, 0, 0, 0, 169, 5], 0), none, none, some (.ifCond .eq 14, 3, [32], 0), none, none, some (.aload_n 0, 1, [0], 0), some (.getfield 7, 3, [5, 1, 1, 0, 58], 0), none, none, some (.iconst 1, 1, [], 1), some (.iload_n 1, 1, [1], 0), some (.iadd, 1, [], 0), some (.iaload, 1, [], 0), some (.goto 4, 3, [33], 0), none, none, some (.iconst 0, 1, [], 0), some (.ireturn, 1, [0, 0, 1], 0)]]
def cd_182 : List (List (Option IcM)) := [[some (.aload_n 0, 1, [0], 0), some (.iload_n 1, 1, [1], 0), some (.invokestatic 93, 3, [108, 1, 0, 0, 0, 0, 0, 163, 5], 0), none, none, some (.ifCond .eq 7, 3, [12], 0), none, none, some (.iconst 0, 1, [], 0), some (.goto 4, 3, [13], 0), none, none, some (.iconst 1, 1, [], 1), some (.invokevirtual 105, 3, [107, 2, 2, 0, 0, 0, 0, 169, 5], 0), none, none, some (.ifCond .eq 15, 3, [31], 0), none, none, some (.aload_n 0, 1, [0], 0), some (.iload_n 1, 1, [1], 0), some (.invokevirtual 56, 3, [122, 2, 2, 0, 0, 0, 0, 176, 5], 0), none, none, some (.ifCond .eq 7, 3, [31], 0), none, none, some (.iconst 1, 1, [], 1), some (.goto 4, 3, [32], 0), none, none, some (.iconst 0, 1, [], 0), some (.ireturn, 1, [0, 0, 2], 0)]]
def cd_183 : List (List (Option IcM)) := [[some (.iconst 0, 1, [], 0), some (.istore_n 2, 1, [2], 0), some (.iconst 0, 1, [], 0), some (.istore_n 3, 1, [3], 0), some (.iload_n 3, 1, [3], 0), some (.bipush 18, 2, [], 18), none, some (.if_icmp .ge 73, 3, [80], 0), none, none, some (.iload_n 1, 1, [1], 0), some (.ifCond .eq 29, 3, [40], 0), none, none, some (.aload_n 0, 1, [0], 0), some (.aload_n 0, 1, [0], 0), some (.getfield 7, 3, [5, 1, 1, 0, 58], 0), none, none, some (.sipush 281, 3, [], 281), none, none, some (.iload_n 3, 1, [3], 0), some (.iadd, 1, [], 0), some (.iaload, 1, [], 0), some (.aload_n 0, 1, [0], 0), some (.getfield 7, 3, [5, 1, 1, 0, 58], 0), none, none, some (.iconst 0, 1, [], 0), some (.iaload, 1, [], 0), some (.iload_n 3, 1, [3], 0), some (.iconst 2, 1, [], 2), some (.irem, 1, [], 0), some (.invokevirtual 64, 3, [120, 4, 2, 0, 0, 0, 0, 180, 5], 0), none, none, some (.goto 22, 3, [59], 0), none, none, some (.aload_n 0, 1, [0], 0), some (.getfield 7, 3, [5, 1, 1, 0, 58], 0), none, none, some (.sipush 281, 3, [], 281), none, none, some (.iload_n 3, 1, [3], 0), some (.iadd, 1, [], 0), some (.iaload, 1, [], 0), some (.iconst (-1), 1, [], (-1)), some (.if_icmp .eq 7, 3, [58], 0), none, none, some (.iconst 1, 1, [], 1), some (.goto 4, 3, [59], 0), none, none, some (.iconst 0, 1, [], 0), some (.istore 4, 2, [4], 0), none, some (.iload_n 2, 1, [2], 0), some (.iload 4, 2, [4], 0), none],
  [some (.ifCond .eq 7, 3, [71], 0), none, none, some (.iconst 1, 1, [], 1), some (.goto 4, 3, [72], 0), none, none, some (.iconst 0, 1, [], 0), some (.iadd, 1, [], 0), some (.istore_n 2, 1, [2], 0), some (.iinc 3 1, 3, [3], 1), none, none, some (.goto (-73), 3, [4], 0), none, none, some (.iload_n 2, 1, [2], 0), some (.ireturn, 1, [0, 0, 1], 0)]]
def cd_184 : List (List (Option IcM)) := [[some (.aload_n 0, 1, [0], 0), some (.iconst 0, 1, [], 0), some (.putfield 29, 3, [5, 0, 0, 0, 57, 0], 0), none, none, some (.aload_n 0, 1, [0], 0), some (.iconst 0, 1, [], 0), some (.invokevirtual 182, 3, [183, 2, 2, 0, 0, 0, 0, 240, 5], 0), none, none, some (.ireturn, 1, [0, 0, 1], 0)]]
def cd_185 : List (List (Option IcM)) := [[some (.aload_n 0, 1, [0], 0), some (.iconst 0, 1, [], 0), some (.putfield 29, 3, [5, 0, 0, 0, 57, 0], 0), none, none, some (.aload_n 0, 1, [0], 0), some (.iconst 1, 1, [], 1), some (.invokevirtual 182, 3, [183, 2, 2, 0, 0, 0, 0, 240, 5], 0), none, none, some (.ireturn, 1, [0, 0, 1], 0)]]
def cd_186 : List (List (Option IcM)) := [[some (.aload_n 0, 1, [0], 0), some (.iload_n 1, 1, [1], 0), some (.ifCond .ge 7, 3, [9], 0), none, none, some (.iconst 1, 1, [], 1), some (.goto 17, 3, [23], 0), none, none, some (.iload_n 2, 1, [2], 0), some (.iconst 0, 1, [], 0), some (.iconst 3, 1, [], 3), some (.invokestatic 33, 3, [106, 3, 0, 0, 0, 0, 0, 164, 5], 0), none, none, some (.ifCond .ne 7, 3, [22], 0), none, none, some (.iconst 2, 1, [], 2), some (.goto 4, 3, [23], 0), none, none, some (.iconst 0, 1, [], 0), some (.invokevirtual 105, 3, [107, 2, 2, 0, 0, 0, 0, 169, 5], 0), none, none, some (.ifCond .ne 5, 3, [31], 0), none, none, some (.iconst 0, 1, [], 0), some (.ireturn, 1, [0, 0, 1], 0), some (.iload_n 1, 1, [1], 0), some (.aload_n 0, 1, [0], 0), some (.getfield 7, 3, [5, 1, 1, 0, 58], 0), none, none, some (.sipush 308, 3, [], 308), none, none, some (.iaload, 1, [], 0), some (.if_icmp .ge 20, 3, [60], 0), none, none, some (.aload_n 0, 1, [0], 0), some (.getfield 7, 3, [5, 1, 1, 0, 58], 0), none, none, some (.sipush 309, 3, [], 309), none, none, some (.iconst 4, 1, [], 4), some (.iload_n 1, 1, [1], 0), some (.imul, 1, [], 0), some (.iadd, 1, [], 0), some (.iload_n 2, 1, [2], 0), some (.iadd, 1, [], 0), some (.iaload, 1, [], 0), some (.goto 4, 3, [61], 0), none, none, some (.iconst (-1), 1, [], (-1)), some (.ireturn, 1, [0, 0, 1], 0)]]
def cd_187 : List (List (Option IcM)) := [[some (.aload_n 0, 1, [0], 0), some (.iconst 0, 1, [], 0), some (.putfield 29, 3, [5, 0, 0, 0, 57, 0], 0), none, none, some (.aload_n 0, 1, [0], 0), some (.getfield 7, 3, [5, 1, 1, 0, 58], 0), none, none, some (.sipush 308, 3, [], 308), none, none, some (.iaload, 1, [], 0), some (.ireturn, 1, [0, 0, 1], 0)]]
def cd_188 : List (List (Option IcM)) := [[some (.aload_n 0, 1, [0], 0), some (.iconst 0, 1, [], 0), some (.putfield 29, 3, [5, 0, 0, 0, 57, 0], 0), none, none, some (.aload_n 0, 1, [0], 0), some (.getfield 87, 3, [5, 2, 0, 0, 59], 0), none, none, some (.ireturn, 1, [0, 0, 1], 0)]]
def cd_189 : List (List (Option IcM)) := [[some (.aload_n 0, 1, [0], 0), some (.iconst 0, 1, [], 0), some (.putfield 29, 3, [5, 0, 0, 0, 57, 0], 0), none, none, some (.aload_n 0, 1, [0], 0), some (.getfield 132, 3, [5, 5, 0, 0, 62], 0), none, none, some (.ireturn, 1, [0, 0, 1], 0)]]
def cd_190 : List (List (Option IcM)) := [[some (.aload 6, 2, [6], 0), none, some (.iconst 0, 1, [], 0), some (.aload_n 0, 1, [0], 0), some (.iload_n 1, 1, [1], 0), some (.iload_n 2, 1, [2], 0), some (.iload_n 3, 1, [3], 0), some (.iload 4, 2, [4], 0), none, some (.iload 5, 2, [5], 0), none, some (.invokevirtual 7, 3, [45, 6, 2, 6, 36, 6, 36, 29, 4], 0), none, none, some (.i2l, 1, [], 0), some (.lastore, 1, [], 0), some (.goto 15, 3, [31], 0), none, none, some (.astore 7, 2, [7], 0), none, some (.iconst 1, 1, [], 1), some (.ireturn, 1, [6, 36, 1], 0), some (.astore 7, 2, [7], 0), none, some (.iconst 2, 1, [], 2), some (.ireturn, 1, [6, 36, 1], 0), some (.astore 7, 2, [7], 0), none, some (.iconst 3, 1, [], 3), some (.ireturn, 1, [6, 36, 1], 0), some (.iconst 0, 1, [], 0), some (.ireturn, 1, [6, 36, 1], 0)]]
def cd_191 : List (List (Option IcM)) := [[some (.aload 4, 2, [4], 0), none, some (.iconst 0, 1, [], 0), some (.aload_n 0, 1, [0], 0), some (.iload_n 1, 1, [1], 0), some (.iload_n 2, 1, [2], 0), some (.iload_n 3, 1, [3], 0), some (.invokevirtual 19, 3, [46, 4, 2, 4, 24, 4, 24, 59, 4], 0), none, none, some (.i2l, 1, [], 0), some (.lastore, 1, [], 0), some (.goto 15, 3, [27], 0), none, none, some (.astore 5, 2, [5], 0), none, some (.iconst 1, 1, [], 1), some (.ireturn, 1, [4, 24, 1], 0), some (.astore 5, 2, [5], 0), none, some (.iconst 2, 1, [], 2), some (.ireturn, 1, [4, 24, 1], 0), some (.astore 5, 2, [5], 0), none, some (.iconst 3, 1, [], 3), some (.ireturn, 1, [4, 24, 1], 0), some (.iconst 0, 1, [], 0), some (.ireturn, 1, [4, 24, 1], 0)]]
def cd_192 : List (List (Option IcM)) := [[some (.aload_n 3, 1, [3], 0), some (.iconst 0, 1, [], 0), some (.aload_n 0, 1, [0], 0), some (.iload_n 1, 1, [1], 0), some (.iload_n 2, 1, [2], 0), some (.invokevirtual 23, 3, [47, 3, 2, 3, 18, 3, 18, 65, 4], 0), none, none, some (.i2l, 1, [], 0), some (.lastore, 1, [], 0), some (.goto 11, 3, [21], 0), none, none, some (.astore 4, 2, [4], 0), none, some (.iconst 1, 1, [], 1), some (.ireturn, 1, [3, 18, 1], 0), some (.astore 4, 2, [4], 0), none, some (.iconst 2, 1, [], 2), some (.ireturn, 1, [3, 18, 1], 0), some (.iconst 0, 1, [], 0), some (.ireturn, 1, [3, 18, 1], 0)]]
def cd_193 : List (List (Option IcM)) := [[some (.aload 5, 2, [5], 0), none, some (.iconst 0, 1, [], 0), some (.aload_n 0, 1, [0], 0), some (.iload_n 1, 1, [1], 0), some (.iload_n 2, 1, [2], 0), some (.iload_n 3, 1, [3], 0), some (.iload 4, 2, [4], 0), none, some (.invokevirtual 27, 3, [48, 5, 2, 5, 30, 5, 30, 69, 4], 0), none, none, some (.i2l, 1, [], 0), some (.lastore, 1, [], 0), some (.goto 11, 3, [25], 0), none, none, some (.astore 6, 2, [6], 0), none, some (.iconst 1, 1, [], 1), some (.ireturn, 1, [5, 30, 1], 0), some (.astore 6, 2, [6], 0), none, some (.iconst 2, 1, [], 2), some (.ireturn, 1, [5, 30, 1], 0), some (.iconst 0, 1, [], 0), some (.ireturn, 1, [5, 30, 1], 0)]]
def cd_194 : List (List (Option IcM)) := [[some (.aload 5, 2, [5], 0), none, some (.iconst 0, 1, [], 0), some (.aload_n 0, 1, [0], 0), some (.iload_n 1, 1, [1], 0), some (.iload_n 2, 1, [2], 0), some (.iload_n 3, 1, [3], 0), some (.iload 4, 2, [4], 0), none, some (.invokevirtual 31, 3, [49, 5, 2, 4, 24, 4, 24, 72, 4], 0), none, none, some (.i2l, 1, [], 0), some (.lastore, 1, [], 0), some (.goto 11, 3, [25], 0), none, none, some (.astore 6, 2, [6], 0), none, some (.iconst 1, 1, [], 1), some (.ireturn, 1, [4, 24, 1], 0), some (.astore 6, 2, [6], 0), none, some (.iconst 2, 1, [], 2), some (.ireturn, 1, [4, 24, 1], 0), some (.iconst 0, 1, [], 0), some (.ireturn, 1, [4, 24, 1], 0)]]
def cd_195 : List (List (Option IcM)) := [[some (.aload_n 3, 1, [3], 0), some (.iconst 0, 1, [], 0), some (.aload_n 0, 1, [0], 0), some (.iload_n 1, 1, [1], 0), some (.iload_n 2, 1, [2], 0), some (.invokevirtual 34, 3, [50, 3, 2, 2, 12, 2, 12, 80, 4], 0), none, none, some (.i2l, 1, [], 0), some (.lastore, 1, [], 0), some (.goto 11, 3, [21], 0), none, none, some (.astore 4, 2, [4], 0), none, some (.iconst 1, 1, [], 1), some (.ireturn, 1, [2, 12, 1], 0), some (.astore 4, 2, [4], 0), none, some (.iconst 2, 1, [], 2), some (.ireturn, 1, [2, 12, 1], 0), some (.iconst 0, 1, [], 0), some (.ireturn, 1, [2, 12, 1], 0)]]
def cd_196 : List (List (Option IcM)) := [[some (.aload_n 3, 1, [3], 0), some (.iconst 0, 1, [], 0), some (.aload_n 0, 1, [0], 0), some (.iload_n 1, 1, [1], 0), some (.iload_n 2, 1, [2], 0), some (.invokevirtual 37, 3, [51, 3, 2, 3, 18, 3, 18, 82, 4], 0), none, none, some (.i2l, 1, [], 0), some (.lastore, 1, [], 0), some (.goto 11, 3, [21], 0), none, none, some (.astore 4, 2, [4], 0), none, some (.iconst 1, 1, [], 1), some (.ireturn, 1, [3, 18, 1], 0), some (.astore 4, 2, [4], 0), none, some (.iconst 2, 1, [], 2), some (.ireturn, 1, [3, 18, 1], 0), some (.iconst 0, 1, [], 0), some (.ireturn, 1, [3, 18, 1], 0)]]
def cd_197 : List (List (Option IcM)) := [[some (.aload_n 3, 1, [3], 0), some (.iconst 0, 1, [], 0), some (.aload_n 0, 1, [0], 0), some (.iload_n 1, 1, [1], 0), some (.iload_n 2, 1, [2], 0), some (.invokevirtual 40, 3, [52, 3, 2, 1, 6, 1, 6, 84, 4], 0), none, none, some (.i2l, 1, [], 0), some (.lastore, 1, [], 0), some (.goto 7, 3, [17], 0), none, none, some (.astore 4, 2, [4], 0), none, some (.iconst 1, 1, [], 1), some (.ireturn, 1, [1, 6, 1], 0), some (.iconst 0, 1, [], 0), some (.ireturn, 1, [1, 6, 1], 0)]]
def cd_198 : List (List (Option IcM)) := [[some (.aload_n 2, 1, [2], 0), some (.iconst 0, 1, [], 0), some (.aload_n 0, 1, [0], 0), some (.iload_n 1, 1, [1], 0), some (.invokevirtual 44, 3, [53, 2, 2, 2, 12, 2, 12, 87, 4], 0), none, none, some (.i2l, 1, [], 0), some (.lastore, 1, [], 0), some (.goto 9, 3, [18], 0), none, none, some (.astore_n 3, 1, [3], 0), some (.iconst 1, 1, [], 1), some (.ireturn, 1, [2, 12, 1], 0), some (.astore_n 3, 1, [3], 0), some (.iconst 2, 1, [], 2), some (.ireturn, 1, [2, 12, 1], 0), some (.iconst 0, 1, [], 0), some (.ireturn, 1, [2, 12, 1], 0)]]
def cd_199 : List (List (Option IcM)) := [[some (.aload_n 2, 1, [2], 0), some (.iconst 0, 1, [], 0), some (.aload_n 0, 1, [0], 0), some (.iload_n 1, 1, [1], 0), some (.invokevirtual 48, 3, [54, 2, 2, 2, 12, 2, 12, 93, 4], 0), none, none, some (.i2l, 1, [], 0), some (.lastore, 1, [], 0), some (.goto 9, 3, [18], 0), none, none, some (.astore_n 3, 1, [3], 0), some (.iconst 1, 1, [], 1), some (.ireturn, 1, [2, 12, 1], 0), some (.astore_n 3, 1, [3], 0), some (.iconst 2, 1, [], 2), some (.ireturn, 1, [2, 12, 1], 0), some (.iconst 0, 1, [], 0), some (.ireturn, 1, [2, 12, 1], 0)]]
def cd_200 : List (List (Option IcM)) := [[some (.aload_n 1, 1, [1], 0), some (.iconst 0, 1, [], 0), some (.aload_n 0, 1, [0], 0), some (.invokevirtual 51, 3, [57, 1, 2, 1, 6, 1, 6, 95, 4], 0), none, none, some (.i2l, 1, [], 0), some (.lastore, 1, [], 0), some (.goto 6, 3, [14], 0), none, none, some (.astore_n 2, 1, [2], 0), some (.iconst 1, 1, [], 1), some (.ireturn, 1, [1, 6, 1], 0), some (.iconst 0, 1, [], 0), some (.ireturn, 1, [1, 6, 1], 0)]]
def cd_201 : List (List (Option IcM)) := [[some (.aload_n 1, 1, [1], 0), some (.iconst 0, 1, [], 0), some (.aload_n 0, 1, [0], 0), some (.invokevirtual 55, 3, [58, 1, 2, 1, 6, 1, 6, 100, 4], 0), none, none, some (.i2l, 1, [], 0), some (.lastore, 1, [], 0), some (.goto 6, 3, [14], 0), none, none, some (.astore_n 2, 1, [2], 0), some (.iconst 1, 1, [], 1), some (.ireturn, 1, [1, 6, 1], 0), some (.iconst 0, 1, [], 0), some (.ireturn, 1, [1, 6, 1], 0)]]
def cd_202 : List (List (Option IcM)) := [[some (.aload_n 2, 1, [2], 0), some (.iconst 0, 1, [], 0), some (.aload_n 0, 1, [0], 0), some (.iload_n 1, 1, [1], 0), some (.invokevirtual 58, 3, [59, 2, 2, 1, 6, 1, 6, 102, 4], 0), none, none, some (.i2l, 1, [], 0), some (.lastore, 1, [], 0), some (.goto 6, 3, [15], 0), none, none, some (.astore_n 3, 1, [3], 0), some (.iconst 1, 1, [], 1), some (.ireturn, 1, [1, 6, 1], 0), some (.iconst 0, 1, [], 0), some (.ireturn, 1, [1, 6, 1], 0)]]
def cd_203 : List (List (Option IcM)) := [[some (.aload_n 2, 1, [2], 0), some (.iconst 0, 1, [], 0), some (.aload_n 0, 1, [0], 0), some (.iload_n 1, 1, [1], 0), some (.invokevirtual 61, 3, [60, 2, 2, 2, 12, 2, 12, 105, 4], 0), none, none, some (.i2l, 1, [], 0), some (.lastore, 1, [], 0), some (.goto 9, 3, [18], 0), none, none, some (.astore_n 3, 1, [3], 0), some (.iconst 1, 1, [], 1), some (.ireturn, 1, [2, 12, 1], 0), some (.astore_n 3, 1, [3], 0), some (.iconst 2, 1, [], 2), some (.ireturn, 1, [2, 12, 1], 0), some (.iconst 0, 1, [], 0), some (.ireturn, 1, [2, 12, 1], 0)]]
def cd_204 : List (List (Option IcM)) := [[some (.aload_n 3, 1, [3], 0), some (.iconst 0, 1, [], 0), some (.aload_n 0, 1, [0], 0), some (.iload_n 1, 1, [1], 0), some (.iload_n 2, 1, [2], 0), some (.invokevirtual 64, 3, [61, 3, 2, 2, 12, 2, 12, 107, 4], 0), none, none, some (.i2l, 1, [], 0), some (.lastore, 1, [], 0), some (.goto 7, 3, [17], 0), none, none, some (.astore 4, 2, [4], 0), none, some (.iconst 1, 1, [], 1), some (.ireturn, 1, [2, 12, 1], 0), some (.iconst 0, 1, [], 0), some (.ireturn, 1, [2, 12, 1], 0)]]
def cd_205 : List (List (Option IcM)) := [[some (.aload_n 3, 1, [3], 0), some (.iconst 0, 1, [], 0), some (.aload_n 0, 1, [0], 0), some (.iload_n 1, 1, [1], 0), some (.iload_n 2, 1, [2], 0), some (.invokevirtual 67, 3, [62, 3, 2, 2, 12, 2, 12, 109, 4], 0), none, none, some (.i2l, 1, [], 0), some (.lastore, 1, [], 0), some (.goto 7, 3, [17], 0), none, none, some (.astore 4, 2, [4], 0), none, some (.iconst 1, 1, [], 1), some (.ireturn, 1, [2, 12, 1], 0), some (.iconst 0, 1, [], 0), some (.ireturn, 1, [2, 12, 1], 0)]]
def cd_206 : List (List (Option IcM)) := [[some (.aload_n 3, 1, [3], 0), some (.iconst 0, 1, [], 0), some (.aload_n 0, 1, [0], 0), some (.iload_n 1, 1, [1], 0), some (.iload_n 2, 1, [2], 0), some (.invokevirtual 70, 3, [63, 3, 2, 2, 12, 2, 12, 114, 4], 0), none, none, some (.i2l, 1, [], 0), some (.lastore, 1, [], 0), some (.goto 7, 3, [17], 0), none, none, some (.astore 4, 2, [4], 0), none, some (.iconst 1, 1, [], 1), some (.ireturn, 1, [2, 12, 1], 0), some (.iconst 0, 1, [], 0), some (.ireturn, 1, [2, 12, 1], 0)]]
def cd_207 : List (List (Option IcM)) := [[some (.aload_n 3, 1, [3], 0), some (.iconst 0, 1, [], 0), some (.aload_n 0, 1, [0], 0), some (.iload_n 1, 1, [1], 0), some (.iload_n 2, 1, [2], 0), some (.invokevirtual 73, 3, [64, 3, 2, 2, 12, 2, 12, 116, 4], 0), none, none, some (.i2l, 1, [], 0), some (.lastore, 1, [], 0), some (.goto 7, 3, [17], 0), none, none, some (.astore 4, 2, [4], 0), none, some (.iconst 1, 1, [], 1), some (.ireturn, 1, [2, 12, 1], 0), some (.iconst 0, 1, [], 0), some (.ireturn, 1, [2, 12, 1], 0)]]
def cd_208 : List (List (Option IcM)) := [[some (.aload_n 3, 1, [3], 0), some (.iconst 0, 1, [], 0), some (.aload_n 0, 1, [0], 0), some (.iload_n 1, 1, [1], 0), some (.iload_n 2, 1, [2], 0), some (.invokevirtual 76, 3, [65, 3, 2, 2, 12, 2, 12, 118, 4], 0), none, none, some (.i2l, 1, [], 0), some (.lastore, 1, [], 0), some (.goto 7, 3, [17], 0), none, none, some (.astore 4, 2, [4], 0), none, some (.iconst 1, 1, [], 1), some (.ireturn, 1, [2, 12, 1], 0), some (.iconst 0, 1, [], 0), some (.ireturn, 1, [2, 12, 1], 0)]]
def cd_209 : List (List (Option IcM)) := [[some (.aload_n 3, 1, [3], 0), some (.iconst 0, 1, [], 0), some (.aload_n 0, 1, [0], 0), some (.iload_n 1, 1, [1], 0), some (.iload_n 2, 1, [2], 0), some (.invokevirtual 79, 3, [66, 3, 2, 2, 12, 2, 12, 120, 4], 0), none, none, some (.i2l, 1, [], 0), some (.lastore, 1, [], 0), some (.goto 7, 3, [17], 0), none, none, some (.astore 4, 2, [4], 0), none, some (.iconst 1, 1, [], 1), some (.ireturn, 1, [2, 12, 1], 0), some (.iconst 0, 1, [], 0), some (.ireturn, 1, [2, 12, 1], 0)]]
def cd_210 : List (List (Option IcM)) := [[some (.aload_n 3, 1, [3], 0), some (.iconst 0, 1, [], 0), some (.aload_n 0, 1, [0], 0), some (.iload_n 1, 1, [1], 0), some (.iload_n 2, 1, [2], 0), some (.invokevirtual 82, 3, [67, 3, 2, 2, 12, 2, 12, 124, 4], 0), none, none, some (.i2l, 1, [], 0), some (.lastore, 1, [], 0), some (.goto 7, 3, [17], 0), none, none, some (.astore 4, 2, [4], 0), none, some (.iconst 1, 1, [], 1), some (.ireturn, 1, [2, 12, 1], 0), some (.iconst 0, 1, [], 0), some (.ireturn, 1, [2, 12, 1], 0)]]
def cd_211 : List (List (Option IcM)) := [[some (.aload_n 2, 1, [2], 0), some (.iconst 0, 1, [], 0), some (.aload_n 0, 1, [0], 0), some (.iload_n 1, 1, [1], 0), some (.invokevirtual 85, 3, [68, 2, 2, 1, 6, 1, 6, 129, 4], 0), none, none, some (.i2l, 1, [], 0), some (.lastore, 1, [], 0), some (.goto 6, 3, [15], 0), none, none, some (.astore_n 3, 1, [3], 0), some (.iconst 1, 1, [], 1), some (.ireturn, 1, [1, 6, 1], 0), some (.iconst 0, 1, [], 0), some (.ireturn, 1, [1, 6, 1], 0)]]
def cd_212 : List (List (Option IcM)) := [[some (.aload_n 2, 1, [2], 0), some (.iconst 0, 1, [], 0), some (.aload_n 0, 1, [0], 0), some (.iload_n 1, 1, [1], 0), some (.invokevirtual 88, 3, [69, 2, 2, 1, 6, 1, 6, 131, 4], 0), none, none, some (.i2l, 1, [], 0), some (.lastore, 1, [], 0), some (.goto 6, 3, [15], 0), none, none, some (.astore_n 3, 1, [3], 0), some (.iconst 1, 1, [], 1), some (.ireturn, 1, [1, 6, 1], 0), some (.iconst 0, 1, [], 0), some (.ireturn, 1, [1, 6, 1], 0)]]
def cd_213 : List (List (Option IcM)) := [[some (.aload_n 3, 1, [3], 0), some (.iconst 0, 1, [], 0), some (.aload_n 0, 1, [0], 0), some (.iload_n 1, 1, [1], 0), some (.iload_n 2, 1, [2], 0), some (.invokevirtual 91, 3, [70, 3, 2, 2, 12, 2, 12, 135, 4], 0), none, none, some (.i2l, 1, [], 0), some (.lastore, 1, [], 0), some (.goto 7, 3, [17], 0), none, none, some (.astore 4, 2, [4], 0), none, some (.iconst 1, 1, [], 1), some (.ireturn, 1, [2, 12, 1], 0), some (.iconst 0, 1, [], 0), some (.ireturn, 1, [2, 12, 1], 0)]]
def cd_214 : List (List (Option IcM)) := [[some (.aload_n 3, 1, [3], 0), some (.iconst 0, 1, [], 0), some (.aload_n 0, 1, [0], 0), some (.iload_n 1, 1, [1], 0), some (.iload_n 2, 1, [2], 0), some (.invokevirtual 94, 3, [71, 3, 2, 2, 12, 2, 12, 137, 4], 0), none, none, some (.i2l, 1, [], 0), some (.lastore, 1, [], 0), some (.goto 7, 3, [17], 0), none, none, some (.astore 4, 2, [4], 0), none, some (.iconst 1, 1, [], 1), some (.ireturn, 1, [2, 12, 1], 0), some (.iconst 0, 1, [], 0), some (.ireturn, 1, [2, 12, 1], 0)]]
def cd_215 : List (List (Option IcM)) := [[some (.aload_n 3, 1, [3], 0), some (.iconst 0, 1, [], 0), some (.aload_n 0, 1, [0], 0), some (.iload_n 1, 1, [1], 0), some (.iload_n 2, 1, [2], 0), some (.invokevirtual 97, 3, [72, 3, 2, 2, 12, 2, 12, 139, 4], 0), none, none, some (.i2l, 1, [], 0), some (.lastore, 1, [], 0), some (.goto 7, 3, [17], 0), none, none, some (.astore 4, 2, [4], 0), none, some (.iconst 1, 1, [], 1), some (.ireturn, 1, [2, 12, 1], 0), some (.iconst 0, 1, [], 0), some (.ireturn, 1, [2, 12, 1], 0)]]
def cd_216 : List (List (Option IcM)) := [[some (.aload_n 2, 1, [2], 0), some (.iconst 0, 1, [], 0), some (.aload_n 0, 1, [0], 0), some (.iload_n 1, 1, [1], 0), some (.invokevirtual 100, 3, [74, 2, 2, 1, 6, 1, 6, 141, 4], 0), none, none, some (.i2l, 1, [], 0), some (.lastore, 1, [], 0), some (.goto 6, 3, [15], 0), none, none, some (.astore_n 3, 1, [3], 0), some (.iconst 1, 1, [], 1), some (.ireturn, 1, [1, 6, 1], 0), some (.iconst 0, 1, [], 0), some (.ireturn, 1, [1, 6, 1], 0)]]
def cd_217 : List (List (Option IcM)) := [[some (.aload_n 2, 1, [2], 0), some (.iconst 0, 1, [], 0), some (.aload_n 0, 1, [0], 0), some (.iload_n 1, 1, [1], 0), some (.invokevirtual 103, 3, [75, 2, 2, 1, 6, 1, 6, 144, 4], 0), none, none, some (.i2l, 1, [], 0), some (.lastore, 1, [], 0), some (.goto 6, 3, [15], 0), none, none, some (.astore_n 3, 1, [3], 0), some (.iconst 1, 1, [], 1), some (.ireturn, 1, [1, 6, 1], 0), some (.iconst 0, 1, [], 0), some (.ireturn, 1, [1, 6, 1], 0)]]
def cd_218 : List (List (Option IcM)) := [[some (.aload 4, 2, [4], 0), none, some (.iconst 0, 1, [], 0), some (.aload_n 0, 1, [0], 0), some (.iload_n 1, 1, [1], 0), some (.iload_n 2, 1, [2], 0), some (.iload_n 3, 1, [3], 0), some (.invokevirtual 106, 3, [76, 4, 2, 3, 18, 3, 18, 147, 4], 0), none, none, some (.i2l, 1, [], 0), some (.lastore, 1, [], 0), some (.goto 11, 3, [23], 0), none, none, some (.astore 5, 2, [5], 0), none, some (.iconst 1, 1, [], 1), some (.ireturn, 1, [3, 18, 1], 0), some (.astore 5, 2, [5], 0), none, some (.iconst 2, 1, [], 2), some (.ireturn, 1, [3, 18, 1], 0), some (.iconst 0, 1, [], 0), some (.ireturn, 1, [3, 18, 1], 0)]]
def cd_219 : List (List (Option IcM)) := [[some (.aload 4, 2, [4], 0), none, some (.iconst 0, 1, [], 0), some (.aload_n 0, 1, [0], 0), some (.iload_n 1, 1, [1], 0), some (.iload_n 2, 1, [2], 0), some (.iload_n 3, 1, [3], 0), some (.invokevirtual 109, 3, [77, 4, 2, 3, 18, 3, 18, 150, 4], 0), none, none, some (.i2l, 1, [], 0), some (.lastore, 1, [], 0), some (.goto 11, 3, [23], 0), none, none, some (.astore 5, 2, [5], 0), none, some (.iconst 1, 1, [], 1), some (.ireturn, 1, [3, 18, 1], 0), some (.astore 5, 2, [5], 0), none, some (.iconst 2, 1, [], 2), some (.ireturn, 1, [3, 18, 1], 0), some (.iconst 0, 1, [], 0), some (.ireturn, 1, [3, 18, 1], 0)]]
def cd_220 : List (List (Option IcM)) := [[some (.aload_n 2, 1, [2], 0), some (.iconst 0, 1, [], 0), some (.aload_n 0, 1, [0], 0), some (.iload_n 1, 1, [1], 0), some (.invokevirtual 112, 3, [79, 2, 2, 1, 6, 1, 6, 153, 4], 0), none, none, some (.i2l, 1, [], 0), some (.lastore, 1, [], 0), some (.goto 6, 3, [15], 0), none, none, some (.astore_n 3, 1, [3], 0), some (.iconst 1, 1, [], 1), some (.ireturn, 1, [1, 6, 1], 0), some (.iconst 0, 1, [], 0), some (.ireturn, 1, [1, 6, 1], 0)]]
def cd_221 : List (List (Option IcM)) := [[some (.aload_n 2, 1, [2], 0), some (.iconst 0, 1, [], 0), some (.aload_n 0, 1, [0], 0), some (.iload_n 1, 1, [1], 0), some (.invokevirtual 115, 3, [80, 2, 2, 1, 6, 1, 6, 155, 4], 0), none, none, some (.ifCond .eq 7, 3, [14], 0), none, none, some (.lconst 1, 1, [], 1), some (.goto 4, 3, [15], 0), none, none, some (.lconst 0, 1, [], 0), some (.lastore, 1, [], 0), some (.goto 6, 3, [22], 0), none, none, some (.astore_n 3, 1, [3], 0), some (.iconst 1, 1, [], 1), some (.ireturn, 1, [1, 6, 1], 0), some (.iconst 0, 1, [], 0), some (.ireturn, 1, [1, 6, 1], 0)]]
def cd_222 : List (List (Option IcM)) := [[some (.aload_n 3, 1, [3], 0), some (.iconst 0, 1, [], 0), some (.aload_n 0, 1, [0], 0), some (.iload_n 1, 1, [1], 0), some (.iload_n 2, 1, [2], 0), some (.invokevirtual 119, 3, [83, 3, 2, 2, 12, 2, 12, 157, 4], 0), none, none, some (.i2l, 1, [], 0), some (.lastore, 1, [], 0), some (.goto 11, 3, [21], 0), none, none, some (.astore 4, 2, [4], 0), none, some (.iconst 1, 1, [], 1), some (.ireturn, 1, [2, 12, 1], 0), some (.astore 4, 2, [4], 0), none, some (.iconst 2, 1, [], 2), some (.ireturn, 1, [2, 12, 1], 0), some (.iconst 0, 1, [], 0), some (.ireturn, 1, [2, 12, 1], 0)]]
def cd_223 : List (List (Option IcM)) := [[some (.new 8, 3, [0, 4, 8, 601024, 7293034, 93], 0), none, none, some (.dup, 1, [], 0), some (.invokespecial 122, 3, [44, 1, 4, 177, 4030, 601024, 7293034, 0, 4], 0), none, none, some (.astore_n 1, 1, [1], 0), some (.new 123, 3, [0, 5, 11, 601024, 7293034, 897], 0), none, none, some (.dup, 1, [], 0), some (.invokespecial 125, 3, [104, 1, 4, 6, 3384, 601024, 7293034, 159, 5], 0), none, none, some (.astore_n 2, 1, [2], 0), some (.iconst 1, 1, [], 1), some (.newarray .long, 2, [5, 601024, 7293034], 0), none, some (.astore_n 3, 1, [3], 0), some (.iconst 0, 1, [], 0), some (.istore 4, 2, [4], 0), none, some (.iload 4, 2, [4], 0), none, some (.aload_n 0, 1, [0], 0), some (.arraylength, 1, [], 0), some (.bipush 6, 2, [], 6), none, some (.isub, 1, [], 0), some (.if_icmp .gt 2536, 3, [2566], 0), none, none, some (.aload_n 0, 1, [0], 0), some (.iload 4, 2, [4], 0), none, some (.iaload, 1, [], 0), some (.bipush 63, 2, [], 63), none, some (.iand, 1, [], 0), some (.tableswitch 2520 0 41 #[184, 288, 368, 436, 528, 620, 688, 756, 840, 896, 952, 965, 978, 1022, 1066, 1122, 1178, 1246, 1314, 1382, 1450, 1518, 1586, 1654, 1710, 1766, 1834, 1902, 1970, 1983, 2039, 2095, 2175, 2255, 2268, 2324, 2387, 2400, 2413, 2481, 2494, 2507], 184, [2560, 0, 224, 1, 328, 2, 408, 3, 476, 4, 568, 5, 660, 6, 728, 7, 796, 8, 880, 9, 936, 10, 992, 11, 1005, 12, 1018, 13, 1062, 14, 1106, 15, 1162, 16, 1218, 17, 1286, 18, 1354, 19, 1422, 20, 1490, 21, 1558, 22, 1626, 23, 1694, 24, 1750, 25, 1806, 26, 1874, 27, 1942, 28, 2010, 29, 2023, 30, 2079, 31, 2135, 32, 2215, 33, 2295, 34, 2308, 35, 2364, 36, 2427, 37, 2440, 38, 2453, 39, 2521, 40, 2534, 41, 2547], 0), none, none, none, none, none, none, none, none, none, none, none, none, none, none, none, none, none, none, none, none, none, none, none],
  [none, none, none, none, none, none, none, none, none, none, none, none, none, none, none, none, none, none, none, none, none, none, none, none, none, none, none, none, none, none, none, none, none, none, none, none, none, none, none, none, none, none, none, none, none, none, none, none, none, none, none, none, none, none, none, none, none, none, none, none, none, none, none, none],
  [none, none, none, none, none, none, none, none, none, none, none, none, none, none, none, none, none, none, none, none, none, none, none, none, none, none, none, none, none, none, none, none, none, none, none, none, none, none, none, none, none, none, none, none, none, none, none, none, none, none, none, none, none, none, none, none, none, none, none, none, none, none, none, none],
  [none, none, none, none, none, none, none, none, none, none, none, none, none, none, none, none, none, none, none, none, none, none, none, none, none, none, none, none, none, none, none, none, some (.aload_n 1, 1, [1], 0), some (.aload_n 0, 1, [0], 0), some (.iload 4, 2, [4], 0), none, some (.iconst 1, 1, [], 1), some (.iadd, 1, [], 0), some (.iaload, 1, [], 0), some (.aload_n 0, 1, [0], 0), some (.iload 4, 2, [4], 0), none, some (.iconst 2, 1, [], 2), some (.iadd, 1, [], 0), some (.iaload, 1, [], 0), some (.aload_n 0, 1, [0], 0), some (.iload 4, 2, [4], 0), none, some (.iconst 3, 1, [], 3), some (.iadd, 1, [], 0), some (.iaload, 1, [], 0), some (.aload_n 0, 1, [0], 0), some (.iload 4, 2, [4], 0), none, some (.iconst 4, 1, [], 4), some (.iadd, 1, [], 0), some (.iaload, 1, [], 0), some (.aload_n 0, 1, [0], 0), some (.iload 4, 2, [4], 0), none, some (.iconst 5, 1, [], 5), some (.iadd, 1, [], 0), some (.iaload, 1, [], 0), some (.aload_n 3, 1, [3], 0)],
  [some (.invokestatic 126, 3, [190, 7, 10, 6, 36, 601024, 7293034, 28, 6], 0), none, none, some (.istore 5, 2, [5], 0), none, some (.aload_n 2, 1, [2], 0), some (.aload_n 0, 1, [0], 0), some (.iload 4, 2, [4], 0), none, some (.iconst 1, 1, [], 1), some (.iadd, 1, [], 0), some (.iaload, 1, [], 0), some (.aload_n 0, 1, [0], 0), some (.iload 4, 2, [4], 0), none, some (.iconst 2, 1, [], 2), some (.iadd, 1, [], 0), some (.iaload, 1, [], 0), some (.aload_n 0, 1, [0], 0), some (.iload 4, 2, [4], 0), none, some (.iconst 3, 1, [], 3), some (.iadd, 1, [], 0), some (.iaload, 1, [], 0), some (.aload_n 0, 1, [0], 0), some (.iload 4, 2, [4], 0), none, some (.iconst 4, 1, [], 4), some (.iadd, 1, [], 0), some (.iaload, 1, [], 0), some (.aload_n 0, 1, [0], 0), some (.iload 4, 2, [4], 0), none, some (.iconst 5, 1, [], 5), some (.iadd, 1, [], 0), some (.iaload, 1, [], 0), some (.invokevirtual 131, 3, [134, 6, 2, 0, 0, 601024, 7293034, 162, 5], 0), none, none, some (.istore 6, 2, [6], 0), none, some (.aload_n 2, 1, [2], 0), some (.invokevirtual 132, 3, [105, 1, 2, 0, 0, 601024, 7293034, 161, 5], 0), none, none, some (.iload 5, 2, [5], 0), none, some (.if_icmp .eq 5, 3, [308], 0), none, none, some (.iconst 0, 1, [], 0), some (.ireturn, 1, [601024, 7293034, 2], 0), some (.iload 5, 2, [5], 0), none, some (.ifCond .ne 15, 3, [325], 0), none, none, some (.aload_n 3, 1, [3], 0), some (.iconst 0, 1, [], 0), some (.laload, 1, [], 0), some (.iload 6, 2, [6], 0), none, some (.i2l, 1, [], 0), some (.lcmp, 1, [], 0)],
  [some (.ifCond .eq 5, 3, [325], 0), none, none, some (.iconst 0, 1, [], 0), some (.ireturn, 1, [601024, 7293034, 2], 0), some (.goto 2235, 3, [2560], 0), none, none, some (.aload_n 1, 1, [1], 0), some (.aload_n 0, 1, [0], 0), some (.iload 4, 2, [4], 0), none, some (.iconst 1, 1, [], 1), some (.iadd, 1, [], 0), some (.iaload, 1, [], 0), some (.aload_n 0, 1, [0], 0), some (.iload 4, 2, [4], 0), none, some (.iconst 2, 1, [], 2), some (.iadd, 1, [], 0), some (.iaload, 1, [], 0), some (.aload_n 0, 1, [0], 0), some (.iload 4, 2, [4], 0), none, some (.iconst 3, 1, [], 3), some (.iadd, 1, [], 0), some (.iaload, 1, [], 0), some (.aload_n 3, 1, [3], 0), some (.invokestatic 135, 3, [191, 5, 10, 4, 24, 601024, 7293034, 58, 6], 0), none, none, some (.istore 5, 2, [5], 0), none, some (.aload_n 2, 1, [2], 0), some (.aload_n 0, 1, [0], 0), some (.iload 4, 2, [4], 0), none, some (.iconst 1, 1, [], 1), some (.iadd, 1, [], 0), some (.iaload, 1, [], 0), some (.aload_n 0, 1, [0], 0), some (.iload 4, 2, [4], 0), none, some (.iconst 2, 1, [], 2), some (.iadd, 1, [], 0), some (.iaload, 1, [], 0), some (.aload_n 0, 1, [0], 0), some (.iload 4, 2, [4], 0), none, some (.iconst 3, 1, [], 3), some (.iadd, 1, [], 0), some (.iaload, 1, [], 0), some (.invokevirtual 138, 3, [135, 4, 2, 0, 0, 601024, 7293034, 186, 5], 0), none, none, some (.istore 6, 2, [6], 0), none, some (.aload_n 2, 1, [2], 0), some (.invokevirtual 132, 3, [105, 1, 2, 0, 0, 601024, 7293034, 161, 5], 0), none, none, some (.iload 5, 2, [5], 0), none, some (.if_icmp .eq 5, 3, [388], 0)],
  [none, none, some (.iconst 0, 1, [], 0), some (.ireturn, 1, [601024, 7293034, 2], 0), some (.iload 5, 2, [5], 0), none, some (.ifCond .ne 15, 3, [405], 0), none, none, some (.aload_n 3, 1, [3], 0), some (.iconst 0, 1, [], 0), some (.laload, 1, [], 0), some (.iload 6, 2, [6], 0), none, some (.i2l, 1, [], 0), some (.lcmp, 1, [], 0), some (.ifCond .eq 5, 3, [405], 0), none, none, some (.iconst 0, 1, [], 0), some (.ireturn, 1, [601024, 7293034, 2], 0), some (.goto 2155, 3, [2560], 0), none, none, some (.aload_n 1, 1, [1], 0), some (.aload_n 0, 1, [0], 0), some (.iload 4, 2, [4], 0), none, some (.iconst 1, 1, [], 1), some (.iadd, 1, [], 0), some (.iaload, 1, [], 0), some (.aload_n 0, 1, [0], 0), some (.iload 4, 2, [4], 0), none, some (.iconst 2, 1, [], 2), some (.iadd, 1, [], 0), some (.iaload, 1, [], 0), some (.aload_n 3, 1, [3], 0), some (.invokestatic 139, 3, [192, 4, 10, 3, 18, 601024, 7293034, 64, 6], 0), none, none, some (.istore 5, 2, [5], 0), none, some (.aload_n 2, 1, [2], 0), some (.aload_n 0, 1, [0], 0), some (.iload 4, 2, [4], 0), none, some (.iconst 1, 1, [], 1), some (.iadd, 1, [], 0), some (.iaload, 1, [], 0), some (.aload_n 0, 1, [0], 0), some (.iload 4, 2, [4], 0), none, some (.iconst 2, 1, [], 2), some (.iadd, 1, [], 0), some (.iaload, 1, [], 0), some (.invokevirtual 142, 3, [136, 3, 2, 0, 0, 601024, 7293034, 188, 5], 0), none, none, some (.istore 6, 2, [6], 0), none, some (.aload_n 2, 1, [2], 0), some (.invokevirtual 132, 3, [105, 1, 2, 0, 0, 601024, 7293034, 161, 5], 0), none],
  [none, some (.iload 5, 2, [5], 0), none, some (.if_icmp .eq 5, 3, [456], 0), none, none, some (.iconst 0, 1, [], 0), some (.ireturn, 1, [601024, 7293034, 2], 0), some (.iload 5, 2, [5], 0), none, some (.ifCond .ne 15, 3, [473], 0), none, none, some (.aload_n 3, 1, [3], 0), some (.iconst 0, 1, [], 0), some (.laload, 1, [], 0), some (.iload 6, 2, [6], 0), none, some (.i2l, 1, [], 0), some (.lcmp, 1, [], 0), some (.ifCond .eq 5, 3, [473], 0), none, none, some (.iconst 0, 1, [], 0), some (.ireturn, 1, [601024, 7293034, 2], 0), some (.goto 2087, 3, [2560], 0), none, none, some (.aload_n 1, 1, [1], 0), some (.aload_n 0, 1, [0], 0), some (.iload 4, 2, [4], 0), none, some (.iconst 1, 1, [], 1), some (.iadd, 1, [], 0), some (.iaload, 1, [], 0), some (.aload_n 0, 1, [0], 0), some (.iload 4, 2, [4], 0), none, some (.iconst 2, 1, [], 2), some (.iadd, 1, [], 0), some (.iaload, 1, [], 0), some (.aload_n 0, 1, [0], 0), some (.iload 4, 2, [4], 0), none, some (.iconst 3, 1, [], 3), some (.iadd, 1, [], 0), some (.iaload, 1, [], 0), some (.aload_n 0, 1, [0], 0), some (.iload 4, 2, [4], 0), none, some (.iconst 4, 1, [], 4), some (.iadd, 1, [], 0), some (.iaload, 1, [], 0), some (.aload_n 3, 1, [3], 0), some (.invokestatic 143, 3, [193, 6, 10, 5, 30, 601024, 7293034, 68, 6], 0), none, none, some (.istore 5, 2, [5], 0), none, some (.aload_n 2, 1, [2], 0), some (.aload_n 0, 1, [0], 0), some (.iload 4, 2, [4], 0), none, some (.iconst 1, 1, [], 1)],
  [some (.iadd, 1, [], 0), some (.iaload, 1, [], 0), some (.aload_n 0, 1, [0], 0), some (.iload 4, 2, [4], 0), none, some (.iconst 2, 1, [], 2), some (.iadd, 1, [], 0), some (.iaload, 1, [], 0), some (.aload_n 0, 1, [0], 0), some (.iload 4, 2, [4], 0), none, some (.iconst 3, 1, [], 3), some (.iadd, 1, [], 0), some (.iaload, 1, [], 0), some (.aload_n 0, 1, [0], 0), some (.iload 4, 2, [4], 0), none, some (.iconst 4, 1, [], 4), some (.iadd, 1, [], 0), some (.iaload, 1, [], 0), some (.invokevirtual 146, 3, [137, 5, 2, 0, 0, 601024, 7293034, 190, 5], 0), none, none, some (.istore 6, 2, [6], 0), none, some (.aload_n 2, 1, [2], 0), some (.invokevirtual 132, 3, [105, 1, 2, 0, 0, 601024, 7293034, 161, 5], 0), none, none, some (.iload 5, 2, [5], 0), none, some (.if_icmp .eq 5, 3, [548], 0), none, none, some (.iconst 0, 1, [], 0), some (.ireturn, 1, [601024, 7293034, 2], 0), some (.iload 5, 2, [5], 0), none, some (.ifCond .ne 15, 3, [565], 0), none, none, some (.aload_n 3, 1, [3], 0), some (.iconst 0, 1, [], 0), some (.laload, 1, [], 0), some (.iload 6, 2, [6], 0), none, some (.i2l, 1, [], 0), some (.lcmp, 1, [], 0), some (.ifCond .eq 5, 3, [565], 0), none, none, some (.iconst 0, 1, [], 0), some (.ireturn, 1, [601024, 7293034, 2], 0), some (.goto 1995, 3, [2560], 0), none, none, some (.aload_n 1, 1, [1], 0), some (.aload_n 0, 1, [0], 0), some (.iload 4, 2, [4], 0), none, some (.iconst 1, 1, [], 1), some (.iadd, 1, [], 0), some (.iaload, 1, [], 0), some (.aload_n 0, 1, [0], 0)],
  [some (.iload 4, 2, [4], 0), none, some (.iconst 2, 1, [], 2), some (.iadd, 1, [], 0), some (.iaload, 1, [], 0), some (.aload_n 0, 1, [0], 0), some (.iload 4, 2, [4], 0), none, some (.iconst 3, 1, [], 3), some (.iadd, 1, [], 0), some (.iaload, 1, [], 0), some (.aload_n 0, 1, [0], 0), some (.iload 4, 2, [4], 0), none, some (.iconst 4, 1, [], 4), some (.iadd, 1, [], 0), some (.iaload, 1, [], 0), some (.aload_n 3, 1, [3], 0), some (.invokestatic 147, 3, [194, 6, 10, 4, 24, 601024, 7293034, 71, 6], 0), none, none, some (.istore 5, 2, [5], 0), none, some (.aload_n 2, 1, [2], 0), some (.aload_n 0, 1, [0], 0), some (.iload 4, 2, [4], 0), none, some (.iconst 1, 1, [], 1), some (.iadd, 1, [], 0), some (.iaload, 1, [], 0), some (.aload_n 0, 1, [0], 0), some (.iload 4, 2, [4], 0), none, some (.iconst 2, 1, [], 2), some (.iadd, 1, [], 0), some (.iaload, 1, [], 0), some (.aload_n 0, 1, [0], 0), some (.iload 4, 2, [4], 0), none, some (.iconst 3, 1, [], 3), some (.iadd, 1, [], 0), some (.iaload, 1, [], 0), some (.aload_n 0, 1, [0], 0), some (.iload 4, 2, [4], 0), none, some (.iconst 4, 1, [], 4), some (.iadd, 1, [], 0), some (.iaload, 1, [], 0), some (.invokevirtual 149, 3, [138, 5, 2, 0, 0, 601024, 7293034, 192, 5], 0), none, none, some (.istore 6, 2, [6], 0), none, some (.aload_n 2, 1, [2], 0), some (.invokevirtual 132, 3, [105, 1, 2, 0, 0, 601024, 7293034, 161, 5], 0), none, none, some (.iload 5, 2, [5], 0), none, some (.if_icmp .eq 5, 3, [640], 0), none, none, some (.iconst 0, 1, [], 0), some (.ireturn, 1, [601024, 7293034, 2], 0)],
  [some (.iload 5, 2, [5], 0), none, some (.ifCond .ne 15, 3, [657], 0), none, none, some (.aload_n 3, 1, [3], 0), some (.iconst 0, 1, [], 0), some (.laload, 1, [], 0), some (.iload 6, 2, [6], 0), none, some (.i2l, 1, [], 0), some (.lcmp, 1, [], 0), some (.ifCond .eq 5, 3, [657], 0), none, none, some (.iconst 0, 1, [], 0), some (.ireturn, 1, [601024, 7293034, 2], 0), some (.goto 1903, 3, [2560], 0), none, none, some (.aload_n 1, 1, [1], 0), some (.aload_n 0, 1, [0], 0), some (.iload 4, 2, [4], 0), none, some (.iconst 1, 1, [], 1), some (.iadd, 1, [], 0), some (.iaload, 1, [], 0), some (.aload_n 0, 1, [0], 0), some (.iload 4, 2, [4], 0), none, some (.iconst 2, 1, [], 2), some (.iadd, 1, [], 0), some (.iaload, 1, [], 0), some (.aload_n 3, 1, [3], 0), some (.invokestatic 150, 3, [195, 4, 10, 2, 12, 601024, 7293034, 79, 6], 0), none, none, some (.istore 5, 2, [5], 0), none, some (.aload_n 2, 1, [2], 0), some (.aload_n 0, 1, [0], 0), some (.iload 4, 2, [4], 0), none, some (.iconst 1, 1, [], 1), some (.iadd, 1, [], 0), some (.iaload, 1, [], 0), some (.aload_n 0, 1, [0], 0), some (.iload 4, 2, [4], 0), none, some (.iconst 2, 1, [], 2), some (.iadd, 1, [], 0), some (.iaload, 1, [], 0), some (.invokevirtual 152, 3, [139, 3, 2, 0, 0, 601024, 7293034, 194, 5], 0), none, none, some (.istore 6, 2, [6], 0), none, some (.aload_n 2, 1, [2], 0), some (.invokevirtual 132, 3, [105, 1, 2, 0, 0, 601024, 7293034, 161, 5], 0), none, none, some (.iload 5, 2, [5], 0), none, some (.if_icmp .eq 5, 3, [708], 0)],
  [none, none, some (.iconst 0, 1, [], 0), some (.ireturn, 1, [601024, 7293034, 2], 0), some (.iload 5, 2, [5], 0), none, some (.ifCond .ne 15, 3, [725], 0), none, none, some (.aload_n 3, 1, [3], 0), some (.iconst 0, 1, [], 0), some (.laload, 1, [], 0), some (.iload 6, 2, [6], 0), none, some (.i2l, 1, [], 0), some (.lcmp, 1, [], 0), some (.ifCond .eq 5, 3, [725], 0), none, none, some (.iconst 0, 1, [], 0), some (.ireturn, 1, [601024, 7293034, 2], 0), some (.goto 1835, 3, [2560], 0), none, none, some (.aload_n 1, 1, [1], 0), some (.aload_n 0, 1, [0], 0), some (.iload 4, 2, [4], 0), none, some (.iconst 1, 1, [], 1), some (.iadd, 1, [], 0), some (.iaload, 1, [], 0), some (.aload_n 0, 1, [0], 0), some (.iload 4, 2, [4], 0), none, some (.iconst 2, 1, [], 2), some (.iadd, 1, [], 0), some (.iaload, 1, [], 0), some (.aload_n 3, 1, [3], 0), some (.invokestatic 153, 3, [196, 4, 10, 3, 18, 601024, 7293034, 81, 6], 0), none, none, some (.istore 5, 2, [5], 0), none, some (.aload_n 2, 1, [2], 0), some (.aload_n 0, 1, [0], 0), some (.iload 4, 2, [4], 0), none, some (.iconst 1, 1, [], 1), some (.iadd, 1, [], 0), some (.iaload, 1, [], 0), some (.aload_n 0, 1, [0], 0), some (.iload 4, 2, [4], 0), none, some (.iconst 2, 1, [], 2), some (.iadd, 1, [], 0), some (.iaload, 1, [], 0), some (.invokevirtual 155, 3, [140, 3, 2, 0, 0, 601024, 7293034, 195, 5], 0), none, none, some (.istore 6, 2, [6], 0), none, some (.aload_n 2, 1, [2], 0), some (.invokevirtual 132, 3, [105, 1, 2, 0, 0, 601024, 7293034, 161, 5], 0), none],
  [none, some (.iload 5, 2, [5], 0), none, some (.if_icmp .eq 5, 3, [776], 0), none, none, some (.iconst 0, 1, [], 0), some (.ireturn, 1, [601024, 7293034, 2], 0), some (.iload 5, 2, [5], 0), none, some (.ifCond .ne 15, 3, [793], 0), none, none, some (.aload_n 3, 1, [3], 0), some (.iconst 0, 1, [], 0), some (.laload, 1, [], 0), some (.iload 6, 2, [6], 0), none, some (.i2l, 1, [], 0), some (.lcmp, 1, [], 0), some (.ifCond .eq 5, 3, [793], 0), none, none, some (.iconst 0, 1, [], 0), some (.ireturn, 1, [601024, 7293034, 2], 0), some (.goto 1767, 3, [2560], 0), none, none, some (.aload_n 1, 1, [1], 0), some (.aload_n 0, 1, [0], 0), some (.iload 4, 2, [4], 0), none, some (.iconst 1, 1, [], 1), some (.iadd, 1, [], 0), some (.iaload, 1, [], 0), some (.aload_n 0, 1, [0], 0), some (.iload 4, 2, [4], 0), none, some (.iconst 2, 1, [], 2), some (.iadd, 1, [], 0), some (.iaload, 1, [], 0), some (.ifCond .eq 7, 3, [816], 0), none, none, some (.iconst 1, 1, [], 1), some (.goto 4, 3, [817], 0), none, none, some (.iconst 0, 1, [], 0), some (.aload_n 3, 1, [3], 0), some (.invokestatic 156, 3, [197, 4, 10, 1, 6, 601024, 7293034, 83, 6], 0), none, none, some (.istore 5, 2, [5], 0), none, some (.aload_n 2, 1, [2], 0), some (.aload_n 0, 1, [0], 0), some (.iload 4, 2, [4], 0), none, some (.iconst 1, 1, [], 1), some (.iadd, 1, [], 0), some (.iaload, 1, [], 0), some (.aload_n 0, 1, [0], 0), some (.iload 4, 2, [4], 0)],
  [none, some (.iconst 2, 1, [], 2), some (.iadd, 1, [], 0), some (.iaload, 1, [], 0), some (.ifCond .eq 7, 3, [843], 0), none, none, some (.iconst 1, 1, [], 1), some (.goto 4, 3, [844], 0), none, none, some (.iconst 0, 1, [], 0), some (.invokevirtual 159, 3, [141, 3, 2, 0, 0, 601024, 7293034, 196, 5], 0), none, none, some (.istore 6, 2, [6], 0), none, some (.aload_n 2, 1, [2], 0), some (.invokevirtual 132, 3, [105, 1, 2, 0, 0, 601024, 7293034, 161, 5], 0), none, none, some (.iload 5, 2, [5], 0), none, some (.if_icmp .eq 5, 3, [860], 0), none, none, some (.iconst 0, 1, [], 0), some (.ireturn, 1, [601024, 7293034, 2], 0), some (.iload 5, 2, [5], 0), none, some (.ifCond .ne 15, 3, [877], 0), none, none, some (.aload_n 3, 1, [3], 0), some (.iconst 0, 1, [], 0), some (.laload, 1, [], 0), some (.iload 6, 2, [6], 0), none, some (.i2l, 1, [], 0), some (.lcmp, 1, [], 0), some (.ifCond .eq 5, 3, [877], 0), none, none, some (.iconst 0, 1, [], 0), some (.ireturn, 1, [601024, 7293034, 2], 0), some (.goto 1683, 3, [2560], 0), none, none, some (.aload_n 1, 1, [1], 0), some (.aload_n 0, 1, [0], 0), some (.iload 4, 2, [4], 0), none, some (.iconst 1, 1, [], 1), some (.iadd, 1, [], 0), some (.iaload, 1, [], 0), some (.aload_n 3, 1, [3], 0), some (.invokestatic 160, 3, [198, 3, 10, 2, 12, 601024, 7293034, 86, 6], 0), none, none, some (.istore 5, 2, [5], 0), none, some (.aload_n 2, 1, [2], 0), some (.aload_n 0, 1, [0], 0), some (.iload 4, 2, [4], 0)],
  [none, some (.iconst 1, 1, [], 1), some (.iadd, 1, [], 0), some (.iaload, 1, [], 0), some (.invokevirtual 163, 3, [142, 2, 2, 0, 0, 601024, 7293034, 197, 5], 0), none, none, some (.istore 6, 2, [6], 0), none, some (.aload_n 2, 1, [2], 0), some (.invokevirtual 132, 3, [105, 1, 2, 0, 0, 601024, 7293034, 161, 5], 0), none, none, some (.iload 5, 2, [5], 0), none, some (.if_icmp .eq 5, 3, [916], 0), none, none, some (.iconst 0, 1, [], 0), some (.ireturn, 1, [601024, 7293034, 2], 0), some (.iload 5, 2, [5], 0), none, some (.ifCond .ne 15, 3, [933], 0), none, none, some (.aload_n 3, 1, [3], 0), some (.iconst 0, 1, [], 0), some (.laload, 1, [], 0), some (.iload 6, 2, [6], 0), none, some (.i2l, 1, [], 0), some (.lcmp, 1, [], 0), some (.ifCond .eq 5, 3, [933], 0), none, none, some (.iconst 0, 1, [], 0), some (.ireturn, 1, [601024, 7293034, 2], 0), some (.goto 1627, 3, [2560], 0), none, none, some (.aload_n 1, 1, [1], 0), some (.aload_n 0, 1, [0], 0), some (.iload 4, 2, [4], 0), none, some (.iconst 1, 1, [], 1), some (.iadd, 1, [], 0), some (.iaload, 1, [], 0), some (.aload_n 3, 1, [3], 0), some (.invokestatic 164, 3, [199, 3, 10, 2, 12, 601024, 7293034, 92, 6], 0), none, none, some (.istore 5, 2, [5], 0), none, some (.aload_n 2, 1, [2], 0), some (.aload_n 0, 1, [0], 0), some (.iload 4, 2, [4], 0), none, some (.iconst 1, 1, [], 1), some (.iadd, 1, [], 0), some (.iaload, 1, [], 0), some (.invokevirtual 166, 3, [143, 2, 2, 0, 0, 601024, 7293034, 199, 5], 0), none, none, some (.istore 6, 2, [6], 0)],
  [none, some (.aload_n 2, 1, [2], 0), some (.invokevirtual 132, 3, [105, 1, 2, 0, 0, 601024, 7293034, 161, 5], 0), none, none, some (.iload 5, 2, [5], 0), none, some (.if_icmp .eq 5, 3, [972], 0), none, none, some (.iconst 0, 1, [], 0), some (.ireturn, 1, [601024, 7293034, 2], 0), some (.iload 5, 2, [5], 0), none, some (.ifCond .ne 15, 3, [989], 0), none, none, some (.aload_n 3, 1, [3], 0), some (.iconst 0, 1, [], 0), some (.laload, 1, [], 0), some (.iload 6, 2, [6], 0), none, some (.i2l, 1, [], 0), some (.lcmp, 1, [], 0), some (.ifCond .eq 5, 3, [989], 0), none, none, some (.iconst 0, 1, [], 0), some (.ireturn, 1, [601024, 7293034, 2], 0), some (.goto 1571, 3, [2560], 0), none, none, some (.aload_n 1, 1, [1], 0), some (.invokevirtual 167, 3, [55, 1, 2, 0, 0, 601024, 7293034, 10, 4], 0), none, none, some (.aload_n 2, 1, [2], 0), some (.invokevirtual 170, 3, [144, 1, 2, 0, 0, 601024, 7293034, 200, 5], 0), none, none, some (.if_icmp .eq 1560, 3, [2560], 0), none, none, some (.iconst 0, 1, [], 0), some (.ireturn, 1, [601024, 7293034, 2], 0), some (.aload_n 1, 1, [1], 0), some (.invokevirtual 171, 3, [56, 1, 2, 0, 0, 601024, 7293034, 11, 4], 0), none, none, some (.aload_n 2, 1, [2], 0), some (.invokevirtual 174, 3, [151, 1, 2, 0, 0, 601024, 7293034, 201, 5], 0), none, none, some (.if_icmp .eq 1547, 3, [2560], 0), none, none, some (.iconst 0, 1, [], 0), some (.ireturn, 1, [601024, 7293034, 2], 0), some (.aload_n 1, 1, [1], 0), some (.aload_n 3, 1, [3], 0), some (.invokestatic 175, 3, [200, 2, 10, 1, 6, 601024, 7293034, 94, 6], 0), none, none, some (.istore 5, 2, [5], 0)],
  [none, some (.aload_n 2, 1, [2], 0), some (.invokevirtual 178, 3, [153, 1, 2, 0, 0, 601024, 7293034, 208, 5], 0), none, none, some (.istore 6, 2, [6], 0), none, some (.aload_n 2, 1, [2], 0), some (.invokevirtual 132, 3, [105, 1, 2, 0, 0, 601024, 7293034, 161, 5], 0), none, none, some (.iload 5, 2, [5], 0), none, some (.if_icmp .eq 5, 3, [1042], 0), none, none, some (.iconst 0, 1, [], 0), some (.ireturn, 1, [601024, 7293034, 2], 0), some (.iload 5, 2, [5], 0), none, some (.ifCond .ne 15, 3, [1059], 0), none, none, some (.aload_n 3, 1, [3], 0), some (.iconst 0, 1, [], 0), some (.laload, 1, [], 0), some (.iload 6, 2, [6], 0), none, some (.i2l, 1, [], 0), some (.lcmp, 1, [], 0), some (.ifCond .eq 5, 3, [1059], 0), none, none, some (.iconst 0, 1, [], 0), some (.ireturn, 1, [601024, 7293034, 2], 0), some (.goto 1501, 3, [2560], 0), none, none, some (.aload_n 1, 1, [1], 0), some (.aload_n 3, 1, [3], 0), some (.invokestatic 179, 3, [201, 2, 10, 1, 6, 601024, 7293034, 99, 6], 0), none, none, some (.istore 5, 2, [5], 0), none, some (.aload_n 2, 1, [2], 0), some (.invokevirtual 181, 3, [154, 1, 2, 0, 0, 601024, 7293034, 210, 5], 0), none, none, some (.istore 6, 2, [6], 0), none, some (.aload_n 2, 1, [2], 0), some (.invokevirtual 132, 3, [105, 1, 2, 0, 0, 601024, 7293034, 161, 5], 0), none, none, some (.iload 5, 2, [5], 0), none, some (.if_icmp .eq 5, 3, [1086], 0), none, none, some (.iconst 0, 1, [], 0), some (.ireturn, 1, [601024, 7293034, 2], 0), some (.iload 5, 2, [5], 0), none],
  [some (.ifCond .ne 15, 3, [1103], 0), none, none, some (.aload_n 3, 1, [3], 0), some (.iconst 0, 1, [], 0), some (.laload, 1, [], 0), some (.iload 6, 2, [6], 0), none, some (.i2l, 1, [], 0), some (.lcmp, 1, [], 0), some (.ifCond .eq 5, 3, [1103], 0), none, none, some (.iconst 0, 1, [], 0), some (.ireturn, 1, [601024, 7293034, 2], 0), some (.goto 1457, 3, [2560], 0), none, none, some (.aload_n 1, 1, [1], 0), some (.aload_n 0, 1, [0], 0), some (.iload 4, 2, [4], 0), none, some (.iconst 1, 1, [], 1), some (.iadd, 1, [], 0), some (.iaload, 1, [], 0), some (.aload_n 3, 1, [3], 0), some (.invokestatic 182, 3, [202, 3, 10, 1, 6, 601024, 7293034, 101, 6], 0), none, none, some (.istore 5, 2, [5], 0), none, some (.aload_n 2, 1, [2], 0), some (.aload_n 0, 1, [0], 0), some (.iload 4, 2, [4], 0), none, some (.iconst 1, 1, [], 1), some (.iadd, 1, [], 0), some (.iaload, 1, [], 0), some (.invokevirtual 184, 3, [155, 2, 2, 0, 0, 601024, 7293034, 211, 5], 0), none, none, some (.istore 6, 2, [6], 0), none, some (.aload_n 2, 1, [2], 0), some (.invokevirtual 132, 3, [105, 1, 2, 0, 0, 601024, 7293034, 161, 5], 0), none, none, some (.iload 5, 2, [5], 0), none, some (.if_icmp .eq 5, 3, [1142], 0), none, none, some (.iconst 0, 1, [], 0), some (.ireturn, 1, [601024, 7293034, 2], 0), some (.iload 5, 2, [5], 0), none, some (.ifCond .ne 15, 3, [1159], 0), none, none, some (.aload_n 3, 1, [3], 0), some (.iconst 0, 1, [], 0), some (.laload, 1, [], 0), some (.iload 6, 2, [6], 0), none],
  [some (.i2l, 1, [], 0), some (.lcmp, 1, [], 0), some (.ifCond .eq 5, 3, [1159], 0), none, none, some (.iconst 0, 1, [], 0), some (.ireturn, 1, [601024, 7293034, 2], 0), some (.goto 1401, 3, [2560], 0), none, none, some (.aload_n 1, 1, [1], 0), some (.aload_n 0, 1, [0], 0), some (.iload 4, 2, [4], 0), none, some (.iconst 1, 1, [], 1), some (.iadd, 1, [], 0), some (.iaload, 1, [], 0), some (.aload_n 3, 1, [3], 0), some (.invokestatic 185, 3, [203, 3, 10, 2, 12, 601024, 7293034, 104, 6], 0), none, none, some (.istore 5, 2, [5], 0), none, some (.aload_n 2, 1, [2], 0), some (.aload_n 0, 1, [0], 0), some (.iload 4, 2, [4], 0), none, some (.iconst 1, 1, [], 1), some (.iadd, 1, [], 0), some (.iaload, 1, [], 0), some (.invokevirtual 187, 3, [156, 2, 2, 0, 0, 601024, 7293034, 212, 5], 0), none, none, some (.istore 6, 2, [6], 0), none, some (.aload_n 2, 1, [2], 0), some (.invokevirtual 132, 3, [105, 1, 2, 0, 0, 601024, 7293034, 161, 5], 0), none, none, some (.iload 5, 2, [5], 0), none, some (.if_icmp .eq 5, 3, [1198], 0), none, none, some (.iconst 0, 1, [], 0), some (.ireturn, 1, [601024, 7293034, 2], 0), some (.iload 5, 2, [5], 0), none, some (.ifCond .ne 15, 3, [1215], 0), none, none, some (.aload_n 3, 1, [3], 0), some (.iconst 0, 1, [], 0), some (.laload, 1, [], 0), some (.iload 6, 2, [6], 0), none, some (.i2l, 1, [], 0), some (.lcmp, 1, [], 0), some (.ifCond .eq 5, 3, [1215], 0), none, none, some (.iconst 0, 1, [], 0), some (.ireturn, 1, [601024, 7293034, 2], 0), some (.goto 1345, 3, [2560], 0)],
  [none, none, some (.aload_n 1, 1, [1], 0), some (.aload_n 0, 1, [0], 0), some (.iload 4, 2, [4], 0), none, some (.iconst 1, 1, [], 1), some (.iadd, 1, [], 0), some (.iaload, 1, [], 0), some (.aload_n 0, 1, [0], 0), some (.iload 4, 2, [4], 0), none, some (.iconst 2, 1, [], 2), some (.iadd, 1, [], 0), some (.iaload, 1, [], 0), some (.aload_n 3, 1, [3], 0), some (.invokestatic 188, 3, [204, 4, 10, 2, 12, 601024, 7293034, 106, 6], 0), none, none, some (.istore 5, 2, [5], 0), none, some (.aload_n 2, 1, [2], 0), some (.aload_n 0, 1, [0], 0), some (.iload 4, 2, [4], 0), none, some (.iconst 1, 1, [], 1), some (.iadd, 1, [], 0), some (.iaload, 1, [], 0), some (.aload_n 0, 1, [0], 0), some (.iload 4, 2, [4], 0), none, some (.iconst 2, 1, [], 2), some (.iadd, 1, [], 0), some (.iaload, 1, [], 0), some (.invokevirtual 190, 3, [157, 3, 2, 0, 0, 601024, 7293034, 213, 5], 0), none, none, some (.istore 6, 2, [6], 0), none, some (.aload_n 2, 1, [2], 0), some (.invokevirtual 132, 3, [105, 1, 2, 0, 0, 601024, 7293034, 161, 5], 0), none, none, some (.iload 5, 2, [5], 0), none, some (.if_icmp .eq 5, 3, [1266], 0), none, none, some (.iconst 0, 1, [], 0), some (.ireturn, 1, [601024, 7293034, 2], 0), some (.iload 5, 2, [5], 0), none, some (.ifCond .ne 15, 3, [1283], 0), none, none, some (.aload_n 3, 1, [3], 0), some (.iconst 0, 1, [], 0), some (.laload, 1, [], 0), some (.iload 6, 2, [6], 0), none, some (.i2l, 1, [], 0), some (.lcmp, 1, [], 0), some (.ifCond .eq 5, 3, [1283], 0), none],
  [none, some (.iconst 0, 1, [], 0), some (.ireturn, 1, [601024, 7293034, 2], 0), some (.goto 1277, 3, [2560], 0), none, none, some (.aload_n 1, 1, [1], 0), some (.aload_n 0, 1, [0], 0), some (.iload 4, 2, [4], 0), none, some (.iconst 1, 1, [], 1), some (.iadd, 1, [], 0), some (.iaload, 1, [], 0), some (.aload_n 0, 1, [0], 0), some (.iload 4, 2, [4], 0), none, some (.iconst 2, 1, [], 2), some (.iadd, 1, [], 0), some (.iaload, 1, [], 0), some (.aload_n 3, 1, [3], 0), some (.invokestatic 191, 3, [205, 4, 10, 2, 12, 601024, 7293034, 108, 6], 0), none, none, some (.istore 5, 2, [5], 0), none, some (.aload_n 2, 1, [2], 0), some (.aload_n 0, 1, [0], 0), some (.iload 4, 2, [4], 0), none, some (.iconst 1, 1, [], 1), some (.iadd, 1, [], 0), some (.iaload, 1, [], 0), some (.aload_n 0, 1, [0], 0), some (.iload 4, 2, [4], 0), none, some (.iconst 2, 1, [], 2), some (.iadd, 1, [], 0), some (.iaload, 1, [], 0), some (.invokevirtual 193, 3, [158, 3, 2, 0, 0, 601024, 7293034, 214, 5], 0), none, none, some (.istore 6, 2, [6], 0), none, some (.aload_n 2, 1, [2], 0), some (.invokevirtual 132, 3, [105, 1, 2, 0, 0, 601024, 7293034, 161, 5], 0), none, none, some (.iload 5, 2, [5], 0), none, some (.if_icmp .eq 5, 3, [1334], 0), none, none, some (.iconst 0, 1, [], 0), some (.ireturn, 1, [601024, 7293034, 2], 0), some (.iload 5, 2, [5], 0), none, some (.ifCond .ne 15, 3, [1351], 0), none, none, some (.aload_n 3, 1, [3], 0), some (.iconst 0, 1, [], 0), some (.laload, 1, [], 0), some (.iload 6, 2, [6], 0), none],
  [some (.i2l, 1, [], 0), some (.lcmp, 1, [], 0), some (.ifCond .eq 5, 3, [1351], 0), none, none, some (.iconst 0, 1, [], 0), some (.ireturn, 1, [601024, 7293034, 2], 0), some (.goto 1209, 3, [2560], 0), none, none, some (.aload_n 1, 1, [1], 0), some (.aload_n 0, 1, [0], 0), some (.iload 4, 2, [4], 0), none, some (.iconst 1, 1, [], 1), some (.iadd, 1, [], 0), some (.iaload, 1, [], 0), some (.aload_n 0, 1, [0], 0), some (.iload 4, 2, [4], 0), none, some (.iconst 2, 1, [], 2), some (.iadd, 1, [], 0), some (.iaload, 1, [], 0), some (.aload_n 3, 1, [3], 0), some (.invokestatic 194, 3, [206, 4, 10, 2, 12, 601024, 7293034, 113, 6], 0), none, none, some (.istore 5, 2, [5], 0), none, some (.aload_n 2, 1, [2], 0), some (.aload_n 0, 1, [0], 0), some (.iload 4, 2, [4], 0), none, some (.iconst 1, 1, [], 1), some (.iadd, 1, [], 0), some (.iaload, 1, [], 0), some (.aload_n 0, 1, [0], 0), some (.iload 4, 2, [4], 0), none, some (.iconst 2, 1, [], 2), some (.iadd, 1, [], 0), some (.iaload, 1, [], 0), some (.invokevirtual 196, 3, [159, 3, 2, 0, 0, 601024, 7293034, 215, 5], 0), none, none, some (.istore 6, 2, [6], 0), none, some (.aload_n 2, 1, [2], 0), some (.invokevirtual 132, 3, [105, 1, 2, 0, 0, 601024, 7293034, 161, 5], 0), none, none, some (.iload 5, 2, [5], 0), none, some (.if_icmp .eq 5, 3, [1402], 0), none, none, some (.iconst 0, 1, [], 0), some (.ireturn, 1, [601024, 7293034, 2], 0), some (.iload 5, 2, [5], 0), none, some (.ifCond .ne 15, 3, [1419], 0), none, none, some (.aload_n 3, 1, [3], 0)],
  [some (.iconst 0, 1, [], 0), some (.laload, 1, [], 0), some (.iload 6, 2, [6], 0), none, some (.i2l, 1, [], 0), some (.lcmp, 1, [], 0), some (.ifCond .eq 5, 3, [1419], 0), none, none, some (.iconst 0, 1, [], 0), some (.ireturn, 1, [601024, 7293034, 2], 0), some (.goto 1141, 3, [2560], 0), none, none, some (.aload_n 1, 1, [1], 0), some (.aload_n 0, 1, [0], 0), some (.iload 4, 2, [4], 0), none, some (.iconst 1, 1, [], 1), some (.iadd, 1, [], 0), some (.iaload, 1, [], 0), some (.aload_n 0, 1, [0], 0), some (.iload 4, 2, [4], 0), none, some (.iconst 2, 1, [], 2), some (.iadd, 1, [], 0), some (.iaload, 1, [], 0), some (.aload_n 3, 1, [3], 0), some (.invokestatic 197, 3, [207, 4, 10, 2, 12, 601024, 7293034, 115, 6], 0), none, none, some (.istore 5, 2, [5], 0), none, some (.aload_n 2, 1, [2], 0), some (.aload_n 0, 1, [0], 0), some (.iload 4, 2, [4], 0), none, some (.iconst 1, 1, [], 1), some (.iadd, 1, [], 0), some (.iaload, 1, [], 0), some (.aload_n 0, 1, [0], 0), some (.iload 4, 2, [4], 0), none, some (.iconst 2, 1, [], 2), some (.iadd, 1, [], 0), some (.iaload, 1, [], 0), some (.invokevirtual 199, 3, [160, 3, 2, 0, 0, 601024, 7293034, 216, 5], 0), none, none, some (.istore 6, 2, [6], 0), none, some (.aload_n 2, 1, [2], 0), some (.invokevirtual 132, 3, [105, 1, 2, 0, 0, 601024, 7293034, 161, 5], 0), none, none, some (.iload 5, 2, [5], 0), none, some (.if_icmp .eq 5, 3, [1470], 0), none, none, some (.iconst 0, 1, [], 0), some (.ireturn, 1, [601024, 7293034, 2], 0), some (.iload 5, 2, [5], 0), none],
  [some (.ifCond .ne 15, 3, [1487], 0), none, none, some (.aload_n 3, 1, [3], 0), some (.iconst 0, 1, [], 0), some (.laload, 1, [], 0), some (.iload 6, 2, [6], 0), none, some (.i2l, 1, [], 0), some (.lcmp, 1, [], 0), some (.ifCond .eq 5, 3, [1487], 0), none, none, some (.iconst 0, 1, [], 0), some (.ireturn, 1, [601024, 7293034, 2], 0), some (.goto 1073, 3, [2560], 0), none, none, some (.aload_n 1, 1, [1], 0), some (.aload_n 0, 1, [0], 0), some (.iload 4, 2, [4], 0), none, some (.iconst 1, 1, [], 1), some (.iadd, 1, [], 0), some (.iaload, 1, [], 0), some (.aload_n 0, 1, [0], 0), some (.iload 4, 2, [4], 0), none, some (.iconst 2, 1, [], 2), some (.iadd, 1, [], 0), some (.iaload, 1, [], 0), some (.aload_n 3, 1, [3], 0), some (.invokestatic 200, 3, [208, 4, 10, 2, 12, 601024, 7293034, 117, 6], 0), none, none, some (.istore 5, 2, [5], 0), none, some (.aload_n 2, 1, [2], 0), some (.aload_n 0, 1, [0], 0), some (.iload 4, 2, [4], 0), none, some (.iconst 1, 1, [], 1), some (.iadd, 1, [], 0), some (.iaload, 1, [], 0), some (.aload_n 0, 1, [0], 0), some (.iload 4, 2, [4], 0), none, some (.iconst 2, 1, [], 2), some (.iadd, 1, [], 0), some (.iaload, 1, [], 0), some (.invokevirtual 202, 3, [161, 3, 2, 0, 0, 601024, 7293034, 217, 5], 0), none, none, some (.istore 6, 2, [6], 0), none, some (.aload_n 2, 1, [2], 0), some (.invokevirtual 132, 3, [105, 1, 2, 0, 0, 601024, 7293034, 161, 5], 0), none, none, some (.iload 5, 2, [5], 0), none, some (.if_icmp .eq 5, 3, [1538], 0), none, none],
  [some (.iconst 0, 1, [], 0), some (.ireturn, 1, [601024, 7293034, 2], 0), some (.iload 5, 2, [5], 0), none, some (.ifCond .ne 15, 3, [1555], 0), none, none, some (.aload_n 3, 1, [3], 0), some (.iconst 0, 1, [], 0), some (.laload, 1, [], 0), some (.iload 6, 2, [6], 0), none, some (.i2l, 1, [], 0), some (.lcmp, 1, [], 0), some (.ifCond .eq 5, 3, [1555], 0), none, none, some (.iconst 0, 1, [], 0), some (.ireturn, 1, [601024, 7293034, 2], 0), some (.goto 1005, 3, [2560], 0), none, none, some (.aload_n 1, 1, [1], 0), some (.aload_n 0, 1, [0], 0), some (.iload 4, 2, [4], 0), none, some (.iconst 1, 1, [], 1), some (.iadd, 1, [], 0), some (.iaload, 1, [], 0), some (.aload_n 0, 1, [0], 0), some (.iload 4, 2, [4], 0), none, some (.iconst 2, 1, [], 2), some (.iadd, 1, [], 0), some (.iaload, 1, [], 0), some (.aload_n 3, 1, [3], 0), some (.invokestatic 203, 3, [209, 4, 10, 2, 12, 601024, 7293034, 119, 6], 0), none, none, some (.istore 5, 2, [5], 0), none, some (.aload_n 2, 1, [2], 0), some (.aload_n 0, 1, [0], 0), some (.iload 4, 2, [4], 0), none, some (.iconst 1, 1, [], 1), some (.iadd, 1, [], 0), some (.iaload, 1, [], 0), some (.aload_n 0, 1, [0], 0), some (.iload 4, 2, [4], 0), none, some (.iconst 2, 1, [], 2), some (.iadd, 1, [], 0), some (.iaload, 1, [], 0), some (.invokevirtual 205, 3, [162, 3, 2, 0, 0, 601024, 7293034, 218, 5], 0), none, none, some (.istore 6, 2, [6], 0), none, some (.aload_n 2, 1, [2], 0), some (.invokevirtual 132, 3, [105, 1, 2, 0, 0, 601024, 7293034, 161, 5], 0), none, none, some (.iload 5, 2, [5], 0)],
  [none, some (.if_icmp .eq 5, 3, [1606], 0), none, none, some (.iconst 0, 1, [], 0), some (.ireturn, 1, [601024, 7293034, 2], 0), some (.iload 5, 2, [5], 0), none, some (.ifCond .ne 15, 3, [1623], 0), none, none, some (.aload_n 3, 1, [3], 0), some (.iconst 0, 1, [], 0), some (.laload, 1, [], 0), some (.iload 6, 2, [6], 0), none, some (.i2l, 1, [], 0), some (.lcmp, 1, [], 0), some (.ifCond .eq 5, 3, [1623], 0), none, none, some (.iconst 0, 1, [], 0), some (.ireturn, 1, [601024, 7293034, 2], 0), some (.goto 937, 3, [2560], 0), none, none, some (.aload_n 1, 1, [1], 0), some (.aload_n 0, 1, [0], 0), some (.iload 4, 2, [4], 0), none, some (.iconst 1, 1, [], 1), some (.iadd, 1, [], 0), some (.iaload, 1, [], 0), some (.aload_n 0, 1, [0], 0), some (.iload 4, 2, [4], 0), none, some (.iconst 2, 1, [], 2), some (.iadd, 1, [], 0), some (.iaload, 1, [], 0), some (.aload_n 3, 1, [3], 0), some (.invokestatic 206, 3, [210, 4, 10, 2, 12, 601024, 7293034, 123, 6], 0), none, none, some (.istore 5, 2, [5], 0), none, some (.aload_n 2, 1, [2], 0), some (.aload_n 0, 1, [0], 0), some (.iload 4, 2, [4], 0), none, some (.iconst 1, 1, [], 1), some (.iadd, 1, [], 0), some (.iaload, 1, [], 0), some (.aload_n 0, 1, [0], 0), some (.iload 4, 2, [4], 0), none, some (.iconst 2, 1, [], 2), some (.iadd, 1, [], 0), some (.iaload, 1, [], 0), some (.invokevirtual 208, 3, [163, 3, 2, 0, 0, 601024, 7293034, 219, 5], 0), none, none, some (.istore 6, 2, [6], 0), none, some (.aload_n 2, 1, [2], 0)],
  [some (.invokevirtual 132, 3, [105, 1, 2, 0, 0, 601024, 7293034, 161, 5], 0), none, none, some (.iload 5, 2, [5], 0), none, some (.if_icmp .eq 5, 3, [1674], 0), none, none, some (.iconst 0, 1, [], 0), some (.ireturn, 1, [601024, 7293034, 2], 0), some (.iload 5, 2, [5], 0), none, some (.ifCond .ne 15, 3, [1691], 0), none, none, some (.aload_n 3, 1, [3], 0), some (.iconst 0, 1, [], 0), some (.laload, 1, [], 0), some (.iload 6, 2, [6], 0), none, some (.i2l, 1, [], 0), some (.lcmp, 1, [], 0), some (.ifCond .eq 5, 3, [1691], 0), none, none, some (.iconst 0, 1, [], 0), some (.ireturn, 1, [601024, 7293034, 2], 0), some (.goto 869, 3, [2560], 0), none, none, some (.aload_n 1, 1, [1], 0), some (.aload_n 0, 1, [0], 0), some (.iload 4, 2, [4], 0), none, some (.iconst 1, 1, [], 1), some (.iadd, 1, [], 0), some (.iaload, 1, [], 0), some (.aload_n 3, 1, [3], 0), some (.invokestatic 209, 3, [211, 3, 10, 1, 6, 601024, 7293034, 128, 6], 0), none, none, some (.istore 5, 2, [5], 0), none, some (.aload_n 2, 1, [2], 0), some (.aload_n 0, 1, [0], 0), some (.iload 4, 2, [4], 0), none, some (.iconst 1, 1, [], 1), some (.iadd, 1, [], 0), some (.iaload, 1, [], 0), some (.invokevirtual 211, 3, [164, 2, 2, 0, 0, 601024, 7293034, 220, 5], 0), none, none, some (.istore 6, 2, [6], 0), none, some (.aload_n 2, 1, [2], 0), some (.invokevirtual 132, 3, [105, 1, 2, 0, 0, 601024, 7293034, 161, 5], 0), none, none, some (.iload 5, 2, [5], 0), none, some (.if_icmp .eq 5, 3, [1730], 0), none, none],
  [some (.iconst 0, 1, [], 0), some (.ireturn, 1, [601024, 7293034, 2], 0), some (.iload 5, 2, [5], 0), none, some (.ifCond .ne 15, 3, [1747], 0), none, none, some (.aload_n 3, 1, [3], 0), some (.iconst 0, 1, [], 0), some (.laload, 1, [], 0), some (.iload 6, 2, [6], 0), none, some (.i2l, 1, [], 0), some (.lcmp, 1, [], 0), some (.ifCond .eq 5, 3, [1747], 0), none, none, some (.iconst 0, 1, [], 0), some (.ireturn, 1, [601024, 7293034, 2], 0), some (.goto 813, 3, [2560], 0), none, none, some (.aload_n 1, 1, [1], 0), some (.aload_n 0, 1, [0], 0), some (.iload 4, 2, [4], 0), none, some (.iconst 1, 1, [], 1), some (.iadd, 1, [], 0), some (.iaload, 1, [], 0), some (.aload_n 3, 1, [3], 0), some (.invokestatic 212, 3, [212, 3, 10, 1, 6, 601024, 7293034, 130, 6], 0), none, none, some (.istore 5, 2, [5], 0), none, some (.aload_n 2, 1, [2], 0), some (.aload_n 0, 1, [0], 0), some (.iload 4, 2, [4], 0), none, some (.iconst 1, 1, [], 1), some (.iadd, 1, [], 0), some (.iaload, 1, [], 0), some (.invokevirtual 214, 3, [168, 2, 2, 0, 0, 601024, 7293034, 221, 5], 0), none, none, some (.istore 6, 2, [6], 0), none, some (.aload_n 2, 1, [2], 0), some (.invokevirtual 132, 3, [105, 1, 2, 0, 0, 601024, 7293034, 161, 5], 0), none, none, some (.iload 5, 2, [5], 0), none, some (.if_icmp .eq 5, 3, [1786], 0), none, none, some (.iconst 0, 1, [], 0), some (.ireturn, 1, [601024, 7293034, 2], 0), some (.iload 5, 2, [5], 0), none, some (.ifCond .ne 15, 3, [1803], 0), none, none, some (.aload_n 3, 1, [3], 0)],
  [some (.iconst 0, 1, [], 0), some (.laload, 1, [], 0), some (.iload 6, 2, [6], 0), none, some (.i2l, 1, [], 0), some (.lcmp, 1, [], 0), some (.ifCond .eq 5, 3, [1803], 0), none, none, some (.iconst 0, 1, [], 0), some (.ireturn, 1, [601024, 7293034, 2], 0), some (.goto 757, 3, [2560], 0), none, none, some (.aload_n 1, 1, [1], 0), some (.aload_n 0, 1, [0], 0), some (.iload 4, 2, [4], 0), none, some (.iconst 1, 1, [], 1), some (.iadd, 1, [], 0), some (.iaload, 1, [], 0), some (.aload_n 0, 1, [0], 0), some (.iload 4, 2, [4], 0), none, some (.iconst 2, 1, [], 2), some (.iadd, 1, [], 0), some (.iaload, 1, [], 0), some (.aload_n 3, 1, [3], 0), some (.invokestatic 215, 3, [213, 4, 10, 2, 12, 601024, 7293034, 134, 6], 0), none, none, some (.istore 5, 2, [5], 0), none, some (.aload_n 2, 1, [2], 0), some (.aload_n 0, 1, [0], 0), some (.iload 4, 2, [4], 0), none, some (.iconst 1, 1, [], 1), some (.iadd, 1, [], 0), some (.iaload, 1, [], 0), some (.aload_n 0, 1, [0], 0), some (.iload 4, 2, [4], 0), none, some (.iconst 2, 1, [], 2), some (.iadd, 1, [], 0), some (.iaload, 1, [], 0), some (.invokevirtual 217, 3, [170, 3, 2, 0, 0, 601024, 7293034, 225, 5], 0), none, none, some (.istore 6, 2, [6], 0), none, some (.aload_n 2, 1, [2], 0), some (.invokevirtual 132, 3, [105, 1, 2, 0, 0, 601024, 7293034, 161, 5], 0), none, none, some (.iload 5, 2, [5], 0), none, some (.if_icmp .eq 5, 3, [1854], 0), none, none, some (.iconst 0, 1, [], 0), some (.ireturn, 1, [601024, 7293034, 2], 0), some (.iload 5, 2, [5], 0), none],
  [some (.ifCond .ne 15, 3, [1871], 0), none, none, some (.aload_n 3, 1, [3], 0), some (.iconst 0, 1, [], 0), some (.laload, 1, [], 0), some (.iload 6, 2, [6], 0), none, some (.i2l, 1, [], 0), some (.lcmp, 1, [], 0), some (.ifCond .eq 5, 3, [1871], 0), none, none, some (.iconst 0, 1, [], 0), some (.ireturn, 1, [601024, 7293034, 2], 0), some (.goto 689, 3, [2560], 0), none, none, some (.aload_n 1, 1, [1], 0), some (.aload_n 0, 1, [0], 0), some (.iload 4, 2, [4], 0), none, some (.iconst 1, 1, [], 1), some (.iadd, 1, [], 0), some (.iaload, 1, [], 0), some (.aload_n 0, 1, [0], 0), some (.iload 4, 2, [4], 0), none, some (.iconst 2, 1, [], 2), some (.iadd, 1, [], 0), some (.iaload, 1, [], 0), some (.aload_n 3, 1, [3], 0), some (.invokestatic 218, 3, [214, 4, 10, 2, 12, 601024, 7293034, 136, 6], 0), none, none, some (.istore 5, 2, [5], 0), none, some (.aload_n 2, 1, [2], 0), some (.aload_n 0, 1, [0], 0), some (.iload 4, 2, [4], 0), none, some (.iconst 1, 1, [], 1), some (.iadd, 1, [], 0), some (.iaload, 1, [], 0), some (.aload_n 0, 1, [0], 0), some (.iload 4, 2, [4], 0), none, some (.iconst 2, 1, [], 2), some (.iadd, 1, [], 0), some (.iaload, 1, [], 0), some (.invokevirtual 220, 3, [171, 3, 2, 0, 0, 601024, 7293034, 227, 5], 0), none, none, some (.istore 6, 2, [6], 0), none, some (.aload_n 2, 1, [2], 0), some (.invokevirtual 132, 3, [105, 1, 2, 0, 0, 601024, 7293034, 161, 5], 0), none, none, some (.iload 5, 2, [5], 0), none, some (.if_icmp .eq 5, 3, [1922], 0), none, none],
  [some (.iconst 0, 1, [], 0), some (.ireturn, 1, [601024, 7293034, 2], 0), some (.iload 5, 2, [5], 0), none, some (.ifCond .ne 15, 3, [1939], 0), none, none, some (.aload_n 3, 1, [3], 0), some (.iconst 0, 1, [], 0), some (.laload, 1, [], 0), some (.iload 6, 2, [6], 0), none, some (.i2l, 1, [], 0), some (.lcmp, 1, [], 0), some (.ifCond .eq 5, 3, [1939], 0), none, none, some (.iconst 0, 1, [], 0), some (.ireturn, 1, [601024, 7293034, 2], 0), some (.goto 621, 3, [2560], 0), none, none, some (.aload_n 1, 1, [1], 0), some (.aload_n 0, 1, [0], 0), some (.iload 4, 2, [4], 0), none, some (.iconst 1, 1, [], 1), some (.iadd, 1, [], 0), some (.iaload, 1, [], 0), some (.aload_n 0, 1, [0], 0), some (.iload 4, 2, [4], 0), none, some (.iconst 2, 1, [], 2), some (.iadd, 1, [], 0), some (.iaload, 1, [], 0), some (.aload_n 3, 1, [3], 0), some (.invokestatic 221, 3, [215, 4, 10, 2, 12, 601024, 7293034, 138, 6], 0), none, none, some (.istore 5, 2, [5], 0), none, some (.aload_n 2, 1, [2], 0), some (.aload_n 0, 1, [0], 0), some (.iload 4, 2, [4], 0), none, some (.iconst 1, 1, [], 1), some (.iadd, 1, [], 0), some (.iaload, 1, [], 0), some (.aload_n 0, 1, [0], 0), some (.iload 4, 2, [4], 0), none, some (.iconst 2, 1, [], 2), some (.iadd, 1, [], 0), some (.iaload, 1, [], 0), some (.invokevirtual 223, 3, [172, 3, 2, 0, 0, 601024, 7293034, 228, 5], 0), none, none, some (.istore 6, 2, [6], 0), none, some (.aload_n 2, 1, [2], 0), some (.invokevirtual 132, 3, [105, 1, 2, 0, 0, 601024, 7293034, 161, 5], 0), none, none, some (.iload 5, 2, [5], 0)],
  [none, some (.if_icmp .eq 5, 3, [1990], 0), none, none, some (.iconst 0, 1, [], 0), some (.ireturn, 1, [601024, 7293034, 2], 0), some (.iload 5, 2, [5], 0), none, some (.ifCond .ne 15, 3, [2007], 0), none, none, some (.aload_n 3, 1, [3], 0), some (.iconst 0, 1, [], 0), some (.laload, 1, [], 0), some (.iload 6, 2, [6], 0), none, some (.i2l, 1, [], 0), some (.lcmp, 1, [], 0), some (.ifCond .eq 5, 3, [2007], 0), none, none, some (.iconst 0, 1, [], 0), some (.ireturn, 1, [601024, 7293034, 2], 0), some (.goto 553, 3, [2560], 0), none, none, some (.aload_n 1, 1, [1], 0), some (.invokevirtual 224, 3, [73, 1, 2, 0, 0, 601024, 7293034, 19, 4], 0), none, none, some (.aload_n 2, 1, [2], 0), some (.invokevirtual 227, 3, [173, 1, 2, 0, 0, 601024, 7293034, 229, 5], 0), none, none, some (.if_icmp .eq 542, 3, [2560], 0), none, none, some (.iconst 0, 1, [], 0), some (.ireturn, 1, [601024, 7293034, 2], 0), some (.aload_n 1, 1, [1], 0), some (.aload_n 0, 1, [0], 0), some (.iload 4, 2, [4], 0), none, some (.iconst 1, 1, [], 1), some (.iadd, 1, [], 0), some (.iaload, 1, [], 0), some (.aload_n 3, 1, [3], 0), some (.invokestatic 228, 3, [216, 3, 10, 1, 6, 601024, 7293034, 140, 6], 0), none, none, some (.istore 5, 2, [5], 0), none, some (.aload_n 2, 1, [2], 0), some (.aload_n 0, 1, [0], 0), some (.iload 4, 2, [4], 0), none, some (.iconst 1, 1, [], 1), some (.iadd, 1, [], 0), some (.iaload, 1, [], 0), some (.invokevirtual 230, 3, [174, 2, 2, 0, 0, 601024, 7293034, 230, 5], 0), none, none, some (.istore 6, 2, [6], 0), none],
  [some (.aload_n 2, 1, [2], 0), some (.invokevirtual 132, 3, [105, 1, 2, 0, 0, 601024, 7293034, 161, 5], 0), none, none, some (.iload 5, 2, [5], 0), none, some (.if_icmp .eq 5, 3, [2059], 0), none, none, some (.iconst 0, 1, [], 0), some (.ireturn, 1, [601024, 7293034, 2], 0), some (.iload 5, 2, [5], 0), none, some (.ifCond .ne 15, 3, [2076], 0), none, none, some (.aload_n 3, 1, [3], 0), some (.iconst 0, 1, [], 0), some (.laload, 1, [], 0), some (.iload 6, 2, [6], 0), none, some (.i2l, 1, [], 0), some (.lcmp, 1, [], 0), some (.ifCond .eq 5, 3, [2076], 0), none, none, some (.iconst 0, 1, [], 0), some (.ireturn, 1, [601024, 7293034, 2], 0), some (.goto 484, 3, [2560], 0), none, none, some (.aload_n 1, 1, [1], 0), some (.aload_n 0, 1, [0], 0), some (.iload 4, 2, [4], 0), none, some (.iconst 1, 1, [], 1), some (.iadd, 1, [], 0), some (.iaload, 1, [], 0), some (.aload_n 3, 1, [3], 0), some (.invokestatic 231, 3, [217, 3, 10, 1, 6, 601024, 7293034, 143, 6], 0), none, none, some (.istore 5, 2, [5], 0), none, some (.aload_n 2, 1, [2], 0), some (.aload_n 0, 1, [0], 0), some (.iload 4, 2, [4], 0), none, some (.iconst 1, 1, [], 1), some (.iadd, 1, [], 0), some (.iaload, 1, [], 0), some (.invokevirtual 233, 3, [175, 2, 2, 0, 0, 601024, 7293034, 231, 5], 0), none, none, some (.istore 6, 2, [6], 0), none, some (.aload_n 2, 1, [2], 0), some (.invokevirtual 132, 3, [105, 1, 2, 0, 0, 601024, 7293034, 161, 5], 0), none, none, some (.iload 5, 2, [5], 0), none, some (.if_icmp .eq 5, 3, [2115], 0), none],
  [none, some (.iconst 0, 1, [], 0), some (.ireturn, 1, [601024, 7293034, 2], 0), some (.iload 5, 2, [5], 0), none, some (.ifCond .ne 15, 3, [2132], 0), none, none, some (.aload_n 3, 1, [3], 0), some (.iconst 0, 1, [], 0), some (.laload, 1, [], 0), some (.iload 6, 2, [6], 0), none, some (.i2l, 1, [], 0), some (.lcmp, 1, [], 0), some (.ifCond .eq 5, 3, [2132], 0), none, none, some (.iconst 0, 1, [], 0), some (.ireturn, 1, [601024, 7293034, 2], 0), some (.goto 428, 3, [2560], 0), none, none, some (.aload_n 1, 1, [1], 0), some (.aload_n 0, 1, [0], 0), some (.iload 4, 2, [4], 0), none, some (.iconst 1, 1, [], 1), some (.iadd, 1, [], 0), some (.iaload, 1, [], 0), some (.aload_n 0, 1, [0], 0), some (.iload 4, 2, [4], 0), none, some (.iconst 2, 1, [], 2), some (.iadd, 1, [], 0), some (.iaload, 1, [], 0), some (.aload_n 0, 1, [0], 0), some (.iload 4, 2, [4], 0), none, some (.iconst 3, 1, [], 3), some (.iadd, 1, [], 0), some (.iaload, 1, [], 0), some (.aload_n 3, 1, [3], 0), some (.invokestatic 234, 3, [218, 5, 10, 3, 18, 601024, 7293034, 146, 6], 0), none, none, some (.istore 5, 2, [5], 0), none, some (.aload_n 2, 1, [2], 0), some (.aload_n 0, 1, [0], 0), some (.iload 4, 2, [4], 0), none, some (.iconst 1, 1, [], 1), some (.iadd, 1, [], 0), some (.iaload, 1, [], 0), some (.aload_n 0, 1, [0], 0), some (.iload 4, 2, [4], 0), none, some (.iconst 2, 1, [], 2), some (.iadd, 1, [], 0), some (.iaload, 1, [], 0), some (.aload_n 0, 1, [0], 0), some (.iload 4, 2, [4], 0), none],
  [some (.iconst 3, 1, [], 3), some (.iadd, 1, [], 0), some (.iaload, 1, [], 0), some (.invokevirtual 236, 3, [176, 4, 2, 0, 0, 601024, 7293034, 232, 5], 0), none, none, some (.istore 6, 2, [6], 0), none, some (.aload_n 2, 1, [2], 0), some (.invokevirtual 132, 3, [105, 1, 2, 0, 0, 601024, 7293034, 161, 5], 0), none, none, some (.iload 5, 2, [5], 0), none, some (.if_icmp .eq 5, 3, [2195], 0), none, none, some (.iconst 0, 1, [], 0), some (.ireturn, 1, [601024, 7293034, 2], 0), some (.iload 5, 2, [5], 0), none, some (.ifCond .ne 15, 3, [2212], 0), none, none, some (.aload_n 3, 1, [3], 0), some (.iconst 0, 1, [], 0), some (.laload, 1, [], 0), some (.iload 6, 2, [6], 0), none, some (.i2l, 1, [], 0), some (.lcmp, 1, [], 0), some (.ifCond .eq 5, 3, [2212], 0), none, none, some (.iconst 0, 1, [], 0), some (.ireturn, 1, [601024, 7293034, 2], 0), some (.goto 348, 3, [2560], 0), none, none, some (.aload_n 1, 1, [1], 0), some (.aload_n 0, 1, [0], 0), some (.iload 4, 2, [4], 0), none, some (.iconst 1, 1, [], 1), some (.iadd, 1, [], 0), some (.iaload, 1, [], 0), some (.aload_n 0, 1, [0], 0), some (.iload 4, 2, [4], 0), none, some (.iconst 2, 1, [], 2), some (.iadd, 1, [], 0), some (.iaload, 1, [], 0), some (.aload_n 0, 1, [0], 0), some (.iload 4, 2, [4], 0), none, some (.iconst 3, 1, [], 3), some (.iadd, 1, [], 0), some (.iaload, 1, [], 0), some (.aload_n 3, 1, [3], 0), some (.invokestatic 237, 3, [219, 5, 10, 3, 18, 601024, 7293034, 149, 6], 0), none, none, some (.istore 5, 2, [5], 0), none],
  [some (.aload_n 2, 1, [2], 0), some (.aload_n 0, 1, [0], 0), some (.iload 4, 2, [4], 0), none, some (.iconst 1, 1, [], 1), some (.iadd, 1, [], 0), some (.iaload, 1, [], 0), some (.aload_n 0, 1, [0], 0), some (.iload 4, 2, [4], 0), none, some (.iconst 2, 1, [], 2), some (.iadd, 1, [], 0), some (.iaload, 1, [], 0), some (.aload_n 0, 1, [0], 0), some (.iload 4, 2, [4], 0), none, some (.iconst 3, 1, [], 3), some (.iadd, 1, [], 0), some (.iaload, 1, [], 0), some (.invokevirtual 239, 3, [179, 4, 2, 0, 0, 601024, 7293034, 233, 5], 0), none, none, some (.istore 6, 2, [6], 0), none, some (.aload_n 2, 1, [2], 0), some (.invokevirtual 132, 3, [105, 1, 2, 0, 0, 601024, 7293034, 161, 5], 0), none, none, some (.iload 5, 2, [5], 0), none, some (.if_icmp .eq 5, 3, [2275], 0), none, none, some (.iconst 0, 1, [], 0), some (.ireturn, 1, [601024, 7293034, 2], 0), some (.iload 5, 2, [5], 0), none, some (.ifCond .ne 15, 3, [2292], 0), none, none, some (.aload_n 3, 1, [3], 0), some (.iconst 0, 1, [], 0), some (.laload, 1, [], 0), some (.iload 6, 2, [6], 0), none, some (.i2l, 1, [], 0), some (.lcmp, 1, [], 0), some (.ifCond .eq 5, 3, [2292], 0), none, none, some (.iconst 0, 1, [], 0), some (.ireturn, 1, [601024, 7293034, 2], 0), some (.goto 268, 3, [2560], 0), none, none, some (.aload_n 1, 1, [1], 0), some (.invokevirtual 240, 3, [78, 1, 2, 0, 0, 601024, 7293034, 20, 4], 0), none, none, some (.aload_n 2, 1, [2], 0), some (.invokevirtual 243, 3, [180, 1, 2, 0, 0, 601024, 7293034, 236, 5], 0), none, none, some (.if_icmp .eq 257, 3, [2560], 0)],
  [none, none, some (.iconst 0, 1, [], 0), some (.ireturn, 1, [601024, 7293034, 2], 0), some (.aload_n 1, 1, [1], 0), some (.aload_n 0, 1, [0], 0), some (.iload 4, 2, [4], 0), none, some (.iconst 1, 1, [], 1), some (.iadd, 1, [], 0), some (.iaload, 1, [], 0), some (.aload_n 3, 1, [3], 0), some (.invokestatic 244, 3, [220, 3, 10, 1, 6, 601024, 7293034, 152, 6], 0), none, none, some (.istore 5, 2, [5], 0), none, some (.aload_n 2, 1, [2], 0), some (.aload_n 0, 1, [0], 0), some (.iload 4, 2, [4], 0), none, some (.iconst 1, 1, [], 1), some (.iadd, 1, [], 0), some (.iaload, 1, [], 0), some (.invokevirtual 246, 3, [181, 2, 2, 0, 0, 601024, 7293034, 237, 5], 0), none, none, some (.istore 6, 2, [6], 0), none, some (.aload_n 2, 1, [2], 0), some (.invokevirtual 132, 3, [105, 1, 2, 0, 0, 601024, 7293034, 161, 5], 0), none, none, some (.iload 5, 2, [5], 0), none, some (.if_icmp .eq 5, 3, [2344], 0), none, none, some (.iconst 0, 1, [], 0), some (.ireturn, 1, [601024, 7293034, 2], 0), some (.iload 5, 2, [5], 0), none, some (.ifCond .ne 15, 3, [2361], 0), none, none, some (.aload_n 3, 1, [3], 0), some (.iconst 0, 1, [], 0), some (.laload, 1, [], 0), some (.iload 6, 2, [6], 0), none, some (.i2l, 1, [], 0), some (.lcmp, 1, [], 0), some (.ifCond .eq 5, 3, [2361], 0), none, none, some (.iconst 0, 1, [], 0), some (.ireturn, 1, [601024, 7293034, 2], 0), some (.goto 199, 3, [2560], 0), none, none, some (.aload_n 1, 1, [1], 0), some (.aload_n 0, 1, [0], 0), some (.iload 4, 2, [4], 0), none],
  [some (.iconst 1, 1, [], 1), some (.iadd, 1, [], 0), some (.iaload, 1, [], 0), some (.aload_n 3, 1, [3], 0), some (.invokestatic 247, 3, [221, 3, 10, 1, 6, 601024, 7293034, 154, 6], 0), none, none, some (.istore 5, 2, [5], 0), none, some (.aload_n 2, 1, [2], 0), some (.aload_n 0, 1, [0], 0), some (.iload 4, 2, [4], 0), none, some (.iconst 1, 1, [], 1), some (.iadd, 1, [], 0), some (.iaload, 1, [], 0), some (.invokevirtual 249, 3, [182, 2, 2, 0, 0, 601024, 7293034, 238, 5], 0), none, none, some (.istore 6, 2, [6], 0), none, some (.aload_n 2, 1, [2], 0), some (.invokevirtual 132, 3, [105, 1, 2, 0, 0, 601024, 7293034, 161, 5], 0), none, none, some (.iload 5, 2, [5], 0), none, some (.if_icmp .eq 5, 3, [2400], 0), none, none, some (.iconst 0, 1, [], 0), some (.ireturn, 1, [601024, 7293034, 2], 0), some (.iload 5, 2, [5], 0), none, some (.ifCond .ne 22, 3, [2424], 0), none, none, some (.aload_n 3, 1, [3], 0), some (.iconst 0, 1, [], 0), some (.laload, 1, [], 0), some (.iload 6, 2, [6], 0), none, some (.ifCond .eq 7, 3, [2417], 0), none, none, some (.lconst 1, 1, [], 1), some (.goto 4, 3, [2418], 0), none, none, some (.lconst 0, 1, [], 0), some (.lcmp, 1, [], 0), some (.ifCond .eq 5, 3, [2424], 0), none, none, some (.iconst 0, 1, [], 0), some (.ireturn, 1, [601024, 7293034, 2], 0), some (.goto 136, 3, [2560], 0), none, none, some (.aload_n 1, 1, [1], 0), some (.invokevirtual 250, 3, [81, 1, 2, 0, 0, 601024, 7293034, 21, 4], 0), none, none, some (.aload_n 2, 1, [2], 0)],
  [some (.invokevirtual 253, 3, [184, 1, 2, 0, 0, 601024, 7293034, 239, 5], 0), none, none, some (.if_icmp .eq 125, 3, [2560], 0), none, none, some (.iconst 0, 1, [], 0), some (.ireturn, 1, [601024, 7293034, 2], 0), some (.aload_n 1, 1, [1], 0), some (.invokevirtual 254, 3, [82, 1, 2, 0, 0, 601024, 7293034, 23, 4], 0), none, none, some (.aload_n 2, 1, [2], 0), some (.invokevirtual 257, 3, [185, 1, 2, 0, 0, 601024, 7293034, 241, 5], 0), none, none, some (.if_icmp .eq 112, 3, [2560], 0), none, none, some (.iconst 0, 1, [], 0), some (.ireturn, 1, [601024, 7293034, 2], 0), some (.aload_n 1, 1, [1], 0), some (.aload_n 0, 1, [0], 0), some (.iload 4, 2, [4], 0), none, some (.iconst 1, 1, [], 1), some (.iadd, 1, [], 0), some (.iaload, 1, [], 0), some (.aload_n 0, 1, [0], 0), some (.iload 4, 2, [4], 0), none, some (.iconst 2, 1, [], 2), some (.iadd, 1, [], 0), some (.iaload, 1, [], 0), some (.aload_n 3, 1, [3], 0), some (.invokestatic 258, 3, [222, 4, 10, 2, 12, 601024, 7293034, 156, 6], 0), none, none, some (.istore 5, 2, [5], 0), none, some (.aload_n 2, 1, [2], 0), some (.aload_n 0, 1, [0], 0), some (.iload 4, 2, [4], 0), none, some (.iconst 1, 1, [], 1), some (.iadd, 1, [], 0), some (.iaload, 1, [], 0), some (.aload_n 0, 1, [0], 0), some (.iload 4, 2, [4], 0), none, some (.iconst 2, 1, [], 2), some (.iadd, 1, [], 0), some (.iaload, 1, [], 0), some (.invokevirtual 260, 3, [186, 3, 2, 0, 0, 601024, 7293034, 242, 5], 0), none, none, some (.istore 6, 2, [6], 0), none, some (.aload_n 2, 1, [2], 0), some (.invokevirtual 132, 3, [105, 1, 2, 0, 0, 601024, 7293034, 161, 5], 0), none, none, some (.iload 5, 2, [5], 0), none],
  [some (.if_icmp .eq 5, 3, [2501], 0), none, none, some (.iconst 0, 1, [], 0), some (.ireturn, 1, [601024, 7293034, 2], 0), some (.iload 5, 2, [5], 0), none, some (.ifCond .ne 15, 3, [2518], 0), none, none, some (.aload_n 3, 1, [3], 0), some (.iconst 0, 1, [], 0), some (.laload, 1, [], 0), some (.iload 6, 2, [6], 0), none, some (.i2l, 1, [], 0), some (.lcmp, 1, [], 0), some (.ifCond .eq 5, 3, [2518], 0), none, none, some (.iconst 0, 1, [], 0), some (.ireturn, 1, [601024, 7293034, 2], 0), some (.goto 42, 3, [2560], 0), none, none, some (.aload_n 1, 1, [1], 0), some (.invokevirtual 261, 3, [84, 1, 2, 0, 0, 601024, 7293034, 25, 4], 0), none, none, some (.aload_n 2, 1, [2], 0), some (.invokevirtual 264, 3, [187, 1, 2, 0, 0, 601024, 7293034, 243, 5], 0), none, none, some (.if_icmp .eq 31, 3, [2560], 0), none, none, some (.iconst 0, 1, [], 0), some (.ireturn, 1, [601024, 7293034, 2], 0), some (.aload_n 1, 1, [1], 0), some (.invokevirtual 265, 3, [85, 1, 2, 0, 0, 601024, 7293034, 26, 4], 0), none, none, some (.aload_n 2, 1, [2], 0), some (.invokevirtual 268, 3, [188, 1, 2, 0, 0, 601024, 7293034, 244, 5], 0), none, none, some (.if_icmp .eq 18, 3, [2560], 0), none, none, some (.iconst 0, 1, [], 0), some (.ireturn, 1, [601024, 7293034, 2], 0), some (.aload_n 1, 1, [1], 0), some (.invokevirtual 269, 3, [86, 1, 2, 0, 0, 601024, 7293034, 27, 4], 0), none, none, some (.aload_n 2, 1, [2], 0), some (.invokevirtual 272, 3, [189, 1, 2, 0, 0, 601024, 7293034, 245, 5], 0), none, none, some (.if_icmp .eq 5, 3, [2560], 0), none, none, some (.iconst 0, 1, [], 0), some (.ireturn, 1, [601024, 7293034, 2], 0)],
  [some (.iinc 4 6, 3, [4], 6), none, none, some (.goto (-2540), 3, [23], 0), none, none, some (.iconst 1, 1, [], 1), some (.ireturn, 1, [601024, 7293034, 2], 0)]]
def cdT (k : Nat) : List (List (Option IcM)) := (bif Nat.ble k 111 then (bif Nat.ble k 55 then (bif Nat.ble k 27 then (bif Nat.ble k 13 then (bif Nat.ble k 6 then (bif Nat.ble k 3 then (bif Nat.ble k 1 then (bif Nat.ble k 0 then cd_0 else cd_1) else (bif Nat.ble k 2 then cd_2 else cd_3)) else (bif Nat.ble k 5 then (bif Nat.ble k 4 then cd_4 else cd_5) else cd_6)) else (bif Nat.ble k 10 then (bif Nat.ble k 8 then (bif Nat.ble k 7 then cd_7 else cd_8) else (bif Nat.ble k 9 then cd_9 else cd_10)) else (bif Nat.ble k 12 then (bif Nat.ble k 11 then cd_11 else cd_12) else cd_13))) else (bif Nat.ble k 20 then (bif Nat.ble k 17 then (bif Nat.ble k 15 then (bif Nat.ble k 14 then cd_14 else cd_15) else (bif Nat.ble k 16 then cd_16 else cd_17)) else (bif Nat.ble k 19 then (bif Nat.ble k 18 then cd_18 else cd_19) else cd_20)) else (bif Nat.ble k 24 then (bif Nat.ble k 22 then (bif Nat.ble k 21 then cd_21 else cd_22) else (bif Nat.ble k 23 then cd_23 else cd_24)) else (bif Nat.ble k 26 then (bif Nat.ble k 25 then cd_25 else cd_26) else cd_27)))) else (bif Nat.ble k 41 then (bif Nat.ble k 34 then (bif Nat.ble k 31 then (bif Nat.ble k 29 then (bif Nat.ble k 28 then cd_28 else cd_29) else (bif Nat.ble k 30 then cd_30 else cd_31)) else (bif Nat.ble k 33 then (bif Nat.ble k 32 then cd_32 else cd_33) else cd_34)) else (bif Nat.ble k 38 then (bif Nat.ble k 36 then (bif Nat.ble k 35 then cd_35 else cd_36) else (bif Nat.ble k 37 then cd_37 else cd_38)) else (bif Nat.ble k 40 then (bif Nat.ble k 39 then cd_39 else cd_40) else cd_41))) else (bif Nat.ble k 48 then (bif Nat.ble k 45 then (bif Nat.ble k 43 then (bif Nat.ble k 42 then cd_42 else cd_43) else (bif Nat.ble k 44 then cd_44 else cd_45)) else (bif Nat.ble k 47 then (bif Nat.ble k 46 then cd_46 else cd_47) else cd_48)) else (bif Nat.ble k 52 then (bif Nat.ble k 50 then (bif Nat.ble k 49 then cd_49 else cd_50) else (bif Nat.ble k 51 then cd_51 else cd_52)) else (bif Nat.ble k 54 then (bif Nat.ble k 53 then cd_53 else cd_54) else cd_55))))) else (bif Nat.ble k 83 then (bif Nat.ble k 69 then (bif Nat.ble k 62 then (bif Nat.ble k 59 then (bif Nat.ble k 57 then (bif Nat.ble k 56 then cd_56 else cd_57) else (bif Nat.ble k 58 then cd_58 else cd_59)) else (bif Nat.ble k 61 then (bif Nat.ble k 60 then cd_60 else cd_61) else cd_62)) else (bif Nat.ble k 66 then (bif Nat.ble k 64 then (bif Nat.ble k 63 then cd_63 else cd_64) else (bif Nat.ble k 65 then cd_65 else cd_66)) else (bif Nat.ble k 68 then (bif Nat.ble k 67 then cd_67 else cd_68) else cd_69))) else (bif Nat.ble k 76 then (bif Nat.ble k 73 then (bif Nat.ble k 71 then (bif Nat.ble k 70 then cd_70 else cd_71) else (bif Nat.ble k 72 then cd_72 else cd_73)) else (bif Nat.ble k 75 then (bif Nat.ble k 74 then cd_74 else cd_75) else cd_76)) else (bif Nat.ble k 80 then (bif Nat.ble k 78 then (bif Nat.ble k 77 then cd_77 else cd_78) else (bif Nat.ble k 79 then cd_79 else cd_80)) else (bif Nat.ble k 82 then (bif Nat.ble k 81 then cd_81 else cd_82) else cd_83)))) else (bif Nat.ble k 97 then (bif Nat.ble k 90 then (bif Nat.ble k 87 then (bif Nat.ble k 85 then (bif Nat.ble k 84 then cd_84 else cd_85) else (bif Nat.ble k 86 then cd_86 else cd_87)) else (bif Nat.ble k 89 then (bif Nat.ble k 88 then cd_88 else cd_89) else cd_90)) else (bif Nat.ble k 94 then (bif Nat.ble k 92 then (bif Nat.ble k 91 then cd_91 else cd_92) else (bif Nat.ble k 93 then cd_93 else cd_94)) else (bif Nat.ble k 96 then (bif Nat.ble k 95 then cd_95 else cd_96) else cd_97))) else (bif Nat.ble k 104 then (bif Nat.ble k 101 then (bif Nat.ble k 99 then (bif Nat.ble k 98 then cd_98 else cd_99) else (bif Nat.ble k 100 then cd_100 else cd_101)) else (bif Nat.ble k 103 then (bif Nat.ble k 102 then cd_102 else cd_103) else cd_104)) else (bif Nat.ble k 108 then (bif Nat.ble k 106 then (bif Nat.ble k 105 then cd_105 else cd_106) else (bif Nat.ble k 107 then cd_107 else cd_108)) else (bif Nat.ble k 110 then (bif Nat.ble k 109 then cd_109 else cd_110) else cd_111)))))) else (bif Nat.ble k 167 then (bif Nat.ble k 139 then (bif Nat.ble k 125 then (bif Nat.ble k 118 then (bif Nat.ble k 115 then (bif Nat.ble k 113 then (bif Nat.ble k 112 then cd_112 else cd_113) else (bif Nat.ble k 114 then cd_114 else cd_115)) else (bif Nat.ble k 117 then (bif Nat.ble k 116 then cd_116 else cd_117) else cd_118)) else (bif Nat.ble k 122 then (bif Nat.ble k 120 then (bif Nat.ble k 119 then cd_119 else cd_120) else (bif Nat.ble k 121 then cd_121 else cd_122)) else (bif Nat.ble k 124 then (bif Nat.ble k 123 then cd_123 else cd_124) else cd_125))) else (bif Nat.ble k 132 then (bif Nat.ble k 129 then (bif Nat.ble k 127 then (bif Nat.ble k 126 then cd_126 else cd_127) else (bif Nat.ble k 128 then cd_128 else cd_129)) else (bif Nat.ble k 131 then (bif Nat.ble k 130 then cd_130 else cd_131) else cd_132)) else (bif Nat.ble k 136 then (bif Nat.ble k 134 then (bif Nat.ble k 133 then cd_133 else cd_134) else (bif Nat.ble k 135 then cd_135 else cd_136)) else (bif Nat.ble k 138 then (bif Nat.ble k 137 then cd_137 else cd_138) else cd_139)))) else (bif Nat.ble k 153 then (bif Nat.ble k 146 then (bif Nat.ble k 143 then (bif Nat.ble k 141 then (bif Nat.ble k 140 then cd_140 else cd_141) else (bif Nat.ble k 142 then cd_142 else cd_143)) else (bif Nat.ble k 145 then (bif Nat.ble k 144 then cd_144 else cd_145) else cd_146)) else (bif Nat.ble k 150 then (bif Nat.ble k 148 then (bif Nat.ble k 147 then cd_147 else cd_148) else (bif Nat.ble k 149 then cd_149 else cd_150)) else (bif Nat.ble k 152 then (bif Nat.ble k 151 then cd_151 else cd_152) else cd_153))) else (bif Nat.ble k 160 then (bif Nat.ble k 157 then (bif Nat.ble k 155 then (bif Nat.ble k 154 then cd_154 else cd_155) else (bif Nat.ble k 156 then cd_156 else cd_157)) else (bif Nat.ble k 159 then (bif Nat.ble k 158 then cd_158 else cd_159) else cd_160)) else (bif Nat.ble k 164 then (bif Nat.ble k 162 then (bif Nat.ble k 161 then cd_161 else cd_162) else (bif Nat.ble k 163 then cd_163 else cd_164)) else (bif Nat.ble k 166 then (bif Nat.ble k 165 then cd_165 else cd_166) else cd_167))))) else (bif Nat.ble k 195 then (bif Nat.ble k 181 then (bif Nat.ble k 174 then (bif Nat.ble k 171 then (bif Nat.ble k 169 then (bif Nat.ble k 168 then cd_168 else cd_169) else (bif Nat.ble k 170 then cd_170 else cd_171)) else (bif Nat.ble k 173 then (bif Nat.ble k 172 then cd_172 else cd_173) else cd_174)) else (bif Nat.ble k 178 then (bif Nat.ble k 176 then (bif Nat.ble k 175 then cd_175 else cd_176) else (bif Nat.ble k 177 then cd_177 else cd_178)) else (bif Nat.ble k 180 then (bif Nat.ble k 179 then cd_179 else cd_180) else cd_181))) else (bif Nat.ble k 188 then (bif Nat.ble k 185 then (bif Nat.ble k 183 then (bif Nat.ble k 182 then cd_182 else cd_183) else (bif Nat.ble k 184 then cd_184 else cd_185)) else (bif Nat.ble k 187 then (bif Nat.ble k 186 then cd_186 else cd_187) else cd_188)) else (bif Nat.ble k 192 then (bif Nat.ble k 190 then (bif Nat.ble k 189 then cd_189 else cd_190) else (bif Nat.ble k 191 then cd_191 else cd_192)) else (bif Nat.ble k 194 then (bif Nat.ble k 193 then cd_193 else cd_194) else cd_195)))) else (bif Nat.ble k 209 then (bif Nat.ble k 202 then (bif Nat.ble k 199 then (bif Nat.ble k 197 then (bif Nat.ble k 196 then cd_196 else cd_197) else (bif Nat.ble k 198 then cd_198 else cd_199)) else (bif Nat.ble k 201 then (bif Nat.ble k 200 then cd_200 else cd_201) else cd_202)) else (bif Nat.ble k 206 then (bif Nat.ble k 204 then (bif Nat.ble k 203 then cd_203 else cd_204) else (bif Nat.ble k 205 then cd_205 else cd_206)) else (bif Nat.ble k 208 then (bif Nat.ble k 207 then cd_207 else cd_208) else cd_209))) else (bif Nat.ble k 216 then (bif Nat.ble k 213 then (bif Nat.ble k 211 then (bif Nat.ble k 210 then cd_210 else cd_211) else (bif Nat.ble k 212 then cd_212 else cd_213)) else (bif Nat.ble k 215 then (bif Nat.ble k 214 then cd_214 else cd_215) else cd_216)) else (bif Nat.ble k 220 then (bif Nat.ble k 218 then (bif Nat.ble k 217 then cd_217 else cd_218) else (bif Nat.ble k 219 then cd_219 else cd_220)) else (bif Nat.ble k 222 then (bif Nat.ble k 221 then cd_221 else cd_222) else cd_223)))))))
def in_0 : MethodName × ByteArray × Nat × Option FieldType × List (Nat × Nat × Nat × Nat) × List Nat := (yX0_init, cX0_init, 1, none, [], [1, 40, 3, 36, 143, 82, 142, 0, 2, 0, 0])
def in_1 : MethodName × ByteArray × Nat × Option FieldType × List (Nat × Nat × Nat × Nat) × List Nat := (yX0_copyEvents, cX0_copyEvents, 2, none, [], [1, 40, 0, 0, 498, 82, 497, 14, 1, 0, 1])
def in_2 : MethodName × ByteArray × Nat × Option FieldType × List (Nat × Nat × Nat × Nat) × List Nat := (yX0_add, cX0_add, 4, none, [], [0, 0, 0, 0, 526, 82, 525, 19, 1, 0, 3])
def in_3 : MethodName × ByteArray × Nat × Option FieldType × List (Nat × Nat × Nat × Nat) × List Nat := (yX0_partOf, cX0_partOf, 4, (some .int), [], [0, 0, 0, 0, 896, 82, 895, 42, 1, 0, 2])
def in_4 : MethodName × ByteArray × Nat × Option FieldType × List (Nat × Nat × Nat × Nat) × List Nat := (yX1_init, cX1_init, 1, none, [], [1, 40, 4, 240, 111, 81, 110, 0, 2, 1, 0])
def in_5 : MethodName × ByteArray × Nat × Option FieldType × List (Nat × Nat × Nat × Nat) × List Nat := (yX1_copyRows, cX1_copyRows, 2, none, [], [1, 40, 0, 0, 493, 81, 492, 13, 1, 1, 1])
def in_6 : MethodName × ByteArray × Nat × Option FieldType × List (Nat × Nat × Nat × Nat) × List Nat := (yX1_find, cX1_find, 3, (some .int), [], [0, 0, 0, 0, 462, 81, 461, 10, 1, 1, 1])
def in_7 : MethodName × ByteArray × Nat × Option FieldType × List (Nat × Nat × Nat × Nat) × List Nat := (yX1_add, cX1_add, 5, none, [], [0, 0, 0, 0, 530, 81, 529, 20, 1, 1, 4])
def in_8 : MethodName × ByteArray × Nat × Option FieldType × List (Nat × Nat × Nat × Nat) × List Nat := (yX1_remove, cX1_remove, 3, none, [], [0, 0, 0, 0, 579, 81, 578, 28, 1, 1, 1])
def in_9 : MethodName × ByteArray × Nat × Option FieldType × List (Nat × Nat × Nat × Nat) × List Nat := (yX1_isCharged, cX1_isCharged, 3, (some .boolean), [], [1, 20, 0, 0, 739, 81, 738, 37, 1, 1, 2])
def in_10 : MethodName × ByteArray × Nat × Option FieldType × List (Nat × Nat × Nat × Nat) × List Nat := (yX1_scan, cX1_scan, 5, (some .int), [], [2, 42, 0, 0, 735, 81, 734, 36, 1, 1, 2])
def in_11 : MethodName × ByteArray × Nat × Option FieldType × List (Nat × Nat × Nat × Nat) × List Nat := (yX1_listSizes, cX1_listSizes, 5, (some .int), [], [2, 42, 0, 0, 806, 81, 805, 39, 1, 1, 2])
def in_12 : MethodName × ByteArray × Nat × Option FieldType × List (Nat × Nat × Nat × Nat) × List Nat := (yX1_sumDirectory, cX1_sumDirectory, 4, (some .int), [], [0, 0, 0, 0, 841, 81, 840, 40, 1, 1, 1])
def in_13 : MethodName × ByteArray × Nat × Option FieldType × List (Nat × Nat × Nat × Nat) × List Nat := (yX1_findLargest, cX1_findLargest, 6, (some .int), [], [2, 42, 0, 0, 852, 81, 851, 41, 1, 1, 1])
def in_14 : MethodName × ByteArray × Nat × Option FieldType × List (Nat × Nat × Nat × Nat) × List Nat := (yX2_init, cX2_init, 2, none, [], [2, 60, 16, 375, 105, 80, 104, 0, 2, 2, 0])
def in_15 : MethodName × ByteArray × Nat × Option FieldType × List (Nat × Nat × Nat × Nat) × List Nat := (yX2_copyFrom, cX2_copyFrom, 3, none, [], [2, 61, 0, 0, 486, 80, 485, 12, 1, 2, 1])
def in_16 : MethodName × ByteArray × Nat × Option FieldType × List (Nat × Nat × Nat × Nat) × List Nat := (yX2_canAdd, cX2_canAdd, 2, (some .boolean), [], [1, 22, 0, 0, 458, 80, 457, 9, 1, 2, 1])
def in_17 : MethodName × ByteArray × Nat × Option FieldType × List (Nat × Nat × Nat × Nat) × List Nat := (yX2_addFile, cX2_addFile, 6, (some .int), [], [3, 72, 0, 0, 503, 80, 502, 15, 1, 2, 4])
def in_18 : MethodName × ByteArray × Nat × Option FieldType × List (Nat × Nat × Nat × Nat) × List Nat := (yX2_resizeFile, cX2_resizeFile, 5, (some .int), [], [4, 96, 0, 0, 560, 80, 559, 25, 1, 2, 2])
def in_19 : MethodName × ByteArray × Nat × Option FieldType × List (Nat × Nat × Nat × Nat) × List Nat := (yX2_changeBlocks, cX2_changeBlocks, 5, (some .int), [], [3, 72, 0, 0, 564, 80, 563, 26, 1, 2, 3])
def in_20 : MethodName × ByteArray × Nat × Option FieldType × List (Nat × Nat × Nat × Nat) × List Nat := (yX2_removeFile, cX2_removeFile, 3, (some .int), [], [3, 66, 0, 0, 575, 80, 574, 27, 1, 2, 1])
def in_21 : MethodName × ByteArray × Nat × Option FieldType × List (Nat × Nat × Nat × Nat) × List Nat := (yX2_moveFile, cX2_moveFile, 10, (some .int), [], [3, 72, 0, 0, 590, 80, 589, 29, 1, 2, 3])
def in_22 : MethodName × ByteArray × Nat × Option FieldType × List (Nat × Nat × Nat × Nat) × List Nat := (yX2_charge, cX2_charge, 4, none, [], [1, 21, 0, 0, 534, 80, 533, 21, 1, 2, 3])
def in_23 : MethodName × ByteArray × Nat × Option FieldType × List (Nat × Nat × Nat × Nat) × List Nat := (yX2_firstRefusal, cX2_firstRefusal, 9, (some .int), [], [2, 44, 0, 0, 507, 80, 506, 16, 1, 2, 6])
def in_24 : MethodName × ByteArray × Nat × Option FieldType × List (Nat × Nat × Nat × Nat) × List Nat := (yX2_causeOf, cX2_causeOf, 4, (some .int), [], [1, 21, 0, 0, 517, 80, 516, 17, 1, 2, 2])
def in_25 : MethodName × ByteArray × Nat × Option FieldType × List (Nat × Nat × Nat × Nat) × List Nat := (yX2_greatestIncrease, cX2_greatestIncrease, 4, (some .int), [], [1, 40, 0, 0, 783, 80, 782, 38, 1, 2, 1])
def in_26 : MethodName × ByteArray × Nat × Option FieldType × List (Nat × Nat × Nat × Nat) × List Nat := (yX2_noteRefusal, cX2_noteRefusal, 6, none, [], [1, 23, 0, 0, 522, 80, 521, 18, 1, 2, 3])
def in_27 : MethodName × ByteArray × Nat × Option FieldType × List (Nat × Nat × Nat × Nat) × List Nat := (yX2_reviewAll, cX2_reviewAll, 2, none, [], [2, 45, 0, 0, 538, 80, 537, 22, 1, 2, 0])
def in_28 : MethodName × ByteArray × Nat × Option FieldType × List (Nat × Nat × Nat × Nat) × List Nat := (yX2_review, cX2_review, 3, none, [], [1, 23, 0, 0, 542, 80, 541, 23, 1, 2, 1])
def in_29 : MethodName × ByteArray × Nat × Option FieldType × List (Nat × Nat × Nat × Nat) × List Nat := (yX2_isRunning, cX2_isRunning, 2, (some .boolean), [], [0, 0, 0, 0, 319, 80, 318, 6, 1, 2, 1])
def in_30 : MethodName × ByteArray × Nat × Option FieldType × List (Nat × Nat × Nat × Nat) × List Nat := (yX2_daysRunning, cX2_daysRunning, 2, (some .int), [], [0, 0, 0, 0, 667, 80, 666, 34, 1, 2, 1])
def in_31 : MethodName × ByteArray × Nat × Option FieldType × List (Nat × Nat × Nat × Nat) × List Nat := (yX2_isOver, cX2_isOver, 2, (some .boolean), [], [0, 0, 0, 0, 327, 80, 326, 7, 1, 2, 1])
def in_32 : MethodName × ByteArray × Nat × Option FieldType × List (Nat × Nat × Nat × Nat) × List Nat := (yX2_canPass, cX2_canPass, 2, (some .boolean), [], [0, 0, 0, 0, 654, 80, 653, 31, 1, 2, 1])
def in_33 : MethodName × ByteArray × Nat × Option FieldType × List (Nat × Nat × Nat × Nat) × List Nat := (yX2_passDays, cX2_passDays, 4, (some .int), [], [2, 45, 0, 0, 659, 80, 658, 32, 1, 2, 1])
def in_34 : MethodName × ByteArray × Nat × Option FieldType × List (Nat × Nat × Nat × Nat) × List Nat := (yX2_beginDay, cX2_beginDay, 3, (some .int), [], [1, 23, 0, 0, 663, 80, 662, 33, 1, 2, 0])
def in_35 : MethodName × ByteArray × Nat × Option FieldType × List (Nat × Nat × Nat × Nat) × List Nat := (yX2_countExempted, cX2_countExempted, 3, (some .int), [], [0, 0, 0, 0, 643, 80, 642, 30, 1, 2, 0])
def in_36 : MethodName × ByteArray × Nat × Option FieldType × List (Nat × Nat × Nat × Nat) × List Nat := (yX3_init, cX3_init, 1, none, [], [1, 40, 2, 105, 208, 83, 207, 0, 2, 3, 0])
def in_37 : MethodName × ByteArray × Nat × Option FieldType × List (Nat × Nat × Nat × Nat) × List Nat := (yX3_findError, cX3_findError, 3, (some .int), [], [4, 89, 0, 0, 268, 83, 267, 0, 1, 3, 0])
def in_38 : MethodName × ByteArray × Nat × Option FieldType × List (Nat × Nat × Nat × Nat) × List Nat := (yX3_readCommand, cX3_readCommand, 4, (some .boolean), [], [3, 66, 0, 0, 272, 83, 271, 1, 1, 3, 0])
def in_39 : MethodName × ByteArray × Nat × Option FieldType × List (Nat × Nat × Nat × Nat) × List Nat := (yX3_greatestNumbers, cX3_greatestNumbers, 1, (some (.array .int)), [], [0, 0, 0, 0, 275, 83, 274, 0, 0, 3, 1])
def in_40 : MethodName × ByteArray × Nat × Option FieldType × List (Nat × Nat × Nat × Nat) × List Nat := (yX3_readCharacter, cX3_readCharacter, 2, (some .boolean), [], [0, 0, 0, 0, 291, 83, 290, 2, 1, 3, 1])
def in_41 : MethodName × ByteArray × Nat × Option FieldType × List (Nat × Nat × Nat × Nat) × List Nat := (yX3_readNumber, cX3_readNumber, 4, (some .int), [], [2, 43, 0, 0, 295, 83, 294, 3, 1, 3, 2])
def in_42 : MethodName × ByteArray × Nat × Option FieldType × List (Nat × Nat × Nat × Nat) × List Nat := (yX3_canExtend, cX3_canExtend, 3, (some .boolean), [], [1, 21, 0, 0, 303, 83, 302, 5, 1, 3, 2])
def in_43 : MethodName × ByteArray × Nat × Option FieldType × List (Nat × Nat × Nat × Nat) × List Nat := (yX3_digitHere, cX3_digitHere, 2, (some .int), [], [0, 0, 0, 0, 299, 83, 298, 4, 1, 3, 0])
def in_44 : MethodName × ByteArray × Nat × Option FieldType × List (Nat × Nat × Nat × Nat) × List Nat := (yX4_init, cX4_init, 2, none, [], [3, 81, 177, 4030, 97, 79, 96, 0, 2, 4, 0])
def in_45 : MethodName × ByteArray × Nat × Option FieldType × List (Nat × Nat × Nat × Nat) × List Nat := (yX4_create, cX4_create, 7, (some .int), [], [8, 133, 6, 36, 349, 79, 347, 348, 1, 4, 5])
def in_46 : MethodName × ByteArray × Nat × Option FieldType × List (Nat × Nat × Nat × Nat) × List Nat := (yX4_resize, cX4_resize, 6, (some .int), [], [8, 133, 4, 24, 550, 79, 548, 549, 1, 4, 3])
def in_47 : MethodName × ByteArray × Nat × Option FieldType × List (Nat × Nat × Nat × Nat) × List Nat := (yX4_delete, cX4_delete, 5, (some .int), [], [8, 133, 3, 18, 571, 79, 569, 570, 1, 4, 2])
def in_48 : MethodName × ByteArray × Nat × Option FieldType × List (Nat × Nat × Nat × Nat) × List Nat := (yX4_move, cX4_move, 7, (some .int), [], [8, 133, 5, 30, 586, 79, 584, 585, 1, 4, 4])
def in_49 : MethodName × ByteArray × Nat × Option FieldType × List (Nat × Nat × Nat × Nat) × List Nat := (yX4_setLimits, cX4_setLimits, 6, (some .int), [], [8, 133, 4, 24, 597, 79, 595, 596, 1, 4, 4])
def in_50 : MethodName × ByteArray × Nat × Option FieldType × List (Nat × Nat × Nat × Nat) × List Nat := (yX4_setGrace, cX4_setGrace, 4, (some .int), [], [7, 112, 2, 12, 623, 79, 621, 622, 1, 4, 2])
def in_51 : MethodName × ByteArray × Nat × Option FieldType × List (Nat × Nat × Nat × Nat) × List Nat := (yX4_restartGrace, cX4_restartGrace, 5, (some .int), [], [8, 133, 3, 18, 631, 79, 629, 630, 1, 4, 2])
def in_52 : MethodName × ByteArray × Nat × Option FieldType × List (Nat × Nat × Nat × Nat) × List Nat := (yX4_setExempt, cX4_setExempt, 3, (some .int), [], [7, 112, 1, 6, 639, 79, 637, 638, 1, 4, 2])
def in_53 : MethodName × ByteArray × Nat × Option FieldType × List (Nat × Nat × Nat × Nat) × List Nat := (yX4_nextDays, cX4_nextDays, 2, (some .int), [], [6, 105, 2, 12, 650, 79, 648, 649, 1, 4, 1])
def in_54 : MethodName × ByteArray × Nat × Option FieldType × List (Nat × Nat × Nat × Nat) × List Nat := (yX4_appendText, cX4_appendText, 2, (some .int), [], [6, 92, 2, 12, 674, 79, 672, 673, 1, 4, 1])
def in_55 : MethodName × ByteArray × Nat × Option FieldType × List (Nat × Nat × Nat × Nat) × List Nat := (yX4_clearText, cX4_clearText, 2, (some .int), [], [0, 0, 0, 0, 260, 79, 258, 259, 1, 4, 0])
def in_56 : MethodName × ByteArray × Nat × Option FieldType × List (Nat × Nat × Nat × Nat) × List Nat := (yX4_errorPosition, cX4_errorPosition, 1, (some .int), [], [5, 111, 0, 0, 264, 79, 262, 263, 1, 4, 0])
def in_57 : MethodName × ByteArray × Nat × Option FieldType × List (Nat × Nat × Nat × Nat) × List Nat := (yX4_runText, cX4_runText, 3, (some .int), [], [6, 143, 1, 6, 683, 79, 681, 682, 1, 4, 0])
def in_58 : MethodName × ByteArray × Nat × Option FieldType × List (Nat × Nat × Nat × Nat) × List Nat := (yX4_undo, cX4_undo, 1, (some .int), [], [6, 92, 1, 6, 697, 79, 695, 696, 1, 4, 0])
def in_59 : MethodName × ByteArray × Nat × Option FieldType × List (Nat × Nat × Nat × Nat) × List Nat := (yX4_save, cX4_save, 2, (some .int), [], [7, 112, 1, 6, 705, 79, 703, 704, 1, 4, 1])
def in_60 : MethodName × ByteArray × Nat × Option FieldType × List (Nat × Nat × Nat × Nat) × List Nat := (yX4_restore, cX4_restore, 2, (some .int), [], [7, 112, 2, 12, 716, 79, 714, 715, 1, 4, 1])
def in_61 : MethodName × ByteArray × Nat × Option FieldType × List (Nat × Nat × Nat × Nat) × List Nat := (yX4_usage, cX4_usage, 3, (some .int), [], [8, 133, 2, 12, 724, 79, 722, 723, 1, 4, 2])
def in_62 : MethodName × ByteArray × Nat × Option FieldType × List (Nat × Nat × Nat × Nat) × List Nat := (yX4_scannedUsage, cX4_scannedUsage, 3, (some .int), [], [8, 133, 2, 12, 731, 79, 729, 730, 1, 4, 2])
def in_63 : MethodName × ByteArray × Nat × Option FieldType × List (Nat × Nat × Nat × Nat) × List Nat := (yX4_softLimit, cX4_softLimit, 3, (some .int), [], [8, 133, 2, 12, 747, 79, 745, 746, 1, 4, 2])
def in_64 : MethodName × ByteArray × Nat × Option FieldType × List (Nat × Nat × Nat × Nat) × List Nat := (yX4_hardLimit, cX4_hardLimit, 3, (some .int), [], [8, 133, 2, 12, 754, 79, 752, 753, 1, 4, 2])
def in_65 : MethodName × ByteArray × Nat × Option FieldType × List (Nat × Nat × Nat × Nat) × List Nat := (yX4_graceStart, cX4_graceStart, 3, (some .int), [], [8, 133, 2, 12, 761, 79, 759, 760, 1, 4, 2])
def in_66 : MethodName × ByteArray × Nat × Option FieldType × List (Nat × Nat × Nat × Nat) × List Nat := (yX4_graceLeft, cX4_graceLeft, 4, (some .int), [], [8, 133, 2, 12, 768, 79, 766, 767, 1, 4, 2])
def in_67 : MethodName × ByteArray × Nat × Option FieldType × List (Nat × Nat × Nat × Nat) × List Nat := (yX4_available, cX4_available, 3, (some .int), [], [8, 133, 2, 12, 779, 79, 777, 778, 1, 4, 2])
def in_68 : MethodName × ByteArray × Nat × Option FieldType × List (Nat × Nat × Nat × Nat) × List Nat := (yX4_refusals, cX4_refusals, 2, (some .int), [], [7, 112, 1, 6, 795, 79, 793, 794, 1, 4, 1])
def in_69 : MethodName × ByteArray × Nat × Option FieldType × List (Nat × Nat × Nat × Nat) × List Nat := (yX4_fewestDeletions, cX4_fewestDeletions, 7, (some .int), [], [7, 112, 1, 6, 802, 79, 800, 801, 1, 4, 1])
def in_70 : MethodName × ByteArray × Nat × Option FieldType × List (Nat × Nat × Nat × Nat) × List Nat := (yX4_sizeOf, cX4_sizeOf, 4, (some .int), [], [8, 133, 2, 12, 816, 79, 814, 815, 1, 4, 2])
def in_71 : MethodName × ByteArray × Nat × Option FieldType × List (Nat × Nat × Nat × Nat) × List Nat := (yX4_ownerOf, cX4_ownerOf, 4, (some .int), [], [8, 133, 2, 12, 823, 79, 821, 822, 1, 4, 2])
def in_72 : MethodName × ByteArray × Nat × Option FieldType × List (Nat × Nat × Nat × Nat) × List Nat := (yX4_groupOf, cX4_groupOf, 4, (some .int), [], [8, 133, 2, 12, 830, 79, 828, 829, 1, 4, 2])
def in_73 : MethodName × ByteArray × Nat × Option FieldType × List (Nat × Nat × Nat × Nat) × List Nat := (yX4_fileCount, cX4_fileCount, 1, (some .int), [], [0, 0, 0, 0, 307, 79, 305, 306, 1, 4, 0])
def in_74 : MethodName × ByteArray × Nat × Option FieldType × List (Nat × Nat × Nat × Nat) × List Nat := (yX4_directorySize, cX4_directorySize, 2, (some .int), [], [7, 112, 1, 6, 837, 79, 835, 836, 1, 4, 1])
def in_75 : MethodName × ByteArray × Nat × Option FieldType × List (Nat × Nat × Nat × Nat) × List Nat := (yX4_largestFile, cX4_largestFile, 2, (some .int), [], [7, 112, 1, 6, 848, 79, 846, 847, 1, 4, 1])
def in_76 : MethodName × ByteArray × Nat × Option FieldType × List (Nat × Nat × Nat × Nat) × List Nat := (yX4_ifCreated, cX4_ifCreated, 4, (some .int), [], [7, 112, 3, 18, 859, 79, 857, 858, 1, 4, 3])
def in_77 : MethodName × ByteArray × Nat × Option FieldType × List (Nat × Nat × Nat × Nat) × List Nat := (yX4_refusedOnDay, cX4_refusedOnDay, 5, (some .int), [], [7, 112, 3, 18, 867, 79, 865, 866, 1, 4, 3])
def in_78 : MethodName × ByteArray × Nat × Option FieldType × List (Nat × Nat × Nat × Nat) × List Nat := (yX4_day, cX4_day, 1, (some .int), [], [0, 0, 0, 0, 311, 79, 309, 310, 1, 4, 0])
def in_79 : MethodName × ByteArray × Nat × Option FieldType × List (Nat × Nat × Nat × Nat) × List Nat := (yX4_graceLength, cX4_graceLength, 2, (some .int), [], [7, 112, 1, 6, 876, 79, 874, 875, 1, 4, 1])
def in_80 : MethodName × ByteArray × Nat × Option FieldType × List (Nat × Nat × Nat × Nat) × List Nat := (yX4_isExempt, cX4_isExempt, 2, (some .boolean), [], [7, 112, 1, 6, 883, 79, 881, 882, 1, 4, 1])
def in_81 : MethodName × ByteArray × Nat × Option FieldType × List (Nat × Nat × Nat × Nat) × List Nat := (yX4_runningGraces, cX4_runningGraces, 3, (some .int), [], [1, 21, 0, 0, 315, 79, 313, 314, 1, 4, 0])
def in_82 : MethodName × ByteArray × Nat × Option FieldType × List (Nat × Nat × Nat × Nat) × List Nat := (yX4_overGraces, cX4_overGraces, 3, (some .int), [], [1, 21, 0, 0, 323, 79, 321, 322, 1, 4, 0])
def in_83 : MethodName × ByteArray × Nat × Option FieldType × List (Nat × Nat × Nat × Nat) × List Nat := (yX4_event, cX4_event, 3, (some .int), [], [6, 92, 2, 12, 890, 79, 888, 889, 1, 4, 2])
def in_84 : MethodName × ByteArray × Nat × Option FieldType × List (Nat × Nat × Nat × Nat) × List Nat := (yX4_eventCount, cX4_eventCount, 1, (some .int), [], [0, 0, 0, 0, 331, 79, 329, 330, 1, 4, 0])
def in_85 : MethodName × ByteArray × Nat × Option FieldType × List (Nat × Nat × Nat × Nat) × List Nat := (yX4_savedStates, cX4_savedStates, 1, (some .int), [], [0, 0, 0, 0, 335, 79, 333, 334, 1, 4, 0])
def in_86 : MethodName × ByteArray × Nat × Option FieldType × List (Nat × Nat × Nat × Nat) × List Nat := (yX4_textLength, cX4_textLength, 1, (some .int), [], [0, 0, 0, 0, 339, 79, 337, 338, 1, 4, 0])
def in_87 : MethodName × ByteArray × Nat × Option FieldType × List (Nat × Nat × Nat × Nat) × List Nat := (yX4_requireUser, cX4_requireUser, 1, none, [], [6, 92, 1, 6, 352, 79, 351, 0, 0, 4, 1])
def in_88 : MethodName × ByteArray × Nat × Option FieldType × List (Nat × Nat × Nat × Nat) × List Nat := (yX4_requireGroup, cX4_requireGroup, 1, none, [], [6, 92, 1, 6, 423, 79, 422, 0, 0, 4, 1])
def in_89 : MethodName × ByteArray × Nat × Option FieldType × List (Nat × Nat × Nat × Nat) × List Nat := (yX4_requireAccount, cX4_requireAccount, 1, none, [], [6, 92, 1, 6, 603, 79, 602, 0, 0, 4, 1])
def in_90 : MethodName × ByteArray × Nat × Option FieldType × List (Nat × Nat × Nat × Nat) × List Nat := (yX4_requireResource, cX4_requireResource, 1, none, [], [6, 92, 1, 6, 607, 79, 606, 0, 0, 4, 1])
def in_91 : MethodName × ByteArray × Nat × Option FieldType × List (Nat × Nat × Nat × Nat) × List Nat := (yX4_requirePair, cX4_requirePair, 2, (some .int), [], [7, 112, 2, 12, 600, 79, 599, 0, 0, 4, 2])
def in_92 : MethodName × ByteArray × Nat × Option FieldType × List (Nat × Nat × Nat × Nat) × List Nat := (yX4_requireDirectory, cX4_requireDirectory, 1, none, [], [6, 92, 1, 6, 430, 79, 429, 0, 0, 4, 1])
def in_93 : MethodName × ByteArray × Nat × Option FieldType × List (Nat × Nat × Nat × Nat) × List Nat := (yX4_requireKey, cX4_requireKey, 2, (some .int), [], [7, 112, 2, 12, 427, 79, 426, 0, 0, 4, 2])
def in_94 : MethodName × ByteArray × Nat × Option FieldType × List (Nat × Nat × Nat × Nat) × List Nat := (yX4_requireSize, cX4_requireSize, 1, none, [], [6, 92, 1, 6, 438, 79, 437, 0, 0, 4, 1])
def in_95 : MethodName × ByteArray × Nat × Option FieldType × List (Nat × Nat × Nat × Nat) × List Nat := (yX4_requireLimits, cX4_requireLimits, 2, none, [], [6, 92, 2, 12, 612, 79, 611, 0, 0, 4, 2])
def in_96 : MethodName × ByteArray × Nat × Option FieldType × List (Nat × Nat × Nat × Nat) × List Nat := (yX4_requireSlot, cX4_requireSlot, 1, none, [], [6, 92, 1, 6, 708, 79, 707, 0, 0, 4, 1])
def in_97 : MethodName × ByteArray × Nat × Option FieldType × List (Nat × Nat × Nat × Nat) × List Nat := (yX4_requireFile, cX4_requireFile, 3, (some .int), [], [6, 92, 1, 6, 554, 79, 553, 24, 1, 4, 1])
def in_98 : MethodName × ByteArray × Nat × Option FieldType × List (Nat × Nat × Nat × Nat) × List Nat := (yX4_pairOf, cX4_pairOf, 2, (some .int), [], [0, 0, 0, 0, 513, 79, 512, 0, 0, 4, 2])
def in_99 : MethodName × ByteArray × Nat × Option FieldType × List (Nat × Nat × Nat × Nat) × List Nat := (yX4_groupAccount, cX4_groupAccount, 1, (some .int), [], [0, 0, 0, 0, 510, 79, 509, 0, 0, 4, 1])
def in_100 : MethodName × ByteArray × Nat × Option FieldType × List (Nat × Nat × Nat × Nat) × List Nat := (yX4_keyOf, cX4_keyOf, 2, (some .int), [], [0, 0, 0, 0, 435, 79, 434, 0, 0, 4, 2])
def in_101 : MethodName × ByteArray × Nat × Option FieldType × List (Nat × Nat × Nat × Nat) × List Nat := (yX4_keepState, cX4_keepState, 3, none, [], [3, 83, 0, 0, 482, 79, 481, 11, 1, 4, 0])
def in_102 : MethodName × ByteArray × Nat × Option FieldType × List (Nat × Nat × Nat × Nat) × List Nat := (yX4_executeCommand, cX4_executeCommand, 4, (some .boolean), [], [5, 120, 0, 0, 689, 79, 688, 35, 1, 4, 0])
def in_103 : MethodName × ByteArray × Nat × Option FieldType × List (Nat × Nat × Nat × Nat) × List Nat := (yX4_takeLargest, cX4_takeLargest, 4, (some .int), [], [0, 0, 0, 0, 809, 79, 808, 0, 0, 4, 2])
def in_104 : MethodName × ByteArray × Nat × Option FieldType × List (Nat × Nat × Nat × Nat) × List Nat := (yX5_init, cX5_init, 2, none, [], [1, 40, 6, 3384, 901, 84, 900, 0, 2, 5, 0])
def in_105 : MethodName × ByteArray × Nat × Option FieldType × List (Nat × Nat × Nat × Nat) × List Nat := (yX5_thrown, cX5_thrown, 1, (some .int), [], [0, 0, 0, 0, 940, 84, 938, 939, 1, 5, 0])
def in_106 : MethodName × ByteArray × Nat × Option FieldType × List (Nat × Nat × Nat × Nat) × List Nat := (yX5_in, cX5_in, 3, (some .boolean), [], [0, 0, 0, 0, 950, 84, 949, 0, 0, 5, 3])
def in_107 : MethodName × ByteArray × Nat × Option FieldType × List (Nat × Nat × Nat × Nat) × List Nat := (yX5_holds, cX5_holds, 2, (some .boolean), [], [0, 0, 0, 0, 968, 84, 967, 45, 1, 5, 1])
def in_108 : MethodName × ByteArray × Nat × Option FieldType × List (Nat × Nat × Nat × Nat) × List Nat := (yX5_isUser, cX5_isUser, 1, (some .boolean), [], [1, 22, 0, 0, 947, 84, 946, 0, 0, 5, 1])
def in_109 : MethodName × ByteArray × Nat × Option FieldType × List (Nat × Nat × Nat × Nat) × List Nat := (yX5_isGroup, cX5_isGroup, 1, (some .boolean), [], [1, 22, 0, 0, 953, 84, 952, 0, 0, 5, 1])
def in_110 : MethodName × ByteArray × Nat × Option FieldType × List (Nat × Nat × Nat × Nat) × List Nat := (yX5_isPlace, cX5_isPlace, 2, (some .boolean), [], [1, 22, 0, 0, 956, 84, 955, 0, 0, 5, 2])
def in_111 : MethodName × ByteArray × Nat × Option FieldType × List (Nat × Nat × Nat × Nat) × List Nat := (yX5_isPair, cX5_isPair, 2, (some .boolean), [], [1, 22, 0, 0, 1063, 84, 1062, 0, 0, 5, 2])
def in_112 : MethodName × ByteArray × Nat × Option FieldType × List (Nat × Nat × Nat × Nat) × List Nat := (yX5_of, cX5_of, 3, (some .int), [], [0, 0, 0, 0, 964, 84, 963, 44, 1, 5, 2])
def in_113 : MethodName × ByteArray × Nat × Option FieldType × List (Nat × Nat × Nat × Nat) × List Nat := (yX5_lay, cX5_lay, 4, none, [], [0, 0, 0, 0, 1023, 84, 1022, 58, 1, 5, 3])
def in_114 : MethodName × ByteArray × Nat × Option FieldType × List (Nat × Nat × Nat × Nat) × List Nat := (yX5_fileAt, cX5_fileAt, 4, (some .int), [], [1, 22, 0, 0, 960, 84, 959, 43, 1, 5, 2])
def in_115 : MethodName × ByteArray × Nat × Option FieldType × List (Nat × Nat × Nat × Nat) × List Nat := (yX5_isCharged, cX5_isCharged, 3, (some .boolean), [], [1, 22, 0, 0, 1007, 84, 1006, 54, 1, 5, 2])
def in_116 : MethodName × ByteArray × Nat × Option FieldType × List (Nat × Nat × Nat × Nat) × List Nat := (yX5_usageOf, cX5_usageOf, 6, (some .int), [], [2, 44, 0, 0, 1003, 84, 1002, 53, 1, 5, 2])
def in_117 : MethodName × ByteArray × Nat × Option FieldType × List (Nat × Nat × Nat × Nat) × List Nat := (yX5_logs, cX5_logs, 5, none, [], [0, 0, 0, 0, 1019, 84, 1018, 57, 1, 5, 3])
def in_118 : MethodName × ByteArray × Nat × Option FieldType × List (Nat × Nat × Nat × Nat) × List Nat := (yX5_reviews, cX5_reviews, 5, none, [], [3, 69, 0, 0, 1031, 84, 1030, 60, 1, 5, 2])
def in_119 : MethodName × ByteArray × Nat × Option FieldType × List (Nat × Nat × Nat × Nat) × List Nat := (yX5_reviewsAll, cX5_reviewsAll, 2, none, [], [4, 93, 0, 0, 1027, 84, 1026, 59, 1, 5, 0])
def in_120 : MethodName × ByteArray × Nat × Option FieldType × List (Nat × Nat × Nat × Nat) × List Nat := (yX5_isOver, cX5_isOver, 4, (some .boolean), [], [0, 0, 0, 0, 1011, 84, 1010, 55, 1, 5, 3])
def in_121 : MethodName × ByteArray × Nat × Option FieldType × List (Nat × Nat × Nat × Nat) × List Nat := (yX5_cause, cX5_cause, 5, (some .int), [], [0, 0, 0, 0, 1015, 84, 1014, 56, 1, 5, 4])
def in_122 : MethodName × ByteArray × Nat × Option FieldType × List (Nat × Nat × Nat × Nat) × List Nat := (yX5_isFree, cX5_isFree, 2, (some .boolean), [], [0, 0, 0, 0, 996, 84, 995, 52, 1, 5, 1])
def in_123 : MethodName × ByteArray × Nat × Option FieldType × List (Nat × Nat × Nat × Nat) × List Nat := (yX5_accountOf, cX5_accountOf, 3, (some .int), [], [0, 0, 0, 0, 999, 84, 998, 0, 0, 5, 3])
def in_124 : MethodName × ByteArray × Nat × Option FieldType × List (Nat × Nat × Nat × Nat) × List Nat := (yX5_reason, cX5_reason, 7, (some .int), [], [3, 69, 0, 0, 992, 84, 991, 51, 1, 5, 2])
def in_125 : MethodName × ByteArray × Nat × Option FieldType × List (Nat × Nat × Nat × Nat) × List Nat := (yX5_rises, cX5_rises, 5, none, [], [0, 0, 0, 0, 984, 84, 983, 49, 1, 5, 4])
def in_126 : MethodName × ByteArray × Nat × Option FieldType × List (Nat × Nat × Nat × Nat) × List Nat := (yX5_refuses, cX5_refuses, 5, (some .int), [], [4, 95, 0, 0, 988, 84, 987, 50, 1, 5, 2])
def in_127 : MethodName × ByteArray × Nat × Option FieldType × List (Nat × Nat × Nat × Nat) × List Nat := (yX5_creates, cX5_creates, 6, (some .int), [], [5, 119, 0, 0, 980, 84, 979, 48, 1, 5, 4])
def in_128 : MethodName × ByteArray × Nat × Option FieldType × List (Nat × Nat × Nat × Nat) × List Nat := (yX5_resizes, cX5_resizes, 5, (some .int), [], [5, 119, 0, 0, 1039, 84, 1038, 61, 1, 5, 2])
def in_129 : MethodName × ByteArray × Nat × Option FieldType × List (Nat × Nat × Nat × Nat) × List Nat := (yX5_deletes, cX5_deletes, 4, (some .int), [], [5, 114, 0, 0, 1047, 84, 1046, 62, 1, 5, 1])
def in_130 : MethodName × ByteArray × Nat × Option FieldType × List (Nat × Nat × Nat × Nat) × List Nat := (yX5_moves, cX5_moves, 8, (some .int), [], [5, 119, 0, 0, 1055, 84, 1054, 63, 1, 5, 3])
def in_131 : MethodName × ByteArray × Nat × Option FieldType × List (Nat × Nat × Nat × Nat) × List Nat := (yX5_daysPass, cX5_daysPass, 5, (some .int), [], [1, 24, 0, 0, 1083, 84, 1082, 64, 1, 5, 1])
def in_132 : MethodName × ByteArray × Nat × Option FieldType × List (Nat × Nat × Nat × Nat) × List Nat := (yX5_copies, cX5_copies, 4, none, [], [0, 0, 0, 0, 976, 84, 975, 47, 1, 5, 2])
def in_133 : MethodName × ByteArray × Nat × Option FieldType × List (Nat × Nat × Nat × Nat) × List Nat := (yX5_keeps, cX5_keeps, 2, none, [], [1, 23, 0, 0, 972, 84, 971, 46, 1, 5, 0])
def in_134 : MethodName × ByteArray × Nat × Option FieldType × List (Nat × Nat × Nat × Nat) × List Nat := (yX5_create, cX5_create, 8, (some .int), [], [6, 144, 0, 0, 944, 84, 942, 943, 1, 5, 5])
def in_135 : MethodName × ByteArray × Nat × Option FieldType × List (Nat × Nat × Nat × Nat) × List Nat := (yX5_resize, cX5_resize, 5, (some .int), [], [6, 143, 0, 0, 1035, 84, 1033, 1034, 1, 5, 3])
def in_136 : MethodName × ByteArray × Nat × Option FieldType × List (Nat × Nat × Nat × Nat) × List Nat := (yX5_delete, cX5_delete, 3, (some .int), [], [6, 137, 0, 0, 1043, 84, 1041, 1042, 1, 5, 2])
def in_137 : MethodName × ByteArray × Nat × Option FieldType × List (Nat × Nat × Nat × Nat) × List Nat := (yX5_move, cX5_move, 6, (some .int), [], [6, 146, 0, 0, 1051, 84, 1049, 1050, 1, 5, 4])
def in_138 : MethodName × ByteArray × Nat × Option FieldType × List (Nat × Nat × Nat × Nat) × List Nat := (yX5_setLimits, cX5_setLimits, 6, (some .int), [], [4, 93, 0, 0, 1059, 84, 1057, 1058, 1, 5, 4])
def in_139 : MethodName × ByteArray × Nat × Option FieldType × List (Nat × Nat × Nat × Nat) × List Nat := (yX5_setGrace, cX5_setGrace, 4, (some .int), [], [2, 44, 0, 0, 1067, 84, 1065, 1066, 1, 5, 2])
def in_140 : MethodName × ByteArray × Nat × Option FieldType × List (Nat × Nat × Nat × Nat) × List Nat := (yX5_restartGrace, cX5_restartGrace, 5, (some .int), [], [2, 44, 0, 0, 1071, 84, 1069, 1070, 1, 5, 2])
def in_141 : MethodName × ByteArray × Nat × Option FieldType × List (Nat × Nat × Nat × Nat) × List Nat := (yX5_setExempt, cX5_setExempt, 5, (some .int), [], [2, 44, 0, 0, 1075, 84, 1073, 1074, 1, 5, 2])
def in_142 : MethodName × ByteArray × Nat × Option FieldType × List (Nat × Nat × Nat × Nat) × List Nat := (yX5_nextDays, cX5_nextDays, 2, (some .int), [], [2, 48, 0, 0, 1079, 84, 1077, 1078, 1, 5, 1])
def in_143 : MethodName × ByteArray × Nat × Option FieldType × List (Nat × Nat × Nat × Nat) × List Nat := (yX5_appendText, cX5_appendText, 2, (some .int), [], [1, 22, 0, 0, 1087, 84, 1085, 1086, 1, 5, 1])
def in_144 : MethodName × ByteArray × Nat × Option FieldType × List (Nat × Nat × Nat × Nat) × List Nat := (yX5_clearText, cX5_clearText, 2, (some .int), [], [0, 0, 0, 0, 1091, 84, 1089, 1090, 1, 5, 0])
def in_145 : MethodName × ByteArray × Nat × Option FieldType × List (Nat × Nat × Nat × Nat) × List Nat := (yX5_sign, cX5_sign, 1, (some .int), [], [0, 0, 0, 0, 1107, 84, 1106, 67, 1, 5, 0])
def in_146 : MethodName × ByteArray × Nat × Option FieldType × List (Nat × Nat × Nat × Nat) × List Nat := (yX5_takes, cX5_takes, 3, (some .boolean), [], [1, 20, 0, 0, 1111, 84, 1110, 68, 1, 5, 1])
def in_147 : MethodName × ByteArray × Nat × Option FieldType × List (Nat × Nat × Nat × Nat) × List Nat := (yX5_number, cX5_number, 4, (some .int), [], [1, 22, 0, 0, 1118, 84, 1117, 69, 1, 5, 2])
def in_148 : MethodName × ByteArray × Nat × Option FieldType × List (Nat × Nat × Nat × Nat) × List Nat := (yX5_greatest, cX5_greatest, 3, (some .int), [], [0, 0, 0, 0, 1114, 84, 1113, 0, 0, 5, 2])
def in_149 : MethodName × ByteArray × Nat × Option FieldType × List (Nat × Nat × Nat × Nat) × List Nat := (yX5_readsCommand, cX5_readsCommand, 2, (some .boolean), [], [2, 45, 0, 0, 1103, 84, 1102, 66, 1, 5, 0])
def in_150 : MethodName × ByteArray × Nat × Option FieldType × List (Nat × Nat × Nat × Nat) × List Nat := (yX5_isValid, cX5_isValid, 1, (some .boolean), [], [3, 66, 0, 0, 1099, 84, 1098, 65, 1, 5, 0])
def in_151 : MethodName × ByteArray × Nat × Option FieldType × List (Nat × Nat × Nat × Nat) × List Nat := (yX5_errorPosition, cX5_errorPosition, 1, (some .int), [], [4, 86, 0, 0, 1095, 84, 1093, 1094, 1, 5, 0])
def in_152 : MethodName × ByteArray × Nat × Option FieldType × List (Nat × Nat × Nat × Nat) × List Nat := (yX5_isDone, cX5_isDone, 4, (some .boolean), [], [6, 146, 0, 0, 1126, 84, 1125, 70, 1, 5, 0])
def in_153 : MethodName × ByteArray × Nat × Option FieldType × List (Nat × Nat × Nat × Nat) × List Nat := (yX5_runText, cX5_runText, 2, (some .int), [], [7, 169, 0, 0, 1122, 84, 1120, 1121, 1, 5, 0])
def in_154 : MethodName × ByteArray × Nat × Option FieldType × List (Nat × Nat × Nat × Nat) × List Nat := (yX5_undo, cX5_undo, 1, (some .int), [], [1, 23, 0, 0, 1130, 84, 1128, 1129, 1, 5, 0])
def in_155 : MethodName × ByteArray × Nat × Option FieldType × List (Nat × Nat × Nat × Nat) × List Nat := (yX5_save, cX5_save, 2, (some .int), [], [1, 23, 0, 0, 1134, 84, 1132, 1133, 1, 5, 1])
def in_156 : MethodName × ByteArray × Nat × Option FieldType × List (Nat × Nat × Nat × Nat) × List Nat := (yX5_restore, cX5_restore, 2, (some .int), [], [2, 44, 0, 0, 1138, 84, 1136, 1137, 1, 5, 1])
def in_157 : MethodName × ByteArray × Nat × Option FieldType × List (Nat × Nat × Nat × Nat) × List Nat := (yX5_usage, cX5_usage, 3, (some .int), [], [3, 69, 0, 0, 1142, 84, 1140, 1141, 1, 5, 2])
def in_158 : MethodName × ByteArray × Nat × Option FieldType × List (Nat × Nat × Nat × Nat) × List Nat := (yX5_scannedUsage, cX5_scannedUsage, 3, (some .int), [], [3, 69, 0, 0, 1146, 84, 1144, 1145, 1, 5, 2])
def in_159 : MethodName × ByteArray × Nat × Option FieldType × List (Nat × Nat × Nat × Nat) × List Nat := (yX5_softLimit, cX5_softLimit, 3, (some .int), [], [2, 43, 0, 0, 1150, 84, 1148, 1149, 1, 5, 2])
def in_160 : MethodName × ByteArray × Nat × Option FieldType × List (Nat × Nat × Nat × Nat) × List Nat := (yX5_hardLimit, cX5_hardLimit, 3, (some .int), [], [2, 43, 0, 0, 1154, 84, 1152, 1153, 1, 5, 2])
def in_161 : MethodName × ByteArray × Nat × Option FieldType × List (Nat × Nat × Nat × Nat) × List Nat := (yX5_graceStart, cX5_graceStart, 3, (some .int), [], [2, 43, 0, 0, 1158, 84, 1156, 1157, 1, 5, 2])
def in_162 : MethodName × ByteArray × Nat × Option FieldType × List (Nat × Nat × Nat × Nat) × List Nat := (yX5_graceLeft, cX5_graceLeft, 5, (some .int), [], [2, 43, 0, 0, 1162, 84, 1160, 1161, 1, 5, 2])
def in_163 : MethodName × ByteArray × Nat × Option FieldType × List (Nat × Nat × Nat × Nat) × List Nat := (yX5_available, cX5_available, 5, (some .int), [], [3, 69, 0, 0, 1166, 84, 1164, 1165, 1, 5, 2])
def in_164 : MethodName × ByteArray × Nat × Option FieldType × List (Nat × Nat × Nat × Nat) × List Nat := (yX5_refusals, cX5_refusals, 2, (some .int), [], [1, 22, 0, 0, 1170, 84, 1168, 1169, 1, 5, 1])
def in_165 : MethodName × ByteArray × Nat × Option FieldType × List (Nat × Nat × Nat × Nat) × List Nat := (yX5_largest, cX5_largest, 6, (some .int), [], [2, 44, 0, 0, 1186, 84, 1185, 73, 1, 5, 1])
def in_166 : MethodName × ByteArray × Nat × Option FieldType × List (Nat × Nat × Nat × Nat) × List Nat := (yX5_forgets, cX5_forgets, 2, none, [], [0, 0, 0, 0, 1182, 84, 1181, 72, 1, 5, 0])
def in_167 : MethodName × ByteArray × Nat × Option FieldType × List (Nat × Nat × Nat × Nat) × List Nat := (yX5_fewest, cX5_fewest, 6, (some .int), [], [3, 69, 0, 0, 1178, 84, 1177, 71, 1, 5, 1])
def in_168 : MethodName × ByteArray × Nat × Option FieldType × List (Nat × Nat × Nat × Nat) × List Nat := (yX5_fewestDeletions, cX5_fewestDeletions, 2, (some .int), [], [4, 94, 0, 0, 1174, 84, 1172, 1173, 1, 5, 1])
def in_169 : MethodName × ByteArray × Nat × Option FieldType × List (Nat × Nat × Nat × Nat) × List Nat := (yX5_told, cX5_told, 5, (some .int), [], [2, 45, 0, 0, 1194, 84, 1193, 74, 1, 5, 3])
def in_170 : MethodName × ByteArray × Nat × Option FieldType × List (Nat × Nat × Nat × Nat) × List Nat := (yX5_sizeOf, cX5_sizeOf, 3, (some .int), [], [3, 69, 0, 0, 1190, 84, 1188, 1189, 1, 5, 2])
def in_171 : MethodName × ByteArray × Nat × Option FieldType × List (Nat × Nat × Nat × Nat) × List Nat := (yX5_ownerOf, cX5_ownerOf, 3, (some .int), [], [3, 69, 0, 0, 1198, 84, 1196, 1197, 1, 5, 2])
def in_172 : MethodName × ByteArray × Nat × Option FieldType × List (Nat × Nat × Nat × Nat) × List Nat := (yX5_groupOf, cX5_groupOf, 3, (some .int), [], [3, 69, 0, 0, 1202, 84, 1200, 1201, 1, 5, 2])
def in_173 : MethodName × ByteArray × Nat × Option FieldType × List (Nat × Nat × Nat × Nat) × List Nat := (yX5_fileCount, cX5_fileCount, 1, (some .int), [], [0, 0, 0, 0, 1206, 84, 1204, 1205, 1, 5, 0])
def in_174 : MethodName × ByteArray × Nat × Option FieldType × List (Nat × Nat × Nat × Nat) × List Nat := (yX5_directorySize, cX5_directorySize, 4, (some .int), [], [1, 22, 0, 0, 1210, 84, 1208, 1209, 1, 5, 1])
def in_175 : MethodName × ByteArray × Nat × Option FieldType × List (Nat × Nat × Nat × Nat) × List Nat := (yX5_largestFile, cX5_largestFile, 3, (some .int), [], [3, 69, 0, 0, 1214, 84, 1212, 1213, 1, 5, 1])
def in_176 : MethodName × ByteArray × Nat × Option FieldType × List (Nat × Nat × Nat × Nat) × List Nat := (yX5_ifCreated, cX5_ifCreated, 4, (some .int), [], [4, 95, 0, 0, 1218, 84, 1216, 1217, 1, 5, 3])
def in_177 : MethodName × ByteArray × Nat × Option FieldType × List (Nat × Nat × Nat × Nat) × List Nat := (yX5_reviewed, cX5_reviewed, 6, (some .int), [], [0, 0, 0, 0, 1230, 84, 1229, 76, 1, 5, 4])
def in_178 : MethodName × ByteArray × Nat × Option FieldType × List (Nat × Nat × Nat × Nat) × List Nat := (yX5_dayOfRefusal, cX5_dayOfRefusal, 12, (some .int), [], [3, 69, 0, 0, 1226, 84, 1225, 75, 1, 5, 3])
def in_179 : MethodName × ByteArray × Nat × Option FieldType × List (Nat × Nat × Nat × Nat) × List Nat := (yX5_refusedOnDay, cX5_refusedOnDay, 4, (some .int), [], [4, 100, 0, 0, 1222, 84, 1220, 1221, 1, 5, 3])
def in_180 : MethodName × ByteArray × Nat × Option FieldType × List (Nat × Nat × Nat × Nat) × List Nat := (yX5_day, cX5_day, 1, (some .int), [], [0, 0, 0, 0, 1234, 84, 1232, 1233, 1, 5, 0])
def in_181 : MethodName × ByteArray × Nat × Option FieldType × List (Nat × Nat × Nat × Nat) × List Nat := (yX5_graceLength, cX5_graceLength, 2, (some .int), [], [1, 22, 0, 0, 1238, 84, 1236, 1237, 1, 5, 1])
def in_182 : MethodName × ByteArray × Nat × Option FieldType × List (Nat × Nat × Nat × Nat) × List Nat := (yX5_isExempt, cX5_isExempt, 2, (some .boolean), [], [2, 42, 0, 0, 1242, 84, 1240, 1241, 1, 5, 1])
def in_183 : MethodName × ByteArray × Nat × Option FieldType × List (Nat × Nat × Nat × Nat) × List Nat := (yX5_graces, cX5_graces, 5, (some .int), [], [1, 23, 0, 0, 1250, 84, 1249, 77, 1, 5, 1])
def in_184 : MethodName × ByteArray × Nat × Option FieldType × List (Nat × Nat × Nat × Nat) × List Nat := (yX5_runningGraces, cX5_runningGraces, 1, (some .int), [], [2, 47, 0, 0, 1246, 84, 1244, 1245, 1, 5, 0])
def in_185 : MethodName × ByteArray × Nat × Option FieldType × List (Nat × Nat × Nat × Nat) × List Nat := (yX5_overGraces, cX5_overGraces, 1, (some .int), [], [2, 47, 0, 0, 1254, 84, 1252, 1253, 1, 5, 0])
def in_186 : MethodName × ByteArray × Nat × Option FieldType × List (Nat × Nat × Nat × Nat) × List Nat := (yX5_event, cX5_event, 3, (some .int), [], [1, 22, 0, 0, 1258, 84, 1256, 1257, 1, 5, 2])
def in_187 : MethodName × ByteArray × Nat × Option FieldType × List (Nat × Nat × Nat × Nat) × List Nat := (yX5_eventCount, cX5_eventCount, 1, (some .int), [], [0, 0, 0, 0, 1262, 84, 1260, 1261, 1, 5, 0])
def in_188 : MethodName × ByteArray × Nat × Option FieldType × List (Nat × Nat × Nat × Nat) × List Nat := (yX5_savedStates, cX5_savedStates, 1, (some .int), [], [0, 0, 0, 0, 1266, 84, 1264, 1265, 1, 5, 0])
def in_189 : MethodName × ByteArray × Nat × Option FieldType × List (Nat × Nat × Nat × Nat) × List Nat := (yX5_textLength, cX5_textLength, 1, (some .int), [], [0, 0, 0, 0, 1270, 84, 1268, 1269, 1, 5, 0])
def in_190 : MethodName × ByteArray × Nat × Option FieldType × List (Nat × Nat × Nat × Nat) × List Nat := (yL_create, cL_create, 8, (some .int), [(0, 16, 19, 1), (0, 16, 23, 2), (0, 16, 27, 3)], [9, 159, 6, 36, 342, 78, 341, 0, 0, 6, 7])
def in_191 : MethodName × ByteArray × Nat × Option FieldType × List (Nat × Nat × Nat × Nat) × List Nat := (yL_resize, cL_resize, 6, (some .int), [(0, 12, 15, 1), (0, 12, 19, 2), (0, 12, 23, 3)], [9, 158, 4, 24, 546, 78, 545, 0, 0, 6, 5])
def in_192 : MethodName × ByteArray × Nat × Option FieldType × List (Nat × Nat × Nat × Nat) × List Nat := (yL_delete, cL_delete, 5, (some .int), [(0, 10, 13, 1), (0, 10, 17, 3)], [9, 157, 3, 18, 567, 78, 566, 0, 0, 6, 4])
def in_193 : MethodName × ByteArray × Nat × Option FieldType × List (Nat × Nat × Nat × Nat) × List Nat := (yL_move, cL_move, 7, (some .int), [(0, 14, 17, 1), (0, 14, 21, 3)], [9, 159, 5, 30, 582, 78, 581, 0, 0, 6, 6])
def in_194 : MethodName × ByteArray × Nat × Option FieldType × List (Nat × Nat × Nat × Nat) × List Nat := (yL_setLimits, cL_setLimits, 7, (some .int), [(0, 14, 17, 1), (0, 14, 21, 2)], [9, 158, 4, 24, 593, 78, 592, 0, 0, 6, 6])
def in_195 : MethodName × ByteArray × Nat × Option FieldType × List (Nat × Nat × Nat × Nat) × List Nat := (yL_setGrace, cL_setGrace, 5, (some .int), [(0, 10, 13, 1), (0, 10, 17, 2)], [8, 135, 2, 12, 619, 78, 618, 0, 0, 6, 4])
def in_196 : MethodName × ByteArray × Nat × Option FieldType × List (Nat × Nat × Nat × Nat) × List Nat := (yL_restartGrace, cL_restartGrace, 5, (some .int), [(0, 10, 13, 1), (0, 10, 17, 3)], [9, 157, 3, 18, 627, 78, 626, 0, 0, 6, 4])
def in_197 : MethodName × ByteArray × Nat × Option FieldType × List (Nat × Nat × Nat × Nat) × List Nat := (yL_setExempt, cL_setExempt, 5, (some .int), [(0, 10, 13, 1)], [8, 134, 1, 6, 635, 78, 634, 0, 0, 6, 4])
def in_198 : MethodName × ByteArray × Nat × Option FieldType × List (Nat × Nat × Nat × Nat) × List Nat := (yL_nextDays, cL_nextDays, 4, (some .int), [(0, 9, 12, 2), (0, 9, 15, 3)], [7, 126, 2, 12, 646, 78, 645, 0, 0, 6, 3])
def in_199 : MethodName × ByteArray × Nat × Option FieldType × List (Nat × Nat × Nat × Nat) × List Nat := (yL_appendText, cL_appendText, 4, (some .int), [(0, 9, 12, 2), (0, 9, 15, 3)], [7, 113, 2, 12, 670, 78, 669, 0, 0, 6, 3])
def in_200 : MethodName × ByteArray × Nat × Option FieldType × List (Nat × Nat × Nat × Nat) × List Nat := (yL_runText, cL_runText, 3, (some .int), [(0, 8, 11, 3)], [7, 165, 1, 6, 679, 78, 678, 0, 0, 6, 2])
def in_201 : MethodName × ByteArray × Nat × Option FieldType × List (Nat × Nat × Nat × Nat) × List Nat := (yL_undo, cL_undo, 3, (some .int), [(0, 8, 11, 3)], [7, 112, 1, 6, 693, 78, 692, 0, 0, 6, 2])
def in_202 : MethodName × ByteArray × Nat × Option FieldType × List (Nat × Nat × Nat × Nat) × List Nat := (yL_save, cL_save, 4, (some .int), [(0, 9, 12, 1)], [8, 133, 1, 6, 701, 78, 700, 0, 0, 6, 3])
def in_203 : MethodName × ByteArray × Nat × Option FieldType × List (Nat × Nat × Nat × Nat) × List Nat := (yL_restore, cL_restore, 4, (some .int), [(0, 9, 12, 1), (0, 9, 15, 3)], [8, 133, 2, 12, 712, 78, 711, 0, 0, 6, 3])
def in_204 : MethodName × ByteArray × Nat × Option FieldType × List (Nat × Nat × Nat × Nat) × List Nat := (yL_usage, cL_usage, 5, (some .int), [(0, 10, 13, 1)], [9, 155, 2, 12, 720, 78, 719, 0, 0, 6, 4])
def in_205 : MethodName × ByteArray × Nat × Option FieldType × List (Nat × Nat × Nat × Nat) × List Nat := (yL_scannedUsage, cL_scannedUsage, 5, (some .int), [(0, 10, 13, 1)], [9, 155, 2, 12, 727, 78, 726, 0, 0, 6, 4])
def in_206 : MethodName × ByteArray × Nat × Option FieldType × List (Nat × Nat × Nat × Nat) × List Nat := (yL_softLimit, cL_softLimit, 5, (some .int), [(0, 10, 13, 1)], [9, 155, 2, 12, 743, 78, 742, 0, 0, 6, 4])
def in_207 : MethodName × ByteArray × Nat × Option FieldType × List (Nat × Nat × Nat × Nat) × List Nat := (yL_hardLimit, cL_hardLimit, 5, (some .int), [(0, 10, 13, 1)], [9, 155, 2, 12, 750, 78, 749, 0, 0, 6, 4])
def in_208 : MethodName × ByteArray × Nat × Option FieldType × List (Nat × Nat × Nat × Nat) × List Nat := (yL_graceStart, cL_graceStart, 5, (some .int), [(0, 10, 13, 1)], [9, 155, 2, 12, 757, 78, 756, 0, 0, 6, 4])
def in_209 : MethodName × ByteArray × Nat × Option FieldType × List (Nat × Nat × Nat × Nat) × List Nat := (yL_graceLeft, cL_graceLeft, 5, (some .int), [(0, 10, 13, 1)], [9, 156, 2, 12, 764, 78, 763, 0, 0, 6, 4])
def in_210 : MethodName × ByteArray × Nat × Option FieldType × List (Nat × Nat × Nat × Nat) × List Nat := (yL_available, cL_available, 5, (some .int), [(0, 10, 13, 1)], [9, 155, 2, 12, 775, 78, 774, 0, 0, 6, 4])
def in_211 : MethodName × ByteArray × Nat × Option FieldType × List (Nat × Nat × Nat × Nat) × List Nat := (yL_refusals, cL_refusals, 4, (some .int), [(0, 9, 12, 1)], [8, 133, 1, 6, 791, 78, 790, 0, 0, 6, 3])
def in_212 : MethodName × ByteArray × Nat × Option FieldType × List (Nat × Nat × Nat × Nat) × List Nat := (yL_fewestDeletions, cL_fewestDeletions, 4, (some .int), [(0, 9, 12, 1)], [8, 138, 1, 6, 798, 78, 797, 0, 0, 6, 3])
def in_213 : MethodName × ByteArray × Nat × Option FieldType × List (Nat × Nat × Nat × Nat) × List Nat := (yL_sizeOf, cL_sizeOf, 5, (some .int), [(0, 10, 13, 1)], [9, 156, 2, 12, 812, 78, 811, 0, 0, 6, 4])
def in_214 : MethodName × ByteArray × Nat × Option FieldType × List (Nat × Nat × Nat × Nat) × List Nat := (yL_ownerOf, cL_ownerOf, 5, (some .int), [(0, 10, 13, 1)], [9, 156, 2, 12, 819, 78, 818, 0, 0, 6, 4])
def in_215 : MethodName × ByteArray × Nat × Option FieldType × List (Nat × Nat × Nat × Nat) × List Nat := (yL_groupOf, cL_groupOf, 5, (some .int), [(0, 10, 13, 1)], [9, 156, 2, 12, 826, 78, 825, 0, 0, 6, 4])
def in_216 : MethodName × ByteArray × Nat × Option FieldType × List (Nat × Nat × Nat × Nat) × List Nat := (yL_directorySize, cL_directorySize, 4, (some .int), [(0, 9, 12, 1)], [8, 133, 1, 6, 833, 78, 832, 0, 0, 6, 3])
def in_217 : MethodName × ByteArray × Nat × Option FieldType × List (Nat × Nat × Nat × Nat) × List Nat := (yL_largestFile, cL_largestFile, 4, (some .int), [(0, 9, 12, 1)], [8, 133, 1, 6, 844, 78, 843, 0, 0, 6, 3])
def in_218 : MethodName × ByteArray × Nat × Option FieldType × List (Nat × Nat × Nat × Nat) × List Nat := (yL_ifCreated, cL_ifCreated, 6, (some .int), [(0, 12, 15, 1), (0, 12, 19, 2)], [8, 135, 3, 18, 855, 78, 854, 0, 0, 6, 5])
def in_219 : MethodName × ByteArray × Nat × Option FieldType × List (Nat × Nat × Nat × Nat) × List Nat := (yL_refusedOnDay, cL_refusedOnDay, 6, (some .int), [(0, 12, 15, 1), (0, 12, 19, 2)], [8, 136, 3, 18, 863, 78, 862, 0, 0, 6, 5])
def in_220 : MethodName × ByteArray × Nat × Option FieldType × List (Nat × Nat × Nat × Nat) × List Nat := (yL_graceLength, cL_graceLength, 4, (some .int), [(0, 9, 12, 1)], [8, 133, 1, 6, 872, 78, 871, 0, 0, 6, 3])
def in_221 : MethodName × ByteArray × Nat × Option FieldType × List (Nat × Nat × Nat × Nat) × List Nat := (yL_isExempt, cL_isExempt, 4, (some .int), [(0, 16, 19, 1)], [8, 133, 1, 6, 879, 78, 878, 0, 0, 6, 3])
def in_222 : MethodName × ByteArray × Nat × Option FieldType × List (Nat × Nat × Nat × Nat) × List Nat := (yL_event, cL_event, 5, (some .int), [(0, 10, 13, 1), (0, 10, 17, 2)], [7, 114, 2, 12, 886, 78, 885, 0, 0, 6, 4])
def in_223 : MethodName × ByteArray × Nat × Option FieldType × List (Nat × Nat × Nat × Nat) × List Nat := (x, code, 7, (some .boolean), [], [12, 438, 601024, 7293034, 0, 78, 0, 0, 0, 6, 1])
def inM (k : Nat) : MethodName × ByteArray × Nat × Option FieldType × List (Nat × Nat × Nat × Nat) × List Nat := (bif Nat.ble k 111 then (bif Nat.ble k 55 then (bif Nat.ble k 27 then (bif Nat.ble k 13 then (bif Nat.ble k 6 then (bif Nat.ble k 3 then (bif Nat.ble k 1 then (bif Nat.ble k 0 then in_0 else in_1) else (bif Nat.ble k 2 then in_2 else in_3)) else (bif Nat.ble k 5 then (bif Nat.ble k 4 then in_4 else in_5) else in_6)) else (bif Nat.ble k 10 then (bif Nat.ble k 8 then (bif Nat.ble k 7 then in_7 else in_8) else (bif Nat.ble k 9 then in_9 else in_10)) else (bif Nat.ble k 12 then (bif Nat.ble k 11 then in_11 else in_12) else in_13))) else (bif Nat.ble k 20 then (bif Nat.ble k 17 then (bif Nat.ble k 15 then (bif Nat.ble k 14 then in_14 else in_15) else (bif Nat.ble k 16 then in_16 else in_17)) else (bif Nat.ble k 19 then (bif Nat.ble k 18 then in_18 else in_19) else in_20)) else (bif Nat.ble k 24 then (bif Nat.ble k 22 then (bif Nat.ble k 21 then in_21 else in_22) else (bif Nat.ble k 23 then in_23 else in_24)) else (bif Nat.ble k 26 then (bif Nat.ble k 25 then in_25 else in_26) else in_27)))) else (bif Nat.ble k 41 then (bif Nat.ble k 34 then (bif Nat.ble k 31 then (bif Nat.ble k 29 then (bif Nat.ble k 28 then in_28 else in_29) else (bif Nat.ble k 30 then in_30 else in_31)) else (bif Nat.ble k 33 then (bif Nat.ble k 32 then in_32 else in_33) else in_34)) else (bif Nat.ble k 38 then (bif Nat.ble k 36 then (bif Nat.ble k 35 then in_35 else in_36) else (bif Nat.ble k 37 then in_37 else in_38)) else (bif Nat.ble k 40 then (bif Nat.ble k 39 then in_39 else in_40) else in_41))) else (bif Nat.ble k 48 then (bif Nat.ble k 45 then (bif Nat.ble k 43 then (bif Nat.ble k 42 then in_42 else in_43) else (bif Nat.ble k 44 then in_44 else in_45)) else (bif Nat.ble k 47 then (bif Nat.ble k 46 then in_46 else in_47) else in_48)) else (bif Nat.ble k 52 then (bif Nat.ble k 50 then (bif Nat.ble k 49 then in_49 else in_50) else (bif Nat.ble k 51 then in_51 else in_52)) else (bif Nat.ble k 54 then (bif Nat.ble k 53 then in_53 else in_54) else in_55))))) else (bif Nat.ble k 83 then (bif Nat.ble k 69 then (bif Nat.ble k 62 then (bif Nat.ble k 59 then (bif Nat.ble k 57 then (bif Nat.ble k 56 then in_56 else in_57) else (bif Nat.ble k 58 then in_58 else in_59)) else (bif Nat.ble k 61 then (bif Nat.ble k 60 then in_60 else in_61) else in_62)) else (bif Nat.ble k 66 then (bif Nat.ble k 64 then (bif Nat.ble k 63 then in_63 else in_64) else (bif Nat.ble k 65 then in_65 else in_66)) else (bif Nat.ble k 68 then (bif Nat.ble k 67 then in_67 else in_68) else in_69))) else (bif Nat.ble k 76 then (bif Nat.ble k 73 then (bif Nat.ble k 71 then (bif Nat.ble k 70 then in_70 else in_71) else (bif Nat.ble k 72 then in_72 else in_73)) else (bif Nat.ble k 75 then (bif Nat.ble k 74 then in_74 else in_75) else in_76)) else (bif Nat.ble k 80 then (bif Nat.ble k 78 then (bif Nat.ble k 77 then in_77 else in_78) else (bif Nat.ble k 79 then in_79 else in_80)) else (bif Nat.ble k 82 then (bif Nat.ble k 81 then in_81 else in_82) else in_83)))) else (bif Nat.ble k 97 then (bif Nat.ble k 90 then (bif Nat.ble k 87 then (bif Nat.ble k 85 then (bif Nat.ble k 84 then in_84 else in_85) else (bif Nat.ble k 86 then in_86 else in_87)) else (bif Nat.ble k 89 then (bif Nat.ble k 88 then in_88 else in_89) else in_90)) else (bif Nat.ble k 94 then (bif Nat.ble k 92 then (bif Nat.ble k 91 then in_91 else in_92) else (bif Nat.ble k 93 then in_93 else in_94)) else (bif Nat.ble k 96 then (bif Nat.ble k 95 then in_95 else in_96) else in_97))) else (bif Nat.ble k 104 then (bif Nat.ble k 101 then (bif Nat.ble k 99 then (bif Nat.ble k 98 then in_98 else in_99) else (bif Nat.ble k 100 then in_100 else in_101)) else (bif Nat.ble k 103 then (bif Nat.ble k 102 then in_102 else in_103) else in_104)) else (bif Nat.ble k 108 then (bif Nat.ble k 106 then (bif Nat.ble k 105 then in_105 else in_106) else (bif Nat.ble k 107 then in_107 else in_108)) else (bif Nat.ble k 110 then (bif Nat.ble k 109 then in_109 else in_110) else in_111)))))) else (bif Nat.ble k 167 then (bif Nat.ble k 139 then (bif Nat.ble k 125 then (bif Nat.ble k 118 then (bif Nat.ble k 115 then (bif Nat.ble k 113 then (bif Nat.ble k 112 then in_112 else in_113) else (bif Nat.ble k 114 then in_114 else in_115)) else (bif Nat.ble k 117 then (bif Nat.ble k 116 then in_116 else in_117) else in_118)) else (bif Nat.ble k 122 then (bif Nat.ble k 120 then (bif Nat.ble k 119 then in_119 else in_120) else (bif Nat.ble k 121 then in_121 else in_122)) else (bif Nat.ble k 124 then (bif Nat.ble k 123 then in_123 else in_124) else in_125))) else (bif Nat.ble k 132 then (bif Nat.ble k 129 then (bif Nat.ble k 127 then (bif Nat.ble k 126 then in_126 else in_127) else (bif Nat.ble k 128 then in_128 else in_129)) else (bif Nat.ble k 131 then (bif Nat.ble k 130 then in_130 else in_131) else in_132)) else (bif Nat.ble k 136 then (bif Nat.ble k 134 then (bif Nat.ble k 133 then in_133 else in_134) else (bif Nat.ble k 135 then in_135 else in_136)) else (bif Nat.ble k 138 then (bif Nat.ble k 137 then in_137 else in_138) else in_139)))) else (bif Nat.ble k 153 then (bif Nat.ble k 146 then (bif Nat.ble k 143 then (bif Nat.ble k 141 then (bif Nat.ble k 140 then in_140 else in_141) else (bif Nat.ble k 142 then in_142 else in_143)) else (bif Nat.ble k 145 then (bif Nat.ble k 144 then in_144 else in_145) else in_146)) else (bif Nat.ble k 150 then (bif Nat.ble k 148 then (bif Nat.ble k 147 then in_147 else in_148) else (bif Nat.ble k 149 then in_149 else in_150)) else (bif Nat.ble k 152 then (bif Nat.ble k 151 then in_151 else in_152) else in_153))) else (bif Nat.ble k 160 then (bif Nat.ble k 157 then (bif Nat.ble k 155 then (bif Nat.ble k 154 then in_154 else in_155) else (bif Nat.ble k 156 then in_156 else in_157)) else (bif Nat.ble k 159 then (bif Nat.ble k 158 then in_158 else in_159) else in_160)) else (bif Nat.ble k 164 then (bif Nat.ble k 162 then (bif Nat.ble k 161 then in_161 else in_162) else (bif Nat.ble k 163 then in_163 else in_164)) else (bif Nat.ble k 166 then (bif Nat.ble k 165 then in_165 else in_166) else in_167))))) else (bif Nat.ble k 195 then (bif Nat.ble k 181 then (bif Nat.ble k 174 then (bif Nat.ble k 171 then (bif Nat.ble k 169 then (bif Nat.ble k 168 then in_168 else in_169) else (bif Nat.ble k 170 then in_170 else in_171)) else (bif Nat.ble k 173 then (bif Nat.ble k 172 then in_172 else in_173) else in_174)) else (bif Nat.ble k 178 then (bif Nat.ble k 176 then (bif Nat.ble k 175 then in_175 else in_176) else (bif Nat.ble k 177 then in_177 else in_178)) else (bif Nat.ble k 180 then (bif Nat.ble k 179 then in_179 else in_180) else in_181))) else (bif Nat.ble k 188 then (bif Nat.ble k 185 then (bif Nat.ble k 183 then (bif Nat.ble k 182 then in_182 else in_183) else (bif Nat.ble k 184 then in_184 else in_185)) else (bif Nat.ble k 187 then (bif Nat.ble k 186 then in_186 else in_187) else in_188)) else (bif Nat.ble k 192 then (bif Nat.ble k 190 then (bif Nat.ble k 189 then in_189 else in_190) else (bif Nat.ble k 191 then in_191 else in_192)) else (bif Nat.ble k 194 then (bif Nat.ble k 193 then in_193 else in_194) else in_195)))) else (bif Nat.ble k 209 then (bif Nat.ble k 202 then (bif Nat.ble k 199 then (bif Nat.ble k 197 then (bif Nat.ble k 196 then in_196 else in_197) else (bif Nat.ble k 198 then in_198 else in_199)) else (bif Nat.ble k 201 then (bif Nat.ble k 200 then in_200 else in_201) else in_202)) else (bif Nat.ble k 206 then (bif Nat.ble k 204 then (bif Nat.ble k 203 then in_203 else in_204) else (bif Nat.ble k 205 then in_205 else in_206)) else (bif Nat.ble k 208 then (bif Nat.ble k 207 then in_207 else in_208) else in_209))) else (bif Nat.ble k 216 then (bif Nat.ble k 213 then (bif Nat.ble k 211 then (bif Nat.ble k 210 then in_210 else in_211) else (bif Nat.ble k 212 then in_212 else in_213)) else (bif Nat.ble k 215 then (bif Nat.ble k 214 then in_214 else in_215) else in_216)) else (bif Nat.ble k 220 then (bif Nat.ble k 218 then (bif Nat.ble k 217 then in_217 else in_218) else (bif Nat.ble k 219 then in_219 else in_220)) else (bif Nat.ble k 222 then (bif Nat.ble k 221 then in_221 else in_222) else in_223)))))))
end
section
def cdM (k pc : Nat) : Option IcM := ((cdT k).getD (pc / 64) []).getD (pc % 64) none
def yM (k : Nat) : MethodName := (inM k).1
def byM (k : Nat) : ByteArray := (inM k).2.1
def mxM (k : Nat) : Nat := (inM k).2.2.1
def rtM (k : Nat) : Option FieldType := (inM k).2.2.2.1
def hsM (k : Nat) : List (Nat × Nat × Nat × Nat) := (inM k).2.2.2.2.1
def nfM (k : Nat) : Nat := gaM (inM k).2.2.2.2.2 0
def nlM (k : Nat) : Nat := gaM (inM k).2.2.2.2.2 1
def ncM (k : Nat) : Nat := gaM (inM k).2.2.2.2.2 2
def nsM (k : Nat) : Nat := gaM (inM k).2.2.2.2.2 3
def fvM (σ : Mem) (v k κ : Nat) : Value := bif Nat.beq κ 1 then .ref (prM σ v k) else .int (rdM σ v k)
/-- what a call does with its answer: Φ is the callee -/
def caM (Φ : Nat → List Value → Mem → Option OutM) (K : FrM → Mem → Option OutM) (k : Nat) (a : List Nat) (fr : FrM) (σ : Mem) : Option OutM :=
  match fr with
  | (pc, ls, st, kc, ks) =>
    if (gaM a 1 ≤ st.length ∧ (st.take (gaM a 1)).all isOne = true) ∧ catM (st.drop (gaM a 1)) ≤ 8 ∧ kc + gaM a 3 ≤ gaM a 5 ∧ ks + gaM a 4 ≤ gaM a 6 then
      match Φ (gaM a 0) (st.take (gaM a 1)).reverse σ with
      | some (.inl v, σ') => K (pc + 3, ls, v.toList ++ st.drop (gaM a 1), kc + gaM a 3, ks + gaM a 4) σ'
      | some (.inr E, σ') => bif Nat.ble 4 (gaM a 2) then none else match hdM (hsM k) pc E with
        | some h => match cdM k h with
          | some ic => K (h + ic.2.1, ls.set (gaM ic.2.2.1 0) none, [], kc + gaM a 3, ks + gaM a 4) σ'
          | none => none
        | none => bif (hsM k).isEmpty then some (.inr E, σ') else none
      | none => none
    else none
/-- the receiver of a call -/
def rcM_ (n : Nat) (f : Nat → Option OutM) (st : List Value) : Option OutM :=
  match st.drop (n - 1) with
  | .ref b :: _ => f b
  | _ => none
def stM (Φ : Nat → List Value → Mem → Option OutM) (K : FrM → Mem → Option OutM) (k : Nat) (ic : IcM) (fr : FrM) (σ : Mem) : Option OutM :=
  match fr with
  | (pc, ls, st, kc, ks) =>
  match ic with
  | (i, len, a, c) =>
  match i with
  | .iconst _ | .bipush _ | .sipush _ | .ldc _ | .ldc_w _ => K (pc + len, ls, .int c :: st, kc, ks) σ
  | .lconst _ => K (pc + len, ls, .long c.toInt64 :: st, kc, ks) σ
  | .iload _ | .iload_n _ => oI (fun x => K (pc + len, ls, .int x :: st, kc, ks) σ) (ls.getD (gaM a 0) none)
  | .aload _ | .aload_n _ => oR (fun x => K (pc + len, ls, .ref x :: st, kc, ks) σ) (ls.getD (gaM a 0) none)
  | .istore _ | .istore_n _ => sI1 (fun x r => K (pc + len, ls.set (gaM a 0) (some (.int x)), r, kc, ks) σ) st
  | .astore _ | .astore_n _ => sR1 (fun x r => K (pc + len, ls.set (gaM a 0) (some (.ref x)), r, kc, ks) σ) st
  | .iinc _ _ => oI (fun x => K (pc + len, ls.set (gaM a 0) (some (.int (x + c))), st, kc, ks) σ) (ls.getD (gaM a 0) none)
  | .iadd => sI2 (fun x y r => K (pc + len, ls, .int (x + y) :: r, kc, ks) σ) st
  | .isub => sI2 (fun x y r => K (pc + len, ls, .int (x - y) :: r, kc, ks) σ) st
  | .imul => sI2 (fun x y r => K (pc + len, ls, .int (x * y) :: r, kc, ks) σ) st
  | .iand => sI2 (fun x y r => K (pc + len, ls, .int (x &&& y) :: r, kc, ks) σ) st
  | .ishl => sI2 (fun x y r => K (pc + len, ls, .int (x <<< (y &&& 31)) :: r, kc, ks) σ) st
  | .ishr => sI2 (fun x y r => K (pc + len, ls, .int (x >>> (y &&& 31)) :: r, kc, ks) σ) st
  | .idiv => sI2 (fun x y r => if y = 0 then none else K (pc + len, ls, .int (x / y) :: r, kc, ks) σ) st
  | .irem => sI2 (fun x y r => if y = 0 then none else K (pc + len, ls, .int (x - x / y * y) :: r, kc, ks) σ) st
  | .ineg => sI1 (fun x r => K (pc + len, ls, .int (-x) :: r, kc, ks) σ) st
  | .i2l => sI1 (fun x r => K (pc + len, ls, .long x.toInt64 :: r, kc, ks) σ) st
  | .i2c => sI1 (fun x r => K (pc + len, ls, .int (x.toUInt32 % 65536).toInt32 :: r, kc, ks) σ) st
  | .lcmp => sL2 (fun x y r => K (pc + len, ls, .int (lg_cmp x y) :: r, kc, ks) σ) st
  | .ifCond .eq _ => sI1 (fun x r => if x = 0 then K (gaM a 0, ls, r, kc, ks) σ else K (pc + len, ls, r, kc, ks) σ) st
  | .ifCond .ne _ => sI1 (fun x r => if x = 0 then K (pc + len, ls, r, kc, ks) σ else K (gaM a 0, ls, r, kc, ks) σ) st
  | .ifCond .lt _ => sI1 (fun x r => if x < 0 then K (gaM a 0, ls, r, kc, ks) σ else K (pc + len, ls, r, kc, ks) σ) st
  | .ifCond .ge _ => sI1 (fun x r => if x < 0 then K (pc + len, ls, r, kc, ks) σ else K (gaM a 0, ls, r, kc, ks) σ) st
  | .ifCond .gt _ => sI1 (fun x r => if 0 < x then K (gaM a 0, ls, r, kc, ks) σ else K (pc + len, ls, r, kc, ks) σ) st
  | .ifCond .le _ => sI1 (fun x r => if 0 < x then K (pc + len, ls, r, kc, ks) σ else K (gaM a 0, ls, r, kc, ks) σ) st
  | .if_icmp .eq _ => sI2 (fun x y r => if x = y then K (gaM a 0, ls, r, kc, ks) σ else K (pc + len, ls, r, kc, ks) σ) st
  | .if_icmp .ne _ => sI2 (fun x y r => if x = y then K (pc + len, ls, r, kc, ks) σ else K (gaM a 0, ls, r, kc, ks) σ) st
  | .if_icmp .lt _ => sI2 (fun x y r => if x < y then K (gaM a 0, ls, r, kc, ks) σ else K (pc + len, ls, r, kc, ks) σ) st
  | .if_icmp .ge _ => sI2 (fun x y r => if x < y then K (pc + len, ls, r, kc, ks) σ else K (gaM a 0, ls, r, kc, ks) σ) st
  | .if_icmp .gt _ => sI2 (fun x y r => if y < x then K (gaM a 0, ls, r, kc, ks) σ else K (pc + len, ls, r, kc, ks) σ) st
  | .if_icmp .le _ => sI2 (fun x y r => if y < x then K (pc + len, ls, r, kc, ks) σ else K (gaM a 0, ls, r, kc, ks) σ) st
  | .goto _ => K (gaM a 0, ls, st, kc, ks) σ
  | .getfield _ => sR1 (fun v r => if tkM σ v = (1, gaM a 0) then K (pc + len, ls, fvM σ v (gaM a 1) (gaM a 2) :: r, kc, ks) σ else none) st
  | .putfield _ => bif Nat.beq (gaM a 2) 1 then sRR (fun u v r => if tkM σ v = (1, gaM a 0) then K (pc + len, ls, r, kc, ks) (wpM σ v (gaM a 1) u) else none) st
      else bif Nat.beq (gaM a 2) 2 then sIR (fun x v r => if tkM σ v = (1, gaM a 0) ∧ 0 ≤ x ∧ x < 65536 then K (pc + len, ls, r, kc, ks) (wrM σ v (gaM a 1) x) else none) st
      else sIR (fun x v r => if tkM σ v = (1, gaM a 0) then K (pc + len, ls, r, kc, ks) (wrM σ v (gaM a 1) x) else none) st
  | .iaload => sIR (fun i v r => if aOk 2 σ v i then K (pc + len, ls, .int (rdM σ v i.toNatClampNeg) :: r, kc, ks) σ else none) st
  | .baload => sIR (fun i v r => if aOk 3 σ v i then K (pc + len, ls, .int (rdM σ v i.toNatClampNeg) :: r, kc, ks) σ else none) st
  | .caload => sIR (fun i v r => if aOk 4 σ v i then K (pc + len, ls, .int (rdM σ v i.toNatClampNeg) :: r, kc, ks) σ else none) st
  | .laload => sIR (fun i v r => if aOk 5 σ v i then K (pc + len, ls, .long (rdM σ v i.toNatClampNeg).toInt64 :: r, kc, ks) σ else none) st
  | .aaload => sIR (fun i v r => if aOk 6 σ v i then K (pc + len, ls, .ref (prM σ v i.toNatClampNeg) :: r, kc, ks) σ else none) st
  | .iastore => sIIR (fun x i v r => if aOk 2 σ v i ∧ 8 ≤ v then K (pc + len, ls, r, kc, ks) (wrM σ v i.toNatClampNeg x) else none) st
  | .bastore => sIIR (fun x i v r => if aOk 3 σ v i then K (pc + len, ls, r, kc, ks) (wrM σ v i.toNatClampNeg (x &&& 1)) else none) st
  | .castore => sIIR (fun x i v r => if aOk 4 σ v i then K (pc + len, ls, r, kc, ks) (wrM σ v i.toNatClampNeg (x.toUInt32 % 65536).toInt32) else none) st
  | .lastore => sLIR (fun x i v r => if aOk 5 σ v i ∧ x.toInt32.toInt64 = x then K (pc + len, ls, r, kc, ks) (wrM σ v i.toNatClampNeg x.toInt32) else none) st
  | .aastore => sRIR (fun u i v r => if aOk 6 σ v i ∧ tkM σ u = (1, 2) then K (pc + len, ls, r, kc, ks) (wpM σ v i.toNatClampNeg u) else none) st
  | .arraylength => sR1 (fun v r => if (tkM σ v).1 = 2 then K (pc + len, ls, .int (Int32.ofNat (tkM σ v).2) :: r, kc, ks) σ else none) st
  | .getstatic _ => K (pc + len, ls, .ref (gaM a 0) :: st, kc, ks) σ
  | .dup => match st with
    | v :: r => bif isOne v then K (pc + len, ls, v :: v :: r, kc, ks) σ else none
    | _ => none
  | .dup2 => match st with
    | v :: w :: r => bif isOne v && isOne w then K (pc + len, ls, v :: w :: v :: w :: r, kc, ks) σ else none
    | _ => none
  | .pop => match st with
    | v :: r => bif isOne v then K (pc + len, ls, r, kc, ks) σ else none
    | _ => none
  | .ireturn => match st with
    | [.int x] => if kc ≤ gaM a 0 ∧ ks ≤ gaM a 1 then bif Nat.beq (gaM a 2) 2 then (if x = 0 ∨ x = 1 then some (.inl (some (.int x)), σ) else none) else some (.inl (some (.int x)), σ) else none
    | _ => none
  | .areturn => match st with
    | [.ref v] => if kc ≤ gaM a 0 ∧ ks ≤ gaM a 1 then some (.inl (some (.ref v)), σ) else none
    | _ => none
  | .return_ => match st with
    | [] => if kc ≤ gaM a 0 ∧ ks ≤ gaM a 1 then some (.inl none, σ) else none
    | _ => none
  | .new _ => bif Nat.beq (gaM a 0) 0 then (if kc + 1 ≤ gaM a 3 ∧ ks + gaM a 2 ≤ gaM a 4 then K (pc + len, ls, .ref (nxM σ) :: st, kc + 1, ks + gaM a 2) (nwM σ 1 (gaM a 1)) else none)
      else (if kc + 1 ≤ gaM a 3 ∧ ks + 6 ≤ gaM a 4 ∧ catM st ≤ 8 then some (.inr (gaM a 0), σ) else none)
  | .newarray _ => sI1 (fun n r => if ¬ n < 0 ∧ n.toNatClampNeg ≤ 5000 ∧ kc + 1 ≤ gaM a 1 ∧ ks + n.toNatClampNeg ≤ gaM a 2 then K (pc + len, ls, .ref (nxM σ) :: r, kc + 1, ks + n.toNatClampNeg) (nwM σ (gaM a 0) n.toNatClampNeg) else none) st
  | .anewarray _ => sI1 (fun n r => if ¬ n < 0 ∧ n.toNatClampNeg ≤ 5000 ∧ kc + 1 ≤ gaM a 1 ∧ ks + n.toNatClampNeg ≤ gaM a 2 then K (pc + len, ls, .ref (nxM σ) :: r, kc + 1, ks + n.toNatClampNeg) (nwM σ 6 n.toNatClampNeg) else none) st
  | .tableswitch _ _ _ _ | .lookupswitch _ _ => sI1 (fun x r => swM x (gaM a 0) (fun t => K (t, ls, r, kc, ks) σ) (a.drop 1)) st
  | .invokestatic _ =>
      bif Nat.beq (gaM a 2) 6 then sI2 (fun x y r => if catM r ≤ 8 ∧ kc ≤ gaM a 5 ∧ ks ≤ gaM a 6 then K (pc + 3, ls, .int (if x < y then y else x) :: r, kc, ks) σ else none) st
      else bif Nat.beq (gaM a 2) 7 then sI2 (fun x y r => if catM r ≤ 8 ∧ kc ≤ gaM a 5 ∧ ks ≤ gaM a 6 then K (pc + 3, ls, .int (if y < x then y else x) :: r, kc, ks) σ else none) st
      else bif Nat.beq (gaM a 2) 8 then sCp (fun n dp dv sp sv r => if ((tkM σ sv).1 = 2 ∧ 8 ≤ sv ∧ (tkM σ dv).1 = 2 ∧ 8 ≤ dv) ∧ (¬ sp < 0 ∧ ¬ dp < 0 ∧ ¬ n < 0) ∧ sp.toNatClampNeg + n.toNatClampNeg ≤ (tkM σ sv).2 ∧ dp.toNatClampNeg + n.toNatClampNeg ≤ (tkM σ dv).2 ∧ catM r ≤ 8 then
          K (pc + 3, ls, r, kc, ks) (cpM σ sv sp.toNatClampNeg dv dp.toNatClampNeg n.toNatClampNeg) else none) st
      else caM Φ K k a (pc, ls, st, kc, ks) σ
  | .invokevirtual _ => rcM_ (gaM a 1) (fun b => if tkM σ b = (1, gaM a 8) then caM Φ K k a (pc, ls, st, kc, ks) σ else none) st
  | .invokespecial _ =>
      bif Nat.beq (gaM a 2) 9 then sR1 (fun v r => if ¬ v = 0 ∧ catM r ≤ 8 then K (pc + 3, ls, r, kc, ks) σ else none) st
      else rcM_ (gaM a 1) (fun b => if tkM σ b = (1, gaM a 8) then caM Φ K k a (pc, ls, st, kc, ks) σ else none) st
  | _ => none
/-- a method's entry -/
def enM (k : Nat) (as : List Value) : FrM := (0, as.map some ++ List.replicate (mxM k - as.length) none, [], 0, 0)
def runM : Nat → Nat → FrM → Mem → Option OutM
  | 0, _, _, _ => none
  | n + 1, k, fr, σ => match cdM k fr.1 with
    | some ic => stM (fun k' as σ' => runM n k' (enM k' as) σ') (runM n k) k ic fr σ
    | none => none
end
section
/-- from some number of steps on -/
def EvM (F : Nat → Option OutM) (o : OutM) : Prop := ∃ n, ∀ m, n ≤ m → F m = some o
theorem ev_c {x : Option OutM} {o : OutM} (h : x = some o) : EvM (fun _ => x) o := ⟨0, fun _ _ => h⟩
theorem ev_ite {c : Prop} [Decidable c] {A B : Option OutM} {A' B' : Nat → Option OutM} {o : OutM} (h : (if c then A else B) = some o) (ha : A = some o → EvM A' o) (hb : B = some o → EvM B' o) : EvM (fun m => if c then A' m else B' m) o := by
  by_cases hc : c
  · rw [if_pos hc] at h
    obtain ⟨n, hn⟩ := ha h
    exact ⟨n, fun m hm => (if_pos hc).trans (hn m hm)⟩
  · rw [if_neg hc] at h
    obtain ⟨n, hn⟩ := hb h
    exact ⟨n, fun m hm => (if_neg hc).trans (hn m hm)⟩
theorem ev_bif {c : Bool} {A B : Option OutM} {A' B' : Nat → Option OutM} {o : OutM} (h : (bif c then A else B) = some o) (ha : A = some o → EvM A' o) (hb : B = some o → EvM B' o) : EvM (fun m => bif c then A' m else B' m) o := by
  cases c
  · exact hb h
  · exact ha h
theorem ev_no {F : Nat → Option OutM} {o : OutM} (h : (none : Option OutM) = some o) : EvM F o := by cases h
theorem ev_I1 {f : Int32 → List Value → Option OutM} {f' : Nat → Int32 → List Value → Option OutM} {st : List Value} {o : OutM} (h : sI1 f st = some o) (k : ∀ x r, f x r = some o → EvM (fun m => f' m x r) o) : EvM (fun m => sI1 (f' m) st) o := by
  unfold sI1 at h ⊢
  split at h
  · exact k _ _ h
  · cases h
theorem ev_I2 {f : Int32 → Int32 → List Value → Option OutM} {f' : Nat → Int32 → Int32 → List Value → Option OutM} {st : List Value} {o : OutM} (h : sI2 f st = some o) (k : ∀ x y r, f x y r = some o → EvM (fun m => f' m x y r) o) : EvM (fun m => sI2 (f' m) st) o := by
  unfold sI2 at h ⊢
  split at h
  · exact k _ _ _ h
  · cases h
theorem ev_L2 {f : Int64 → Int64 → List Value → Option OutM} {f' : Nat → Int64 → Int64 → List Value → Option OutM} {st : List Value} {o : OutM} (h : sL2 f st = some o) (k : ∀ x y r, f x y r = some o → EvM (fun m => f' m x y r) o) : EvM (fun m => sL2 (f' m) st) o := by
  unfold sL2 at h ⊢
  split at h
  · exact k _ _ _ h
  · cases h
theorem ev_R1 {f : Nat → List Value → Option OutM} {f' : Nat → Nat → List Value → Option OutM} {st : List Value} {o : OutM} (h : sR1 f st = some o) (k : ∀ x r, f x r = some o → EvM (fun m => f' m x r) o) : EvM (fun m => sR1 (f' m) st) o := by
  unfold sR1 at h ⊢
  split at h
  · exact k _ _ h
  · cases h
theorem ev_IR {f : Int32 → Nat → List Value → Option OutM} {f' : Nat → Int32 → Nat → List Value → Option OutM} {st : List Value} {o : OutM} (h : sIR f st = some o) (k : ∀ x y r, f x y r = some o → EvM (fun m => f' m x y r) o) : EvM (fun m => sIR (f' m) st) o := by
  unfold sIR at h ⊢
  split at h
  · exact k _ _ _ h
  · cases h
theorem ev_RR {f : Nat → Nat → List Value → Option OutM} {f' : Nat → Nat → Nat → List Value → Option OutM} {st : List Value} {o : OutM} (h : sRR f st = some o) (k : ∀ x y r, f x y r = some o → EvM (fun m => f' m x y r) o) : EvM (fun m => sRR (f' m) st) o := by
  unfold sRR at h ⊢
  split at h
  · exact k _ _ _ h
  · cases h
theorem ev_IIR {f : Int32 → Int32 → Nat → List Value → Option OutM} {f' : Nat → Int32 → Int32 → Nat → List Value → Option OutM} {st : List Value} {o : OutM} (h : sIIR f st = some o) (k : ∀ x y z r, f x y z r = some o → EvM (fun m => f' m x y z r) o) : EvM (fun m => sIIR (f' m) st) o := by
  unfold sIIR at h ⊢
  split at h
  · exact k _ _ _ _ h
  · cases h
theorem ev_LIR {f : Int64 → Int32 → Nat → List Value → Option OutM} {f' : Nat → Int64 → Int32 → Nat → List Value → Option OutM} {st : List Value} {o : OutM} (h : sLIR f st = some o) (k : ∀ x y z r, f x y z r = some o → EvM (fun m => f' m x y z r) o) : EvM (fun m => sLIR (f' m) st) o := by
  unfold sLIR at h ⊢
  split at h
  · exact k _ _ _ _ h
  · cases h
theorem ev_RIR {f : Nat → Int32 → Nat → List Value → Option OutM} {f' : Nat → Nat → Int32 → Nat → List Value → Option OutM} {st : List Value} {o : OutM} (h : sRIR f st = some o) (k : ∀ x y z r, f x y z r = some o → EvM (fun m => f' m x y z r) o) : EvM (fun m => sRIR (f' m) st) o := by
  unfold sRIR at h ⊢
  split at h
  · exact k _ _ _ _ h
  · cases h
theorem ev_Cp {f : Int32 → Int32 → Nat → Int32 → Nat → List Value → Option OutM} {f' : Nat → Int32 → Int32 → Nat → Int32 → Nat → List Value → Option OutM} {st : List Value} {o : OutM} (h : sCp f st = some o) (k : ∀ x y z u v r, f x y z u v r = some o → EvM (fun m => f' m x y z u v r) o) : EvM (fun m => sCp (f' m) st) o := by
  unfold sCp at h ⊢
  split at h
  · exact k _ _ _ _ _ _ h
  · cases h
theorem ev_oI {f : Int32 → Option OutM} {f' : Nat → Int32 → Option OutM} {v : Option Value} {o : OutM} (h : oI f v = some o) (k : ∀ x, f x = some o → EvM (fun m => f' m x) o) : EvM (fun m => oI (f' m) v) o := by
  unfold oI at h ⊢
  split at h
  · exact k _ h
  · cases h
theorem ev_oR {f : Nat → Option OutM} {f' : Nat → Nat → Option OutM} {v : Option Value} {o : OutM} (h : oR f v = some o) (k : ∀ x, f x = some o → EvM (fun m => f' m x) o) : EvM (fun m => oR (f' m) v) o := by
  unfold oR at h ⊢
  split at h
  · exact k _ h
  · cases h
theorem ev_rc {n : Nat} {f : Nat → Option OutM} {f' : Nat → Nat → Option OutM} {st : List Value} {o : OutM} (h : rcM_ n f st = some o) (k : ∀ x, f x = some o → EvM (fun m => f' m x) o) : EvM (fun m => rcM_ n (f' m) st) o := by
  unfold rcM_ at h ⊢
  split at h
  · exact k _ h
  · cases h
theorem ev_sw {x : Int32} {d : Nat} {f : Nat → Option OutM} {f' : Nat → Nat → Option OutM} {o : OutM} (k : ∀ t, f t = some o → EvM (fun m => f' m t) o) : ∀ (l : List Nat), swM x d f l = some o → EvM (fun m => swM x d (f' m) l) o
  | [], h => k _ h
  | [_], h => k _ h
  | a :: t :: r, h => by
    unfold swM at h ⊢
    exact ev_ite h (fun h => k _ h) (fun h => ev_sw k r h)
theorem ev_ca {Φ : Nat → List Value → Mem → Option OutM} {K : FrM → Mem → Option OutM} {Φ' : Nat → Nat → List Value → Mem → Option OutM} {K' : Nat → FrM → Mem → Option OutM} {k : Nat} {a : List Nat} {fr : FrM} {σ : Mem} {o : OutM}
    (hΦ : ∀ k' as σ' o', Φ k' as σ' = some o' → EvM (fun m => Φ' m k' as σ') o') (hK : ∀ fr' σ', K fr' σ' = some o → EvM (fun m => K' m fr' σ') o) (h : caM Φ K k a fr σ = some o) : EvM (fun m => caM (Φ' m) (K' m) k a fr σ) o := by
  obtain ⟨pc, ls, st, kc, ks⟩ := fr
  unfold caM at h ⊢
  dsimp only at h ⊢
  refine ev_ite h (fun h => ?_) (fun h => ev_no h)
  cases e : Φ (gaM a 0) (st.take (gaM a 1)).reverse σ with
  | none => rw [e] at h; cases h
  | some p =>
    rw [e] at h
    obtain ⟨n1, h1⟩ := hΦ _ _ _ _ e
    obtain ⟨v, σ'⟩ := p
    cases v with
    | inl v =>
      obtain ⟨n2, h2⟩ := hK _ _ h
      exact ⟨max n1 n2, fun m hm => by dsimp only; rw [show Φ' m (gaM a 0) (st.take (gaM a 1)).reverse σ = _ from h1 m (by omega)]; exact h2 m (by omega)⟩
    | inr E =>
      have key : EvM (fun m => bif Nat.ble 4 (gaM a 2) then none else match hdM (hsM k) pc E with
        | some h => match cdM k h with
          | some ic => K' m (h + ic.2.1, ls.set (gaM ic.2.2.1 0) none, [], kc + gaM a 3, ks + gaM a 4) σ'
          | none => none
        | none => bif (hsM k).isEmpty then some (.inr E, σ') else none) o := by
        refine ev_bif h (fun h => ev_no h) (fun h => ?_)
        cases e2 : hdM (hsM k) pc E with
        | none => rw [e2] at h; exact ev_c h
        | some t =>
          rw [e2] at h
          dsimp only at h
          cases e3 : cdM k t with
          | none => rw [e3] at h; cases h
          | some ic =>
            rw [e3] at h
            dsimp only
            rw [e3]
            exact hK _ _ h
      obtain ⟨n2, h2⟩ := key
      exact ⟨max n1 n2, fun m hm => by dsimp only; rw [show Φ' m (gaM a 0) (st.take (gaM a 1)).reverse σ = _ from h1 m (by omega)]; exact h2 m (by omega)⟩
set_option maxHeartbeats 4000000 in
theorem ev_st {Φ : Nat → List Value → Mem → Option OutM} {K : FrM → Mem → Option OutM} {Φ' : Nat → Nat → List Value → Mem → Option OutM} {K' : Nat → FrM → Mem → Option OutM} {k : Nat} {ic : IcM} {fr : FrM} {σ : Mem} {o : OutM}
    (hΦ : ∀ k' as σ' o', Φ k' as σ' = some o' → EvM (fun m => Φ' m k' as σ') o') (hK : ∀ fr' σ', K fr' σ' = some o → EvM (fun m => K' m fr' σ') o) (h : stM Φ K k ic fr σ = some o) : EvM (fun m => stM (Φ' m) (K' m) k ic fr σ) o := by
  obtain ⟨pc, ls, st, kc, ks⟩ := fr
  obtain ⟨i, len, a, c⟩ := ic
  cases i
  case ifCond op off => cases op <;> exact ev_I1 h (fun _ _ h => ev_ite h (fun h => hK _ _ h) (fun h => hK _ _ h))
  case if_icmp op off => cases op <;> exact ev_I2 h (fun _ _ _ h => ev_ite h (fun h => hK _ _ h) (fun h => hK _ _ h))
  case tableswitch => exact ev_I1 h (fun _ _ h => ev_sw (fun _ h => hK _ _ h) _ h)
  case lookupswitch => exact ev_I1 h (fun _ _ h => ev_sw (fun _ h => hK _ _ h) _ h)
  case invokevirtual => exact ev_rc h (fun _ h => ev_ite h (fun h => ev_ca (a := a) (fr := (pc, ls, st, kc, ks)) (Φ' := Φ') (K' := K') hΦ hK h) (fun h => ev_no h))
  case invokespecial => exact ev_bif h (fun h => ev_R1 h (fun _ _ h => ev_ite h (fun h => hK _ _ h) (fun h => ev_no h))) (fun h => ev_rc h (fun _ h => ev_ite h (fun h => ev_ca (a := a) (fr := (pc, ls, st, kc, ks)) (Φ' := Φ') (K' := K') hΦ hK h) (fun h => ev_no h)))
  case invokestatic =>
    exact ev_bif h (fun h => ev_I2 h (fun _ _ _ h => ev_ite h (fun h => hK _ _ h) (fun h => ev_no h))) (fun h =>
      ev_bif h (fun h => ev_I2 h (fun _ _ _ h => ev_ite h (fun h => hK _ _ h) (fun h => ev_no h))) (fun h =>
      ev_bif h (fun h => ev_Cp h (fun _ _ _ _ _ _ h => ev_ite h (fun h => hK _ _ h) (fun h => ev_no h))) (fun h => ev_ca (a := a) (fr := (pc, ls, st, kc, ks)) (Φ' := Φ') (K' := K') hΦ hK h)))
  case new => exact ev_bif h (fun h => ev_ite h (fun h => hK _ _ h) (fun h => ev_no h)) (fun h => ev_c h)
  case putfield =>
    exact ev_bif h (fun h => ev_RR h (fun _ _ _ h => ev_ite h (fun h => hK _ _ h) (fun h => ev_no h))) (fun h =>
      ev_bif h (fun h => ev_IR h (fun _ _ _ h => ev_ite h (fun h => hK _ _ h) (fun h => ev_no h))) (fun h => ev_IR h (fun _ _ _ h => ev_ite h (fun h => hK _ _ h) (fun h => ev_no h))))
  case dup =>
    cases st with
    | nil => exact ev_no h
    | cons v r => exact ev_bif h (fun h => hK _ _ h) (fun h => ev_no h)
  case pop =>
    cases st with
    | nil => exact ev_no h
    | cons v r => exact ev_bif h (fun h => hK _ _ h) (fun h => ev_no h)
  case dup2 =>
    cases st with
    | nil => exact ev_no h
    | cons v r => cases r with
      | nil => exact ev_no h
      | cons w r => exact ev_bif h (fun h => hK _ _ h) (fun h => ev_no h)
  all_goals first
    | exact hK _ _ h
    | exact ev_c h
    | exact ev_I1 h (fun _ _ h => hK _ _ h)
    | exact ev_I1 h (fun _ _ h => ev_ite h (fun h => hK _ _ h) (fun h => ev_no h))
    | exact ev_I2 h (fun _ _ _ h => hK _ _ h)
    | exact ev_I2 h (fun _ _ _ h => ev_ite h (fun h => ev_no h) (fun h => hK _ _ h))
    | exact ev_L2 h (fun _ _ _ h => hK _ _ h)
    | exact ev_R1 h (fun _ _ h => hK _ _ h)
    | exact ev_oI h (fun _ h => hK _ _ h)
    | exact ev_oR h (fun _ h => hK _ _ h)
    | exact ev_R1 h (fun _ _ h => ev_ite h (fun h => hK _ _ h) (fun h => ev_no h))
    | exact ev_IR h (fun _ _ _ h => ev_ite h (fun h => hK _ _ h) (fun h => ev_no h))
    | exact ev_IIR h (fun _ _ _ _ h => ev_ite h (fun h => hK _ _ h) (fun h => ev_no h))
    | exact ev_LIR h (fun _ _ _ _ h => ev_ite h (fun h => hK _ _ h) (fun h => ev_no h))
    | exact ev_RIR h (fun _ _ _ _ h => ev_ite h (fun h => hK _ _ h) (fun h => ev_no h))
noncomputable def RuM (k : Nat) (fr : FrM) (σ : Mem) : Option OutM := @dite _ (∃ o, EvM (fun n => runM n k fr σ) o) (Classical.propDecidable _) (fun h => some (Classical.choose h)) (fun _ => none)
theorem ev_det {F : Nat → Option OutM} {o o' : OutM} (h : EvM F o) (h' : EvM F o') : o = o' := by
  obtain ⟨n, hn⟩ := h
  obtain ⟨m, hm⟩ := h'
  have h1 := hn (max n m) (by omega)
  have h2 := hm (max n m) (by omega)
  exact Option.some.inj (h1.symm.trans h2)
theorem Ru_iff {k : Nat} {fr : FrM} {σ : Mem} {o : OutM} : RuM k fr σ = some o ↔ EvM (fun n => runM n k fr σ) o := by
  unfold RuM
  constructor
  · intro h
    split at h
    · next hx => rw [← Option.some.inj h]; exact Classical.choose_spec hx
    · cases h
  · intro h
    have hx : ∃ o, EvM (fun n => runM n k fr σ) o := ⟨o, h⟩
    rw [dif_pos hx, ev_det h (Classical.choose_spec hx)]
/-- a method's run -/
noncomputable def DoM (k : Nat) (as : List Value) (σ : Mem) : Option OutM := RuM k (enM k as) σ
theorem Do_of {k : Nat} {as : List Value} {σ : Mem} {o : OutM} (h : RuM k (enM k as) σ = some o) : DoM k as σ = some o := h
theorem Ru_step {k : Nat} {fr : FrM} {σ : Mem} {o : OutM} {ic : IcM} (hc : cdM k fr.1 = some ic) (h : stM DoM (RuM k) k ic fr σ = some o) : RuM k fr σ = some o := by
  refine Ru_iff.mpr ?_
  obtain ⟨n, hn⟩ := ev_st (Φ' := fun n k' as σ' => runM n k' (enM k' as) σ') (K' := fun n => runM n k) (fun k' as σ' o' h => Ru_iff.mp h) (fun fr' σ' h => Ru_iff.mp h) h
  refine ⟨n + 1, fun m hm => ?_⟩
  obtain ⟨m, rfl⟩ : ∃ m', m = m' + 1 := ⟨m - 1, by omega⟩
  show (match cdM k fr.1 with
    | some ic => stM (fun k' as σ' => runM m k' (enM k' as) σ') (runM m k) k ic fr σ
    | none => none) = some o
  rw [hc]
  exact hn m (by omega)
/-- several steps at once, up to the places in cuts -/
def cuM (cuts : List Nat) (R S : FrM → Mem → Option OutM) : FrM → Mem → Option OutM
  | (pc, ls, st, kc, ks), σ => bif cuts.elem pc then R (pc, ls, st, kc, ks) σ else S (pc, ls, st, kc, ks) σ
def stC (D : Nat → List Value → Mem → Option OutM) (R : FrM → Mem → Option OutM) (k : Nat) (cuts : List Nat) : Nat → FrM → Mem → Option OutM
  | 0, fr, σ => R fr σ
  | j + 1, (pc, ls, st, kc, ks), σ => match cdM k pc with
    | some ic => stM D (cuM cuts R (stC D R k cuts j)) k ic (pc, ls, st, kc, ks) σ
    | none => none
theorem st_mono {Φ : Nat → List Value → Mem → Option OutM} {K K' : FrM → Mem → Option OutM} {k : Nat} {ic : IcM} {fr : FrM} {σ : Mem} {o : OutM} (hK : ∀ fr' σ', K fr' σ' = some o → K' fr' σ' = some o) (h : stM Φ K k ic fr σ = some o) : stM Φ K' k ic fr σ = some o := by
  obtain ⟨n, hn⟩ := ev_st (Φ' := fun _ => Φ) (K' := fun _ => K') (fun k' as σ' o' h => ev_c h) (fun fr' σ' h => ev_c (hK _ _ h)) h
  exact hn n (Nat.le_refl n)
theorem Ru_C {k : Nat} (cuts : List Nat) (j : Nat) {o : OutM} : ∀ {fr : FrM} {σ : Mem}, stC DoM (RuM k) k cuts j fr σ = some o → RuM k fr σ = some o := by
  induction j with
  | zero => exact fun h => h
  | succ j ih =>
    rintro ⟨pc, ls, st, kc, ks⟩ σ h
    unfold stC at h
    split at h
    · next ic hc =>
      refine Ru_step (fr := (pc, ls, st, kc, ks)) hc (st_mono (fun fr' σ' h => ?_) h)
      obtain ⟨pc', ls', st', kc', ks'⟩ := fr'
      unfold cuM at h
      dsimp only at h
      cases e : cuts.elem pc' with
      | true => rw [e] at h; exact h
      | false => rw [e] at h; exact ih h
    · cases h
end
section
/-! What the small machine's memory is in the heap. -/
def rfM (ad : Nat → Nat) (v : Nat) : Option Nat := if v = 0 then none else some (ad v)
def vaM (ad : Nat → Nat) : Value → Value
  | .ref v => va_rf (rfM ad v)
  | w => w
def tysM (c : Nat → ClassId) : List (ClassId × FieldType) := [(c 2, .int), (c 3, .boolean), (c 4, .char), (c 5, .long), (c 6, .object RX2)]
def fkN (ci k : Nat) : Nat := ([[0, 0, 1, 1, 1], [0, 1, 1, 1, 1], [0, 1, 1, 1, 1, 1, 1, 1, 1, 1], [1, 0, 0, 2, 1], [1, 1, 1, 0, 1, 1, 1, 1], [0, 1, 0, 1, 1, 0, 0, 0, 1, 1, 1]].getD ci []).getD k 0
def clM (ci : Nat) : vw_C := vwCl.getD ci ("", fun _ => ("", "", "", false), 0)
def ceK (c : Nat → ClassId) (ad : Nat → Nat) (r : Nat → Int32) (pt : Nat → Nat) (κ n : Nat) : va_E :=
  bif Nat.beq κ 1 then .inr (n, (List.range (clM n).2.2).map fun k => bif Nat.beq (fkN n k) 1 then vaM ad (.ref (pt k)) else .int (r k))
  else bif Nat.beq κ 5 then .inl (c 5, n, .inr (.inl fun j => (r j).toInt64))
  else bif Nat.beq κ 6 then .inl (c 6, n, .inr (.inr (.inr (.inr fun j => rfM ad (pt j)))))
  else .inl (c κ, n, .inl r)
def ceM (c : Nat → ClassId) (ad : Nat → Nat) (σ : Mem) (v : Nat) : va_E := ceK c ad (rdM σ v) (prM σ v) (tkM σ v).1 (tkM σ v).2
def csM (c : Nat → ClassId) (ad : Nat → Nat) (σ : Mem) : va_W := (List.range (nxM σ - 8)).map fun i => (ad (i + 8), ceM c ad σ (i + 8))
/-- what is fixed in a run: the array classes, the classes' ids and slots, where new cells begin, the static rows' lengths and values, where they lie -/
abbrev GlM : Type := (Nat → ClassId) × va_G × Nat × (Nat → Nat) × (Nat → Nat → Int32) × (Nat → Nat)
abbrev gC (G : GlM) : Nat → ClassId := G.1
abbrev gD (G : GlM) : va_G := G.2.1
abbrev gB (G : GlM) : Nat := G.2.2.1
abbrev gN (G : GlM) : Nat → Nat := G.2.2.2.1
abbrev gM (G : GlM) : Nat → Nat → Int32 := G.2.2.2.2.1
abbrev gA (G : GlM) : Nat → Nat := G.2.2.2.2.2
abbrev gU (G : GlM) : Nat → Prop := fun q => gB G ≤ q
def okT (G : GlM) (σ : Mem) : Prop := 8 ≤ nxM σ ∧ (∀ v, nxM σ ≤ v → (tkM σ v).1 = 0) ∧ tkM σ 0 = (0, 0) ∧ (∀ v j, prM σ v j < nxM σ) ∧ ∀ v, 1 ≤ v → v < 8 → tkM σ v = (2, gN G v) ∧ ∀ j, rdM σ v j = gM G v j
def RpM (G : GlM) (ad : Nat → Nat) (σ : Mem) (H : Heap) : Prop := va_P (gD G) vwCl (csM (gC G) ad σ) H ∧ va_D (gU G) (csM (gC G) ad σ) ∧ okT G σ ∧ ∀ v, 1 ≤ v → v < 8 → ad v = gA G v
def wkM : Cond → Bool
  | .fieldLinkNest .. | .methodLinkNest .. | .declares _ | .castable .. => true
  | _ => false
def snM (i : Nat) : String := ["CREATE_NUMBERS", "RESIZE_NUMBERS", "DELETE_NUMBERS", "MOVE_NUMBERS", "DAYS_NUMBERS", "NO_COMMAND"].getD i ""
def srM : Cond → Option (String × Nat × String)
  | .stringRef o k t => some (o, k, t)
  | _ => none
def exM (E : Nat) : String := ["", "java/lang/IndexOutOfBoundsException", "java/lang/IllegalArgumentException", "java/lang/IllegalStateException"].getD E ""
def EvG (G : GlM) (s : State) : Prop :=
  (∀ w ∈ lw_tbl, wkM w = true → va_Nw w s) ∧ va_K (gD G) vwCl (tysM (gC G)) s ∧
  (∀ i, i < 6 → va_Z RX4 (snM i) "[I" (.ref (gA G (i + 2))) (gU G) s s.heap) ∧
  (∀ v, 1 ≤ v → v < 8 → va_T .int (gA G v) (gN G v) (fun j => .int (gM G v j)) (gU G) s s.heap) ∧
  vx_Zq Bundle.tN "UNASSIGNED_STACK" Bundle.steD (gU G) s s.heap ∧ vx_Zq Bundle.tN "SUPPRESSED_SENTINEL" Bundle.listD (gU G) s s.heap ∧
  (∀ o k t, Cond.stringRef o k t ∈ lw_tbl → ∃ a, vk_R o k t a s) ∧
  (∀ a b, 1 ≤ a → a < 4 → 1 ≤ b → b < 4 → a ≠ b → va_Nc (exM a) (exM b) s) ∧ gB G ≤ s.heap.size ∧ va_AO RX2 s
theorem wk_warm {w : Cond} {s U : State} (hw : wkM w = true) (hW : s.WarmedH U.vm) (h : va_Nw w s) : va_Nw w U := by
  cases w <;> first | exact va_Nw.warmF hW h | exact va_Nw.warmM hW h | exact va_Nw.warmD hW h | exact va_Nw.warmC hW h | cases hw
theorem Ev_next {G : GlM} {s U : State} (h : EvG G s) (hW : s.WarmedH U.vm) (hz : s.heap.size ≤ U.heap.size) (hk : ∀ q : Nat, q < s.heap.size → ¬ gU G q → U.heap[q]? = s.heap[q]?) : EvG G U := by
  obtain ⟨h1, h2, h3, h4, h5, h6, h7, h8, h9, h10⟩ := h
  refine ⟨fun w hw hk => wk_warm hk hW (h1 w hw hk), h2.moved hW.alike, fun i hi => ((h3 i hi).moved hW.alike).kept hk, fun v a b => ((h4 v a b).moved hW.alike).kept hk, (h5.moved hW.alike).kept hk, (h6.moved hW.alike).kept hk, fun o k t ht => ?_, fun a b p q r t n => (h8 a b p q r t n).moved hW.alike, Nat.le_trans h9 hz, h10.moved hW.alike⟩
  obtain ⟨a, ha⟩ := h7 o k t ht
  exact ⟨a, ha.warm hW⟩
theorem Ev_same {G : GlM} {s U : State} (h : EvG G s) (hv : U.vm = s.vm) (hh : U.heap = s.heap) : EvG G U :=
  Ev_next h (by rw [hv]; exact State.WarmedH.refl s) (by rw [hh]; exact Nat.le_refl _) (fun q _ _ => by rw [hh])
theorem cs_get (c : Nat → ClassId) (ad : Nat → Nat) (σ : Mem) (i : Nat) : (csM c ad σ)[i]? = if i < nxM σ - 8 then some (ad (i + 8), ceM c ad σ (i + 8)) else none := by
  unfold csM
  rw [List.getElem?_map]
  by_cases h : i < nxM σ - 8
  · rw [if_pos h, List.getElem?_range h]; rfl
  · rw [if_neg h, List.getElem?_eq_none (by rw [List.length_range]; omega)]; rfl
theorem cs_at {c : Nat → ClassId} {ad : Nat → Nat} {σ : Mem} {v : Nat} (h1 : 8 ≤ v) (h2 : v < nxM σ) : (csM c ad σ)[v - 8]? = some (ad v, ceM c ad σ v) := by
  rw [cs_get, if_pos (by omega), show v - 8 + 8 = v by omega]
theorem cs_len (c : Nat → ClassId) (ad : Nat → Nat) (σ : Mem) : (csM c ad σ).length = nxM σ - 8 := by unfold csM; rw [List.length_map, List.length_range]
theorem ce_congr {c : Nat → ClassId} {ad ad' : Nat → Nat} {σ σ' : Mem} {v : Nat} (ht : tkM σ' v = tkM σ v) (hr : ∀ j, rdM σ' v j = rdM σ v j) (hp : ∀ j, prM σ' v j = prM σ v j) (ha : ∀ j, ad' (prM σ v j) = ad (prM σ v j)) : ceM c ad' σ' v = ceM c ad σ v := by
  have h1 : rdM σ' v = rdM σ v := funext hr
  have h2 : prM σ' v = prM σ v := funext hp
  have h3 : ∀ j, rfM ad' (prM σ v j) = rfM ad (prM σ v j) := fun j => by unfold rfM; rw [ha j]
  have h4 : ∀ j, vaM ad' (.ref (prM σ v j)) = vaM ad (.ref (prM σ v j)) := fun j => by show va_rf _ = va_rf _; rw [h3 j]
  unfold ceM ceK
  rw [ht, h1, h2]
  simp only [h3, h4]
/-- one object has changed -/
theorem cs_set {c : Nat → ClassId} {ad : Nat → Nat} {σ σ' : Mem} {v : Nat} (h1 : 8 ≤ v) (h2 : v < nxM σ) (hn : nxM σ' = nxM σ) (ht : ∀ u, tkM σ' u = tkM σ u) (hr : ∀ u j, u ≠ v → rdM σ' u j = rdM σ u j) (hp : ∀ u j, u ≠ v → prM σ' u j = prM σ u j) :
    csM c ad σ' = (csM c ad σ).set (v - 8) (ad v, ceM c ad σ' v) := by
  refine List.ext_getElem? fun i => ?_
  by_cases e : i = v - 8
  · subst e
    rw [List.getElem?_set_self (by rw [cs_len]; omega), cs_at h1 (by rw [hn]; exact h2)]
  · rw [List.getElem?_set_ne (Ne.symm e), cs_get, cs_get, hn]
    by_cases hi : i < nxM σ - 8
    · have hne : i + 8 ≠ v := by omega
      rw [if_pos hi, if_pos hi, ce_congr (ht _) (fun j => hr _ j hne) (fun j => hp _ j hne) (fun _ => rfl)]
    · rw [if_neg hi, if_neg hi]
theorem cs_new {c : Nat → ClassId} {ad ad' : Nat → Nat} {σ σ' : Mem} (h8 : 8 ≤ nxM σ) (hn : nxM σ' = nxM σ + 1) (ht : ∀ u, u < nxM σ → tkM σ' u = tkM σ u) (hr : ∀ u j, u < nxM σ → rdM σ' u j = rdM σ u j) (hp : ∀ u j, u < nxM σ → prM σ' u j = prM σ u j) (hw : ∀ u j, prM σ u j < nxM σ) (ha : ∀ u, u < nxM σ → ad' u = ad u) :
    csM c ad' σ' = csM c ad σ ++ [(ad' (nxM σ), ceM c ad' σ' (nxM σ))] := by
  refine List.ext_getElem? fun i => ?_
  by_cases e : i < nxM σ - 8
  · rw [List.getElem?_append_left (by rw [cs_len]; exact e), cs_get, cs_get, if_pos e, if_pos (by omega), ha _ (by omega), ce_congr (ht _ (by omega)) (fun j => hr _ j (by omega)) (fun j => hp _ j (by omega)) (fun j => ha _ (hw _ j))]
  · rw [List.getElem?_append_right (by rw [cs_len]; omega), cs_len, cs_get]
    by_cases e2 : i = nxM σ - 8
    · subst e2
      rw [if_pos (by omega), Nat.sub_self, show nxM σ - 8 + 8 = nxM σ by omega]; rfl
    · rw [if_neg (by omega), List.getElem?_eq_none (by simp; omega)]
end
section
/-! That the resolved code is what the bytecode and the tables say: checked by program, place by place. -/
def atM (i : Nat) (w : Cond) : Bool := decide (lw_tbl[i]? = some w)
def owM (k : Nat) : String := (yM k).cls
def kdM (k : Nat) : Nat := gaM (inM k).2.2.2.2.2 8
def ocM (k : Nat) : Nat := gaM (inM k).2.2.2.2.2 9
def npM (k : Nat) : Nat := gaM (inM k).2.2.2.2.2 10
def rcM (c : Nat) : String := [RX0, RX1, RX2, RX3, RX4, RX5, RL].getD c ""
def ctM (E : Nat) : Nat := [0, 13, 15, 17].getD E 0
def rwM (k : Nat) : List (Nat × Nat × Nat × Nat) := (hsM k).map fun q => (q.1, q.2.1, q.2.2.1, ctM q.2.2.2)
def cwM (k : Nat) : Cond := bif (hsM k).isEmpty then .code (yM k) (byM k) (mxM k) (rtM k) else .codeWith (yM k) (byM k) (mxM k) (rtM k) (rwM k)
def fT (ci k : Nat) : String × String × String × Bool := (clM ci).2.1 k
def tgM (pc : Nat) (off : Int) (a : List Nat) : Bool := decide ((pc : Int) + off = ((gaM a 0 : Nat) : Int))
def swOk (pc : Nat) : List Nat → List (Int × Int) → Bool
  | k :: t :: r, (x, o) :: q => decide (k < 1000) && decide (x = (k : Int)) && decide ((pc : Int) + o = (t : Int)) && swOk pc r q
  | [], [] => true
  | _, _ => false
def clOk (k : Nat) (a : List Nat) : Bool :=
  decide (gaM a 0 < 223) && decide (gaM a 1 ≤ mxM (gaM a 0)) && decide (nfM (gaM a 0) + 1 ≤ nfM k) && decide (8 + (mxM (gaM a 0) + 11) + nlM (gaM a 0) ≤ nlM k) && decide (gaM a 3 = ncM (gaM a 0)) && decide (gaM a 4 = nsM (gaM a 0)) && decide (gaM a 5 = ncM k) && decide (gaM a 6 = nsM k) && decide (gaM a 8 = ocM (gaM a 0)) && decide (ocM (gaM a 0) < 7)
def flW (e : Nat × Nat × Nat × Nat × Nat) : Cond :=
  bif Nat.beq e.2.2.2.2 0 then .fieldLink (rcM e.1) e.2.1 (fT e.2.2.1 e.2.2.2.1).1 (fT e.2.2.1 e.2.2.2.1).2.1 (fT e.2.2.1 e.2.2.2.1).2.2.1
  else .fieldLinkNest (rcM e.1) e.2.1 (fT e.2.2.1 e.2.2.2.1).1 (fT e.2.2.1 e.2.2.2.1).2.1 (fT e.2.2.1 e.2.2.2.1).2.2.1 RX4
def myM (k : Nat) : MethodName := bif Nat.beq k 1000 then Lib.objectInit else bif Nat.beq k 1001 then Lib.Math.max.name else bif Nat.beq k 1002 then Lib.Math.min.name else bif Nat.beq k 1003 then arraycopyName else yM k
def mlW (e : Nat × Nat × Nat × Nat) : Cond := bif Nat.beq e.2.2.2 0 then .methodLink (rcM e.1) e.2.1 (myM e.2.2.1) else .methodLinkNest (rcM e.1) e.2.1 (myM e.2.2.1) RX4
def flI (i : Nat) (e : Nat × Nat × Nat × Nat × Nat) : Bool := decide (flL[i]? = some e)
def mlI (i : Nat) (e : Nat × Nat × Nat × Nat) : Bool := decide (mlL[i]? = some e)
def iaL : Instr → Bool
  | .iadd | .isub | .imul | .iand | .ishl | .ishr | .idiv | .irem | .ineg | .i2l | .i2c | .lcmp | .iaload | .baload | .caload | .laload | .aaload | .iastore | .bastore | .castore | .lastore | .aastore | .arraylength | .dup | .dup2 | .pop => true
  | _ => false
def okM (k pc : Nat) (ic : IcM) : Bool :=
  match ic with
  | (i, len, a, c) =>
  decide (decode (byM k) pc = .ok (i, len)) &&
  match i with
  | .iconst n => decide (Int32.ofInt n = c) && Nat.beq len 1
  | .bipush n => decide ((Int8.ofInt n).toInt32 = c) && Nat.beq len 2
  | .sipush n => decide ((Int16.ofInt n).toInt32 = c) && Nat.beq len 3
  | .ldc x => atM (gaM a 0) (.constant (owM k) x c) && Nat.beq len 2
  | .ldc_w x => atM (gaM a 0) (.constant (owM k) x c) && Nat.beq len 3
  | .lconst n => decide (Int64.ofNat (n : Nat) = c.toInt64) && Nat.beq len 1
  | .iload x => Nat.beq (gaM a 0) x && Nat.beq len 2
  | .iload_n x => Nat.beq (gaM a 0) x && Nat.beq len 1
  | .aload x => Nat.beq (gaM a 0) x && Nat.beq len 2
  | .aload_n x => Nat.beq (gaM a 0) x && Nat.beq len 1
  | .istore x => Nat.beq (gaM a 0) x && Nat.beq len 2 && decide (x < mxM k)
  | .istore_n x => Nat.beq (gaM a 0) x && Nat.beq len 1 && decide (gaM a 0 < mxM k)
  | .astore x => Nat.beq (gaM a 0) x && Nat.beq len 2 && decide (x < mxM k)
  | .astore_n x => Nat.beq (gaM a 0) x && Nat.beq len 1 && decide (gaM a 0 < mxM k)
  | .iinc x n => Nat.beq (gaM a 0) x && Nat.beq len 3 && decide (x < mxM k) && decide (Int32.ofInt n = c)
  | .ifCond _ o => tgM pc o a && Nat.beq len 3
  | .if_icmp _ o => tgM pc o a && Nat.beq len 3
  | .goto o => tgM pc o a && Nat.beq len 3
  | .getfield x => decide (gaM a 0 < 6) && decide (gaM a 1 < (clM (gaM a 0)).2.2) && decide (gaM a 2 = fkN (gaM a 0) (gaM a 1)) && Nat.beq len 3 && decide (gaM a 3 < 2) && flI (gaM a 4) (ocM k, x, gaM a 0, gaM a 1, gaM a 3)
  | .putfield x => decide (gaM a 0 < 6) && decide (gaM a 1 < (clM (gaM a 0)).2.2) && decide (gaM a 2 = fkN (gaM a 0) (gaM a 1)) && Nat.beq len 3 && decide (gaM a 3 < 2) && flI (gaM a 4) (ocM k, x, gaM a 0, gaM a 1, gaM a 3) &&
      (decide ((fT (gaM a 0) (gaM a 1)).2.2.2 = false) || (decide ((fT (gaM a 0) (gaM a 1)).2.2.2 = true) && decide (kdM k = 2) && decide (gaM a 0 = ocM k) && decide (gaM a 3 = 0)))
  | .getstatic x => decide (2 ≤ gaM a 0) && decide (gaM a 0 < 8) && Nat.beq len 3 && atM (gaM a 1) (.fieldLinkNest (owM k) x RX4 (snM (gaM a 0 - 2)) "[I" RX4)
  | .ireturn => decide (gaM a 0 = ncM k) && decide (gaM a 1 = nsM k) && Nat.beq len 1 && ((decide (gaM a 2 = 1) && decide (rtM k = some .int)) || (decide (gaM a 2 = 2) && decide (rtM k = some .boolean)))
  | .areturn => decide (gaM a 0 = ncM k) && decide (gaM a 1 = nsM k) && Nat.beq len 1 && decide (rtM k = some (.array .int))
  | .return_ => decide (gaM a 0 = ncM k) && decide (gaM a 1 = nsM k) && Nat.beq len 1 && decide (rtM k = none)
  | .new x => Nat.beq len 3 && decide (gaM a 3 = ncM k) && decide (gaM a 4 = nsM k) &&
      (bif Nat.beq (gaM a 0) 0 then decide (gaM a 1 < 6) && decide (gaM a 2 = (clM (gaM a 1)).2.2) && atM (gaM a 5) (.classLink (owM k) x (clM (gaM a 1)).1)
       else decide (1 ≤ gaM a 0) && decide (gaM a 0 < 4) && decide (ocM k = 4) && (hsM k).isEmpty && atM (gaM a 5) (.classLink RX4 x (exM (gaM a 0))) && decide (gaM a 7 = [0, 265, 117, 67].getD (gaM a 0) 0) && decide (6 ≤ nfM k) && decide (90 ≤ nlM k) &&
         (match lw_tbl[gaM a 9]? with | some (.stringRef o i _) => decide (o = RX4) && decide (i = gaM a 6) | _ => false) &&
         decide (decode (byM k) (pc + 3) = .ok (.dup, 1)) && (decide (decode (byM k) (pc + 4) = .ok (.ldc (gaM a 6), 2)) && decide (decode (byM k) (pc + 6) = .ok (.invokespecial (gaM a 7), 3)) && decide (decode (byM k) (pc + 9) = .ok (.athrow, 1)) ||
           decide (decode (byM k) (pc + 4) = .ok (.ldc_w (gaM a 6), 3)) && decide (decode (byM k) (pc + 7) = .ok (.invokespecial (gaM a 7), 3)) && decide (decode (byM k) (pc + 10) = .ok (.athrow, 1))))
  | .newarray t => Nat.beq len 2 && decide (gaM a 1 = ncM k) && decide (gaM a 2 = nsM k) && decide (2 ≤ gaM a 0) && decide (gaM a 0 < 6) && decide (newarray.typeOf t = [FieldType.int, .int, .int, .boolean, .char, .long].getD (gaM a 0) .int)
  | .anewarray x => Nat.beq len 3 && decide (gaM a 1 = ncM k) && decide (gaM a 2 = nsM k) && atM (gaM a 3) (.classLink (owM k) x RX2)
  | .lookupswitch d ps => tgM pc d a && swOk pc (a.drop 1) ps.toList && (ps.toList.zip (ps.toList.drop 1)).all (fun (a, next) => a.1 < next.1)
  | .tableswitch d lo hi os => tgM pc d a && decide (lo = 0) && decide (hi + 1 = (os.size : Int)) && swOk pc (a.drop 1) (((List.range os.size).map (fun q : Nat => (q : Int))).zip os.toList)
  | .invokestatic x => Nat.beq len 3 &&
      (bif Nat.beq (gaM a 2) 6 then mlI (gaM a 7) (ocM k, x, 1001, 0) && decide (1 ≤ nfM k) && decide (21 ≤ nlM k) && decide (gaM a 5 = ncM k) && decide (gaM a 6 = nsM k)
       else bif Nat.beq (gaM a 2) 7 then mlI (gaM a 7) (ocM k, x, 1002, 0) && decide (1 ≤ nfM k) && decide (21 ≤ nlM k) && decide (gaM a 5 = ncM k) && decide (gaM a 6 = nsM k)
       else bif Nat.beq (gaM a 2) 8 then mlI (gaM a 7) (ocM k, x, 1003, 0) && decide (1 ≤ nfM k) && decide (8 + (nativeFrameWords "java/lang/System" "arraycopy" 5 + 11) ≤ nlM k)
       else clOk k a && decide (gaM a 1 = npM (gaM a 0)) && decide (kdM (gaM a 0) = 0) &&
         (bif Nat.beq (gaM a 2) 0 then (hsM (gaM a 0)).isEmpty && mlI (gaM a 7) (ocM k, x, gaM a 0, 0)
          else bif Nat.beq (gaM a 2) 1 then (hsM (gaM a 0)).isEmpty && mlI (gaM a 7) (ocM k, x, gaM a 0, 1)
          else decide (gaM a 2 = 10) && !(hsM (gaM a 0)).isEmpty && mlI (gaM a 7) (ocM k, x, gaM a 0, 0)))
  | .invokevirtual x => Nat.beq len 3 && clOk k a && decide (gaM a 1 = npM (gaM a 0) + 1) && decide (kdM (gaM a 0) = 1) && (hsM (gaM a 0)).isEmpty && decide (ocM (gaM a 0) < 6) &&
      (bif Nat.beq (gaM a 2) 2 then mlI (gaM a 7) (ocM k, x, gaM a 0, 0) else decide (gaM a 2 = 3) && mlI (gaM a 7) (ocM k, x, gaM a 0, 1))
  | .invokespecial x => Nat.beq len 3 &&
      (bif Nat.beq (gaM a 2) 9 then mlI (gaM a 7) (ocM k, x, 1000, 0) && decide (1 ≤ nfM k) && decide (20 ≤ nlM k)
       else clOk k a && decide (gaM a 1 = npM (gaM a 0) + 1) && decide (kdM (gaM a 0) = 2) && (hsM (gaM a 0)).isEmpty && decide (ocM (gaM a 0) < 6) && decide (rtM (gaM a 0) = none) &&
         (bif Nat.beq (gaM a 2) 4 then mlI (gaM a 7) (ocM k, x, gaM a 0, 0) else decide (gaM a 2 = 5) && mlI (gaM a 7) (ocM k, x, gaM a 0, 1)))
  | j => iaL j && Nat.beq len 1
/-- a method's own row: its words stand in the tables -/
def MtP (k : Nat) : Prop := owM k = rcM (ocM k) ∧ (k = 223 ∨ cwM k ∈ lw_tbl) ∧ (kdM k = 0 → k = 223 ∨ Cond.static (yM k) ∈ lw_tbl) ∧ (kdM k = 1 → Cond.instanceMethod (yM k) ∈ lw_tbl ∧ Cond.selects (owM k) (yM k) (yM k) ∈ lw_tbl) ∧ (kdM k = 2 → Cond.instanceMethod (yM k) ∈ lw_tbl ∧ (yM k).name = "<init>") ∧ (parseMethodDescriptor (yM k).desc).map (fun d => d.parameters.length) = some (npM k)
theorem bt {P : Nat → Prop} {a m b : Nat} (h1 : ∀ k, a ≤ k → k < m → P k) (h2 : ∀ k, m ≤ k → k < b → P k) : ∀ k, a ≤ k → k < b → P k := fun k ha hb => by
  rcases Nat.lt_or_ge k m with h | h
  · exact h1 k ha h
  · exact h2 k h hb
theorem b1 {P : Nat → Prop} {a : Nat} (h : P a) : ∀ k, a ≤ k → k < a + 1 → P k := fun k h1 h2 => by
  have e : k = a := by omega
  subst e
  exact h
theorem rc_init : ∀ c, c < 7 → Cond.initialized (rcM c) ∈ lw_tbl := by
  intro c hc
  rcases (show c = 0 ∨ c = 1 ∨ c = 2 ∨ c = 3 ∨ c = 4 ∨ c = 5 ∨ c = 6 by omega) with rfl | rfl | rfl | rfl | rfl | rfl | rfl <;> decide +kernel
theorem rc_plain : ∀ c, c < 7 → plainName (rcM c) = true ∧ rcM c ≠ "java/lang/invoke/MethodHandle" ∧ rcM c ≠ "java/lang/invoke/VarHandle" := by
  intro c hc
  rcases (show c = 0 ∨ c = 1 ∨ c = 2 ∨ c = 3 ∨ c = 4 ∨ c = 5 ∨ c = 6 by omega) with rfl | rfl | rfl | rfl | rfl | rfl | rfl <;> decide +kernel
theorem cl_rc : ∀ c, c < 6 → (clM c).1 = rcM c := by
  intro c hc
  rcases (show c = 0 ∨ c = 1 ∨ c = 2 ∨ c = 3 ∨ c = 4 ∨ c = 5 by omega) with rfl | rfl | rfl | rfl | rfl | rfl <;> rfl
def hsOk (k : Nat) : Bool := ((hsM k).isEmpty || Nat.beq (ocM k) 6) && (hsM k).all fun z => decide (1 ≤ z.2.2.2) && decide (z.2.2.2 < 4) && (match cdM k z.2.2.1 with
  | some (.astore _, _) => true
  | some (.astore_n _, _) => true
  | _ => false)
theorem hs_all : (List.range 224).all hsOk = true := by decide +kernel
theorem ct_wd : ∀ x, 1 ≤ x → x < 4 → Cond.classLink RL (ctM x) (exM x) ∈ lw_tbl ∧ Cond.castable (exM x) (exM x) ∈ lw_tbl := by
  intro x h1 h2
  rcases (show x = 1 ∨ x = 2 ∨ x = 3 by omega) with rfl | rfl | rfl <;> exact ⟨by decide +kernel, by decide +kernel⟩
theorem ma_wd : (Cond.static Lib.Math.max.name ∈ lw_tbl ∧ Cond.code Lib.Math.max.name Lib.Math.max.code 2 (some .int) ∈ lw_tbl) ∧ (Cond.static Lib.Math.min.name ∈ lw_tbl ∧ Cond.code Lib.Math.min.name Lib.Math.min.code 2 (some .int) ∈ lw_tbl) ∧ Cond.initialized "java/lang/Math" ∈ lw_tbl ∧ (Cond.native arraycopyName ∈ lw_tbl ∧ Cond.static arraycopyName ∈ lw_tbl ∧ Cond.initialized "java/lang/System" ∈ lw_tbl) ∧ (Cond.instanceMethod Lib.objectInit ∈ lw_tbl ∧ Cond.code Lib.objectInit ⟨#[0xb1]⟩ 1 none ∈ lw_tbl) :=
  ⟨⟨by decide +kernel, by decide +kernel⟩, ⟨by decide +kernel, by decide +kernel⟩, by decide +kernel, ⟨by decide +kernel, by decide +kernel, by decide +kernel⟩, ⟨by decide +kernel, by decide +kernel⟩⟩
theorem oc_all : (List.range 224).all (fun k => decide (ocM k < 7)) = true := by decide +kernel
def cdOk (k : Nat) : Bool := (List.range (64 * (cdT k).length)).all fun pc => match cdM k pc with
  | some ic => okM k pc ic
  | none => true
def cdR (k lo : Nat) : Bool := (List.range 64).all fun j => match cdM k (lo + j) with
  | some ic => okM k (lo + j) ic
  | none => true
end
section
def kfFB : Cond → Bool
  | .fieldLink .. | .fieldLinkNest .. => true
  | _ => false
def kfF_0 : List Cond := [flW (1, 9, 1, 0, 0), flW (2, 66, 1, 0, 1), flW (4, 237, 1, 0, 1), flW (1, 15, 1, 1, 0), flW (1, 19, 1, 2, 0), flW (2, 97, 1, 2, 1), flW (4, 231, 1, 2, 1), flW (1, 22, 1, 3, 0), flW (2, 100, 1, 3, 1), flW (4, 234, 1, 3, 1), flW (1, 25, 1, 4, 0), flW (2, 94, 1, 4, 1), flW (4, 228, 1, 4, 1), flW (0, 9, 0, 0, 0), flW (4, 277, 0, 0, 1), flW (0, 15, 0, 1, 0), flW (0, 18, 0, 2, 0), flW (0, 22, 0, 3, 0), flW (0, 25, 0, 4, 0), flW (2, 9, 2, 0, 0), flW (4, 129, 2, 0, 1), flW (2, 15, 2, 1, 0), flW (4, 118, 2, 1, 1), flW (2, 19, 2, 2, 0), flW (4, 132, 2, 2, 1), flW (2, 23, 2, 3, 0), flW (4, 107, 2, 3, 1), flW (2, 26, 2, 4, 0), flW (4, 98, 2, 4, 1), flW (2, 29, 2, 5, 0), flW (4, 101, 2, 5, 1), flW (2, 32, 2, 6, 0), flW (4, 126, 2, 6, 1), flW (2, 35, 2, 7, 0), flW (4, 211, 2, 7, 1), flW (2, 41, 2, 8, 0), flW (4, 188, 2, 8, 1), flW (2, 48, 2, 9, 0), flW (4, 268, 2, 9, 1), flW (3, 9, 3, 0, 0), flW (4, 154, 3, 0, 1), flW (3, 15, 3, 1, 0), flW (4, 149, 3, 1, 1), flW (3, 19, 3, 2, 0), flW (4, 163, 3, 2, 1), flW (3, 22, 3, 3, 0), flW (4, 307, 3, 3, 1), flW (3, 26, 3, 4, 0), flW (4, 304, 3, 4, 1), flW (4, 12, 4, 0, 0), flW (4, 16, 4, 1, 0), flW (4, 19, 4, 2, 0), flW (4, 23, 4, 3, 0), flW (4, 27, 4, 4, 0), flW (4, 30, 4, 5, 0), flW (4, 37, 4, 6, 0), flW (4, 41, 4, 7, 0), (Jvm.Cond.fieldLinkNest "StorageQuotas$TextReader" (46 : Nat) "StorageQuotas" "CREATE_NUMBERS" "[I" "StorageQuotas"), (Jvm.Cond.fieldLinkNest "StorageQuotas$TextReader" (49 : Nat) "StorageQuotas" "RESIZE_NUMBERS" "[I" "StorageQuotas"), (Jvm.Cond.fieldLinkNest "StorageQuotas$TextReader" (52 : Nat) "StorageQuotas" "DELETE_NUMBERS" "[I" "StorageQuotas")]
def kfF_60 : List Cond := [(Jvm.Cond.fieldLinkNest "StorageQuotas$TextReader" (55 : Nat) "StorageQuotas" "MOVE_NUMBERS" "[I" "StorageQuotas"), (Jvm.Cond.fieldLinkNest "StorageQuotas$TextReader" (58 : Nat) "StorageQuotas" "DAYS_NUMBERS" "[I" "StorageQuotas"), (Jvm.Cond.fieldLinkNest "StorageQuotas$TextReader" (61 : Nat) "StorageQuotas" "NO_COMMAND" "[I" "StorageQuotas"), (Jvm.Cond.fieldLink "java/lang/Throwable" (198 : Nat) "java/lang/Throwable" "backtrace" "Ljava/lang/Object;"), (Jvm.Cond.fieldLink "java/lang/Throwable" (13 : Nat) "java/lang/Throwable" "UNASSIGNED_STACK" "[Ljava/lang/StackTraceElement;"), (Jvm.Cond.fieldLink "java/lang/Throwable" (20 : Nat) "java/lang/Throwable" "SUPPRESSED_SENTINEL" "Ljava/util/List;"), (Jvm.Cond.fieldLink "java/lang/Throwable" (198 : Nat) "java/lang/Throwable" "backtrace" "Ljava/lang/Object;"), (Jvm.Cond.fieldLink "java/lang/Throwable" (31 : Nat) "java/lang/Throwable" "detailMessage" "Ljava/lang/String;"), (Jvm.Cond.fieldLink "java/lang/Throwable" (7 : Nat) "java/lang/Throwable" "cause" "Ljava/lang/Throwable;"), (Jvm.Cond.fieldLink "java/lang/Throwable" (17 : Nat) "java/lang/Throwable" "stackTrace" "[Ljava/lang/StackTraceElement;"), (Jvm.Cond.fieldLink "java/lang/Throwable" (24 : Nat) "java/lang/Throwable" "suppressedExceptions" "Ljava/util/List;"), flW (5, 29, 5, 0, 0), flW (5, 7, 5, 1, 0), flW (5, 87, 5, 2, 0), flW (5, 13, 5, 3, 0), flW (5, 17, 5, 4, 0), flW (5, 132, 5, 5, 0), flW (5, 135, 5, 6, 0), flW (5, 142, 5, 7, 0), flW (5, 20, 5, 8, 0), flW (5, 23, 5, 9, 0), flW (5, 26, 5, 10, 0)]
set_option maxRecDepth 1000000 in
theorem kfF_eq : lw_tbl.filter kfFB = kfF_0 ++ (kfF_60) := rfl
theorem kfF_0_in : ∀ w ∈ kfF_0, w ∈ lw_tbl := fun w h => (List.mem_filter.mp (by rw [kfF_eq]; exact List.mem_append_left _ h)).1
theorem kfF_60_in : ∀ w ∈ kfF_60, w ∈ lw_tbl := fun w h => (List.mem_filter.mp (by rw [kfF_eq]; exact List.mem_append_right _ (h))).1
def kmLB : Cond → Bool
  | .methodLink .. | .methodLinkNest .. => true
  | _ => false
def kmL_0 : List Cond := [mlW (6, 122, 44, 0), mlW (4, 3, 1000, 0), mlW (4, 11, 14, 1), mlW (2, 3, 1000, 0), mlW (2, 40, 4, 1), mlW (1, 3, 1000, 0), mlW (2, 47, 0, 1), mlW (0, 3, 1000, 0), mlW (4, 36, 36, 1), mlW (3, 3, 1000, 0), mlW (6, 167, 55, 0), mlW (6, 171, 56, 0), mlW (4, 158, 37, 1), mlW (3, 30, 38, 0), mlW (3, 38, 39, 0), mlW (3, 34, 40, 0), mlW (3, 42, 41, 0), mlW (3, 64, 43, 0), mlW (3, 68, 42, 0), mlW (6, 224, 73, 0), mlW (6, 240, 78, 0), mlW (6, 250, 81, 0), mlW (4, 121, 29, 1), mlW (6, 254, 82, 0), mlW (4, 258, 31, 1), mlW (6, 261, 84, 0), mlW (6, 265, 85, 0), mlW (6, 269, 86, 0), mlW (6, 126, 190, 0), mlW (6, 7, 45, 0), mlW (4, 45, 87, 0), (Jvm.Cond.methodLink "java/lang/Throwable" (1 : Nat) ({ cls := "java/lang/Object", name := "<init>", desc := "()V" } : Jvm.MethodName)), (Jvm.Cond.methodLink "java/lang/Throwable" (27 : Nat) ({ cls := "java/lang/Throwable", name := "fillInStackTrace", desc := "()Ljava/lang/Throwable;" } : Jvm.MethodName)), (Jvm.Cond.methodLink "java/lang/Throwable" (202 : Nat) ({ cls := "java/lang/Throwable", name := "fillInStackTrace", desc := "(I)Ljava/lang/Throwable;" } : Jvm.MethodName)), (Jvm.Cond.methodLink "StorageQuotas" (265 : Nat) ({ cls := "java/lang/IndexOutOfBoundsException", name := "<init>", desc := "(Ljava/lang/String;)V" } : Jvm.MethodName)), (Jvm.Cond.methodLink "java/lang/IndexOutOfBoundsException" (7 : Nat) ({ cls := "java/lang/RuntimeException", name := "<init>", desc := "(Ljava/lang/String;)V" } : Jvm.MethodName)), (Jvm.Cond.methodLink "java/lang/RuntimeException" (7 : Nat) ({ cls := "java/lang/Exception", name := "<init>", desc := "(Ljava/lang/String;)V" } : Jvm.MethodName)), (Jvm.Cond.methodLink "java/lang/Exception" (7 : Nat) ({ cls := "java/lang/Throwable", name := "<init>", desc := "(Ljava/lang/String;)V" } : Jvm.MethodName)), mlW (4, 49, 88, 0), mlW (4, 52, 93, 0), mlW (4, 240, 92, 0), mlW (4, 290, 100, 0), mlW (4, 56, 94, 0), (Jvm.Cond.methodLink "StorageQuotas" (117 : Nat) ({ cls := "java/lang/IllegalArgumentException", name := "<init>", desc := "(Ljava/lang/String;)V" } : Jvm.MethodName)), (Jvm.Cond.methodLink "java/lang/IllegalArgumentException" (7 : Nat) ({ cls := "java/lang/RuntimeException", name := "<init>", desc := "(Ljava/lang/String;)V" } : Jvm.MethodName)), mlW (4, 59, 16, 1), mlW (2, 69, 6, 1), (Jvm.Cond.methodLink "StorageQuotas" (67 : Nat) ({ cls := "java/lang/IllegalStateException", name := "<init>", desc := "(Ljava/lang/String;)V" } : Jvm.MethodName)), (Jvm.Cond.methodLink "java/lang/IllegalStateException" (7 : Nat) ({ cls := "java/lang/RuntimeException", name := "<init>", desc := "(Ljava/lang/String;)V" } : Jvm.MethodName)), mlW (4, 70, 101, 0), mlW (4, 179, 15, 1), mlW (2, 52, 1003, 0), mlW (2, 58, 5, 1), mlW (1, 28, 1003, 0), mlW (2, 62, 1, 1), mlW (0, 28, 1003, 0), mlW (4, 73, 17, 1), mlW (2, 73, 23, 0), mlW (2, 88, 99, 1), mlW (2, 111, 98, 1)]
def kmL_60 : List Cond := [mlW (2, 115, 24, 0), mlW (2, 118, 31, 0), mlW (2, 77, 26, 0), mlW (2, 131, 2, 1), mlW (2, 81, 7, 1), mlW (2, 85, 22, 0), mlW (2, 91, 27, 0), mlW (2, 133, 28, 0), mlW (2, 136, 29, 0), mlW (6, 135, 191, 0), mlW (6, 19, 46, 0), mlW (4, 77, 97, 0), mlW (4, 225, 6, 1), mlW (4, 81, 18, 1), mlW (2, 103, 19, 0), mlW (6, 139, 192, 0), mlW (6, 23, 47, 0), mlW (4, 84, 20, 1), mlW (2, 107, 8, 1), mlW (6, 143, 193, 0), mlW (6, 27, 48, 0), mlW (4, 87, 21, 1), mlW (6, 147, 194, 0), mlW (6, 31, 49, 0), mlW (4, 91, 91, 0), mlW (4, 208, 89, 0), mlW (4, 110, 90, 0), mlW (4, 214, 98, 0), mlW (4, 94, 95, 0), mlW (4, 104, 28, 1), mlW (6, 150, 195, 0), mlW (6, 34, 50, 0), mlW (6, 153, 196, 0), mlW (6, 37, 51, 0), mlW (6, 156, 197, 0), mlW (6, 40, 52, 0), mlW (4, 135, 35, 1), mlW (6, 160, 198, 0), mlW (6, 44, 53, 0), mlW (4, 139, 32, 1), mlW (4, 144, 33, 1), mlW (2, 139, 34, 0), mlW (2, 143, 30, 0), mlW (6, 164, 199, 0), mlW (6, 48, 54, 0), mlW (6, 175, 200, 0), mlW (6, 51, 57, 0), mlW (4, 166, 38, 1), mlW (4, 170, 102, 0), mlW (4, 173, 40, 1), mlW (6, 179, 201, 0), mlW (6, 55, 58, 0), mlW (6, 182, 202, 0), mlW (6, 58, 59, 0), mlW (4, 183, 96, 0), mlW (6, 185, 203, 0), mlW (6, 61, 60, 0), mlW (6, 188, 204, 0), mlW (6, 64, 61, 0), mlW (6, 191, 205, 0)]
def kmL_120 : List Cond := [mlW (6, 67, 62, 0), mlW (4, 192, 10, 1), mlW (1, 38, 9, 0), mlW (1, 34, 99, 1), mlW (6, 194, 206, 0), mlW (6, 70, 63, 0), mlW (6, 197, 207, 0), mlW (6, 73, 64, 0), mlW (6, 200, 208, 0), mlW (6, 76, 65, 0), mlW (6, 203, 209, 0), mlW (6, 79, 66, 0), mlW (4, 197, 30, 1), mlW (4, 200, 1001, 0), mlW (6, 206, 210, 0), mlW (6, 82, 67, 0), mlW (4, 205, 25, 1), mlW (2, 123, 1002, 0), mlW (2, 128, 1001, 0), mlW (6, 209, 211, 0), mlW (6, 85, 68, 0), mlW (6, 212, 212, 0), mlW (6, 88, 69, 0), mlW (4, 217, 11, 1), mlW (4, 221, 103, 0), mlW (6, 215, 213, 0), mlW (6, 91, 70, 0), mlW (6, 218, 214, 0), mlW (6, 94, 71, 0), mlW (6, 221, 215, 0), mlW (6, 97, 72, 0), mlW (6, 228, 216, 0), mlW (6, 100, 74, 0), mlW (4, 243, 12, 1), mlW (6, 231, 217, 0), mlW (6, 103, 75, 0), mlW (4, 246, 13, 1), mlW (6, 234, 218, 0), mlW (6, 106, 76, 0), mlW (4, 249, 23, 1), mlW (6, 237, 219, 0), mlW (6, 109, 77, 0), mlW (4, 255, 19, 1), mlW (6, 244, 220, 0), mlW (6, 112, 79, 0), mlW (6, 247, 221, 0), mlW (6, 115, 80, 0), mlW (6, 258, 222, 0), mlW (6, 119, 83, 0), mlW (4, 272, 3, 1), mlW (6, 125, 104, 0), mlW (5, 1, 1000, 0), mlW (6, 132, 105, 0), mlW (6, 131, 134, 0), mlW (5, 93, 108, 0), mlW (5, 33, 106, 0), mlW (5, 96, 109, 0), mlW (5, 99, 110, 0), mlW (5, 102, 114, 0), mlW (5, 37, 112, 0)]
def kmL_180 : List Cond := [mlW (5, 105, 107, 0), mlW (5, 108, 133, 0), mlW (5, 90, 132, 0), mlW (5, 111, 127, 0), mlW (5, 74, 125, 0), mlW (5, 78, 126, 0), mlW (5, 71, 124, 0), mlW (5, 56, 122, 0), mlW (5, 60, 123, 0), mlW (5, 45, 116, 0), mlW (5, 41, 115, 0), mlW (5, 64, 120, 0), mlW (5, 67, 121, 0), mlW (5, 48, 117, 0), mlW (5, 81, 113, 0), mlW (5, 84, 119, 0), mlW (5, 52, 118, 0), mlW (6, 138, 135, 0), mlW (5, 115, 128, 0), mlW (6, 142, 136, 0), mlW (5, 118, 129, 0), mlW (6, 146, 137, 0), mlW (5, 122, 130, 0), mlW (6, 149, 138, 0), mlW (5, 126, 111, 0), mlW (6, 152, 139, 0), mlW (6, 155, 140, 0), mlW (6, 159, 141, 0), mlW (6, 163, 142, 0), mlW (5, 129, 131, 0), mlW (6, 166, 143, 0), mlW (6, 170, 144, 0), mlW (6, 174, 151, 0), mlW (5, 158, 150, 0), mlW (5, 154, 149, 0), mlW (5, 138, 145, 0), mlW (5, 145, 146, 0), mlW (5, 148, 148, 0), mlW (5, 151, 147, 0), mlW (6, 178, 153, 0), mlW (5, 161, 152, 0), mlW (6, 181, 154, 0), mlW (6, 184, 155, 0), mlW (6, 187, 156, 0), mlW (6, 190, 157, 0), mlW (6, 193, 158, 0), mlW (6, 196, 159, 0), mlW (6, 199, 160, 0), mlW (6, 202, 161, 0), mlW (6, 205, 162, 0), mlW (6, 208, 163, 0), mlW (6, 211, 164, 0), mlW (6, 214, 168, 0), mlW (5, 170, 167, 0), mlW (5, 164, 166, 0), mlW (5, 167, 165, 0), mlW (6, 217, 170, 0), mlW (5, 173, 169, 0), mlW (6, 220, 171, 0), mlW (6, 223, 172, 0)]
def kmL_240 : List Cond := [mlW (6, 227, 173, 0), mlW (6, 230, 174, 0), mlW (6, 233, 175, 0), mlW (6, 236, 176, 0), mlW (6, 239, 179, 0), mlW (5, 179, 178, 0), mlW (5, 176, 177, 0), mlW (6, 243, 180, 0), mlW (6, 246, 181, 0), mlW (6, 249, 182, 0), mlW (6, 253, 184, 0), mlW (5, 182, 183, 0), mlW (6, 257, 185, 0), mlW (6, 260, 186, 0), mlW (6, 264, 187, 0), mlW (6, 268, 188, 0), mlW (6, 272, 189, 0)]
set_option maxRecDepth 1000000 in
theorem kmL_eq : lw_tbl.filter kmLB = kmL_0 ++ (kmL_60 ++ (kmL_120 ++ (kmL_180 ++ (kmL_240)))) := rfl
theorem kmL_0_in : ∀ w ∈ kmL_0, w ∈ lw_tbl := fun w h => (List.mem_filter.mp (by rw [kmL_eq]; exact List.mem_append_left _ h)).1
theorem kmL_60_in : ∀ w ∈ kmL_60, w ∈ lw_tbl := fun w h => (List.mem_filter.mp (by rw [kmL_eq]; exact List.mem_append_right _ (List.mem_append_left _ h))).1
theorem kmL_120_in : ∀ w ∈ kmL_120, w ∈ lw_tbl := fun w h => (List.mem_filter.mp (by rw [kmL_eq]; exact List.mem_append_right _ (List.mem_append_right _ (List.mem_append_left _ h)))).1
theorem kmL_180_in : ∀ w ∈ kmL_180, w ∈ lw_tbl := fun w h => (List.mem_filter.mp (by rw [kmL_eq]; exact List.mem_append_right _ (List.mem_append_right _ (List.mem_append_right _ (List.mem_append_left _ h))))).1
theorem kmL_240_in : ∀ w ∈ kmL_240, w ∈ lw_tbl := fun w h => (List.mem_filter.mp (by rw [kmL_eq]; exact List.mem_append_right _ (List.mem_append_right _ (List.mem_append_right _ (List.mem_append_right _ (h)))))).1
def kcDB : Cond → Bool
  | .code .. | .codeWith .. => true
  | _ => false
def kcD_0 : List Cond := [cwM 44, (Jvm.Cond.code ({ cls := "java/lang/Object", name := "<init>", desc := "()V" } : Jvm.MethodName) object_method_1_code (1 : Nat) (Option.none : Option Jvm.ClassFile.FieldType)), cwM 14, cwM 4, cwM 0, cwM 36, cwM 55, cwM 56, cwM 37, cwM 38, cwM 39, cwM 40, cwM 41, cwM 43, cwM 42, cwM 73, cwM 78, cwM 81, cwM 29, cwM 82, cwM 31, cwM 84, cwM 85, cwM 86, cwM 190, cwM 45, cwM 87, (Jvm.Cond.code ({ cls := "java/lang/Throwable", name := "<init>", desc := "()V" } : Jvm.MethodName) prog_16_method_1_code (1 : Nat) (Option.none : Option Jvm.ClassFile.FieldType)), (Jvm.Cond.code ({ cls := "java/lang/IndexOutOfBoundsException", name := "<init>", desc := "(Ljava/lang/String;)V" } : Jvm.MethodName) prog_11_method_2_code (2 : Nat) (Option.none : Option Jvm.ClassFile.FieldType)), (Jvm.Cond.code ({ cls := "java/lang/RuntimeException", name := "<init>", desc := "(Ljava/lang/String;)V" } : Jvm.MethodName) prog_13_method_2_code (2 : Nat) (Option.none : Option Jvm.ClassFile.FieldType)), (Jvm.Cond.code ({ cls := "java/lang/Exception", name := "<init>", desc := "(Ljava/lang/String;)V" } : Jvm.MethodName) prog_8_method_2_code (2 : Nat) (Option.none : Option Jvm.ClassFile.FieldType)), (Jvm.Cond.code ({ cls := "java/lang/Throwable", name := "<init>", desc := "(Ljava/lang/String;)V" } : Jvm.MethodName) prog_16_method_2_code (2 : Nat) (Option.none : Option Jvm.ClassFile.FieldType)), cwM 88, cwM 93, cwM 92, cwM 100, cwM 94, (Jvm.Cond.code ({ cls := "java/lang/IllegalArgumentException", name := "<init>", desc := "(Ljava/lang/String;)V" } : Jvm.MethodName) prog_9_method_2_code (2 : Nat) (Option.none : Option Jvm.ClassFile.FieldType)), cwM 16, cwM 6, (Jvm.Cond.code ({ cls := "java/lang/IllegalStateException", name := "<init>", desc := "(Ljava/lang/String;)V" } : Jvm.MethodName) prog_10_method_2_code (2 : Nat) (Option.none : Option Jvm.ClassFile.FieldType)), cwM 101, cwM 15, cwM 5, cwM 1, cwM 17, cwM 23, cwM 99, cwM 98, cwM 24, cwM 26, cwM 2, cwM 7, cwM 22, cwM 27, cwM 28, cwM 191, cwM 46, cwM 97, cwM 18]
def kcD_60 : List Cond := [cwM 19, cwM 192, cwM 47, cwM 20, cwM 8, cwM 193, cwM 48, cwM 21, cwM 194, cwM 49, cwM 91, cwM 89, cwM 90, cwM 95, cwM 195, cwM 50, cwM 196, cwM 51, cwM 197, cwM 52, cwM 35, cwM 198, cwM 53, cwM 32, cwM 33, cwM 34, cwM 30, cwM 199, cwM 54, cwM 200, cwM 57, cwM 102, cwM 201, cwM 58, cwM 202, cwM 59, cwM 96, cwM 203, cwM 60, cwM 204, cwM 61, cwM 205, cwM 62, cwM 10, cwM 9, cwM 206, cwM 63, cwM 207, cwM 64, cwM 208, cwM 65, cwM 209, cwM 66, (Jvm.Cond.code ({ cls := "java/lang/Math", name := "max", desc := "(II)I" } : Jvm.MethodName) prog_12_method_65_code (2 : Nat) (Option.some Jvm.ClassFile.FieldType.int)), cwM 210, cwM 67, cwM 25, (Jvm.Cond.code ({ cls := "java/lang/Math", name := "min", desc := "(II)I" } : Jvm.MethodName) prog_12_method_69_code (2 : Nat) (Option.some Jvm.ClassFile.FieldType.int)), cwM 211, cwM 68]
def kcD_120 : List Cond := [cwM 212, cwM 69, cwM 11, cwM 103, cwM 213, cwM 70, cwM 214, cwM 71, cwM 215, cwM 72, cwM 216, cwM 74, cwM 12, cwM 217, cwM 75, cwM 13, cwM 218, cwM 76, cwM 219, cwM 77, cwM 220, cwM 79, cwM 221, cwM 80, cwM 222, cwM 83, cwM 3, cwM 104, cwM 105, cwM 134, cwM 108, cwM 106, cwM 109, cwM 110, cwM 114, cwM 112, cwM 107, cwM 133, cwM 132, cwM 127, cwM 125, cwM 126, cwM 124, cwM 122, cwM 123, cwM 116, cwM 115, cwM 120, cwM 121, cwM 117, cwM 113, cwM 119, cwM 118, cwM 135, cwM 128, cwM 136, cwM 129, cwM 137, cwM 130, cwM 138]
def kcD_180 : List Cond := [cwM 111, cwM 139, cwM 140, cwM 141, cwM 142, cwM 131, cwM 143, cwM 144, cwM 151, cwM 150, cwM 149, cwM 145, cwM 146, cwM 148, cwM 147, cwM 153, cwM 152, cwM 154, cwM 155, cwM 156, cwM 157, cwM 158, cwM 159, cwM 160, cwM 161, cwM 162, cwM 163, cwM 164, cwM 168, cwM 167, cwM 166, cwM 165, cwM 170, cwM 169, cwM 171, cwM 172, cwM 173, cwM 174, cwM 175, cwM 176, cwM 179, cwM 178, cwM 177, cwM 180, cwM 181, cwM 182, cwM 184, cwM 183, cwM 185, cwM 186, cwM 187, cwM 188, cwM 189]
set_option maxRecDepth 1000000 in
theorem kcD_eq : lw_tbl.filter kcDB = kcD_0 ++ (kcD_60 ++ (kcD_120 ++ (kcD_180))) := rfl
theorem kcD_0_in : ∀ w ∈ kcD_0, w ∈ lw_tbl := fun w h => (List.mem_filter.mp (by rw [kcD_eq]; exact List.mem_append_left _ h)).1
theorem kcD_60_in : ∀ w ∈ kcD_60, w ∈ lw_tbl := fun w h => (List.mem_filter.mp (by rw [kcD_eq]; exact List.mem_append_right _ (List.mem_append_left _ h))).1
theorem kcD_120_in : ∀ w ∈ kcD_120, w ∈ lw_tbl := fun w h => (List.mem_filter.mp (by rw [kcD_eq]; exact List.mem_append_right _ (List.mem_append_right _ (List.mem_append_left _ h)))).1
theorem kcD_180_in : ∀ w ∈ kcD_180, w ∈ lw_tbl := fun w h => (List.mem_filter.mp (by rw [kcD_eq]; exact List.mem_append_right _ (List.mem_append_right _ (List.mem_append_right _ (h))))).1
def ksTB : Cond → Bool
  | .static _ => true
  | _ => false
def ksT_0 : List Cond := [.static (yM 39), .static (yM 190), .static (yM 87), .static (yM 88), .static (yM 93), .static (yM 92), .static (yM 100), .static (yM 94), (Jvm.Cond.static ({ cls := "java/lang/System", name := "arraycopy", desc := "(Ljava/lang/Object;ILjava/lang/Object;II)V" } : Jvm.MethodName)), .static (yM 99), .static (yM 98), .static (yM 191), .static (yM 192), .static (yM 193), .static (yM 194), .static (yM 91), .static (yM 89), .static (yM 90), .static (yM 95), .static (yM 195), .static (yM 196), .static (yM 197), .static (yM 198), .static (yM 199), .static (yM 200), .static (yM 201), .static (yM 202), .static (yM 96), .static (yM 203), .static (yM 204), .static (yM 205), .static (yM 206), .static (yM 207), .static (yM 208), .static (yM 209), (Jvm.Cond.static ({ cls := "java/lang/Math", name := "max", desc := "(II)I" } : Jvm.MethodName)), .static (yM 210), (Jvm.Cond.static ({ cls := "java/lang/Math", name := "min", desc := "(II)I" } : Jvm.MethodName)), .static (yM 211), .static (yM 212), .static (yM 103), .static (yM 213), .static (yM 214), .static (yM 215), .static (yM 216), .static (yM 217), .static (yM 218), .static (yM 219), .static (yM 220), .static (yM 221), .static (yM 222), .static (yM 108), .static (yM 106), .static (yM 109), .static (yM 110), .static (yM 123), .static (yM 111), .static (yM 148)]
set_option maxRecDepth 1000000 in
theorem ksT_eq : lw_tbl.filter ksTB = ksT_0 := rfl
theorem ksT_0_in : ∀ w ∈ ksT_0, w ∈ lw_tbl := fun w h => (List.mem_filter.mp (by rw [ksT_eq]; exact h)).1
def kiNB : Cond → Bool
  | .instanceMethod _ => true
  | _ => false
def kiN_0 : List Cond := [.instanceMethod (yM 44), (Jvm.Cond.instanceMethod ({ cls := "java/lang/Object", name := "<init>", desc := "()V" } : Jvm.MethodName)), .instanceMethod (yM 14), .instanceMethod (yM 4), .instanceMethod (yM 0), .instanceMethod (yM 36), .instanceMethod (yM 55), .instanceMethod (yM 56), .instanceMethod (yM 37), .instanceMethod (yM 38), .instanceMethod (yM 40), .instanceMethod (yM 41), .instanceMethod (yM 43), .instanceMethod (yM 42), .instanceMethod (yM 73), .instanceMethod (yM 78), .instanceMethod (yM 81), .instanceMethod (yM 29), .instanceMethod (yM 82), .instanceMethod (yM 31), .instanceMethod (yM 84), .instanceMethod (yM 85), .instanceMethod (yM 86), .instanceMethod (yM 45), (Jvm.Cond.instanceMethod ({ cls := "java/lang/Throwable", name := "<init>", desc := "()V" } : Jvm.MethodName)), (Jvm.Cond.instanceMethod ({ cls := "java/lang/Throwable", name := "fillInStackTrace", desc := "()Ljava/lang/Throwable;" } : Jvm.MethodName)), (Jvm.Cond.instanceMethod ({ cls := "java/lang/Throwable", name := "fillInStackTrace", desc := "(I)Ljava/lang/Throwable;" } : Jvm.MethodName)), (Jvm.Cond.instanceMethod ({ cls := "java/lang/IndexOutOfBoundsException", name := "<init>", desc := "(Ljava/lang/String;)V" } : Jvm.MethodName)), (Jvm.Cond.instanceMethod ({ cls := "java/lang/RuntimeException", name := "<init>", desc := "(Ljava/lang/String;)V" } : Jvm.MethodName)), (Jvm.Cond.instanceMethod ({ cls := "java/lang/Exception", name := "<init>", desc := "(Ljava/lang/String;)V" } : Jvm.MethodName)), (Jvm.Cond.instanceMethod ({ cls := "java/lang/Throwable", name := "<init>", desc := "(Ljava/lang/String;)V" } : Jvm.MethodName)), (Jvm.Cond.instanceMethod ({ cls := "java/lang/IllegalArgumentException", name := "<init>", desc := "(Ljava/lang/String;)V" } : Jvm.MethodName)), .instanceMethod (yM 16), .instanceMethod (yM 6), (Jvm.Cond.instanceMethod ({ cls := "java/lang/IllegalStateException", name := "<init>", desc := "(Ljava/lang/String;)V" } : Jvm.MethodName)), .instanceMethod (yM 101), .instanceMethod (yM 15), .instanceMethod (yM 5), .instanceMethod (yM 1), .instanceMethod (yM 17), .instanceMethod (yM 23), .instanceMethod (yM 24), .instanceMethod (yM 26), .instanceMethod (yM 2), .instanceMethod (yM 7), .instanceMethod (yM 22), .instanceMethod (yM 27), .instanceMethod (yM 28), .instanceMethod (yM 46), .instanceMethod (yM 97), .instanceMethod (yM 18), .instanceMethod (yM 19), .instanceMethod (yM 47), .instanceMethod (yM 20), .instanceMethod (yM 8), .instanceMethod (yM 48), .instanceMethod (yM 21), .instanceMethod (yM 49), .instanceMethod (yM 50), .instanceMethod (yM 51)]
def kiN_60 : List Cond := [.instanceMethod (yM 52), .instanceMethod (yM 35), .instanceMethod (yM 53), .instanceMethod (yM 32), .instanceMethod (yM 33), .instanceMethod (yM 34), .instanceMethod (yM 30), .instanceMethod (yM 54), .instanceMethod (yM 57), .instanceMethod (yM 102), .instanceMethod (yM 58), .instanceMethod (yM 59), .instanceMethod (yM 60), .instanceMethod (yM 61), .instanceMethod (yM 62), .instanceMethod (yM 10), .instanceMethod (yM 9), .instanceMethod (yM 63), .instanceMethod (yM 64), .instanceMethod (yM 65), .instanceMethod (yM 66), .instanceMethod (yM 67), .instanceMethod (yM 25), .instanceMethod (yM 68), .instanceMethod (yM 69), .instanceMethod (yM 11), .instanceMethod (yM 70), .instanceMethod (yM 71), .instanceMethod (yM 72), .instanceMethod (yM 74), .instanceMethod (yM 12), .instanceMethod (yM 75), .instanceMethod (yM 13), .instanceMethod (yM 76), .instanceMethod (yM 77), .instanceMethod (yM 79), .instanceMethod (yM 80), .instanceMethod (yM 83), .instanceMethod (yM 3), .instanceMethod (yM 104), .instanceMethod (yM 105), .instanceMethod (yM 134), .instanceMethod (yM 114), .instanceMethod (yM 112), .instanceMethod (yM 107), .instanceMethod (yM 133), .instanceMethod (yM 132), .instanceMethod (yM 127), .instanceMethod (yM 125), .instanceMethod (yM 126), .instanceMethod (yM 124), .instanceMethod (yM 122), .instanceMethod (yM 116), .instanceMethod (yM 115), .instanceMethod (yM 120), .instanceMethod (yM 121), .instanceMethod (yM 117), .instanceMethod (yM 113), .instanceMethod (yM 119), .instanceMethod (yM 118)]
def kiN_120 : List Cond := [.instanceMethod (yM 135), .instanceMethod (yM 128), .instanceMethod (yM 136), .instanceMethod (yM 129), .instanceMethod (yM 137), .instanceMethod (yM 130), .instanceMethod (yM 138), .instanceMethod (yM 139), .instanceMethod (yM 140), .instanceMethod (yM 141), .instanceMethod (yM 142), .instanceMethod (yM 131), .instanceMethod (yM 143), .instanceMethod (yM 144), .instanceMethod (yM 151), .instanceMethod (yM 150), .instanceMethod (yM 149), .instanceMethod (yM 145), .instanceMethod (yM 146), .instanceMethod (yM 147), .instanceMethod (yM 153), .instanceMethod (yM 152), .instanceMethod (yM 154), .instanceMethod (yM 155), .instanceMethod (yM 156), .instanceMethod (yM 157), .instanceMethod (yM 158), .instanceMethod (yM 159), .instanceMethod (yM 160), .instanceMethod (yM 161), .instanceMethod (yM 162), .instanceMethod (yM 163), .instanceMethod (yM 164), .instanceMethod (yM 168), .instanceMethod (yM 167), .instanceMethod (yM 166), .instanceMethod (yM 165), .instanceMethod (yM 170), .instanceMethod (yM 169), .instanceMethod (yM 171), .instanceMethod (yM 172), .instanceMethod (yM 173), .instanceMethod (yM 174), .instanceMethod (yM 175), .instanceMethod (yM 176), .instanceMethod (yM 179), .instanceMethod (yM 178), .instanceMethod (yM 177), .instanceMethod (yM 180), .instanceMethod (yM 181), .instanceMethod (yM 182), .instanceMethod (yM 184), .instanceMethod (yM 183), .instanceMethod (yM 185), .instanceMethod (yM 186), .instanceMethod (yM 187), .instanceMethod (yM 188), .instanceMethod (yM 189)]
set_option maxRecDepth 1000000 in
theorem kiN_eq : lw_tbl.filter kiNB = kiN_0 ++ (kiN_60 ++ (kiN_120)) := rfl
theorem kiN_0_in : ∀ w ∈ kiN_0, w ∈ lw_tbl := fun w h => (List.mem_filter.mp (by rw [kiN_eq]; exact List.mem_append_left _ h)).1
theorem kiN_60_in : ∀ w ∈ kiN_60, w ∈ lw_tbl := fun w h => (List.mem_filter.mp (by rw [kiN_eq]; exact List.mem_append_right _ (List.mem_append_left _ h))).1
theorem kiN_120_in : ∀ w ∈ kiN_120, w ∈ lw_tbl := fun w h => (List.mem_filter.mp (by rw [kiN_eq]; exact List.mem_append_right _ (List.mem_append_right _ (h)))).1
def kxLB : Cond → Bool
  | .selects .. => true
  | _ => false
def kxL_0 : List Cond := [.selects (owM 37) (yM 37) (yM 37), .selects (owM 38) (yM 38) (yM 38), .selects (owM 40) (yM 40) (yM 40), .selects (owM 41) (yM 41) (yM 41), .selects (owM 43) (yM 43) (yM 43), .selects (owM 42) (yM 42) (yM 42), .selects (owM 29) (yM 29) (yM 29), .selects (owM 31) (yM 31) (yM 31), .selects "java/lang/Throwable" ⟨"java/lang/Throwable", "fillInStackTrace", "(I)Ljava/lang/Throwable;"⟩ ⟨"java/lang/Throwable", "fillInStackTrace", "(I)Ljava/lang/Throwable;"⟩, .selects (owM 16) (yM 16) (yM 16), .selects (owM 6) (yM 6) (yM 6), .selects (owM 101) (yM 101) (yM 101), .selects (owM 15) (yM 15) (yM 15), .selects (owM 5) (yM 5) (yM 5), .selects (owM 1) (yM 1) (yM 1), .selects (owM 17) (yM 17) (yM 17), .selects (owM 23) (yM 23) (yM 23), .selects (owM 24) (yM 24) (yM 24), .selects (owM 26) (yM 26) (yM 26), .selects (owM 2) (yM 2) (yM 2), .selects (owM 7) (yM 7) (yM 7), .selects (owM 22) (yM 22) (yM 22), .selects (owM 27) (yM 27) (yM 27), .selects (owM 28) (yM 28) (yM 28), .selects (owM 97) (yM 97) (yM 97), .selects (owM 18) (yM 18) (yM 18), .selects (owM 19) (yM 19) (yM 19), .selects (owM 20) (yM 20) (yM 20), .selects (owM 8) (yM 8) (yM 8), .selects (owM 21) (yM 21) (yM 21), .selects (owM 35) (yM 35) (yM 35), .selects (owM 32) (yM 32) (yM 32), .selects (owM 33) (yM 33) (yM 33), .selects (owM 34) (yM 34) (yM 34), .selects (owM 30) (yM 30) (yM 30), .selects (owM 102) (yM 102) (yM 102), .selects (owM 10) (yM 10) (yM 10), .selects (owM 9) (yM 9) (yM 9), .selects (owM 25) (yM 25) (yM 25), .selects (owM 11) (yM 11) (yM 11), .selects (owM 12) (yM 12) (yM 12), .selects (owM 13) (yM 13) (yM 13), .selects (owM 3) (yM 3) (yM 3), .selects (owM 114) (yM 114) (yM 114), .selects (owM 112) (yM 112) (yM 112), .selects (owM 107) (yM 107) (yM 107), .selects (owM 133) (yM 133) (yM 133), .selects (owM 132) (yM 132) (yM 132), .selects (owM 127) (yM 127) (yM 127), .selects (owM 125) (yM 125) (yM 125), .selects (owM 126) (yM 126) (yM 126), .selects (owM 124) (yM 124) (yM 124), .selects (owM 122) (yM 122) (yM 122), .selects (owM 116) (yM 116) (yM 116), .selects (owM 115) (yM 115) (yM 115), .selects (owM 120) (yM 120) (yM 120), .selects (owM 121) (yM 121) (yM 121), .selects (owM 117) (yM 117) (yM 117), .selects (owM 113) (yM 113) (yM 113), .selects (owM 119) (yM 119) (yM 119)]
def kxL_60 : List Cond := [.selects (owM 118) (yM 118) (yM 118), .selects (owM 128) (yM 128) (yM 128), .selects (owM 129) (yM 129) (yM 129), .selects (owM 130) (yM 130) (yM 130), .selects (owM 131) (yM 131) (yM 131), .selects (owM 150) (yM 150) (yM 150), .selects (owM 149) (yM 149) (yM 149), .selects (owM 145) (yM 145) (yM 145), .selects (owM 146) (yM 146) (yM 146), .selects (owM 147) (yM 147) (yM 147), .selects (owM 152) (yM 152) (yM 152), .selects (owM 167) (yM 167) (yM 167), .selects (owM 166) (yM 166) (yM 166), .selects (owM 165) (yM 165) (yM 165), .selects (owM 169) (yM 169) (yM 169), .selects (owM 178) (yM 178) (yM 178), .selects (owM 177) (yM 177) (yM 177), .selects (owM 183) (yM 183) (yM 183), .selects (owM 55) (yM 55) (yM 55), .selects (owM 56) (yM 56) (yM 56), .selects (owM 73) (yM 73) (yM 73), .selects (owM 78) (yM 78) (yM 78), .selects (owM 81) (yM 81) (yM 81), .selects (owM 82) (yM 82) (yM 82), .selects (owM 84) (yM 84) (yM 84), .selects (owM 85) (yM 85) (yM 85), .selects (owM 86) (yM 86) (yM 86), .selects (owM 45) (yM 45) (yM 45), (Jvm.Cond.selects "java/lang/IndexOutOfBoundsException" ({ cls := "java/lang/Throwable", name := "fillInStackTrace", desc := "(I)Ljava/lang/Throwable;" } : Jvm.MethodName) ({ cls := "java/lang/Throwable", name := "fillInStackTrace", desc := "(I)Ljava/lang/Throwable;" } : Jvm.MethodName)), (Jvm.Cond.selects "java/lang/IndexOutOfBoundsException" ({ cls := "java/lang/Throwable", name := "fillInStackTrace", desc := "()Ljava/lang/Throwable;" } : Jvm.MethodName) ({ cls := "java/lang/Throwable", name := "fillInStackTrace", desc := "()Ljava/lang/Throwable;" } : Jvm.MethodName)), (Jvm.Cond.selects "java/lang/IllegalArgumentException" ({ cls := "java/lang/Throwable", name := "fillInStackTrace", desc := "()Ljava/lang/Throwable;" } : Jvm.MethodName) ({ cls := "java/lang/Throwable", name := "fillInStackTrace", desc := "()Ljava/lang/Throwable;" } : Jvm.MethodName)), (Jvm.Cond.selects "java/lang/IllegalStateException" ({ cls := "java/lang/Throwable", name := "fillInStackTrace", desc := "()Ljava/lang/Throwable;" } : Jvm.MethodName) ({ cls := "java/lang/Throwable", name := "fillInStackTrace", desc := "()Ljava/lang/Throwable;" } : Jvm.MethodName)), (Jvm.Cond.selects "java/lang/IllegalArgumentException" ({ cls := "java/lang/Throwable", name := "fillInStackTrace", desc := "(I)Ljava/lang/Throwable;" } : Jvm.MethodName) ({ cls := "java/lang/Throwable", name := "fillInStackTrace", desc := "(I)Ljava/lang/Throwable;" } : Jvm.MethodName)), (Jvm.Cond.selects "java/lang/IllegalStateException" ({ cls := "java/lang/Throwable", name := "fillInStackTrace", desc := "(I)Ljava/lang/Throwable;" } : Jvm.MethodName) ({ cls := "java/lang/Throwable", name := "fillInStackTrace", desc := "(I)Ljava/lang/Throwable;" } : Jvm.MethodName)), .selects (owM 46) (yM 46) (yM 46), .selects (owM 47) (yM 47) (yM 47), .selects (owM 48) (yM 48) (yM 48), .selects (owM 49) (yM 49) (yM 49), .selects (owM 50) (yM 50) (yM 50), .selects (owM 51) (yM 51) (yM 51), .selects (owM 52) (yM 52) (yM 52), .selects (owM 53) (yM 53) (yM 53), .selects (owM 54) (yM 54) (yM 54), .selects (owM 57) (yM 57) (yM 57), .selects (owM 58) (yM 58) (yM 58), .selects (owM 59) (yM 59) (yM 59), .selects (owM 60) (yM 60) (yM 60), .selects (owM 61) (yM 61) (yM 61), .selects (owM 62) (yM 62) (yM 62), .selects (owM 63) (yM 63) (yM 63), .selects (owM 64) (yM 64) (yM 64), .selects (owM 65) (yM 65) (yM 65), .selects (owM 66) (yM 66) (yM 66), .selects (owM 67) (yM 67) (yM 67), .selects (owM 68) (yM 68) (yM 68), .selects (owM 69) (yM 69) (yM 69), .selects (owM 70) (yM 70) (yM 70), .selects (owM 71) (yM 71) (yM 71), .selects (owM 72) (yM 72) (yM 72), .selects (owM 74) (yM 74) (yM 74)]
def kxL_120 : List Cond := [.selects (owM 75) (yM 75) (yM 75), .selects (owM 76) (yM 76) (yM 76), .selects (owM 77) (yM 77) (yM 77), .selects (owM 79) (yM 79) (yM 79), .selects (owM 80) (yM 80) (yM 80), .selects (owM 83) (yM 83) (yM 83), .selects (owM 105) (yM 105) (yM 105), .selects (owM 134) (yM 134) (yM 134), .selects (owM 135) (yM 135) (yM 135), .selects (owM 136) (yM 136) (yM 136), .selects (owM 137) (yM 137) (yM 137), .selects (owM 138) (yM 138) (yM 138), .selects (owM 139) (yM 139) (yM 139), .selects (owM 140) (yM 140) (yM 140), .selects (owM 141) (yM 141) (yM 141), .selects (owM 142) (yM 142) (yM 142), .selects (owM 143) (yM 143) (yM 143), .selects (owM 144) (yM 144) (yM 144), .selects (owM 151) (yM 151) (yM 151), .selects (owM 153) (yM 153) (yM 153), .selects (owM 154) (yM 154) (yM 154), .selects (owM 155) (yM 155) (yM 155), .selects (owM 156) (yM 156) (yM 156), .selects (owM 157) (yM 157) (yM 157), .selects (owM 158) (yM 158) (yM 158), .selects (owM 159) (yM 159) (yM 159), .selects (owM 160) (yM 160) (yM 160), .selects (owM 161) (yM 161) (yM 161), .selects (owM 162) (yM 162) (yM 162), .selects (owM 163) (yM 163) (yM 163), .selects (owM 164) (yM 164) (yM 164), .selects (owM 168) (yM 168) (yM 168), .selects (owM 170) (yM 170) (yM 170), .selects (owM 171) (yM 171) (yM 171), .selects (owM 172) (yM 172) (yM 172), .selects (owM 173) (yM 173) (yM 173), .selects (owM 174) (yM 174) (yM 174), .selects (owM 175) (yM 175) (yM 175), .selects (owM 176) (yM 176) (yM 176), .selects (owM 179) (yM 179) (yM 179), .selects (owM 180) (yM 180) (yM 180), .selects (owM 181) (yM 181) (yM 181), .selects (owM 182) (yM 182) (yM 182), .selects (owM 184) (yM 184) (yM 184), .selects (owM 185) (yM 185) (yM 185), .selects (owM 186) (yM 186) (yM 186), .selects (owM 187) (yM 187) (yM 187), .selects (owM 188) (yM 188) (yM 188), .selects (owM 189) (yM 189) (yM 189)]
set_option maxRecDepth 1000000 in
theorem kxL_eq : lw_tbl.filter kxLB = kxL_0 ++ (kxL_60 ++ (kxL_120)) := rfl
theorem kxL_0_in : ∀ w ∈ kxL_0, w ∈ lw_tbl := fun w h => (List.mem_filter.mp (by rw [kxL_eq]; exact List.mem_append_left _ h)).1
theorem kxL_60_in : ∀ w ∈ kxL_60, w ∈ lw_tbl := fun w h => (List.mem_filter.mp (by rw [kxL_eq]; exact List.mem_append_right _ (List.mem_append_left _ h))).1
theorem kxL_120_in : ∀ w ∈ kxL_120, w ∈ lw_tbl := fun w h => (List.mem_filter.mp (by rw [kxL_eq]; exact List.mem_append_right _ (List.mem_append_right _ (h)))).1
set_option maxRecDepth 1000000 in
theorem fw_0 : flW (1, 9, 1, 0, 0) ∈ lw_tbl := kfF_0_in _ (List.mem_of_getElem? (i := 0) rfl)
set_option maxRecDepth 1000000 in
theorem fw_1 : flW (2, 66, 1, 0, 1) ∈ lw_tbl := kfF_0_in _ (List.mem_of_getElem? (i := 1) rfl)
set_option maxRecDepth 1000000 in
theorem fw_2 : flW (4, 237, 1, 0, 1) ∈ lw_tbl := kfF_0_in _ (List.mem_of_getElem? (i := 2) rfl)
set_option maxRecDepth 1000000 in
theorem fw_3 : flW (1, 15, 1, 1, 0) ∈ lw_tbl := kfF_0_in _ (List.mem_of_getElem? (i := 3) rfl)
set_option maxRecDepth 1000000 in
theorem fw_4 : flW (1, 19, 1, 2, 0) ∈ lw_tbl := kfF_0_in _ (List.mem_of_getElem? (i := 4) rfl)
set_option maxRecDepth 1000000 in
theorem fw_5 : flW (2, 97, 1, 2, 1) ∈ lw_tbl := kfF_0_in _ (List.mem_of_getElem? (i := 5) rfl)
set_option maxRecDepth 1000000 in
theorem fw_6 : flW (4, 231, 1, 2, 1) ∈ lw_tbl := kfF_0_in _ (List.mem_of_getElem? (i := 6) rfl)
set_option maxRecDepth 1000000 in
theorem fw_7 : flW (1, 22, 1, 3, 0) ∈ lw_tbl := kfF_0_in _ (List.mem_of_getElem? (i := 7) rfl)
set_option maxRecDepth 1000000 in
theorem fw_8 : flW (2, 100, 1, 3, 1) ∈ lw_tbl := kfF_0_in _ (List.mem_of_getElem? (i := 8) rfl)
set_option maxRecDepth 1000000 in
theorem fw_9 : flW (4, 234, 1, 3, 1) ∈ lw_tbl := kfF_0_in _ (List.mem_of_getElem? (i := 9) rfl)
set_option maxRecDepth 1000000 in
theorem fw_10 : flW (1, 25, 1, 4, 0) ∈ lw_tbl := kfF_0_in _ (List.mem_of_getElem? (i := 10) rfl)
set_option maxRecDepth 1000000 in
theorem fw_11 : flW (2, 94, 1, 4, 1) ∈ lw_tbl := kfF_0_in _ (List.mem_of_getElem? (i := 11) rfl)
set_option maxRecDepth 1000000 in
theorem fw_12 : flW (4, 228, 1, 4, 1) ∈ lw_tbl := kfF_0_in _ (List.mem_of_getElem? (i := 12) rfl)
set_option maxRecDepth 1000000 in
theorem fw_13 : flW (0, 9, 0, 0, 0) ∈ lw_tbl := kfF_0_in _ (List.mem_of_getElem? (i := 13) rfl)
set_option maxRecDepth 1000000 in
theorem fw_14 : flW (4, 277, 0, 0, 1) ∈ lw_tbl := kfF_0_in _ (List.mem_of_getElem? (i := 14) rfl)
set_option maxRecDepth 1000000 in
theorem fw_15 : flW (0, 15, 0, 1, 0) ∈ lw_tbl := kfF_0_in _ (List.mem_of_getElem? (i := 15) rfl)
set_option maxRecDepth 1000000 in
theorem fw_16 : flW (0, 18, 0, 2, 0) ∈ lw_tbl := kfF_0_in _ (List.mem_of_getElem? (i := 16) rfl)
set_option maxRecDepth 1000000 in
theorem fw_17 : flW (0, 22, 0, 3, 0) ∈ lw_tbl := kfF_0_in _ (List.mem_of_getElem? (i := 17) rfl)
set_option maxRecDepth 1000000 in
theorem fw_18 : flW (0, 25, 0, 4, 0) ∈ lw_tbl := kfF_0_in _ (List.mem_of_getElem? (i := 18) rfl)
set_option maxRecDepth 1000000 in
theorem fw_19 : flW (2, 9, 2, 0, 0) ∈ lw_tbl := kfF_0_in _ (List.mem_of_getElem? (i := 19) rfl)
set_option maxRecDepth 1000000 in
theorem fw_20 : flW (4, 129, 2, 0, 1) ∈ lw_tbl := kfF_0_in _ (List.mem_of_getElem? (i := 20) rfl)
set_option maxRecDepth 1000000 in
theorem fw_21 : flW (2, 15, 2, 1, 0) ∈ lw_tbl := kfF_0_in _ (List.mem_of_getElem? (i := 21) rfl)
set_option maxRecDepth 1000000 in
theorem fw_22 : flW (4, 118, 2, 1, 1) ∈ lw_tbl := kfF_0_in _ (List.mem_of_getElem? (i := 22) rfl)
set_option maxRecDepth 1000000 in
theorem fw_23 : flW (2, 19, 2, 2, 0) ∈ lw_tbl := kfF_0_in _ (List.mem_of_getElem? (i := 23) rfl)
set_option maxRecDepth 1000000 in
theorem fw_24 : flW (4, 132, 2, 2, 1) ∈ lw_tbl := kfF_0_in _ (List.mem_of_getElem? (i := 24) rfl)
set_option maxRecDepth 1000000 in
theorem fw_25 : flW (2, 23, 2, 3, 0) ∈ lw_tbl := kfF_0_in _ (List.mem_of_getElem? (i := 25) rfl)
set_option maxRecDepth 1000000 in
theorem fw_26 : flW (4, 107, 2, 3, 1) ∈ lw_tbl := kfF_0_in _ (List.mem_of_getElem? (i := 26) rfl)
set_option maxRecDepth 1000000 in
theorem fw_27 : flW (2, 26, 2, 4, 0) ∈ lw_tbl := kfF_0_in _ (List.mem_of_getElem? (i := 27) rfl)
set_option maxRecDepth 1000000 in
theorem fw_28 : flW (4, 98, 2, 4, 1) ∈ lw_tbl := kfF_0_in _ (List.mem_of_getElem? (i := 28) rfl)
set_option maxRecDepth 1000000 in
theorem fw_29 : flW (2, 29, 2, 5, 0) ∈ lw_tbl := kfF_0_in _ (List.mem_of_getElem? (i := 29) rfl)
set_option maxRecDepth 1000000 in
theorem fw_30 : flW (4, 101, 2, 5, 1) ∈ lw_tbl := kfF_0_in _ (List.mem_of_getElem? (i := 30) rfl)
set_option maxRecDepth 1000000 in
theorem fw_31 : flW (2, 32, 2, 6, 0) ∈ lw_tbl := kfF_0_in _ (List.mem_of_getElem? (i := 31) rfl)
set_option maxRecDepth 1000000 in
theorem fw_32 : flW (4, 126, 2, 6, 1) ∈ lw_tbl := kfF_0_in _ (List.mem_of_getElem? (i := 32) rfl)
set_option maxRecDepth 1000000 in
theorem fw_33 : flW (2, 35, 2, 7, 0) ∈ lw_tbl := kfF_0_in _ (List.mem_of_getElem? (i := 33) rfl)
set_option maxRecDepth 1000000 in
theorem fw_34 : flW (4, 211, 2, 7, 1) ∈ lw_tbl := kfF_0_in _ (List.mem_of_getElem? (i := 34) rfl)
set_option maxRecDepth 1000000 in
theorem fw_35 : flW (2, 41, 2, 8, 0) ∈ lw_tbl := kfF_0_in _ (List.mem_of_getElem? (i := 35) rfl)
set_option maxRecDepth 1000000 in
theorem fw_36 : flW (4, 188, 2, 8, 1) ∈ lw_tbl := kfF_0_in _ (List.mem_of_getElem? (i := 36) rfl)
set_option maxRecDepth 1000000 in
theorem fw_37 : flW (2, 48, 2, 9, 0) ∈ lw_tbl := kfF_0_in _ (List.mem_of_getElem? (i := 37) rfl)
set_option maxRecDepth 1000000 in
theorem fw_38 : flW (4, 268, 2, 9, 1) ∈ lw_tbl := kfF_0_in _ (List.mem_of_getElem? (i := 38) rfl)
set_option maxRecDepth 1000000 in
theorem fw_39 : flW (3, 9, 3, 0, 0) ∈ lw_tbl := kfF_0_in _ (List.mem_of_getElem? (i := 39) rfl)
set_option maxRecDepth 1000000 in
theorem fw_40 : flW (4, 154, 3, 0, 1) ∈ lw_tbl := kfF_0_in _ (List.mem_of_getElem? (i := 40) rfl)
set_option maxRecDepth 1000000 in
theorem fw_41 : flW (3, 15, 3, 1, 0) ∈ lw_tbl := kfF_0_in _ (List.mem_of_getElem? (i := 41) rfl)
set_option maxRecDepth 1000000 in
theorem fw_42 : flW (4, 149, 3, 1, 1) ∈ lw_tbl := kfF_0_in _ (List.mem_of_getElem? (i := 42) rfl)
set_option maxRecDepth 1000000 in
theorem fw_43 : flW (3, 19, 3, 2, 0) ∈ lw_tbl := kfF_0_in _ (List.mem_of_getElem? (i := 43) rfl)
set_option maxRecDepth 1000000 in
theorem fw_44 : flW (4, 163, 3, 2, 1) ∈ lw_tbl := kfF_0_in _ (List.mem_of_getElem? (i := 44) rfl)
set_option maxRecDepth 1000000 in
theorem fw_45 : flW (3, 22, 3, 3, 0) ∈ lw_tbl := kfF_0_in _ (List.mem_of_getElem? (i := 45) rfl)
set_option maxRecDepth 1000000 in
theorem fw_46 : flW (4, 307, 3, 3, 1) ∈ lw_tbl := kfF_0_in _ (List.mem_of_getElem? (i := 46) rfl)
set_option maxRecDepth 1000000 in
theorem fw_47 : flW (3, 26, 3, 4, 0) ∈ lw_tbl := kfF_0_in _ (List.mem_of_getElem? (i := 47) rfl)
set_option maxRecDepth 1000000 in
theorem fw_48 : flW (4, 304, 3, 4, 1) ∈ lw_tbl := kfF_0_in _ (List.mem_of_getElem? (i := 48) rfl)
set_option maxRecDepth 1000000 in
theorem fw_49 : flW (4, 12, 4, 0, 0) ∈ lw_tbl := kfF_0_in _ (List.mem_of_getElem? (i := 49) rfl)
set_option maxRecDepth 1000000 in
theorem fw_50 : flW (4, 16, 4, 1, 0) ∈ lw_tbl := kfF_0_in _ (List.mem_of_getElem? (i := 50) rfl)
set_option maxRecDepth 1000000 in
theorem fw_51 : flW (4, 19, 4, 2, 0) ∈ lw_tbl := kfF_0_in _ (List.mem_of_getElem? (i := 51) rfl)
set_option maxRecDepth 1000000 in
theorem fw_52 : flW (4, 23, 4, 3, 0) ∈ lw_tbl := kfF_0_in _ (List.mem_of_getElem? (i := 52) rfl)
set_option maxRecDepth 1000000 in
theorem fw_53 : flW (4, 27, 4, 4, 0) ∈ lw_tbl := kfF_0_in _ (List.mem_of_getElem? (i := 53) rfl)
set_option maxRecDepth 1000000 in
theorem fw_54 : flW (4, 30, 4, 5, 0) ∈ lw_tbl := kfF_0_in _ (List.mem_of_getElem? (i := 54) rfl)
set_option maxRecDepth 1000000 in
theorem fw_55 : flW (4, 37, 4, 6, 0) ∈ lw_tbl := kfF_0_in _ (List.mem_of_getElem? (i := 55) rfl)
set_option maxRecDepth 1000000 in
theorem fw_56 : flW (4, 41, 4, 7, 0) ∈ lw_tbl := kfF_0_in _ (List.mem_of_getElem? (i := 56) rfl)
set_option maxRecDepth 1000000 in
theorem fw_57 : flW (5, 29, 5, 0, 0) ∈ lw_tbl := kfF_60_in _ (List.mem_of_getElem? (i := 11) rfl)
set_option maxRecDepth 1000000 in
theorem fw_58 : flW (5, 7, 5, 1, 0) ∈ lw_tbl := kfF_60_in _ (List.mem_of_getElem? (i := 12) rfl)
set_option maxRecDepth 1000000 in
theorem fw_59 : flW (5, 87, 5, 2, 0) ∈ lw_tbl := kfF_60_in _ (List.mem_of_getElem? (i := 13) rfl)
set_option maxRecDepth 1000000 in
theorem fw_60 : flW (5, 13, 5, 3, 0) ∈ lw_tbl := kfF_60_in _ (List.mem_of_getElem? (i := 14) rfl)
set_option maxRecDepth 1000000 in
theorem fw_61 : flW (5, 17, 5, 4, 0) ∈ lw_tbl := kfF_60_in _ (List.mem_of_getElem? (i := 15) rfl)
set_option maxRecDepth 1000000 in
theorem fw_62 : flW (5, 132, 5, 5, 0) ∈ lw_tbl := kfF_60_in _ (List.mem_of_getElem? (i := 16) rfl)
set_option maxRecDepth 1000000 in
theorem fw_63 : flW (5, 135, 5, 6, 0) ∈ lw_tbl := kfF_60_in _ (List.mem_of_getElem? (i := 17) rfl)
set_option maxRecDepth 1000000 in
theorem fw_64 : flW (5, 142, 5, 7, 0) ∈ lw_tbl := kfF_60_in _ (List.mem_of_getElem? (i := 18) rfl)
set_option maxRecDepth 1000000 in
theorem fw_65 : flW (5, 20, 5, 8, 0) ∈ lw_tbl := kfF_60_in _ (List.mem_of_getElem? (i := 19) rfl)
set_option maxRecDepth 1000000 in
theorem fw_66 : flW (5, 23, 5, 9, 0) ∈ lw_tbl := kfF_60_in _ (List.mem_of_getElem? (i := 20) rfl)
set_option maxRecDepth 1000000 in
theorem fw_67 : flW (5, 26, 5, 10, 0) ∈ lw_tbl := kfF_60_in _ (List.mem_of_getElem? (i := 21) rfl)
set_option maxRecDepth 1000000 in
theorem mw_0 : mlW (6, 122, 44, 0) ∈ lw_tbl := kmL_0_in _ (List.mem_of_getElem? (i := 0) rfl)
set_option maxRecDepth 1000000 in
theorem mw_1 : mlW (4, 3, 1000, 0) ∈ lw_tbl := kmL_0_in _ (List.mem_of_getElem? (i := 1) rfl)
set_option maxRecDepth 1000000 in
theorem mw_2 : mlW (4, 11, 14, 1) ∈ lw_tbl := kmL_0_in _ (List.mem_of_getElem? (i := 2) rfl)
set_option maxRecDepth 1000000 in
theorem mw_3 : mlW (2, 3, 1000, 0) ∈ lw_tbl := kmL_0_in _ (List.mem_of_getElem? (i := 3) rfl)
set_option maxRecDepth 1000000 in
theorem mw_4 : mlW (2, 40, 4, 1) ∈ lw_tbl := kmL_0_in _ (List.mem_of_getElem? (i := 4) rfl)
set_option maxRecDepth 1000000 in
theorem mw_5 : mlW (1, 3, 1000, 0) ∈ lw_tbl := kmL_0_in _ (List.mem_of_getElem? (i := 5) rfl)
set_option maxRecDepth 1000000 in
theorem mw_6 : mlW (2, 47, 0, 1) ∈ lw_tbl := kmL_0_in _ (List.mem_of_getElem? (i := 6) rfl)
set_option maxRecDepth 1000000 in
theorem mw_7 : mlW (0, 3, 1000, 0) ∈ lw_tbl := kmL_0_in _ (List.mem_of_getElem? (i := 7) rfl)
set_option maxRecDepth 1000000 in
theorem mw_8 : mlW (4, 36, 36, 1) ∈ lw_tbl := kmL_0_in _ (List.mem_of_getElem? (i := 8) rfl)
set_option maxRecDepth 1000000 in
theorem mw_9 : mlW (3, 3, 1000, 0) ∈ lw_tbl := kmL_0_in _ (List.mem_of_getElem? (i := 9) rfl)
set_option maxRecDepth 1000000 in
theorem mw_10 : mlW (6, 167, 55, 0) ∈ lw_tbl := kmL_0_in _ (List.mem_of_getElem? (i := 10) rfl)
set_option maxRecDepth 1000000 in
theorem mw_11 : mlW (6, 171, 56, 0) ∈ lw_tbl := kmL_0_in _ (List.mem_of_getElem? (i := 11) rfl)
set_option maxRecDepth 1000000 in
theorem mw_12 : mlW (4, 158, 37, 1) ∈ lw_tbl := kmL_0_in _ (List.mem_of_getElem? (i := 12) rfl)
set_option maxRecDepth 1000000 in
theorem mw_13 : mlW (3, 30, 38, 0) ∈ lw_tbl := kmL_0_in _ (List.mem_of_getElem? (i := 13) rfl)
set_option maxRecDepth 1000000 in
theorem mw_14 : mlW (3, 38, 39, 0) ∈ lw_tbl := kmL_0_in _ (List.mem_of_getElem? (i := 14) rfl)
set_option maxRecDepth 1000000 in
theorem mw_15 : mlW (3, 34, 40, 0) ∈ lw_tbl := kmL_0_in _ (List.mem_of_getElem? (i := 15) rfl)
set_option maxRecDepth 1000000 in
theorem mw_16 : mlW (3, 42, 41, 0) ∈ lw_tbl := kmL_0_in _ (List.mem_of_getElem? (i := 16) rfl)
set_option maxRecDepth 1000000 in
theorem mw_17 : mlW (3, 64, 43, 0) ∈ lw_tbl := kmL_0_in _ (List.mem_of_getElem? (i := 17) rfl)
set_option maxRecDepth 1000000 in
theorem mw_18 : mlW (3, 68, 42, 0) ∈ lw_tbl := kmL_0_in _ (List.mem_of_getElem? (i := 18) rfl)
set_option maxRecDepth 1000000 in
theorem mw_19 : mlW (6, 224, 73, 0) ∈ lw_tbl := kmL_0_in _ (List.mem_of_getElem? (i := 19) rfl)
set_option maxRecDepth 1000000 in
theorem mw_20 : mlW (6, 240, 78, 0) ∈ lw_tbl := kmL_0_in _ (List.mem_of_getElem? (i := 20) rfl)
set_option maxRecDepth 1000000 in
theorem mw_21 : mlW (6, 250, 81, 0) ∈ lw_tbl := kmL_0_in _ (List.mem_of_getElem? (i := 21) rfl)
set_option maxRecDepth 1000000 in
theorem mw_22 : mlW (4, 121, 29, 1) ∈ lw_tbl := kmL_0_in _ (List.mem_of_getElem? (i := 22) rfl)
set_option maxRecDepth 1000000 in
theorem mw_23 : mlW (6, 254, 82, 0) ∈ lw_tbl := kmL_0_in _ (List.mem_of_getElem? (i := 23) rfl)
set_option maxRecDepth 1000000 in
theorem mw_24 : mlW (4, 258, 31, 1) ∈ lw_tbl := kmL_0_in _ (List.mem_of_getElem? (i := 24) rfl)
set_option maxRecDepth 1000000 in
theorem mw_25 : mlW (6, 261, 84, 0) ∈ lw_tbl := kmL_0_in _ (List.mem_of_getElem? (i := 25) rfl)
set_option maxRecDepth 1000000 in
theorem mw_26 : mlW (6, 265, 85, 0) ∈ lw_tbl := kmL_0_in _ (List.mem_of_getElem? (i := 26) rfl)
set_option maxRecDepth 1000000 in
theorem mw_27 : mlW (6, 269, 86, 0) ∈ lw_tbl := kmL_0_in _ (List.mem_of_getElem? (i := 27) rfl)
set_option maxRecDepth 1000000 in
theorem mw_28 : mlW (6, 126, 190, 0) ∈ lw_tbl := kmL_0_in _ (List.mem_of_getElem? (i := 28) rfl)
set_option maxRecDepth 1000000 in
theorem mw_29 : mlW (6, 7, 45, 0) ∈ lw_tbl := kmL_0_in _ (List.mem_of_getElem? (i := 29) rfl)
set_option maxRecDepth 1000000 in
theorem mw_30 : mlW (4, 45, 87, 0) ∈ lw_tbl := kmL_0_in _ (List.mem_of_getElem? (i := 30) rfl)
set_option maxRecDepth 1000000 in
theorem mw_31 : mlW (4, 49, 88, 0) ∈ lw_tbl := kmL_0_in _ (List.mem_of_getElem? (i := 38) rfl)
set_option maxRecDepth 1000000 in
theorem mw_32 : mlW (4, 52, 93, 0) ∈ lw_tbl := kmL_0_in _ (List.mem_of_getElem? (i := 39) rfl)
set_option maxRecDepth 1000000 in
theorem mw_33 : mlW (4, 240, 92, 0) ∈ lw_tbl := kmL_0_in _ (List.mem_of_getElem? (i := 40) rfl)
set_option maxRecDepth 1000000 in
theorem mw_34 : mlW (4, 290, 100, 0) ∈ lw_tbl := kmL_0_in _ (List.mem_of_getElem? (i := 41) rfl)
set_option maxRecDepth 1000000 in
theorem mw_35 : mlW (4, 56, 94, 0) ∈ lw_tbl := kmL_0_in _ (List.mem_of_getElem? (i := 42) rfl)
set_option maxRecDepth 1000000 in
theorem mw_36 : mlW (4, 59, 16, 1) ∈ lw_tbl := kmL_0_in _ (List.mem_of_getElem? (i := 45) rfl)
set_option maxRecDepth 1000000 in
theorem mw_37 : mlW (2, 69, 6, 1) ∈ lw_tbl := kmL_0_in _ (List.mem_of_getElem? (i := 46) rfl)
set_option maxRecDepth 1000000 in
theorem mw_38 : mlW (4, 70, 101, 0) ∈ lw_tbl := kmL_0_in _ (List.mem_of_getElem? (i := 49) rfl)
set_option maxRecDepth 1000000 in
theorem mw_39 : mlW (4, 179, 15, 1) ∈ lw_tbl := kmL_0_in _ (List.mem_of_getElem? (i := 50) rfl)
set_option maxRecDepth 1000000 in
theorem mw_40 : mlW (2, 52, 1003, 0) ∈ lw_tbl := kmL_0_in _ (List.mem_of_getElem? (i := 51) rfl)
set_option maxRecDepth 1000000 in
theorem mw_41 : mlW (2, 58, 5, 1) ∈ lw_tbl := kmL_0_in _ (List.mem_of_getElem? (i := 52) rfl)
set_option maxRecDepth 1000000 in
theorem mw_42 : mlW (1, 28, 1003, 0) ∈ lw_tbl := kmL_0_in _ (List.mem_of_getElem? (i := 53) rfl)
set_option maxRecDepth 1000000 in
theorem mw_43 : mlW (2, 62, 1, 1) ∈ lw_tbl := kmL_0_in _ (List.mem_of_getElem? (i := 54) rfl)
set_option maxRecDepth 1000000 in
theorem mw_44 : mlW (0, 28, 1003, 0) ∈ lw_tbl := kmL_0_in _ (List.mem_of_getElem? (i := 55) rfl)
set_option maxRecDepth 1000000 in
theorem mw_45 : mlW (4, 73, 17, 1) ∈ lw_tbl := kmL_0_in _ (List.mem_of_getElem? (i := 56) rfl)
set_option maxRecDepth 1000000 in
theorem mw_46 : mlW (2, 73, 23, 0) ∈ lw_tbl := kmL_0_in _ (List.mem_of_getElem? (i := 57) rfl)
set_option maxRecDepth 1000000 in
theorem mw_47 : mlW (2, 88, 99, 1) ∈ lw_tbl := kmL_0_in _ (List.mem_of_getElem? (i := 58) rfl)
set_option maxRecDepth 1000000 in
theorem mw_48 : mlW (2, 111, 98, 1) ∈ lw_tbl := kmL_0_in _ (List.mem_of_getElem? (i := 59) rfl)
set_option maxRecDepth 1000000 in
theorem mw_49 : mlW (2, 115, 24, 0) ∈ lw_tbl := kmL_60_in _ (List.mem_of_getElem? (i := 0) rfl)
set_option maxRecDepth 1000000 in
theorem mw_50 : mlW (2, 118, 31, 0) ∈ lw_tbl := kmL_60_in _ (List.mem_of_getElem? (i := 1) rfl)
set_option maxRecDepth 1000000 in
theorem mw_51 : mlW (2, 77, 26, 0) ∈ lw_tbl := kmL_60_in _ (List.mem_of_getElem? (i := 2) rfl)
set_option maxRecDepth 1000000 in
theorem mw_52 : mlW (2, 131, 2, 1) ∈ lw_tbl := kmL_60_in _ (List.mem_of_getElem? (i := 3) rfl)
set_option maxRecDepth 1000000 in
theorem mw_53 : mlW (2, 81, 7, 1) ∈ lw_tbl := kmL_60_in _ (List.mem_of_getElem? (i := 4) rfl)
set_option maxRecDepth 1000000 in
theorem mw_54 : mlW (2, 85, 22, 0) ∈ lw_tbl := kmL_60_in _ (List.mem_of_getElem? (i := 5) rfl)
set_option maxRecDepth 1000000 in
theorem mw_55 : mlW (2, 91, 27, 0) ∈ lw_tbl := kmL_60_in _ (List.mem_of_getElem? (i := 6) rfl)
set_option maxRecDepth 1000000 in
theorem mw_56 : mlW (2, 133, 28, 0) ∈ lw_tbl := kmL_60_in _ (List.mem_of_getElem? (i := 7) rfl)
set_option maxRecDepth 1000000 in
theorem mw_57 : mlW (2, 136, 29, 0) ∈ lw_tbl := kmL_60_in _ (List.mem_of_getElem? (i := 8) rfl)
set_option maxRecDepth 1000000 in
theorem mw_58 : mlW (6, 135, 191, 0) ∈ lw_tbl := kmL_60_in _ (List.mem_of_getElem? (i := 9) rfl)
set_option maxRecDepth 1000000 in
theorem mw_59 : mlW (6, 19, 46, 0) ∈ lw_tbl := kmL_60_in _ (List.mem_of_getElem? (i := 10) rfl)
set_option maxRecDepth 1000000 in
theorem mw_60 : mlW (4, 77, 97, 0) ∈ lw_tbl := kmL_60_in _ (List.mem_of_getElem? (i := 11) rfl)
set_option maxRecDepth 1000000 in
theorem mw_61 : mlW (4, 225, 6, 1) ∈ lw_tbl := kmL_60_in _ (List.mem_of_getElem? (i := 12) rfl)
set_option maxRecDepth 1000000 in
theorem mw_62 : mlW (4, 81, 18, 1) ∈ lw_tbl := kmL_60_in _ (List.mem_of_getElem? (i := 13) rfl)
set_option maxRecDepth 1000000 in
theorem mw_63 : mlW (2, 103, 19, 0) ∈ lw_tbl := kmL_60_in _ (List.mem_of_getElem? (i := 14) rfl)
set_option maxRecDepth 1000000 in
theorem mw_64 : mlW (6, 139, 192, 0) ∈ lw_tbl := kmL_60_in _ (List.mem_of_getElem? (i := 15) rfl)
set_option maxRecDepth 1000000 in
theorem mw_65 : mlW (6, 23, 47, 0) ∈ lw_tbl := kmL_60_in _ (List.mem_of_getElem? (i := 16) rfl)
set_option maxRecDepth 1000000 in
theorem mw_66 : mlW (4, 84, 20, 1) ∈ lw_tbl := kmL_60_in _ (List.mem_of_getElem? (i := 17) rfl)
set_option maxRecDepth 1000000 in
theorem mw_67 : mlW (2, 107, 8, 1) ∈ lw_tbl := kmL_60_in _ (List.mem_of_getElem? (i := 18) rfl)
set_option maxRecDepth 1000000 in
theorem mw_68 : mlW (6, 143, 193, 0) ∈ lw_tbl := kmL_60_in _ (List.mem_of_getElem? (i := 19) rfl)
set_option maxRecDepth 1000000 in
theorem mw_69 : mlW (6, 27, 48, 0) ∈ lw_tbl := kmL_60_in _ (List.mem_of_getElem? (i := 20) rfl)
set_option maxRecDepth 1000000 in
theorem mw_70 : mlW (4, 87, 21, 1) ∈ lw_tbl := kmL_60_in _ (List.mem_of_getElem? (i := 21) rfl)
set_option maxRecDepth 1000000 in
theorem mw_71 : mlW (6, 147, 194, 0) ∈ lw_tbl := kmL_60_in _ (List.mem_of_getElem? (i := 22) rfl)
set_option maxRecDepth 1000000 in
theorem mw_72 : mlW (6, 31, 49, 0) ∈ lw_tbl := kmL_60_in _ (List.mem_of_getElem? (i := 23) rfl)
set_option maxRecDepth 1000000 in
theorem mw_73 : mlW (4, 91, 91, 0) ∈ lw_tbl := kmL_60_in _ (List.mem_of_getElem? (i := 24) rfl)
set_option maxRecDepth 1000000 in
theorem mw_74 : mlW (4, 208, 89, 0) ∈ lw_tbl := kmL_60_in _ (List.mem_of_getElem? (i := 25) rfl)
set_option maxRecDepth 1000000 in
theorem mw_75 : mlW (4, 110, 90, 0) ∈ lw_tbl := kmL_60_in _ (List.mem_of_getElem? (i := 26) rfl)
set_option maxRecDepth 1000000 in
theorem mw_76 : mlW (4, 214, 98, 0) ∈ lw_tbl := kmL_60_in _ (List.mem_of_getElem? (i := 27) rfl)
set_option maxRecDepth 1000000 in
theorem mw_77 : mlW (4, 94, 95, 0) ∈ lw_tbl := kmL_60_in _ (List.mem_of_getElem? (i := 28) rfl)
set_option maxRecDepth 1000000 in
theorem mw_78 : mlW (4, 104, 28, 1) ∈ lw_tbl := kmL_60_in _ (List.mem_of_getElem? (i := 29) rfl)
set_option maxRecDepth 1000000 in
theorem mw_79 : mlW (6, 150, 195, 0) ∈ lw_tbl := kmL_60_in _ (List.mem_of_getElem? (i := 30) rfl)
set_option maxRecDepth 1000000 in
theorem mw_80 : mlW (6, 34, 50, 0) ∈ lw_tbl := kmL_60_in _ (List.mem_of_getElem? (i := 31) rfl)
set_option maxRecDepth 1000000 in
theorem mw_81 : mlW (6, 153, 196, 0) ∈ lw_tbl := kmL_60_in _ (List.mem_of_getElem? (i := 32) rfl)
set_option maxRecDepth 1000000 in
theorem mw_82 : mlW (6, 37, 51, 0) ∈ lw_tbl := kmL_60_in _ (List.mem_of_getElem? (i := 33) rfl)
set_option maxRecDepth 1000000 in
theorem mw_83 : mlW (6, 156, 197, 0) ∈ lw_tbl := kmL_60_in _ (List.mem_of_getElem? (i := 34) rfl)
set_option maxRecDepth 1000000 in
theorem mw_84 : mlW (6, 40, 52, 0) ∈ lw_tbl := kmL_60_in _ (List.mem_of_getElem? (i := 35) rfl)
set_option maxRecDepth 1000000 in
theorem mw_85 : mlW (4, 135, 35, 1) ∈ lw_tbl := kmL_60_in _ (List.mem_of_getElem? (i := 36) rfl)
set_option maxRecDepth 1000000 in
theorem mw_86 : mlW (6, 160, 198, 0) ∈ lw_tbl := kmL_60_in _ (List.mem_of_getElem? (i := 37) rfl)
set_option maxRecDepth 1000000 in
theorem mw_87 : mlW (6, 44, 53, 0) ∈ lw_tbl := kmL_60_in _ (List.mem_of_getElem? (i := 38) rfl)
set_option maxRecDepth 1000000 in
theorem mw_88 : mlW (4, 139, 32, 1) ∈ lw_tbl := kmL_60_in _ (List.mem_of_getElem? (i := 39) rfl)
set_option maxRecDepth 1000000 in
theorem mw_89 : mlW (4, 144, 33, 1) ∈ lw_tbl := kmL_60_in _ (List.mem_of_getElem? (i := 40) rfl)
set_option maxRecDepth 1000000 in
theorem mw_90 : mlW (2, 139, 34, 0) ∈ lw_tbl := kmL_60_in _ (List.mem_of_getElem? (i := 41) rfl)
set_option maxRecDepth 1000000 in
theorem mw_91 : mlW (2, 143, 30, 0) ∈ lw_tbl := kmL_60_in _ (List.mem_of_getElem? (i := 42) rfl)
set_option maxRecDepth 1000000 in
theorem mw_92 : mlW (6, 164, 199, 0) ∈ lw_tbl := kmL_60_in _ (List.mem_of_getElem? (i := 43) rfl)
set_option maxRecDepth 1000000 in
theorem mw_93 : mlW (6, 48, 54, 0) ∈ lw_tbl := kmL_60_in _ (List.mem_of_getElem? (i := 44) rfl)
set_option maxRecDepth 1000000 in
theorem mw_94 : mlW (6, 175, 200, 0) ∈ lw_tbl := kmL_60_in _ (List.mem_of_getElem? (i := 45) rfl)
set_option maxRecDepth 1000000 in
theorem mw_95 : mlW (6, 51, 57, 0) ∈ lw_tbl := kmL_60_in _ (List.mem_of_getElem? (i := 46) rfl)
set_option maxRecDepth 1000000 in
theorem mw_96 : mlW (4, 166, 38, 1) ∈ lw_tbl := kmL_60_in _ (List.mem_of_getElem? (i := 47) rfl)
set_option maxRecDepth 1000000 in
theorem mw_97 : mlW (4, 170, 102, 0) ∈ lw_tbl := kmL_60_in _ (List.mem_of_getElem? (i := 48) rfl)
set_option maxRecDepth 1000000 in
theorem mw_98 : mlW (4, 173, 40, 1) ∈ lw_tbl := kmL_60_in _ (List.mem_of_getElem? (i := 49) rfl)
set_option maxRecDepth 1000000 in
theorem mw_99 : mlW (6, 179, 201, 0) ∈ lw_tbl := kmL_60_in _ (List.mem_of_getElem? (i := 50) rfl)
set_option maxRecDepth 1000000 in
theorem mw_100 : mlW (6, 55, 58, 0) ∈ lw_tbl := kmL_60_in _ (List.mem_of_getElem? (i := 51) rfl)
set_option maxRecDepth 1000000 in
theorem mw_101 : mlW (6, 182, 202, 0) ∈ lw_tbl := kmL_60_in _ (List.mem_of_getElem? (i := 52) rfl)
set_option maxRecDepth 1000000 in
theorem mw_102 : mlW (6, 58, 59, 0) ∈ lw_tbl := kmL_60_in _ (List.mem_of_getElem? (i := 53) rfl)
set_option maxRecDepth 1000000 in
theorem mw_103 : mlW (4, 183, 96, 0) ∈ lw_tbl := kmL_60_in _ (List.mem_of_getElem? (i := 54) rfl)
set_option maxRecDepth 1000000 in
theorem mw_104 : mlW (6, 185, 203, 0) ∈ lw_tbl := kmL_60_in _ (List.mem_of_getElem? (i := 55) rfl)
set_option maxRecDepth 1000000 in
theorem mw_105 : mlW (6, 61, 60, 0) ∈ lw_tbl := kmL_60_in _ (List.mem_of_getElem? (i := 56) rfl)
set_option maxRecDepth 1000000 in
theorem mw_106 : mlW (6, 188, 204, 0) ∈ lw_tbl := kmL_60_in _ (List.mem_of_getElem? (i := 57) rfl)
set_option maxRecDepth 1000000 in
theorem mw_107 : mlW (6, 64, 61, 0) ∈ lw_tbl := kmL_60_in _ (List.mem_of_getElem? (i := 58) rfl)
set_option maxRecDepth 1000000 in
theorem mw_108 : mlW (6, 191, 205, 0) ∈ lw_tbl := kmL_60_in _ (List.mem_of_getElem? (i := 59) rfl)
set_option maxRecDepth 1000000 in
theorem mw_109 : mlW (6, 67, 62, 0) ∈ lw_tbl := kmL_120_in _ (List.mem_of_getElem? (i := 0) rfl)
set_option maxRecDepth 1000000 in
theorem mw_110 : mlW (4, 192, 10, 1) ∈ lw_tbl := kmL_120_in _ (List.mem_of_getElem? (i := 1) rfl)
set_option maxRecDepth 1000000 in
theorem mw_111 : mlW (1, 38, 9, 0) ∈ lw_tbl := kmL_120_in _ (List.mem_of_getElem? (i := 2) rfl)
set_option maxRecDepth 1000000 in
theorem mw_112 : mlW (1, 34, 99, 1) ∈ lw_tbl := kmL_120_in _ (List.mem_of_getElem? (i := 3) rfl)
set_option maxRecDepth 1000000 in
theorem mw_113 : mlW (6, 194, 206, 0) ∈ lw_tbl := kmL_120_in _ (List.mem_of_getElem? (i := 4) rfl)
set_option maxRecDepth 1000000 in
theorem mw_114 : mlW (6, 70, 63, 0) ∈ lw_tbl := kmL_120_in _ (List.mem_of_getElem? (i := 5) rfl)
set_option maxRecDepth 1000000 in
theorem mw_115 : mlW (6, 197, 207, 0) ∈ lw_tbl := kmL_120_in _ (List.mem_of_getElem? (i := 6) rfl)
set_option maxRecDepth 1000000 in
theorem mw_116 : mlW (6, 73, 64, 0) ∈ lw_tbl := kmL_120_in _ (List.mem_of_getElem? (i := 7) rfl)
set_option maxRecDepth 1000000 in
theorem mw_117 : mlW (6, 200, 208, 0) ∈ lw_tbl := kmL_120_in _ (List.mem_of_getElem? (i := 8) rfl)
set_option maxRecDepth 1000000 in
theorem mw_118 : mlW (6, 76, 65, 0) ∈ lw_tbl := kmL_120_in _ (List.mem_of_getElem? (i := 9) rfl)
set_option maxRecDepth 1000000 in
theorem mw_119 : mlW (6, 203, 209, 0) ∈ lw_tbl := kmL_120_in _ (List.mem_of_getElem? (i := 10) rfl)
set_option maxRecDepth 1000000 in
theorem mw_120 : mlW (6, 79, 66, 0) ∈ lw_tbl := kmL_120_in _ (List.mem_of_getElem? (i := 11) rfl)
set_option maxRecDepth 1000000 in
theorem mw_121 : mlW (4, 197, 30, 1) ∈ lw_tbl := kmL_120_in _ (List.mem_of_getElem? (i := 12) rfl)
set_option maxRecDepth 1000000 in
theorem mw_122 : mlW (4, 200, 1001, 0) ∈ lw_tbl := kmL_120_in _ (List.mem_of_getElem? (i := 13) rfl)
set_option maxRecDepth 1000000 in
theorem mw_123 : mlW (6, 206, 210, 0) ∈ lw_tbl := kmL_120_in _ (List.mem_of_getElem? (i := 14) rfl)
set_option maxRecDepth 1000000 in
theorem mw_124 : mlW (6, 82, 67, 0) ∈ lw_tbl := kmL_120_in _ (List.mem_of_getElem? (i := 15) rfl)
set_option maxRecDepth 1000000 in
theorem mw_125 : mlW (4, 205, 25, 1) ∈ lw_tbl := kmL_120_in _ (List.mem_of_getElem? (i := 16) rfl)
set_option maxRecDepth 1000000 in
theorem mw_126 : mlW (2, 123, 1002, 0) ∈ lw_tbl := kmL_120_in _ (List.mem_of_getElem? (i := 17) rfl)
set_option maxRecDepth 1000000 in
theorem mw_127 : mlW (2, 128, 1001, 0) ∈ lw_tbl := kmL_120_in _ (List.mem_of_getElem? (i := 18) rfl)
set_option maxRecDepth 1000000 in
theorem mw_128 : mlW (6, 209, 211, 0) ∈ lw_tbl := kmL_120_in _ (List.mem_of_getElem? (i := 19) rfl)
set_option maxRecDepth 1000000 in
theorem mw_129 : mlW (6, 85, 68, 0) ∈ lw_tbl := kmL_120_in _ (List.mem_of_getElem? (i := 20) rfl)
set_option maxRecDepth 1000000 in
theorem mw_130 : mlW (6, 212, 212, 0) ∈ lw_tbl := kmL_120_in _ (List.mem_of_getElem? (i := 21) rfl)
set_option maxRecDepth 1000000 in
theorem mw_131 : mlW (6, 88, 69, 0) ∈ lw_tbl := kmL_120_in _ (List.mem_of_getElem? (i := 22) rfl)
set_option maxRecDepth 1000000 in
theorem mw_132 : mlW (4, 217, 11, 1) ∈ lw_tbl := kmL_120_in _ (List.mem_of_getElem? (i := 23) rfl)
set_option maxRecDepth 1000000 in
theorem mw_133 : mlW (4, 221, 103, 0) ∈ lw_tbl := kmL_120_in _ (List.mem_of_getElem? (i := 24) rfl)
set_option maxRecDepth 1000000 in
theorem mw_134 : mlW (6, 215, 213, 0) ∈ lw_tbl := kmL_120_in _ (List.mem_of_getElem? (i := 25) rfl)
set_option maxRecDepth 1000000 in
theorem mw_135 : mlW (6, 91, 70, 0) ∈ lw_tbl := kmL_120_in _ (List.mem_of_getElem? (i := 26) rfl)
set_option maxRecDepth 1000000 in
theorem mw_136 : mlW (6, 218, 214, 0) ∈ lw_tbl := kmL_120_in _ (List.mem_of_getElem? (i := 27) rfl)
set_option maxRecDepth 1000000 in
theorem mw_137 : mlW (6, 94, 71, 0) ∈ lw_tbl := kmL_120_in _ (List.mem_of_getElem? (i := 28) rfl)
set_option maxRecDepth 1000000 in
theorem mw_138 : mlW (6, 221, 215, 0) ∈ lw_tbl := kmL_120_in _ (List.mem_of_getElem? (i := 29) rfl)
set_option maxRecDepth 1000000 in
theorem mw_139 : mlW (6, 97, 72, 0) ∈ lw_tbl := kmL_120_in _ (List.mem_of_getElem? (i := 30) rfl)
set_option maxRecDepth 1000000 in
theorem mw_140 : mlW (6, 228, 216, 0) ∈ lw_tbl := kmL_120_in _ (List.mem_of_getElem? (i := 31) rfl)
set_option maxRecDepth 1000000 in
theorem mw_141 : mlW (6, 100, 74, 0) ∈ lw_tbl := kmL_120_in _ (List.mem_of_getElem? (i := 32) rfl)
set_option maxRecDepth 1000000 in
theorem mw_142 : mlW (4, 243, 12, 1) ∈ lw_tbl := kmL_120_in _ (List.mem_of_getElem? (i := 33) rfl)
set_option maxRecDepth 1000000 in
theorem mw_143 : mlW (6, 231, 217, 0) ∈ lw_tbl := kmL_120_in _ (List.mem_of_getElem? (i := 34) rfl)
set_option maxRecDepth 1000000 in
theorem mw_144 : mlW (6, 103, 75, 0) ∈ lw_tbl := kmL_120_in _ (List.mem_of_getElem? (i := 35) rfl)
set_option maxRecDepth 1000000 in
theorem mw_145 : mlW (4, 246, 13, 1) ∈ lw_tbl := kmL_120_in _ (List.mem_of_getElem? (i := 36) rfl)
set_option maxRecDepth 1000000 in
theorem mw_146 : mlW (6, 234, 218, 0) ∈ lw_tbl := kmL_120_in _ (List.mem_of_getElem? (i := 37) rfl)
set_option maxRecDepth 1000000 in
theorem mw_147 : mlW (6, 106, 76, 0) ∈ lw_tbl := kmL_120_in _ (List.mem_of_getElem? (i := 38) rfl)
set_option maxRecDepth 1000000 in
theorem mw_148 : mlW (4, 249, 23, 1) ∈ lw_tbl := kmL_120_in _ (List.mem_of_getElem? (i := 39) rfl)
set_option maxRecDepth 1000000 in
theorem mw_149 : mlW (6, 237, 219, 0) ∈ lw_tbl := kmL_120_in _ (List.mem_of_getElem? (i := 40) rfl)
set_option maxRecDepth 1000000 in
theorem mw_150 : mlW (6, 109, 77, 0) ∈ lw_tbl := kmL_120_in _ (List.mem_of_getElem? (i := 41) rfl)
set_option maxRecDepth 1000000 in
theorem mw_151 : mlW (4, 255, 19, 1) ∈ lw_tbl := kmL_120_in _ (List.mem_of_getElem? (i := 42) rfl)
set_option maxRecDepth 1000000 in
theorem mw_152 : mlW (6, 244, 220, 0) ∈ lw_tbl := kmL_120_in _ (List.mem_of_getElem? (i := 43) rfl)
set_option maxRecDepth 1000000 in
theorem mw_153 : mlW (6, 112, 79, 0) ∈ lw_tbl := kmL_120_in _ (List.mem_of_getElem? (i := 44) rfl)
set_option maxRecDepth 1000000 in
theorem mw_154 : mlW (6, 247, 221, 0) ∈ lw_tbl := kmL_120_in _ (List.mem_of_getElem? (i := 45) rfl)
set_option maxRecDepth 1000000 in
theorem mw_155 : mlW (6, 115, 80, 0) ∈ lw_tbl := kmL_120_in _ (List.mem_of_getElem? (i := 46) rfl)
set_option maxRecDepth 1000000 in
theorem mw_156 : mlW (6, 258, 222, 0) ∈ lw_tbl := kmL_120_in _ (List.mem_of_getElem? (i := 47) rfl)
set_option maxRecDepth 1000000 in
theorem mw_157 : mlW (6, 119, 83, 0) ∈ lw_tbl := kmL_120_in _ (List.mem_of_getElem? (i := 48) rfl)
set_option maxRecDepth 1000000 in
theorem mw_158 : mlW (4, 272, 3, 1) ∈ lw_tbl := kmL_120_in _ (List.mem_of_getElem? (i := 49) rfl)
set_option maxRecDepth 1000000 in
theorem mw_159 : mlW (6, 125, 104, 0) ∈ lw_tbl := kmL_120_in _ (List.mem_of_getElem? (i := 50) rfl)
set_option maxRecDepth 1000000 in
theorem mw_160 : mlW (5, 1, 1000, 0) ∈ lw_tbl := kmL_120_in _ (List.mem_of_getElem? (i := 51) rfl)
set_option maxRecDepth 1000000 in
theorem mw_161 : mlW (6, 132, 105, 0) ∈ lw_tbl := kmL_120_in _ (List.mem_of_getElem? (i := 52) rfl)
set_option maxRecDepth 1000000 in
theorem mw_162 : mlW (6, 131, 134, 0) ∈ lw_tbl := kmL_120_in _ (List.mem_of_getElem? (i := 53) rfl)
set_option maxRecDepth 1000000 in
theorem mw_163 : mlW (5, 93, 108, 0) ∈ lw_tbl := kmL_120_in _ (List.mem_of_getElem? (i := 54) rfl)
set_option maxRecDepth 1000000 in
theorem mw_164 : mlW (5, 33, 106, 0) ∈ lw_tbl := kmL_120_in _ (List.mem_of_getElem? (i := 55) rfl)
set_option maxRecDepth 1000000 in
theorem mw_165 : mlW (5, 96, 109, 0) ∈ lw_tbl := kmL_120_in _ (List.mem_of_getElem? (i := 56) rfl)
set_option maxRecDepth 1000000 in
theorem mw_166 : mlW (5, 99, 110, 0) ∈ lw_tbl := kmL_120_in _ (List.mem_of_getElem? (i := 57) rfl)
set_option maxRecDepth 1000000 in
theorem mw_167 : mlW (5, 102, 114, 0) ∈ lw_tbl := kmL_120_in _ (List.mem_of_getElem? (i := 58) rfl)
set_option maxRecDepth 1000000 in
theorem mw_168 : mlW (5, 37, 112, 0) ∈ lw_tbl := kmL_120_in _ (List.mem_of_getElem? (i := 59) rfl)
set_option maxRecDepth 1000000 in
theorem mw_169 : mlW (5, 105, 107, 0) ∈ lw_tbl := kmL_180_in _ (List.mem_of_getElem? (i := 0) rfl)
set_option maxRecDepth 1000000 in
theorem mw_170 : mlW (5, 108, 133, 0) ∈ lw_tbl := kmL_180_in _ (List.mem_of_getElem? (i := 1) rfl)
set_option maxRecDepth 1000000 in
theorem mw_171 : mlW (5, 90, 132, 0) ∈ lw_tbl := kmL_180_in _ (List.mem_of_getElem? (i := 2) rfl)
set_option maxRecDepth 1000000 in
theorem mw_172 : mlW (5, 111, 127, 0) ∈ lw_tbl := kmL_180_in _ (List.mem_of_getElem? (i := 3) rfl)
set_option maxRecDepth 1000000 in
theorem mw_173 : mlW (5, 74, 125, 0) ∈ lw_tbl := kmL_180_in _ (List.mem_of_getElem? (i := 4) rfl)
set_option maxRecDepth 1000000 in
theorem mw_174 : mlW (5, 78, 126, 0) ∈ lw_tbl := kmL_180_in _ (List.mem_of_getElem? (i := 5) rfl)
set_option maxRecDepth 1000000 in
theorem mw_175 : mlW (5, 71, 124, 0) ∈ lw_tbl := kmL_180_in _ (List.mem_of_getElem? (i := 6) rfl)
set_option maxRecDepth 1000000 in
theorem mw_176 : mlW (5, 56, 122, 0) ∈ lw_tbl := kmL_180_in _ (List.mem_of_getElem? (i := 7) rfl)
set_option maxRecDepth 1000000 in
theorem mw_177 : mlW (5, 60, 123, 0) ∈ lw_tbl := kmL_180_in _ (List.mem_of_getElem? (i := 8) rfl)
set_option maxRecDepth 1000000 in
theorem mw_178 : mlW (5, 45, 116, 0) ∈ lw_tbl := kmL_180_in _ (List.mem_of_getElem? (i := 9) rfl)
set_option maxRecDepth 1000000 in
theorem mw_179 : mlW (5, 41, 115, 0) ∈ lw_tbl := kmL_180_in _ (List.mem_of_getElem? (i := 10) rfl)
set_option maxRecDepth 1000000 in
theorem mw_180 : mlW (5, 64, 120, 0) ∈ lw_tbl := kmL_180_in _ (List.mem_of_getElem? (i := 11) rfl)
set_option maxRecDepth 1000000 in
theorem mw_181 : mlW (5, 67, 121, 0) ∈ lw_tbl := kmL_180_in _ (List.mem_of_getElem? (i := 12) rfl)
set_option maxRecDepth 1000000 in
theorem mw_182 : mlW (5, 48, 117, 0) ∈ lw_tbl := kmL_180_in _ (List.mem_of_getElem? (i := 13) rfl)
set_option maxRecDepth 1000000 in
theorem mw_183 : mlW (5, 81, 113, 0) ∈ lw_tbl := kmL_180_in _ (List.mem_of_getElem? (i := 14) rfl)
set_option maxRecDepth 1000000 in
theorem mw_184 : mlW (5, 84, 119, 0) ∈ lw_tbl := kmL_180_in _ (List.mem_of_getElem? (i := 15) rfl)
set_option maxRecDepth 1000000 in
theorem mw_185 : mlW (5, 52, 118, 0) ∈ lw_tbl := kmL_180_in _ (List.mem_of_getElem? (i := 16) rfl)
set_option maxRecDepth 1000000 in
theorem mw_186 : mlW (6, 138, 135, 0) ∈ lw_tbl := kmL_180_in _ (List.mem_of_getElem? (i := 17) rfl)
set_option maxRecDepth 1000000 in
theorem mw_187 : mlW (5, 115, 128, 0) ∈ lw_tbl := kmL_180_in _ (List.mem_of_getElem? (i := 18) rfl)
set_option maxRecDepth 1000000 in
theorem mw_188 : mlW (6, 142, 136, 0) ∈ lw_tbl := kmL_180_in _ (List.mem_of_getElem? (i := 19) rfl)
set_option maxRecDepth 1000000 in
theorem mw_189 : mlW (5, 118, 129, 0) ∈ lw_tbl := kmL_180_in _ (List.mem_of_getElem? (i := 20) rfl)
set_option maxRecDepth 1000000 in
theorem mw_190 : mlW (6, 146, 137, 0) ∈ lw_tbl := kmL_180_in _ (List.mem_of_getElem? (i := 21) rfl)
set_option maxRecDepth 1000000 in
theorem mw_191 : mlW (5, 122, 130, 0) ∈ lw_tbl := kmL_180_in _ (List.mem_of_getElem? (i := 22) rfl)
set_option maxRecDepth 1000000 in
theorem mw_192 : mlW (6, 149, 138, 0) ∈ lw_tbl := kmL_180_in _ (List.mem_of_getElem? (i := 23) rfl)
set_option maxRecDepth 1000000 in
theorem mw_193 : mlW (5, 126, 111, 0) ∈ lw_tbl := kmL_180_in _ (List.mem_of_getElem? (i := 24) rfl)
set_option maxRecDepth 1000000 in
theorem mw_194 : mlW (6, 152, 139, 0) ∈ lw_tbl := kmL_180_in _ (List.mem_of_getElem? (i := 25) rfl)
set_option maxRecDepth 1000000 in
theorem mw_195 : mlW (6, 155, 140, 0) ∈ lw_tbl := kmL_180_in _ (List.mem_of_getElem? (i := 26) rfl)
set_option maxRecDepth 1000000 in
theorem mw_196 : mlW (6, 159, 141, 0) ∈ lw_tbl := kmL_180_in _ (List.mem_of_getElem? (i := 27) rfl)
set_option maxRecDepth 1000000 in
theorem mw_197 : mlW (6, 163, 142, 0) ∈ lw_tbl := kmL_180_in _ (List.mem_of_getElem? (i := 28) rfl)
set_option maxRecDepth 1000000 in
theorem mw_198 : mlW (5, 129, 131, 0) ∈ lw_tbl := kmL_180_in _ (List.mem_of_getElem? (i := 29) rfl)
set_option maxRecDepth 1000000 in
theorem mw_199 : mlW (6, 166, 143, 0) ∈ lw_tbl := kmL_180_in _ (List.mem_of_getElem? (i := 30) rfl)
set_option maxRecDepth 1000000 in
theorem mw_200 : mlW (6, 170, 144, 0) ∈ lw_tbl := kmL_180_in _ (List.mem_of_getElem? (i := 31) rfl)
set_option maxRecDepth 1000000 in
theorem mw_201 : mlW (6, 174, 151, 0) ∈ lw_tbl := kmL_180_in _ (List.mem_of_getElem? (i := 32) rfl)
set_option maxRecDepth 1000000 in
theorem mw_202 : mlW (5, 158, 150, 0) ∈ lw_tbl := kmL_180_in _ (List.mem_of_getElem? (i := 33) rfl)
set_option maxRecDepth 1000000 in
theorem mw_203 : mlW (5, 154, 149, 0) ∈ lw_tbl := kmL_180_in _ (List.mem_of_getElem? (i := 34) rfl)
set_option maxRecDepth 1000000 in
theorem mw_204 : mlW (5, 138, 145, 0) ∈ lw_tbl := kmL_180_in _ (List.mem_of_getElem? (i := 35) rfl)
set_option maxRecDepth 1000000 in
theorem mw_205 : mlW (5, 145, 146, 0) ∈ lw_tbl := kmL_180_in _ (List.mem_of_getElem? (i := 36) rfl)
set_option maxRecDepth 1000000 in
theorem mw_206 : mlW (5, 148, 148, 0) ∈ lw_tbl := kmL_180_in _ (List.mem_of_getElem? (i := 37) rfl)
set_option maxRecDepth 1000000 in
theorem mw_207 : mlW (5, 151, 147, 0) ∈ lw_tbl := kmL_180_in _ (List.mem_of_getElem? (i := 38) rfl)
set_option maxRecDepth 1000000 in
theorem mw_208 : mlW (6, 178, 153, 0) ∈ lw_tbl := kmL_180_in _ (List.mem_of_getElem? (i := 39) rfl)
set_option maxRecDepth 1000000 in
theorem mw_209 : mlW (5, 161, 152, 0) ∈ lw_tbl := kmL_180_in _ (List.mem_of_getElem? (i := 40) rfl)
set_option maxRecDepth 1000000 in
theorem mw_210 : mlW (6, 181, 154, 0) ∈ lw_tbl := kmL_180_in _ (List.mem_of_getElem? (i := 41) rfl)
set_option maxRecDepth 1000000 in
theorem mw_211 : mlW (6, 184, 155, 0) ∈ lw_tbl := kmL_180_in _ (List.mem_of_getElem? (i := 42) rfl)
set_option maxRecDepth 1000000 in
theorem mw_212 : mlW (6, 187, 156, 0) ∈ lw_tbl := kmL_180_in _ (List.mem_of_getElem? (i := 43) rfl)
set_option maxRecDepth 1000000 in
theorem mw_213 : mlW (6, 190, 157, 0) ∈ lw_tbl := kmL_180_in _ (List.mem_of_getElem? (i := 44) rfl)
set_option maxRecDepth 1000000 in
theorem mw_214 : mlW (6, 193, 158, 0) ∈ lw_tbl := kmL_180_in _ (List.mem_of_getElem? (i := 45) rfl)
set_option maxRecDepth 1000000 in
theorem mw_215 : mlW (6, 196, 159, 0) ∈ lw_tbl := kmL_180_in _ (List.mem_of_getElem? (i := 46) rfl)
set_option maxRecDepth 1000000 in
theorem mw_216 : mlW (6, 199, 160, 0) ∈ lw_tbl := kmL_180_in _ (List.mem_of_getElem? (i := 47) rfl)
set_option maxRecDepth 1000000 in
theorem mw_217 : mlW (6, 202, 161, 0) ∈ lw_tbl := kmL_180_in _ (List.mem_of_getElem? (i := 48) rfl)
set_option maxRecDepth 1000000 in
theorem mw_218 : mlW (6, 205, 162, 0) ∈ lw_tbl := kmL_180_in _ (List.mem_of_getElem? (i := 49) rfl)
set_option maxRecDepth 1000000 in
theorem mw_219 : mlW (6, 208, 163, 0) ∈ lw_tbl := kmL_180_in _ (List.mem_of_getElem? (i := 50) rfl)
set_option maxRecDepth 1000000 in
theorem mw_220 : mlW (6, 211, 164, 0) ∈ lw_tbl := kmL_180_in _ (List.mem_of_getElem? (i := 51) rfl)
set_option maxRecDepth 1000000 in
theorem mw_221 : mlW (6, 214, 168, 0) ∈ lw_tbl := kmL_180_in _ (List.mem_of_getElem? (i := 52) rfl)
set_option maxRecDepth 1000000 in
theorem mw_222 : mlW (5, 170, 167, 0) ∈ lw_tbl := kmL_180_in _ (List.mem_of_getElem? (i := 53) rfl)
set_option maxRecDepth 1000000 in
theorem mw_223 : mlW (5, 164, 166, 0) ∈ lw_tbl := kmL_180_in _ (List.mem_of_getElem? (i := 54) rfl)
set_option maxRecDepth 1000000 in
theorem mw_224 : mlW (5, 167, 165, 0) ∈ lw_tbl := kmL_180_in _ (List.mem_of_getElem? (i := 55) rfl)
set_option maxRecDepth 1000000 in
theorem mw_225 : mlW (6, 217, 170, 0) ∈ lw_tbl := kmL_180_in _ (List.mem_of_getElem? (i := 56) rfl)
set_option maxRecDepth 1000000 in
theorem mw_226 : mlW (5, 173, 169, 0) ∈ lw_tbl := kmL_180_in _ (List.mem_of_getElem? (i := 57) rfl)
set_option maxRecDepth 1000000 in
theorem mw_227 : mlW (6, 220, 171, 0) ∈ lw_tbl := kmL_180_in _ (List.mem_of_getElem? (i := 58) rfl)
set_option maxRecDepth 1000000 in
theorem mw_228 : mlW (6, 223, 172, 0) ∈ lw_tbl := kmL_180_in _ (List.mem_of_getElem? (i := 59) rfl)
set_option maxRecDepth 1000000 in
theorem mw_229 : mlW (6, 227, 173, 0) ∈ lw_tbl := kmL_240_in _ (List.mem_of_getElem? (i := 0) rfl)
set_option maxRecDepth 1000000 in
theorem mw_230 : mlW (6, 230, 174, 0) ∈ lw_tbl := kmL_240_in _ (List.mem_of_getElem? (i := 1) rfl)
set_option maxRecDepth 1000000 in
theorem mw_231 : mlW (6, 233, 175, 0) ∈ lw_tbl := kmL_240_in _ (List.mem_of_getElem? (i := 2) rfl)
set_option maxRecDepth 1000000 in
theorem mw_232 : mlW (6, 236, 176, 0) ∈ lw_tbl := kmL_240_in _ (List.mem_of_getElem? (i := 3) rfl)
set_option maxRecDepth 1000000 in
theorem mw_233 : mlW (6, 239, 179, 0) ∈ lw_tbl := kmL_240_in _ (List.mem_of_getElem? (i := 4) rfl)
set_option maxRecDepth 1000000 in
theorem mw_234 : mlW (5, 179, 178, 0) ∈ lw_tbl := kmL_240_in _ (List.mem_of_getElem? (i := 5) rfl)
set_option maxRecDepth 1000000 in
theorem mw_235 : mlW (5, 176, 177, 0) ∈ lw_tbl := kmL_240_in _ (List.mem_of_getElem? (i := 6) rfl)
set_option maxRecDepth 1000000 in
theorem mw_236 : mlW (6, 243, 180, 0) ∈ lw_tbl := kmL_240_in _ (List.mem_of_getElem? (i := 7) rfl)
set_option maxRecDepth 1000000 in
theorem mw_237 : mlW (6, 246, 181, 0) ∈ lw_tbl := kmL_240_in _ (List.mem_of_getElem? (i := 8) rfl)
set_option maxRecDepth 1000000 in
theorem mw_238 : mlW (6, 249, 182, 0) ∈ lw_tbl := kmL_240_in _ (List.mem_of_getElem? (i := 9) rfl)
set_option maxRecDepth 1000000 in
theorem mw_239 : mlW (6, 253, 184, 0) ∈ lw_tbl := kmL_240_in _ (List.mem_of_getElem? (i := 10) rfl)
set_option maxRecDepth 1000000 in
theorem mw_240 : mlW (5, 182, 183, 0) ∈ lw_tbl := kmL_240_in _ (List.mem_of_getElem? (i := 11) rfl)
set_option maxRecDepth 1000000 in
theorem mw_241 : mlW (6, 257, 185, 0) ∈ lw_tbl := kmL_240_in _ (List.mem_of_getElem? (i := 12) rfl)
set_option maxRecDepth 1000000 in
theorem mw_242 : mlW (6, 260, 186, 0) ∈ lw_tbl := kmL_240_in _ (List.mem_of_getElem? (i := 13) rfl)
set_option maxRecDepth 1000000 in
theorem mw_243 : mlW (6, 264, 187, 0) ∈ lw_tbl := kmL_240_in _ (List.mem_of_getElem? (i := 14) rfl)
set_option maxRecDepth 1000000 in
theorem mw_244 : mlW (6, 268, 188, 0) ∈ lw_tbl := kmL_240_in _ (List.mem_of_getElem? (i := 15) rfl)
set_option maxRecDepth 1000000 in
theorem mw_245 : mlW (6, 272, 189, 0) ∈ lw_tbl := kmL_240_in _ (List.mem_of_getElem? (i := 16) rfl)
def flL_0 : List (Nat × Nat × Nat × Nat × Nat) := [(1, 9, 1, 0, 0), (2, 66, 1, 0, 1), (4, 237, 1, 0, 1), (1, 15, 1, 1, 0), (1, 19, 1, 2, 0), (2, 97, 1, 2, 1), (4, 231, 1, 2, 1), (1, 22, 1, 3, 0), (2, 100, 1, 3, 1), (4, 234, 1, 3, 1), (1, 25, 1, 4, 0), (2, 94, 1, 4, 1), (4, 228, 1, 4, 1), (0, 9, 0, 0, 0), (4, 277, 0, 0, 1), (0, 15, 0, 1, 0), (0, 18, 0, 2, 0), (0, 22, 0, 3, 0), (0, 25, 0, 4, 0), (2, 9, 2, 0, 0), (4, 129, 2, 0, 1), (2, 15, 2, 1, 0), (4, 118, 2, 1, 1), (2, 19, 2, 2, 0), (4, 132, 2, 2, 1), (2, 23, 2, 3, 0), (4, 107, 2, 3, 1), (2, 26, 2, 4, 0), (4, 98, 2, 4, 1), (2, 29, 2, 5, 0), (4, 101, 2, 5, 1), (2, 32, 2, 6, 0), (4, 126, 2, 6, 1), (2, 35, 2, 7, 0), (4, 211, 2, 7, 1), (2, 41, 2, 8, 0), (4, 188, 2, 8, 1), (2, 48, 2, 9, 0), (4, 268, 2, 9, 1), (3, 9, 3, 0, 0)]
set_option maxRecDepth 1000000 in
theorem flL_0_ok : ∀ e ∈ flL_0, flW e ∈ lw_tbl := List.forall_mem_cons.mpr ⟨fw_0, List.forall_mem_cons.mpr ⟨fw_1, List.forall_mem_cons.mpr ⟨fw_2, List.forall_mem_cons.mpr ⟨fw_3, List.forall_mem_cons.mpr ⟨fw_4, List.forall_mem_cons.mpr ⟨fw_5, List.forall_mem_cons.mpr ⟨fw_6, List.forall_mem_cons.mpr ⟨fw_7, List.forall_mem_cons.mpr ⟨fw_8, List.forall_mem_cons.mpr ⟨fw_9, List.forall_mem_cons.mpr ⟨fw_10, List.forall_mem_cons.mpr ⟨fw_11, List.forall_mem_cons.mpr ⟨fw_12, List.forall_mem_cons.mpr ⟨fw_13, List.forall_mem_cons.mpr ⟨fw_14, List.forall_mem_cons.mpr ⟨fw_15, List.forall_mem_cons.mpr ⟨fw_16, List.forall_mem_cons.mpr ⟨fw_17, List.forall_mem_cons.mpr ⟨fw_18, List.forall_mem_cons.mpr ⟨fw_19, List.forall_mem_cons.mpr ⟨fw_20, List.forall_mem_cons.mpr ⟨fw_21, List.forall_mem_cons.mpr ⟨fw_22, List.forall_mem_cons.mpr ⟨fw_23, List.forall_mem_cons.mpr ⟨fw_24, List.forall_mem_cons.mpr ⟨fw_25, List.forall_mem_cons.mpr ⟨fw_26, List.forall_mem_cons.mpr ⟨fw_27, List.forall_mem_cons.mpr ⟨fw_28, List.forall_mem_cons.mpr ⟨fw_29, List.forall_mem_cons.mpr ⟨fw_30, List.forall_mem_cons.mpr ⟨fw_31, List.forall_mem_cons.mpr ⟨fw_32, List.forall_mem_cons.mpr ⟨fw_33, List.forall_mem_cons.mpr ⟨fw_34, List.forall_mem_cons.mpr ⟨fw_35, List.forall_mem_cons.mpr ⟨fw_36, List.forall_mem_cons.mpr ⟨fw_37, List.forall_mem_cons.mpr ⟨fw_38, List.forall_mem_cons.mpr ⟨fw_39, fun _ h => absurd h List.not_mem_nil⟩⟩⟩⟩⟩⟩⟩⟩⟩⟩⟩⟩⟩⟩⟩⟩⟩⟩⟩⟩⟩⟩⟩⟩⟩⟩⟩⟩⟩⟩⟩⟩⟩⟩⟩⟩⟩⟩⟩⟩
def flL_40 : List (Nat × Nat × Nat × Nat × Nat) := [(4, 154, 3, 0, 1), (3, 15, 3, 1, 0), (4, 149, 3, 1, 1), (3, 19, 3, 2, 0), (4, 163, 3, 2, 1), (3, 22, 3, 3, 0), (4, 307, 3, 3, 1), (3, 26, 3, 4, 0), (4, 304, 3, 4, 1), (4, 12, 4, 0, 0), (4, 16, 4, 1, 0), (4, 19, 4, 2, 0), (4, 23, 4, 3, 0), (4, 27, 4, 4, 0), (4, 30, 4, 5, 0), (4, 37, 4, 6, 0), (4, 41, 4, 7, 0), (5, 29, 5, 0, 0), (5, 7, 5, 1, 0), (5, 87, 5, 2, 0), (5, 13, 5, 3, 0), (5, 17, 5, 4, 0), (5, 132, 5, 5, 0), (5, 135, 5, 6, 0), (5, 142, 5, 7, 0), (5, 20, 5, 8, 0), (5, 23, 5, 9, 0), (5, 26, 5, 10, 0)]
set_option maxRecDepth 1000000 in
theorem flL_40_ok : ∀ e ∈ flL_40, flW e ∈ lw_tbl := List.forall_mem_cons.mpr ⟨fw_40, List.forall_mem_cons.mpr ⟨fw_41, List.forall_mem_cons.mpr ⟨fw_42, List.forall_mem_cons.mpr ⟨fw_43, List.forall_mem_cons.mpr ⟨fw_44, List.forall_mem_cons.mpr ⟨fw_45, List.forall_mem_cons.mpr ⟨fw_46, List.forall_mem_cons.mpr ⟨fw_47, List.forall_mem_cons.mpr ⟨fw_48, List.forall_mem_cons.mpr ⟨fw_49, List.forall_mem_cons.mpr ⟨fw_50, List.forall_mem_cons.mpr ⟨fw_51, List.forall_mem_cons.mpr ⟨fw_52, List.forall_mem_cons.mpr ⟨fw_53, List.forall_mem_cons.mpr ⟨fw_54, List.forall_mem_cons.mpr ⟨fw_55, List.forall_mem_cons.mpr ⟨fw_56, List.forall_mem_cons.mpr ⟨fw_57, List.forall_mem_cons.mpr ⟨fw_58, List.forall_mem_cons.mpr ⟨fw_59, List.forall_mem_cons.mpr ⟨fw_60, List.forall_mem_cons.mpr ⟨fw_61, List.forall_mem_cons.mpr ⟨fw_62, List.forall_mem_cons.mpr ⟨fw_63, List.forall_mem_cons.mpr ⟨fw_64, List.forall_mem_cons.mpr ⟨fw_65, List.forall_mem_cons.mpr ⟨fw_66, List.forall_mem_cons.mpr ⟨fw_67, fun _ h => absurd h List.not_mem_nil⟩⟩⟩⟩⟩⟩⟩⟩⟩⟩⟩⟩⟩⟩⟩⟩⟩⟩⟩⟩⟩⟩⟩⟩⟩⟩⟩⟩
set_option maxRecDepth 1000000 in
theorem flL_eq : flL = flL_0 ++ flL_40 := by decide +kernel
theorem flL_ok : ∀ e ∈ flL, flW e ∈ lw_tbl := fun e h => by rw [flL_eq] at h; simp only [List.mem_append] at h; rcases h with (h | h) <;> first | exact flL_0_ok e h | exact flL_40_ok e h
def mlL_0 : List (Nat × Nat × Nat × Nat) := [(6, 122, 44, 0), (4, 3, 1000, 0), (4, 11, 14, 1), (2, 3, 1000, 0), (2, 40, 4, 1), (1, 3, 1000, 0), (2, 47, 0, 1), (0, 3, 1000, 0), (4, 36, 36, 1), (3, 3, 1000, 0), (6, 167, 55, 0), (6, 171, 56, 0), (4, 158, 37, 1), (3, 30, 38, 0), (3, 38, 39, 0), (3, 34, 40, 0), (3, 42, 41, 0), (3, 64, 43, 0), (3, 68, 42, 0), (6, 224, 73, 0), (6, 240, 78, 0), (6, 250, 81, 0), (4, 121, 29, 1), (6, 254, 82, 0), (4, 258, 31, 1), (6, 261, 84, 0), (6, 265, 85, 0), (6, 269, 86, 0), (6, 126, 190, 0), (6, 7, 45, 0), (4, 45, 87, 0), (4, 49, 88, 0), (4, 52, 93, 0), (4, 240, 92, 0), (4, 290, 100, 0), (4, 56, 94, 0), (4, 59, 16, 1), (2, 69, 6, 1), (4, 70, 101, 0), (4, 179, 15, 1)]
set_option maxRecDepth 1000000 in
theorem mlL_0_ok : ∀ e ∈ mlL_0, mlW e ∈ lw_tbl := List.forall_mem_cons.mpr ⟨mw_0, List.forall_mem_cons.mpr ⟨mw_1, List.forall_mem_cons.mpr ⟨mw_2, List.forall_mem_cons.mpr ⟨mw_3, List.forall_mem_cons.mpr ⟨mw_4, List.forall_mem_cons.mpr ⟨mw_5, List.forall_mem_cons.mpr ⟨mw_6, List.forall_mem_cons.mpr ⟨mw_7, List.forall_mem_cons.mpr ⟨mw_8, List.forall_mem_cons.mpr ⟨mw_9, List.forall_mem_cons.mpr ⟨mw_10, List.forall_mem_cons.mpr ⟨mw_11, List.forall_mem_cons.mpr ⟨mw_12, List.forall_mem_cons.mpr ⟨mw_13, List.forall_mem_cons.mpr ⟨mw_14, List.forall_mem_cons.mpr ⟨mw_15, List.forall_mem_cons.mpr ⟨mw_16, List.forall_mem_cons.mpr ⟨mw_17, List.forall_mem_cons.mpr ⟨mw_18, List.forall_mem_cons.mpr ⟨mw_19, List.forall_mem_cons.mpr ⟨mw_20, List.forall_mem_cons.mpr ⟨mw_21, List.forall_mem_cons.mpr ⟨mw_22, List.forall_mem_cons.mpr ⟨mw_23, List.forall_mem_cons.mpr ⟨mw_24, List.forall_mem_cons.mpr ⟨mw_25, List.forall_mem_cons.mpr ⟨mw_26, List.forall_mem_cons.mpr ⟨mw_27, List.forall_mem_cons.mpr ⟨mw_28, List.forall_mem_cons.mpr ⟨mw_29, List.forall_mem_cons.mpr ⟨mw_30, List.forall_mem_cons.mpr ⟨mw_31, List.forall_mem_cons.mpr ⟨mw_32, List.forall_mem_cons.mpr ⟨mw_33, List.forall_mem_cons.mpr ⟨mw_34, List.forall_mem_cons.mpr ⟨mw_35, List.forall_mem_cons.mpr ⟨mw_36, List.forall_mem_cons.mpr ⟨mw_37, List.forall_mem_cons.mpr ⟨mw_38, List.forall_mem_cons.mpr ⟨mw_39, fun _ h => absurd h List.not_mem_nil⟩⟩⟩⟩⟩⟩⟩⟩⟩⟩⟩⟩⟩⟩⟩⟩⟩⟩⟩⟩⟩⟩⟩⟩⟩⟩⟩⟩⟩⟩⟩⟩⟩⟩⟩⟩⟩⟩⟩⟩
def mlL_40 : List (Nat × Nat × Nat × Nat) := [(2, 52, 1003, 0), (2, 58, 5, 1), (1, 28, 1003, 0), (2, 62, 1, 1), (0, 28, 1003, 0), (4, 73, 17, 1), (2, 73, 23, 0), (2, 88, 99, 1), (2, 111, 98, 1), (2, 115, 24, 0), (2, 118, 31, 0), (2, 77, 26, 0), (2, 131, 2, 1), (2, 81, 7, 1), (2, 85, 22, 0), (2, 91, 27, 0), (2, 133, 28, 0), (2, 136, 29, 0), (6, 135, 191, 0), (6, 19, 46, 0), (4, 77, 97, 0), (4, 225, 6, 1), (4, 81, 18, 1), (2, 103, 19, 0), (6, 139, 192, 0), (6, 23, 47, 0), (4, 84, 20, 1), (2, 107, 8, 1), (6, 143, 193, 0), (6, 27, 48, 0), (4, 87, 21, 1), (6, 147, 194, 0), (6, 31, 49, 0), (4, 91, 91, 0), (4, 208, 89, 0), (4, 110, 90, 0), (4, 214, 98, 0), (4, 94, 95, 0), (4, 104, 28, 1), (6, 150, 195, 0)]
set_option maxRecDepth 1000000 in
theorem mlL_40_ok : ∀ e ∈ mlL_40, mlW e ∈ lw_tbl := List.forall_mem_cons.mpr ⟨mw_40, List.forall_mem_cons.mpr ⟨mw_41, List.forall_mem_cons.mpr ⟨mw_42, List.forall_mem_cons.mpr ⟨mw_43, List.forall_mem_cons.mpr ⟨mw_44, List.forall_mem_cons.mpr ⟨mw_45, List.forall_mem_cons.mpr ⟨mw_46, List.forall_mem_cons.mpr ⟨mw_47, List.forall_mem_cons.mpr ⟨mw_48, List.forall_mem_cons.mpr ⟨mw_49, List.forall_mem_cons.mpr ⟨mw_50, List.forall_mem_cons.mpr ⟨mw_51, List.forall_mem_cons.mpr ⟨mw_52, List.forall_mem_cons.mpr ⟨mw_53, List.forall_mem_cons.mpr ⟨mw_54, List.forall_mem_cons.mpr ⟨mw_55, List.forall_mem_cons.mpr ⟨mw_56, List.forall_mem_cons.mpr ⟨mw_57, List.forall_mem_cons.mpr ⟨mw_58, List.forall_mem_cons.mpr ⟨mw_59, List.forall_mem_cons.mpr ⟨mw_60, List.forall_mem_cons.mpr ⟨mw_61, List.forall_mem_cons.mpr ⟨mw_62, List.forall_mem_cons.mpr ⟨mw_63, List.forall_mem_cons.mpr ⟨mw_64, List.forall_mem_cons.mpr ⟨mw_65, List.forall_mem_cons.mpr ⟨mw_66, List.forall_mem_cons.mpr ⟨mw_67, List.forall_mem_cons.mpr ⟨mw_68, List.forall_mem_cons.mpr ⟨mw_69, List.forall_mem_cons.mpr ⟨mw_70, List.forall_mem_cons.mpr ⟨mw_71, List.forall_mem_cons.mpr ⟨mw_72, List.forall_mem_cons.mpr ⟨mw_73, List.forall_mem_cons.mpr ⟨mw_74, List.forall_mem_cons.mpr ⟨mw_75, List.forall_mem_cons.mpr ⟨mw_76, List.forall_mem_cons.mpr ⟨mw_77, List.forall_mem_cons.mpr ⟨mw_78, List.forall_mem_cons.mpr ⟨mw_79, fun _ h => absurd h List.not_mem_nil⟩⟩⟩⟩⟩⟩⟩⟩⟩⟩⟩⟩⟩⟩⟩⟩⟩⟩⟩⟩⟩⟩⟩⟩⟩⟩⟩⟩⟩⟩⟩⟩⟩⟩⟩⟩⟩⟩⟩⟩
def mlL_80 : List (Nat × Nat × Nat × Nat) := [(6, 34, 50, 0), (6, 153, 196, 0), (6, 37, 51, 0), (6, 156, 197, 0), (6, 40, 52, 0), (4, 135, 35, 1), (6, 160, 198, 0), (6, 44, 53, 0), (4, 139, 32, 1), (4, 144, 33, 1), (2, 139, 34, 0), (2, 143, 30, 0), (6, 164, 199, 0), (6, 48, 54, 0), (6, 175, 200, 0), (6, 51, 57, 0), (4, 166, 38, 1), (4, 170, 102, 0), (4, 173, 40, 1), (6, 179, 201, 0), (6, 55, 58, 0), (6, 182, 202, 0), (6, 58, 59, 0), (4, 183, 96, 0), (6, 185, 203, 0), (6, 61, 60, 0), (6, 188, 204, 0), (6, 64, 61, 0), (6, 191, 205, 0), (6, 67, 62, 0), (4, 192, 10, 1), (1, 38, 9, 0), (1, 34, 99, 1), (6, 194, 206, 0), (6, 70, 63, 0), (6, 197, 207, 0), (6, 73, 64, 0), (6, 200, 208, 0), (6, 76, 65, 0), (6, 203, 209, 0)]
set_option maxRecDepth 1000000 in
theorem mlL_80_ok : ∀ e ∈ mlL_80, mlW e ∈ lw_tbl := List.forall_mem_cons.mpr ⟨mw_80, List.forall_mem_cons.mpr ⟨mw_81, List.forall_mem_cons.mpr ⟨mw_82, List.forall_mem_cons.mpr ⟨mw_83, List.forall_mem_cons.mpr ⟨mw_84, List.forall_mem_cons.mpr ⟨mw_85, List.forall_mem_cons.mpr ⟨mw_86, List.forall_mem_cons.mpr ⟨mw_87, List.forall_mem_cons.mpr ⟨mw_88, List.forall_mem_cons.mpr ⟨mw_89, List.forall_mem_cons.mpr ⟨mw_90, List.forall_mem_cons.mpr ⟨mw_91, List.forall_mem_cons.mpr ⟨mw_92, List.forall_mem_cons.mpr ⟨mw_93, List.forall_mem_cons.mpr ⟨mw_94, List.forall_mem_cons.mpr ⟨mw_95, List.forall_mem_cons.mpr ⟨mw_96, List.forall_mem_cons.mpr ⟨mw_97, List.forall_mem_cons.mpr ⟨mw_98, List.forall_mem_cons.mpr ⟨mw_99, List.forall_mem_cons.mpr ⟨mw_100, List.forall_mem_cons.mpr ⟨mw_101, List.forall_mem_cons.mpr ⟨mw_102, List.forall_mem_cons.mpr ⟨mw_103, List.forall_mem_cons.mpr ⟨mw_104, List.forall_mem_cons.mpr ⟨mw_105, List.forall_mem_cons.mpr ⟨mw_106, List.forall_mem_cons.mpr ⟨mw_107, List.forall_mem_cons.mpr ⟨mw_108, List.forall_mem_cons.mpr ⟨mw_109, List.forall_mem_cons.mpr ⟨mw_110, List.forall_mem_cons.mpr ⟨mw_111, List.forall_mem_cons.mpr ⟨mw_112, List.forall_mem_cons.mpr ⟨mw_113, List.forall_mem_cons.mpr ⟨mw_114, List.forall_mem_cons.mpr ⟨mw_115, List.forall_mem_cons.mpr ⟨mw_116, List.forall_mem_cons.mpr ⟨mw_117, List.forall_mem_cons.mpr ⟨mw_118, List.forall_mem_cons.mpr ⟨mw_119, fun _ h => absurd h List.not_mem_nil⟩⟩⟩⟩⟩⟩⟩⟩⟩⟩⟩⟩⟩⟩⟩⟩⟩⟩⟩⟩⟩⟩⟩⟩⟩⟩⟩⟩⟩⟩⟩⟩⟩⟩⟩⟩⟩⟩⟩⟩
def mlL_120 : List (Nat × Nat × Nat × Nat) := [(6, 79, 66, 0), (4, 197, 30, 1), (4, 200, 1001, 0), (6, 206, 210, 0), (6, 82, 67, 0), (4, 205, 25, 1), (2, 123, 1002, 0), (2, 128, 1001, 0), (6, 209, 211, 0), (6, 85, 68, 0), (6, 212, 212, 0), (6, 88, 69, 0), (4, 217, 11, 1), (4, 221, 103, 0), (6, 215, 213, 0), (6, 91, 70, 0), (6, 218, 214, 0), (6, 94, 71, 0), (6, 221, 215, 0), (6, 97, 72, 0), (6, 228, 216, 0), (6, 100, 74, 0), (4, 243, 12, 1), (6, 231, 217, 0), (6, 103, 75, 0), (4, 246, 13, 1), (6, 234, 218, 0), (6, 106, 76, 0), (4, 249, 23, 1), (6, 237, 219, 0), (6, 109, 77, 0), (4, 255, 19, 1), (6, 244, 220, 0), (6, 112, 79, 0), (6, 247, 221, 0), (6, 115, 80, 0), (6, 258, 222, 0), (6, 119, 83, 0), (4, 272, 3, 1), (6, 125, 104, 0)]
set_option maxRecDepth 1000000 in
theorem mlL_120_ok : ∀ e ∈ mlL_120, mlW e ∈ lw_tbl := List.forall_mem_cons.mpr ⟨mw_120, List.forall_mem_cons.mpr ⟨mw_121, List.forall_mem_cons.mpr ⟨mw_122, List.forall_mem_cons.mpr ⟨mw_123, List.forall_mem_cons.mpr ⟨mw_124, List.forall_mem_cons.mpr ⟨mw_125, List.forall_mem_cons.mpr ⟨mw_126, List.forall_mem_cons.mpr ⟨mw_127, List.forall_mem_cons.mpr ⟨mw_128, List.forall_mem_cons.mpr ⟨mw_129, List.forall_mem_cons.mpr ⟨mw_130, List.forall_mem_cons.mpr ⟨mw_131, List.forall_mem_cons.mpr ⟨mw_132, List.forall_mem_cons.mpr ⟨mw_133, List.forall_mem_cons.mpr ⟨mw_134, List.forall_mem_cons.mpr ⟨mw_135, List.forall_mem_cons.mpr ⟨mw_136, List.forall_mem_cons.mpr ⟨mw_137, List.forall_mem_cons.mpr ⟨mw_138, List.forall_mem_cons.mpr ⟨mw_139, List.forall_mem_cons.mpr ⟨mw_140, List.forall_mem_cons.mpr ⟨mw_141, List.forall_mem_cons.mpr ⟨mw_142, List.forall_mem_cons.mpr ⟨mw_143, List.forall_mem_cons.mpr ⟨mw_144, List.forall_mem_cons.mpr ⟨mw_145, List.forall_mem_cons.mpr ⟨mw_146, List.forall_mem_cons.mpr ⟨mw_147, List.forall_mem_cons.mpr ⟨mw_148, List.forall_mem_cons.mpr ⟨mw_149, List.forall_mem_cons.mpr ⟨mw_150, List.forall_mem_cons.mpr ⟨mw_151, List.forall_mem_cons.mpr ⟨mw_152, List.forall_mem_cons.mpr ⟨mw_153, List.forall_mem_cons.mpr ⟨mw_154, List.forall_mem_cons.mpr ⟨mw_155, List.forall_mem_cons.mpr ⟨mw_156, List.forall_mem_cons.mpr ⟨mw_157, List.forall_mem_cons.mpr ⟨mw_158, List.forall_mem_cons.mpr ⟨mw_159, fun _ h => absurd h List.not_mem_nil⟩⟩⟩⟩⟩⟩⟩⟩⟩⟩⟩⟩⟩⟩⟩⟩⟩⟩⟩⟩⟩⟩⟩⟩⟩⟩⟩⟩⟩⟩⟩⟩⟩⟩⟩⟩⟩⟩⟩⟩
def mlL_160 : List (Nat × Nat × Nat × Nat) := [(5, 1, 1000, 0), (6, 132, 105, 0), (6, 131, 134, 0), (5, 93, 108, 0), (5, 33, 106, 0), (5, 96, 109, 0), (5, 99, 110, 0), (5, 102, 114, 0), (5, 37, 112, 0), (5, 105, 107, 0), (5, 108, 133, 0), (5, 90, 132, 0), (5, 111, 127, 0), (5, 74, 125, 0), (5, 78, 126, 0), (5, 71, 124, 0), (5, 56, 122, 0), (5, 60, 123, 0), (5, 45, 116, 0), (5, 41, 115, 0), (5, 64, 120, 0), (5, 67, 121, 0), (5, 48, 117, 0), (5, 81, 113, 0), (5, 84, 119, 0), (5, 52, 118, 0), (6, 138, 135, 0), (5, 115, 128, 0), (6, 142, 136, 0), (5, 118, 129, 0), (6, 146, 137, 0), (5, 122, 130, 0), (6, 149, 138, 0), (5, 126, 111, 0), (6, 152, 139, 0), (6, 155, 140, 0), (6, 159, 141, 0), (6, 163, 142, 0), (5, 129, 131, 0), (6, 166, 143, 0)]
set_option maxRecDepth 1000000 in
theorem mlL_160_ok : ∀ e ∈ mlL_160, mlW e ∈ lw_tbl := List.forall_mem_cons.mpr ⟨mw_160, List.forall_mem_cons.mpr ⟨mw_161, List.forall_mem_cons.mpr ⟨mw_162, List.forall_mem_cons.mpr ⟨mw_163, List.forall_mem_cons.mpr ⟨mw_164, List.forall_mem_cons.mpr ⟨mw_165, List.forall_mem_cons.mpr ⟨mw_166, List.forall_mem_cons.mpr ⟨mw_167, List.forall_mem_cons.mpr ⟨mw_168, List.forall_mem_cons.mpr ⟨mw_169, List.forall_mem_cons.mpr ⟨mw_170, List.forall_mem_cons.mpr ⟨mw_171, List.forall_mem_cons.mpr ⟨mw_172, List.forall_mem_cons.mpr ⟨mw_173, List.forall_mem_cons.mpr ⟨mw_174, List.forall_mem_cons.mpr ⟨mw_175, List.forall_mem_cons.mpr ⟨mw_176, List.forall_mem_cons.mpr ⟨mw_177, List.forall_mem_cons.mpr ⟨mw_178, List.forall_mem_cons.mpr ⟨mw_179, List.forall_mem_cons.mpr ⟨mw_180, List.forall_mem_cons.mpr ⟨mw_181, List.forall_mem_cons.mpr ⟨mw_182, List.forall_mem_cons.mpr ⟨mw_183, List.forall_mem_cons.mpr ⟨mw_184, List.forall_mem_cons.mpr ⟨mw_185, List.forall_mem_cons.mpr ⟨mw_186, List.forall_mem_cons.mpr ⟨mw_187, List.forall_mem_cons.mpr ⟨mw_188, List.forall_mem_cons.mpr ⟨mw_189, List.forall_mem_cons.mpr ⟨mw_190, List.forall_mem_cons.mpr ⟨mw_191, List.forall_mem_cons.mpr ⟨mw_192, List.forall_mem_cons.mpr ⟨mw_193, List.forall_mem_cons.mpr ⟨mw_194, List.forall_mem_cons.mpr ⟨mw_195, List.forall_mem_cons.mpr ⟨mw_196, List.forall_mem_cons.mpr ⟨mw_197, List.forall_mem_cons.mpr ⟨mw_198, List.forall_mem_cons.mpr ⟨mw_199, fun _ h => absurd h List.not_mem_nil⟩⟩⟩⟩⟩⟩⟩⟩⟩⟩⟩⟩⟩⟩⟩⟩⟩⟩⟩⟩⟩⟩⟩⟩⟩⟩⟩⟩⟩⟩⟩⟩⟩⟩⟩⟩⟩⟩⟩⟩
def mlL_200 : List (Nat × Nat × Nat × Nat) := [(6, 170, 144, 0), (6, 174, 151, 0), (5, 158, 150, 0), (5, 154, 149, 0), (5, 138, 145, 0), (5, 145, 146, 0), (5, 148, 148, 0), (5, 151, 147, 0), (6, 178, 153, 0), (5, 161, 152, 0), (6, 181, 154, 0), (6, 184, 155, 0), (6, 187, 156, 0), (6, 190, 157, 0), (6, 193, 158, 0), (6, 196, 159, 0), (6, 199, 160, 0), (6, 202, 161, 0), (6, 205, 162, 0), (6, 208, 163, 0), (6, 211, 164, 0), (6, 214, 168, 0), (5, 170, 167, 0), (5, 164, 166, 0), (5, 167, 165, 0), (6, 217, 170, 0), (5, 173, 169, 0), (6, 220, 171, 0), (6, 223, 172, 0), (6, 227, 173, 0), (6, 230, 174, 0), (6, 233, 175, 0), (6, 236, 176, 0), (6, 239, 179, 0), (5, 179, 178, 0), (5, 176, 177, 0), (6, 243, 180, 0), (6, 246, 181, 0), (6, 249, 182, 0), (6, 253, 184, 0)]
set_option maxRecDepth 1000000 in
theorem mlL_200_ok : ∀ e ∈ mlL_200, mlW e ∈ lw_tbl := List.forall_mem_cons.mpr ⟨mw_200, List.forall_mem_cons.mpr ⟨mw_201, List.forall_mem_cons.mpr ⟨mw_202, List.forall_mem_cons.mpr ⟨mw_203, List.forall_mem_cons.mpr ⟨mw_204, List.forall_mem_cons.mpr ⟨mw_205, List.forall_mem_cons.mpr ⟨mw_206, List.forall_mem_cons.mpr ⟨mw_207, List.forall_mem_cons.mpr ⟨mw_208, List.forall_mem_cons.mpr ⟨mw_209, List.forall_mem_cons.mpr ⟨mw_210, List.forall_mem_cons.mpr ⟨mw_211, List.forall_mem_cons.mpr ⟨mw_212, List.forall_mem_cons.mpr ⟨mw_213, List.forall_mem_cons.mpr ⟨mw_214, List.forall_mem_cons.mpr ⟨mw_215, List.forall_mem_cons.mpr ⟨mw_216, List.forall_mem_cons.mpr ⟨mw_217, List.forall_mem_cons.mpr ⟨mw_218, List.forall_mem_cons.mpr ⟨mw_219, List.forall_mem_cons.mpr ⟨mw_220, List.forall_mem_cons.mpr ⟨mw_221, List.forall_mem_cons.mpr ⟨mw_222, List.forall_mem_cons.mpr ⟨mw_223, List.forall_mem_cons.mpr ⟨mw_224, List.forall_mem_cons.mpr ⟨mw_225, List.forall_mem_cons.mpr ⟨mw_226, List.forall_mem_cons.mpr ⟨mw_227, List.forall_mem_cons.mpr ⟨mw_228, List.forall_mem_cons.mpr ⟨mw_229, List.forall_mem_cons.mpr ⟨mw_230, List.forall_mem_cons.mpr ⟨mw_231, List.forall_mem_cons.mpr ⟨mw_232, List.forall_mem_cons.mpr ⟨mw_233, List.forall_mem_cons.mpr ⟨mw_234, List.forall_mem_cons.mpr ⟨mw_235, List.forall_mem_cons.mpr ⟨mw_236, List.forall_mem_cons.mpr ⟨mw_237, List.forall_mem_cons.mpr ⟨mw_238, List.forall_mem_cons.mpr ⟨mw_239, fun _ h => absurd h List.not_mem_nil⟩⟩⟩⟩⟩⟩⟩⟩⟩⟩⟩⟩⟩⟩⟩⟩⟩⟩⟩⟩⟩⟩⟩⟩⟩⟩⟩⟩⟩⟩⟩⟩⟩⟩⟩⟩⟩⟩⟩⟩
def mlL_240 : List (Nat × Nat × Nat × Nat) := [(5, 182, 183, 0), (6, 257, 185, 0), (6, 260, 186, 0), (6, 264, 187, 0), (6, 268, 188, 0), (6, 272, 189, 0)]
set_option maxRecDepth 1000000 in
theorem mlL_240_ok : ∀ e ∈ mlL_240, mlW e ∈ lw_tbl := List.forall_mem_cons.mpr ⟨mw_240, List.forall_mem_cons.mpr ⟨mw_241, List.forall_mem_cons.mpr ⟨mw_242, List.forall_mem_cons.mpr ⟨mw_243, List.forall_mem_cons.mpr ⟨mw_244, List.forall_mem_cons.mpr ⟨mw_245, fun _ h => absurd h List.not_mem_nil⟩⟩⟩⟩⟩⟩
set_option maxRecDepth 1000000 in
theorem mlL_eq : mlL = mlL_0 ++ mlL_40 ++ mlL_80 ++ mlL_120 ++ mlL_160 ++ mlL_200 ++ mlL_240 := by decide +kernel
theorem mlL_ok : ∀ e ∈ mlL, mlW e ∈ lw_tbl := fun e h => by rw [mlL_eq] at h; simp only [List.mem_append] at h; rcases h with ((((((h | h) | h) | h) | h) | h) | h) <;> first | exact mlL_0_ok e h | exact mlL_40_ok e h | exact mlL_80_ok e h | exact mlL_120_ok e h | exact mlL_160_ok e h | exact mlL_200_ok e h | exact mlL_240_ok e h
set_option maxRecDepth 1000000 in
theorem pd_0 : (parseMethodDescriptor "()V").map (fun d => d.parameters.length) = some 0 := by decide +kernel
set_option maxRecDepth 1000000 in
theorem pd_1 : (parseMethodDescriptor "(LStorageQuotas$EventLog;)V").map (fun d => d.parameters.length) = some 1 := by decide +kernel
set_option maxRecDepth 1000000 in
theorem pd_2 : (parseMethodDescriptor "(III)V").map (fun d => d.parameters.length) = some 3 := by decide +kernel
set_option maxRecDepth 1000000 in
theorem pd_3 : (parseMethodDescriptor "(II)I").map (fun d => d.parameters.length) = some 2 := by decide +kernel
set_option maxRecDepth 1000000 in
theorem pd_4 : (parseMethodDescriptor "(LStorageQuotas$FileTable;)V").map (fun d => d.parameters.length) = some 1 := by decide +kernel
set_option maxRecDepth 1000000 in
theorem pd_5 : (parseMethodDescriptor "(I)I").map (fun d => d.parameters.length) = some 1 := by decide +kernel
set_option maxRecDepth 1000000 in
theorem pd_6 : (parseMethodDescriptor "(IIII)V").map (fun d => d.parameters.length) = some 4 := by decide +kernel
set_option maxRecDepth 1000000 in
theorem pd_7 : (parseMethodDescriptor "(I)V").map (fun d => d.parameters.length) = some 1 := by decide +kernel
set_option maxRecDepth 1000000 in
theorem pd_8 : (parseMethodDescriptor "(II)Z").map (fun d => d.parameters.length) = some 2 := by decide +kernel
set_option maxRecDepth 1000000 in
theorem pd_9 : (parseMethodDescriptor "(I[I)I").map (fun d => d.parameters.length) = some 2 := by decide +kernel
set_option maxRecDepth 1000000 in
theorem pd_10 : (parseMethodDescriptor "(LStorageQuotas$State;)V").map (fun d => d.parameters.length) = some 1 := by decide +kernel
set_option maxRecDepth 1000000 in
theorem pd_11 : (parseMethodDescriptor "(I)Z").map (fun d => d.parameters.length) = some 1 := by decide +kernel
set_option maxRecDepth 1000000 in
theorem pd_12 : (parseMethodDescriptor "(IIII)I").map (fun d => d.parameters.length) = some 4 := by decide +kernel
set_option maxRecDepth 1000000 in
theorem pd_13 : (parseMethodDescriptor "(III)I").map (fun d => d.parameters.length) = some 3 := by decide +kernel
set_option maxRecDepth 1000000 in
theorem pd_14 : (parseMethodDescriptor "(IIIIII)I").map (fun d => d.parameters.length) = some 6 := by decide +kernel
set_option maxRecDepth 1000000 in
theorem pd_15 : (parseMethodDescriptor "()I").map (fun d => d.parameters.length) = some 0 := by decide +kernel
set_option maxRecDepth 1000000 in
theorem pd_16 : (parseMethodDescriptor "()Z").map (fun d => d.parameters.length) = some 0 := by decide +kernel
set_option maxRecDepth 1000000 in
theorem pd_17 : (parseMethodDescriptor "(C)[I").map (fun d => d.parameters.length) = some 1 := by decide +kernel
set_option maxRecDepth 1000000 in
theorem pd_18 : (parseMethodDescriptor "(C)Z").map (fun d => d.parameters.length) = some 1 := by decide +kernel
set_option maxRecDepth 1000000 in
theorem pd_19 : (parseMethodDescriptor "(IIIII)I").map (fun d => d.parameters.length) = some 5 := by decide +kernel
set_option maxRecDepth 1000000 in
theorem pd_20 : (parseMethodDescriptor "(IZ)I").map (fun d => d.parameters.length) = some 2 := by decide +kernel
set_option maxRecDepth 1000000 in
theorem pd_21 : (parseMethodDescriptor "(II)V").map (fun d => d.parameters.length) = some 2 := by decide +kernel
set_option maxRecDepth 1000000 in
theorem pd_22 : (parseMethodDescriptor "([II)I").map (fun d => d.parameters.length) = some 2 := by decide +kernel
set_option maxRecDepth 1000000 in
theorem pd_23 : (parseMethodDescriptor "(III)Z").map (fun d => d.parameters.length) = some 3 := by decide +kernel
set_option maxRecDepth 1000000 in
theorem pd_24 : (parseMethodDescriptor "(IIIZ)I").map (fun d => d.parameters.length) = some 4 := by decide +kernel
set_option maxRecDepth 1000000 in
theorem pd_25 : (parseMethodDescriptor "(Z)I").map (fun d => d.parameters.length) = some 1 := by decide +kernel
set_option maxRecDepth 1000000 in
theorem pd_26 : (parseMethodDescriptor "(LStorageQuotas;IIIII[J)I").map (fun d => d.parameters.length) = some 7 := by decide +kernel
set_option maxRecDepth 1000000 in
theorem pd_27 : (parseMethodDescriptor "(LStorageQuotas;III[J)I").map (fun d => d.parameters.length) = some 5 := by decide +kernel
set_option maxRecDepth 1000000 in
theorem pd_28 : (parseMethodDescriptor "(LStorageQuotas;II[J)I").map (fun d => d.parameters.length) = some 4 := by decide +kernel
set_option maxRecDepth 1000000 in
theorem pd_29 : (parseMethodDescriptor "(LStorageQuotas;IIII[J)I").map (fun d => d.parameters.length) = some 6 := by decide +kernel
set_option maxRecDepth 1000000 in
theorem pd_30 : (parseMethodDescriptor "(LStorageQuotas;IZ[J)I").map (fun d => d.parameters.length) = some 4 := by decide +kernel
set_option maxRecDepth 1000000 in
theorem pd_31 : (parseMethodDescriptor "(LStorageQuotas;I[J)I").map (fun d => d.parameters.length) = some 3 := by decide +kernel
set_option maxRecDepth 1000000 in
theorem pd_32 : (parseMethodDescriptor "(LStorageQuotas;[J)I").map (fun d => d.parameters.length) = some 2 := by decide +kernel
set_option maxRecDepth 1000000 in
theorem pd_33 : (parseMethodDescriptor "([I)Z").map (fun d => d.parameters.length) = some 1 := by decide +kernel
set_option maxRecDepth 1000000 in
theorem ma_0 : cwM 0 ∈ lw_tbl := kcD_0_in _ (List.mem_of_getElem? (i := 4) rfl)
set_option maxRecDepth 1000000 in
theorem mb_0 : Cond.instanceMethod (yM 0) ∈ lw_tbl := kiN_0_in _ (List.mem_of_getElem? (i := 4) rfl)
set_option maxRecDepth 1000000 in
theorem me_0 : (parseMethodDescriptor (yM 0).desc).map (fun d => d.parameters.length) = some (npM 0) := pd_0
theorem mt_0 : MtP 0 := ⟨rfl, Or.inr ma_0, fun h => absurd h (by decide), fun h => absurd h (by decide), fun _ => ⟨mb_0, rfl⟩, me_0⟩
set_option maxRecDepth 1000000 in
theorem ma_1 : cwM 1 ∈ lw_tbl := kcD_0_in _ (List.mem_of_getElem? (i := 44) rfl)
set_option maxRecDepth 1000000 in
theorem mb_1 : Cond.instanceMethod (yM 1) ∈ lw_tbl := kiN_0_in _ (List.mem_of_getElem? (i := 38) rfl)
set_option maxRecDepth 1000000 in
theorem md_1 : Cond.selects (owM 1) (yM 1) (yM 1) ∈ lw_tbl := kxL_0_in _ (List.mem_of_getElem? (i := 14) rfl)
set_option maxRecDepth 1000000 in
theorem me_1 : (parseMethodDescriptor (yM 1).desc).map (fun d => d.parameters.length) = some (npM 1) := pd_1
theorem mt_1 : MtP 1 := ⟨rfl, Or.inr ma_1, fun h => absurd h (by decide), fun _ => ⟨mb_1, md_1⟩, fun h => absurd h (by decide), me_1⟩
set_option maxRecDepth 1000000 in
theorem ma_2 : cwM 2 ∈ lw_tbl := kcD_0_in _ (List.mem_of_getElem? (i := 51) rfl)
set_option maxRecDepth 1000000 in
theorem mb_2 : Cond.instanceMethod (yM 2) ∈ lw_tbl := kiN_0_in _ (List.mem_of_getElem? (i := 43) rfl)
set_option maxRecDepth 1000000 in
theorem md_2 : Cond.selects (owM 2) (yM 2) (yM 2) ∈ lw_tbl := kxL_0_in _ (List.mem_of_getElem? (i := 19) rfl)
set_option maxRecDepth 1000000 in
theorem me_2 : (parseMethodDescriptor (yM 2).desc).map (fun d => d.parameters.length) = some (npM 2) := pd_2
theorem mt_2 : MtP 2 := ⟨rfl, Or.inr ma_2, fun h => absurd h (by decide), fun _ => ⟨mb_2, md_2⟩, fun h => absurd h (by decide), me_2⟩
set_option maxRecDepth 1000000 in
theorem ma_3 : cwM 3 ∈ lw_tbl := kcD_120_in _ (List.mem_of_getElem? (i := 26) rfl)
set_option maxRecDepth 1000000 in
theorem mb_3 : Cond.instanceMethod (yM 3) ∈ lw_tbl := kiN_60_in _ (List.mem_of_getElem? (i := 38) rfl)
set_option maxRecDepth 1000000 in
theorem md_3 : Cond.selects (owM 3) (yM 3) (yM 3) ∈ lw_tbl := kxL_0_in _ (List.mem_of_getElem? (i := 42) rfl)
set_option maxRecDepth 1000000 in
theorem me_3 : (parseMethodDescriptor (yM 3).desc).map (fun d => d.parameters.length) = some (npM 3) := pd_3
theorem mt_3 : MtP 3 := ⟨rfl, Or.inr ma_3, fun h => absurd h (by decide), fun _ => ⟨mb_3, md_3⟩, fun h => absurd h (by decide), me_3⟩
set_option maxRecDepth 1000000 in
theorem ma_4 : cwM 4 ∈ lw_tbl := kcD_0_in _ (List.mem_of_getElem? (i := 3) rfl)
set_option maxRecDepth 1000000 in
theorem mb_4 : Cond.instanceMethod (yM 4) ∈ lw_tbl := kiN_0_in _ (List.mem_of_getElem? (i := 3) rfl)
set_option maxRecDepth 1000000 in
theorem me_4 : (parseMethodDescriptor (yM 4).desc).map (fun d => d.parameters.length) = some (npM 4) := pd_0
theorem mt_4 : MtP 4 := ⟨rfl, Or.inr ma_4, fun h => absurd h (by decide), fun h => absurd h (by decide), fun _ => ⟨mb_4, rfl⟩, me_4⟩
set_option maxRecDepth 1000000 in
theorem ma_5 : cwM 5 ∈ lw_tbl := kcD_0_in _ (List.mem_of_getElem? (i := 43) rfl)
set_option maxRecDepth 1000000 in
theorem mb_5 : Cond.instanceMethod (yM 5) ∈ lw_tbl := kiN_0_in _ (List.mem_of_getElem? (i := 37) rfl)
set_option maxRecDepth 1000000 in
theorem md_5 : Cond.selects (owM 5) (yM 5) (yM 5) ∈ lw_tbl := kxL_0_in _ (List.mem_of_getElem? (i := 13) rfl)
set_option maxRecDepth 1000000 in
theorem me_5 : (parseMethodDescriptor (yM 5).desc).map (fun d => d.parameters.length) = some (npM 5) := pd_4
theorem mt_5 : MtP 5 := ⟨rfl, Or.inr ma_5, fun h => absurd h (by decide), fun _ => ⟨mb_5, md_5⟩, fun h => absurd h (by decide), me_5⟩
set_option maxRecDepth 1000000 in
theorem ma_6 : cwM 6 ∈ lw_tbl := kcD_0_in _ (List.mem_of_getElem? (i := 39) rfl)
set_option maxRecDepth 1000000 in
theorem mb_6 : Cond.instanceMethod (yM 6) ∈ lw_tbl := kiN_0_in _ (List.mem_of_getElem? (i := 33) rfl)
set_option maxRecDepth 1000000 in
theorem md_6 : Cond.selects (owM 6) (yM 6) (yM 6) ∈ lw_tbl := kxL_0_in _ (List.mem_of_getElem? (i := 10) rfl)
set_option maxRecDepth 1000000 in
theorem me_6 : (parseMethodDescriptor (yM 6).desc).map (fun d => d.parameters.length) = some (npM 6) := pd_5
theorem mt_6 : MtP 6 := ⟨rfl, Or.inr ma_6, fun h => absurd h (by decide), fun _ => ⟨mb_6, md_6⟩, fun h => absurd h (by decide), me_6⟩
set_option maxRecDepth 1000000 in
theorem ma_7 : cwM 7 ∈ lw_tbl := kcD_0_in _ (List.mem_of_getElem? (i := 52) rfl)
set_option maxRecDepth 1000000 in
theorem mb_7 : Cond.instanceMethod (yM 7) ∈ lw_tbl := kiN_0_in _ (List.mem_of_getElem? (i := 44) rfl)
set_option maxRecDepth 1000000 in
theorem md_7 : Cond.selects (owM 7) (yM 7) (yM 7) ∈ lw_tbl := kxL_0_in _ (List.mem_of_getElem? (i := 20) rfl)
set_option maxRecDepth 1000000 in
theorem me_7 : (parseMethodDescriptor (yM 7).desc).map (fun d => d.parameters.length) = some (npM 7) := pd_6
theorem mt_7 : MtP 7 := ⟨rfl, Or.inr ma_7, fun h => absurd h (by decide), fun _ => ⟨mb_7, md_7⟩, fun h => absurd h (by decide), me_7⟩
set_option maxRecDepth 1000000 in
theorem ma_8 : cwM 8 ∈ lw_tbl := kcD_60_in _ (List.mem_of_getElem? (i := 4) rfl)
set_option maxRecDepth 1000000 in
theorem mb_8 : Cond.instanceMethod (yM 8) ∈ lw_tbl := kiN_0_in _ (List.mem_of_getElem? (i := 54) rfl)
set_option maxRecDepth 1000000 in
theorem md_8 : Cond.selects (owM 8) (yM 8) (yM 8) ∈ lw_tbl := kxL_0_in _ (List.mem_of_getElem? (i := 28) rfl)
set_option maxRecDepth 1000000 in
theorem me_8 : (parseMethodDescriptor (yM 8).desc).map (fun d => d.parameters.length) = some (npM 8) := pd_7
theorem mt_8 : MtP 8 := ⟨rfl, Or.inr ma_8, fun h => absurd h (by decide), fun _ => ⟨mb_8, md_8⟩, fun h => absurd h (by decide), me_8⟩
set_option maxRecDepth 1000000 in
theorem ma_9 : cwM 9 ∈ lw_tbl := kcD_60_in _ (List.mem_of_getElem? (i := 44) rfl)
set_option maxRecDepth 1000000 in
theorem mb_9 : Cond.instanceMethod (yM 9) ∈ lw_tbl := kiN_60_in _ (List.mem_of_getElem? (i := 16) rfl)
set_option maxRecDepth 1000000 in
theorem md_9 : Cond.selects (owM 9) (yM 9) (yM 9) ∈ lw_tbl := kxL_0_in _ (List.mem_of_getElem? (i := 37) rfl)
set_option maxRecDepth 1000000 in
theorem me_9 : (parseMethodDescriptor (yM 9).desc).map (fun d => d.parameters.length) = some (npM 9) := pd_8
theorem mt_9 : MtP 9 := ⟨rfl, Or.inr ma_9, fun h => absurd h (by decide), fun _ => ⟨mb_9, md_9⟩, fun h => absurd h (by decide), me_9⟩
set_option maxRecDepth 1000000 in
theorem ma_10 : cwM 10 ∈ lw_tbl := kcD_60_in _ (List.mem_of_getElem? (i := 43) rfl)
set_option maxRecDepth 1000000 in
theorem mb_10 : Cond.instanceMethod (yM 10) ∈ lw_tbl := kiN_60_in _ (List.mem_of_getElem? (i := 15) rfl)
set_option maxRecDepth 1000000 in
theorem md_10 : Cond.selects (owM 10) (yM 10) (yM 10) ∈ lw_tbl := kxL_0_in _ (List.mem_of_getElem? (i := 36) rfl)
set_option maxRecDepth 1000000 in
theorem me_10 : (parseMethodDescriptor (yM 10).desc).map (fun d => d.parameters.length) = some (npM 10) := pd_3
theorem mt_10 : MtP 10 := ⟨rfl, Or.inr ma_10, fun h => absurd h (by decide), fun _ => ⟨mb_10, md_10⟩, fun h => absurd h (by decide), me_10⟩
set_option maxRecDepth 1000000 in
theorem ma_11 : cwM 11 ∈ lw_tbl := kcD_120_in _ (List.mem_of_getElem? (i := 2) rfl)
set_option maxRecDepth 1000000 in
theorem mb_11 : Cond.instanceMethod (yM 11) ∈ lw_tbl := kiN_60_in _ (List.mem_of_getElem? (i := 25) rfl)
set_option maxRecDepth 1000000 in
theorem md_11 : Cond.selects (owM 11) (yM 11) (yM 11) ∈ lw_tbl := kxL_0_in _ (List.mem_of_getElem? (i := 39) rfl)
set_option maxRecDepth 1000000 in
theorem me_11 : (parseMethodDescriptor (yM 11).desc).map (fun d => d.parameters.length) = some (npM 11) := pd_9
theorem mt_11 : MtP 11 := ⟨rfl, Or.inr ma_11, fun h => absurd h (by decide), fun _ => ⟨mb_11, md_11⟩, fun h => absurd h (by decide), me_11⟩
set_option maxRecDepth 1000000 in
theorem ma_12 : cwM 12 ∈ lw_tbl := kcD_120_in _ (List.mem_of_getElem? (i := 12) rfl)
set_option maxRecDepth 1000000 in
theorem mb_12 : Cond.instanceMethod (yM 12) ∈ lw_tbl := kiN_60_in _ (List.mem_of_getElem? (i := 30) rfl)
set_option maxRecDepth 1000000 in
theorem md_12 : Cond.selects (owM 12) (yM 12) (yM 12) ∈ lw_tbl := kxL_0_in _ (List.mem_of_getElem? (i := 40) rfl)
set_option maxRecDepth 1000000 in
theorem me_12 : (parseMethodDescriptor (yM 12).desc).map (fun d => d.parameters.length) = some (npM 12) := pd_5
theorem mt_12 : MtP 12 := ⟨rfl, Or.inr ma_12, fun h => absurd h (by decide), fun _ => ⟨mb_12, md_12⟩, fun h => absurd h (by decide), me_12⟩
set_option maxRecDepth 1000000 in
theorem ma_13 : cwM 13 ∈ lw_tbl := kcD_120_in _ (List.mem_of_getElem? (i := 15) rfl)
set_option maxRecDepth 1000000 in
theorem mb_13 : Cond.instanceMethod (yM 13) ∈ lw_tbl := kiN_60_in _ (List.mem_of_getElem? (i := 32) rfl)
set_option maxRecDepth 1000000 in
theorem md_13 : Cond.selects (owM 13) (yM 13) (yM 13) ∈ lw_tbl := kxL_0_in _ (List.mem_of_getElem? (i := 41) rfl)
set_option maxRecDepth 1000000 in
theorem me_13 : (parseMethodDescriptor (yM 13).desc).map (fun d => d.parameters.length) = some (npM 13) := pd_5
theorem mt_13 : MtP 13 := ⟨rfl, Or.inr ma_13, fun h => absurd h (by decide), fun _ => ⟨mb_13, md_13⟩, fun h => absurd h (by decide), me_13⟩
set_option maxRecDepth 1000000 in
theorem ma_14 : cwM 14 ∈ lw_tbl := kcD_0_in _ (List.mem_of_getElem? (i := 2) rfl)
set_option maxRecDepth 1000000 in
theorem mb_14 : Cond.instanceMethod (yM 14) ∈ lw_tbl := kiN_0_in _ (List.mem_of_getElem? (i := 2) rfl)
set_option maxRecDepth 1000000 in
theorem me_14 : (parseMethodDescriptor (yM 14).desc).map (fun d => d.parameters.length) = some (npM 14) := pd_0
theorem mt_14 : MtP 14 := ⟨rfl, Or.inr ma_14, fun h => absurd h (by decide), fun h => absurd h (by decide), fun _ => ⟨mb_14, rfl⟩, me_14⟩
set_option maxRecDepth 1000000 in
theorem ma_15 : cwM 15 ∈ lw_tbl := kcD_0_in _ (List.mem_of_getElem? (i := 42) rfl)
set_option maxRecDepth 1000000 in
theorem mb_15 : Cond.instanceMethod (yM 15) ∈ lw_tbl := kiN_0_in _ (List.mem_of_getElem? (i := 36) rfl)
set_option maxRecDepth 1000000 in
theorem md_15 : Cond.selects (owM 15) (yM 15) (yM 15) ∈ lw_tbl := kxL_0_in _ (List.mem_of_getElem? (i := 12) rfl)
set_option maxRecDepth 1000000 in
theorem me_15 : (parseMethodDescriptor (yM 15).desc).map (fun d => d.parameters.length) = some (npM 15) := pd_10
theorem mt_15 : MtP 15 := ⟨rfl, Or.inr ma_15, fun h => absurd h (by decide), fun _ => ⟨mb_15, md_15⟩, fun h => absurd h (by decide), me_15⟩
set_option maxRecDepth 1000000 in
theorem ma_16 : cwM 16 ∈ lw_tbl := kcD_0_in _ (List.mem_of_getElem? (i := 38) rfl)
set_option maxRecDepth 1000000 in
theorem mb_16 : Cond.instanceMethod (yM 16) ∈ lw_tbl := kiN_0_in _ (List.mem_of_getElem? (i := 32) rfl)
set_option maxRecDepth 1000000 in
theorem md_16 : Cond.selects (owM 16) (yM 16) (yM 16) ∈ lw_tbl := kxL_0_in _ (List.mem_of_getElem? (i := 9) rfl)
set_option maxRecDepth 1000000 in
theorem me_16 : (parseMethodDescriptor (yM 16).desc).map (fun d => d.parameters.length) = some (npM 16) := pd_11
theorem mt_16 : MtP 16 := ⟨rfl, Or.inr ma_16, fun h => absurd h (by decide), fun _ => ⟨mb_16, md_16⟩, fun h => absurd h (by decide), me_16⟩
set_option maxRecDepth 1000000 in
theorem ma_17 : cwM 17 ∈ lw_tbl := kcD_0_in _ (List.mem_of_getElem? (i := 45) rfl)
set_option maxRecDepth 1000000 in
theorem mb_17 : Cond.instanceMethod (yM 17) ∈ lw_tbl := kiN_0_in _ (List.mem_of_getElem? (i := 39) rfl)
set_option maxRecDepth 1000000 in
theorem md_17 : Cond.selects (owM 17) (yM 17) (yM 17) ∈ lw_tbl := kxL_0_in _ (List.mem_of_getElem? (i := 15) rfl)
set_option maxRecDepth 1000000 in
theorem me_17 : (parseMethodDescriptor (yM 17).desc).map (fun d => d.parameters.length) = some (npM 17) := pd_12
theorem mt_17 : MtP 17 := ⟨rfl, Or.inr ma_17, fun h => absurd h (by decide), fun _ => ⟨mb_17, md_17⟩, fun h => absurd h (by decide), me_17⟩
set_option maxRecDepth 1000000 in
theorem ma_18 : cwM 18 ∈ lw_tbl := kcD_0_in _ (List.mem_of_getElem? (i := 59) rfl)
set_option maxRecDepth 1000000 in
theorem mb_18 : Cond.instanceMethod (yM 18) ∈ lw_tbl := kiN_0_in _ (List.mem_of_getElem? (i := 50) rfl)
set_option maxRecDepth 1000000 in
theorem md_18 : Cond.selects (owM 18) (yM 18) (yM 18) ∈ lw_tbl := kxL_0_in _ (List.mem_of_getElem? (i := 25) rfl)
set_option maxRecDepth 1000000 in
theorem me_18 : (parseMethodDescriptor (yM 18).desc).map (fun d => d.parameters.length) = some (npM 18) := pd_3
theorem mt_18 : MtP 18 := ⟨rfl, Or.inr ma_18, fun h => absurd h (by decide), fun _ => ⟨mb_18, md_18⟩, fun h => absurd h (by decide), me_18⟩
set_option maxRecDepth 1000000 in
theorem ma_19 : cwM 19 ∈ lw_tbl := kcD_60_in _ (List.mem_of_getElem? (i := 0) rfl)
set_option maxRecDepth 1000000 in
theorem mb_19 : Cond.instanceMethod (yM 19) ∈ lw_tbl := kiN_0_in _ (List.mem_of_getElem? (i := 51) rfl)
set_option maxRecDepth 1000000 in
theorem md_19 : Cond.selects (owM 19) (yM 19) (yM 19) ∈ lw_tbl := kxL_0_in _ (List.mem_of_getElem? (i := 26) rfl)
set_option maxRecDepth 1000000 in
theorem me_19 : (parseMethodDescriptor (yM 19).desc).map (fun d => d.parameters.length) = some (npM 19) := pd_13
theorem mt_19 : MtP 19 := ⟨rfl, Or.inr ma_19, fun h => absurd h (by decide), fun _ => ⟨mb_19, md_19⟩, fun h => absurd h (by decide), me_19⟩
set_option maxRecDepth 1000000 in
theorem ma_20 : cwM 20 ∈ lw_tbl := kcD_60_in _ (List.mem_of_getElem? (i := 3) rfl)
set_option maxRecDepth 1000000 in
theorem mb_20 : Cond.instanceMethod (yM 20) ∈ lw_tbl := kiN_0_in _ (List.mem_of_getElem? (i := 53) rfl)
set_option maxRecDepth 1000000 in
theorem md_20 : Cond.selects (owM 20) (yM 20) (yM 20) ∈ lw_tbl := kxL_0_in _ (List.mem_of_getElem? (i := 27) rfl)
set_option maxRecDepth 1000000 in
theorem me_20 : (parseMethodDescriptor (yM 20).desc).map (fun d => d.parameters.length) = some (npM 20) := pd_5
theorem mt_20 : MtP 20 := ⟨rfl, Or.inr ma_20, fun h => absurd h (by decide), fun _ => ⟨mb_20, md_20⟩, fun h => absurd h (by decide), me_20⟩
set_option maxRecDepth 1000000 in
theorem ma_21 : cwM 21 ∈ lw_tbl := kcD_60_in _ (List.mem_of_getElem? (i := 7) rfl)
set_option maxRecDepth 1000000 in
theorem mb_21 : Cond.instanceMethod (yM 21) ∈ lw_tbl := kiN_0_in _ (List.mem_of_getElem? (i := 56) rfl)
set_option maxRecDepth 1000000 in
theorem md_21 : Cond.selects (owM 21) (yM 21) (yM 21) ∈ lw_tbl := kxL_0_in _ (List.mem_of_getElem? (i := 29) rfl)
set_option maxRecDepth 1000000 in
theorem me_21 : (parseMethodDescriptor (yM 21).desc).map (fun d => d.parameters.length) = some (npM 21) := pd_13
theorem mt_21 : MtP 21 := ⟨rfl, Or.inr ma_21, fun h => absurd h (by decide), fun _ => ⟨mb_21, md_21⟩, fun h => absurd h (by decide), me_21⟩
set_option maxRecDepth 1000000 in
theorem ma_22 : cwM 22 ∈ lw_tbl := kcD_0_in _ (List.mem_of_getElem? (i := 53) rfl)
set_option maxRecDepth 1000000 in
theorem mb_22 : Cond.instanceMethod (yM 22) ∈ lw_tbl := kiN_0_in _ (List.mem_of_getElem? (i := 45) rfl)
set_option maxRecDepth 1000000 in
theorem md_22 : Cond.selects (owM 22) (yM 22) (yM 22) ∈ lw_tbl := kxL_0_in _ (List.mem_of_getElem? (i := 21) rfl)
set_option maxRecDepth 1000000 in
theorem me_22 : (parseMethodDescriptor (yM 22).desc).map (fun d => d.parameters.length) = some (npM 22) := pd_2
theorem mt_22 : MtP 22 := ⟨rfl, Or.inr ma_22, fun h => absurd h (by decide), fun _ => ⟨mb_22, md_22⟩, fun h => absurd h (by decide), me_22⟩
set_option maxRecDepth 1000000 in
theorem ma_23 : cwM 23 ∈ lw_tbl := kcD_0_in _ (List.mem_of_getElem? (i := 46) rfl)
set_option maxRecDepth 1000000 in
theorem mb_23 : Cond.instanceMethod (yM 23) ∈ lw_tbl := kiN_0_in _ (List.mem_of_getElem? (i := 40) rfl)
set_option maxRecDepth 1000000 in
theorem md_23 : Cond.selects (owM 23) (yM 23) (yM 23) ∈ lw_tbl := kxL_0_in _ (List.mem_of_getElem? (i := 16) rfl)
set_option maxRecDepth 1000000 in
theorem me_23 : (parseMethodDescriptor (yM 23).desc).map (fun d => d.parameters.length) = some (npM 23) := pd_14
theorem mt_23 : MtP 23 := ⟨rfl, Or.inr ma_23, fun h => absurd h (by decide), fun _ => ⟨mb_23, md_23⟩, fun h => absurd h (by decide), me_23⟩
set_option maxRecDepth 1000000 in
theorem ma_24 : cwM 24 ∈ lw_tbl := kcD_0_in _ (List.mem_of_getElem? (i := 49) rfl)
set_option maxRecDepth 1000000 in
theorem mb_24 : Cond.instanceMethod (yM 24) ∈ lw_tbl := kiN_0_in _ (List.mem_of_getElem? (i := 41) rfl)
set_option maxRecDepth 1000000 in
theorem md_24 : Cond.selects (owM 24) (yM 24) (yM 24) ∈ lw_tbl := kxL_0_in _ (List.mem_of_getElem? (i := 17) rfl)
set_option maxRecDepth 1000000 in
theorem me_24 : (parseMethodDescriptor (yM 24).desc).map (fun d => d.parameters.length) = some (npM 24) := pd_3
theorem mt_24 : MtP 24 := ⟨rfl, Or.inr ma_24, fun h => absurd h (by decide), fun _ => ⟨mb_24, md_24⟩, fun h => absurd h (by decide), me_24⟩
set_option maxRecDepth 1000000 in
theorem ma_25 : cwM 25 ∈ lw_tbl := kcD_60_in _ (List.mem_of_getElem? (i := 56) rfl)
set_option maxRecDepth 1000000 in
theorem mb_25 : Cond.instanceMethod (yM 25) ∈ lw_tbl := kiN_60_in _ (List.mem_of_getElem? (i := 22) rfl)
set_option maxRecDepth 1000000 in
theorem md_25 : Cond.selects (owM 25) (yM 25) (yM 25) ∈ lw_tbl := kxL_0_in _ (List.mem_of_getElem? (i := 38) rfl)
set_option maxRecDepth 1000000 in
theorem me_25 : (parseMethodDescriptor (yM 25).desc).map (fun d => d.parameters.length) = some (npM 25) := pd_5
theorem mt_25 : MtP 25 := ⟨rfl, Or.inr ma_25, fun h => absurd h (by decide), fun _ => ⟨mb_25, md_25⟩, fun h => absurd h (by decide), me_25⟩
set_option maxRecDepth 1000000 in
theorem ma_26 : cwM 26 ∈ lw_tbl := kcD_0_in _ (List.mem_of_getElem? (i := 50) rfl)
set_option maxRecDepth 1000000 in
theorem mb_26 : Cond.instanceMethod (yM 26) ∈ lw_tbl := kiN_0_in _ (List.mem_of_getElem? (i := 42) rfl)
set_option maxRecDepth 1000000 in
theorem md_26 : Cond.selects (owM 26) (yM 26) (yM 26) ∈ lw_tbl := kxL_0_in _ (List.mem_of_getElem? (i := 18) rfl)
set_option maxRecDepth 1000000 in
theorem me_26 : (parseMethodDescriptor (yM 26).desc).map (fun d => d.parameters.length) = some (npM 26) := pd_2
theorem mt_26 : MtP 26 := ⟨rfl, Or.inr ma_26, fun h => absurd h (by decide), fun _ => ⟨mb_26, md_26⟩, fun h => absurd h (by decide), me_26⟩
set_option maxRecDepth 1000000 in
theorem ma_27 : cwM 27 ∈ lw_tbl := kcD_0_in _ (List.mem_of_getElem? (i := 54) rfl)
set_option maxRecDepth 1000000 in
theorem mb_27 : Cond.instanceMethod (yM 27) ∈ lw_tbl := kiN_0_in _ (List.mem_of_getElem? (i := 46) rfl)
set_option maxRecDepth 1000000 in
theorem md_27 : Cond.selects (owM 27) (yM 27) (yM 27) ∈ lw_tbl := kxL_0_in _ (List.mem_of_getElem? (i := 22) rfl)
set_option maxRecDepth 1000000 in
theorem me_27 : (parseMethodDescriptor (yM 27).desc).map (fun d => d.parameters.length) = some (npM 27) := pd_0
theorem mt_27 : MtP 27 := ⟨rfl, Or.inr ma_27, fun h => absurd h (by decide), fun _ => ⟨mb_27, md_27⟩, fun h => absurd h (by decide), me_27⟩
set_option maxRecDepth 1000000 in
theorem ma_28 : cwM 28 ∈ lw_tbl := kcD_0_in _ (List.mem_of_getElem? (i := 55) rfl)
set_option maxRecDepth 1000000 in
theorem mb_28 : Cond.instanceMethod (yM 28) ∈ lw_tbl := kiN_0_in _ (List.mem_of_getElem? (i := 47) rfl)
set_option maxRecDepth 1000000 in
theorem md_28 : Cond.selects (owM 28) (yM 28) (yM 28) ∈ lw_tbl := kxL_0_in _ (List.mem_of_getElem? (i := 23) rfl)
set_option maxRecDepth 1000000 in
theorem me_28 : (parseMethodDescriptor (yM 28).desc).map (fun d => d.parameters.length) = some (npM 28) := pd_7
theorem mt_28 : MtP 28 := ⟨rfl, Or.inr ma_28, fun h => absurd h (by decide), fun _ => ⟨mb_28, md_28⟩, fun h => absurd h (by decide), me_28⟩
set_option maxRecDepth 1000000 in
theorem ma_29 : cwM 29 ∈ lw_tbl := kcD_0_in _ (List.mem_of_getElem? (i := 18) rfl)
set_option maxRecDepth 1000000 in
theorem mb_29 : Cond.instanceMethod (yM 29) ∈ lw_tbl := kiN_0_in _ (List.mem_of_getElem? (i := 17) rfl)
set_option maxRecDepth 1000000 in
theorem md_29 : Cond.selects (owM 29) (yM 29) (yM 29) ∈ lw_tbl := kxL_0_in _ (List.mem_of_getElem? (i := 6) rfl)
set_option maxRecDepth 1000000 in
theorem me_29 : (parseMethodDescriptor (yM 29).desc).map (fun d => d.parameters.length) = some (npM 29) := pd_11
theorem mt_29 : MtP 29 := ⟨rfl, Or.inr ma_29, fun h => absurd h (by decide), fun _ => ⟨mb_29, md_29⟩, fun h => absurd h (by decide), me_29⟩
set_option maxRecDepth 1000000 in
theorem ma_30 : cwM 30 ∈ lw_tbl := kcD_60_in _ (List.mem_of_getElem? (i := 26) rfl)
set_option maxRecDepth 1000000 in
theorem mb_30 : Cond.instanceMethod (yM 30) ∈ lw_tbl := kiN_60_in _ (List.mem_of_getElem? (i := 6) rfl)
set_option maxRecDepth 1000000 in
theorem md_30 : Cond.selects (owM 30) (yM 30) (yM 30) ∈ lw_tbl := kxL_0_in _ (List.mem_of_getElem? (i := 34) rfl)
set_option maxRecDepth 1000000 in
theorem me_30 : (parseMethodDescriptor (yM 30).desc).map (fun d => d.parameters.length) = some (npM 30) := pd_5
theorem mt_30 : MtP 30 := ⟨rfl, Or.inr ma_30, fun h => absurd h (by decide), fun _ => ⟨mb_30, md_30⟩, fun h => absurd h (by decide), me_30⟩
set_option maxRecDepth 1000000 in
theorem ma_31 : cwM 31 ∈ lw_tbl := kcD_0_in _ (List.mem_of_getElem? (i := 20) rfl)
set_option maxRecDepth 1000000 in
theorem mb_31 : Cond.instanceMethod (yM 31) ∈ lw_tbl := kiN_0_in _ (List.mem_of_getElem? (i := 19) rfl)
set_option maxRecDepth 1000000 in
theorem md_31 : Cond.selects (owM 31) (yM 31) (yM 31) ∈ lw_tbl := kxL_0_in _ (List.mem_of_getElem? (i := 7) rfl)
set_option maxRecDepth 1000000 in
theorem me_31 : (parseMethodDescriptor (yM 31).desc).map (fun d => d.parameters.length) = some (npM 31) := pd_11
theorem mt_31 : MtP 31 := ⟨rfl, Or.inr ma_31, fun h => absurd h (by decide), fun _ => ⟨mb_31, md_31⟩, fun h => absurd h (by decide), me_31⟩
set_option maxRecDepth 1000000 in
theorem ma_32 : cwM 32 ∈ lw_tbl := kcD_60_in _ (List.mem_of_getElem? (i := 23) rfl)
set_option maxRecDepth 1000000 in
theorem mb_32 : Cond.instanceMethod (yM 32) ∈ lw_tbl := kiN_60_in _ (List.mem_of_getElem? (i := 3) rfl)
set_option maxRecDepth 1000000 in
theorem md_32 : Cond.selects (owM 32) (yM 32) (yM 32) ∈ lw_tbl := kxL_0_in _ (List.mem_of_getElem? (i := 31) rfl)
set_option maxRecDepth 1000000 in
theorem me_32 : (parseMethodDescriptor (yM 32).desc).map (fun d => d.parameters.length) = some (npM 32) := pd_11
theorem mt_32 : MtP 32 := ⟨rfl, Or.inr ma_32, fun h => absurd h (by decide), fun _ => ⟨mb_32, md_32⟩, fun h => absurd h (by decide), me_32⟩
set_option maxRecDepth 1000000 in
theorem ma_33 : cwM 33 ∈ lw_tbl := kcD_60_in _ (List.mem_of_getElem? (i := 24) rfl)
set_option maxRecDepth 1000000 in
theorem mb_33 : Cond.instanceMethod (yM 33) ∈ lw_tbl := kiN_60_in _ (List.mem_of_getElem? (i := 4) rfl)
set_option maxRecDepth 1000000 in
theorem md_33 : Cond.selects (owM 33) (yM 33) (yM 33) ∈ lw_tbl := kxL_0_in _ (List.mem_of_getElem? (i := 32) rfl)
set_option maxRecDepth 1000000 in
theorem me_33 : (parseMethodDescriptor (yM 33).desc).map (fun d => d.parameters.length) = some (npM 33) := pd_5
theorem mt_33 : MtP 33 := ⟨rfl, Or.inr ma_33, fun h => absurd h (by decide), fun _ => ⟨mb_33, md_33⟩, fun h => absurd h (by decide), me_33⟩
set_option maxRecDepth 1000000 in
theorem ma_34 : cwM 34 ∈ lw_tbl := kcD_60_in _ (List.mem_of_getElem? (i := 25) rfl)
set_option maxRecDepth 1000000 in
theorem mb_34 : Cond.instanceMethod (yM 34) ∈ lw_tbl := kiN_60_in _ (List.mem_of_getElem? (i := 5) rfl)
set_option maxRecDepth 1000000 in
theorem md_34 : Cond.selects (owM 34) (yM 34) (yM 34) ∈ lw_tbl := kxL_0_in _ (List.mem_of_getElem? (i := 33) rfl)
set_option maxRecDepth 1000000 in
theorem me_34 : (parseMethodDescriptor (yM 34).desc).map (fun d => d.parameters.length) = some (npM 34) := pd_15
theorem mt_34 : MtP 34 := ⟨rfl, Or.inr ma_34, fun h => absurd h (by decide), fun _ => ⟨mb_34, md_34⟩, fun h => absurd h (by decide), me_34⟩
set_option maxRecDepth 1000000 in
theorem ma_35 : cwM 35 ∈ lw_tbl := kcD_60_in _ (List.mem_of_getElem? (i := 20) rfl)
set_option maxRecDepth 1000000 in
theorem mb_35 : Cond.instanceMethod (yM 35) ∈ lw_tbl := kiN_60_in _ (List.mem_of_getElem? (i := 1) rfl)
set_option maxRecDepth 1000000 in
theorem md_35 : Cond.selects (owM 35) (yM 35) (yM 35) ∈ lw_tbl := kxL_0_in _ (List.mem_of_getElem? (i := 30) rfl)
set_option maxRecDepth 1000000 in
theorem me_35 : (parseMethodDescriptor (yM 35).desc).map (fun d => d.parameters.length) = some (npM 35) := pd_15
theorem mt_35 : MtP 35 := ⟨rfl, Or.inr ma_35, fun h => absurd h (by decide), fun _ => ⟨mb_35, md_35⟩, fun h => absurd h (by decide), me_35⟩
set_option maxRecDepth 1000000 in
theorem ma_36 : cwM 36 ∈ lw_tbl := kcD_0_in _ (List.mem_of_getElem? (i := 5) rfl)
set_option maxRecDepth 1000000 in
theorem mb_36 : Cond.instanceMethod (yM 36) ∈ lw_tbl := kiN_0_in _ (List.mem_of_getElem? (i := 5) rfl)
set_option maxRecDepth 1000000 in
theorem me_36 : (parseMethodDescriptor (yM 36).desc).map (fun d => d.parameters.length) = some (npM 36) := pd_0
theorem mt_36 : MtP 36 := ⟨rfl, Or.inr ma_36, fun h => absurd h (by decide), fun h => absurd h (by decide), fun _ => ⟨mb_36, rfl⟩, me_36⟩
set_option maxRecDepth 1000000 in
theorem ma_37 : cwM 37 ∈ lw_tbl := kcD_0_in _ (List.mem_of_getElem? (i := 8) rfl)
set_option maxRecDepth 1000000 in
theorem mb_37 : Cond.instanceMethod (yM 37) ∈ lw_tbl := kiN_0_in _ (List.mem_of_getElem? (i := 8) rfl)
set_option maxRecDepth 1000000 in
theorem md_37 : Cond.selects (owM 37) (yM 37) (yM 37) ∈ lw_tbl := kxL_0_in _ (List.mem_of_getElem? (i := 0) rfl)
set_option maxRecDepth 1000000 in
theorem me_37 : (parseMethodDescriptor (yM 37).desc).map (fun d => d.parameters.length) = some (npM 37) := pd_15
theorem mt_37 : MtP 37 := ⟨rfl, Or.inr ma_37, fun h => absurd h (by decide), fun _ => ⟨mb_37, md_37⟩, fun h => absurd h (by decide), me_37⟩
set_option maxRecDepth 1000000 in
theorem ma_38 : cwM 38 ∈ lw_tbl := kcD_0_in _ (List.mem_of_getElem? (i := 9) rfl)
set_option maxRecDepth 1000000 in
theorem mb_38 : Cond.instanceMethod (yM 38) ∈ lw_tbl := kiN_0_in _ (List.mem_of_getElem? (i := 9) rfl)
set_option maxRecDepth 1000000 in
theorem md_38 : Cond.selects (owM 38) (yM 38) (yM 38) ∈ lw_tbl := kxL_0_in _ (List.mem_of_getElem? (i := 1) rfl)
set_option maxRecDepth 1000000 in
theorem me_38 : (parseMethodDescriptor (yM 38).desc).map (fun d => d.parameters.length) = some (npM 38) := pd_16
theorem mt_38 : MtP 38 := ⟨rfl, Or.inr ma_38, fun h => absurd h (by decide), fun _ => ⟨mb_38, md_38⟩, fun h => absurd h (by decide), me_38⟩
set_option maxRecDepth 1000000 in
theorem ma_39 : cwM 39 ∈ lw_tbl := kcD_0_in _ (List.mem_of_getElem? (i := 10) rfl)
set_option maxRecDepth 1000000 in
theorem mb_39 : Cond.static (yM 39) ∈ lw_tbl := ksT_0_in _ (List.mem_of_getElem? (i := 0) rfl)
set_option maxRecDepth 1000000 in
theorem me_39 : (parseMethodDescriptor (yM 39).desc).map (fun d => d.parameters.length) = some (npM 39) := pd_17
theorem mt_39 : MtP 39 := ⟨rfl, Or.inr ma_39, fun _ => Or.inr mb_39, fun h => absurd h (by decide), fun h => absurd h (by decide), me_39⟩
set_option maxRecDepth 1000000 in
theorem ma_40 : cwM 40 ∈ lw_tbl := kcD_0_in _ (List.mem_of_getElem? (i := 11) rfl)
set_option maxRecDepth 1000000 in
theorem mb_40 : Cond.instanceMethod (yM 40) ∈ lw_tbl := kiN_0_in _ (List.mem_of_getElem? (i := 10) rfl)
set_option maxRecDepth 1000000 in
theorem md_40 : Cond.selects (owM 40) (yM 40) (yM 40) ∈ lw_tbl := kxL_0_in _ (List.mem_of_getElem? (i := 2) rfl)
set_option maxRecDepth 1000000 in
theorem me_40 : (parseMethodDescriptor (yM 40).desc).map (fun d => d.parameters.length) = some (npM 40) := pd_18
theorem mt_40 : MtP 40 := ⟨rfl, Or.inr ma_40, fun h => absurd h (by decide), fun _ => ⟨mb_40, md_40⟩, fun h => absurd h (by decide), me_40⟩
set_option maxRecDepth 1000000 in
theorem ma_41 : cwM 41 ∈ lw_tbl := kcD_0_in _ (List.mem_of_getElem? (i := 12) rfl)
set_option maxRecDepth 1000000 in
theorem mb_41 : Cond.instanceMethod (yM 41) ∈ lw_tbl := kiN_0_in _ (List.mem_of_getElem? (i := 11) rfl)
set_option maxRecDepth 1000000 in
theorem md_41 : Cond.selects (owM 41) (yM 41) (yM 41) ∈ lw_tbl := kxL_0_in _ (List.mem_of_getElem? (i := 3) rfl)
set_option maxRecDepth 1000000 in
theorem me_41 : (parseMethodDescriptor (yM 41).desc).map (fun d => d.parameters.length) = some (npM 41) := pd_3
theorem mt_41 : MtP 41 := ⟨rfl, Or.inr ma_41, fun h => absurd h (by decide), fun _ => ⟨mb_41, md_41⟩, fun h => absurd h (by decide), me_41⟩
set_option maxRecDepth 1000000 in
theorem ma_42 : cwM 42 ∈ lw_tbl := kcD_0_in _ (List.mem_of_getElem? (i := 14) rfl)
set_option maxRecDepth 1000000 in
theorem mb_42 : Cond.instanceMethod (yM 42) ∈ lw_tbl := kiN_0_in _ (List.mem_of_getElem? (i := 13) rfl)
set_option maxRecDepth 1000000 in
theorem md_42 : Cond.selects (owM 42) (yM 42) (yM 42) ∈ lw_tbl := kxL_0_in _ (List.mem_of_getElem? (i := 5) rfl)
set_option maxRecDepth 1000000 in
theorem me_42 : (parseMethodDescriptor (yM 42).desc).map (fun d => d.parameters.length) = some (npM 42) := pd_8
theorem mt_42 : MtP 42 := ⟨rfl, Or.inr ma_42, fun h => absurd h (by decide), fun _ => ⟨mb_42, md_42⟩, fun h => absurd h (by decide), me_42⟩
set_option maxRecDepth 1000000 in
theorem ma_43 : cwM 43 ∈ lw_tbl := kcD_0_in _ (List.mem_of_getElem? (i := 13) rfl)
set_option maxRecDepth 1000000 in
theorem mb_43 : Cond.instanceMethod (yM 43) ∈ lw_tbl := kiN_0_in _ (List.mem_of_getElem? (i := 12) rfl)
set_option maxRecDepth 1000000 in
theorem md_43 : Cond.selects (owM 43) (yM 43) (yM 43) ∈ lw_tbl := kxL_0_in _ (List.mem_of_getElem? (i := 4) rfl)
set_option maxRecDepth 1000000 in
theorem me_43 : (parseMethodDescriptor (yM 43).desc).map (fun d => d.parameters.length) = some (npM 43) := pd_15
theorem mt_43 : MtP 43 := ⟨rfl, Or.inr ma_43, fun h => absurd h (by decide), fun _ => ⟨mb_43, md_43⟩, fun h => absurd h (by decide), me_43⟩
set_option maxRecDepth 1000000 in
theorem ma_44 : cwM 44 ∈ lw_tbl := kcD_0_in _ (List.mem_of_getElem? (i := 0) rfl)
set_option maxRecDepth 1000000 in
theorem mb_44 : Cond.instanceMethod (yM 44) ∈ lw_tbl := kiN_0_in _ (List.mem_of_getElem? (i := 0) rfl)
set_option maxRecDepth 1000000 in
theorem me_44 : (parseMethodDescriptor (yM 44).desc).map (fun d => d.parameters.length) = some (npM 44) := pd_0
theorem mt_44 : MtP 44 := ⟨rfl, Or.inr ma_44, fun h => absurd h (by decide), fun h => absurd h (by decide), fun _ => ⟨mb_44, rfl⟩, me_44⟩
set_option maxRecDepth 1000000 in
theorem ma_45 : cwM 45 ∈ lw_tbl := kcD_0_in _ (List.mem_of_getElem? (i := 25) rfl)
set_option maxRecDepth 1000000 in
theorem mb_45 : Cond.instanceMethod (yM 45) ∈ lw_tbl := kiN_0_in _ (List.mem_of_getElem? (i := 23) rfl)
set_option maxRecDepth 1000000 in
theorem md_45 : Cond.selects (owM 45) (yM 45) (yM 45) ∈ lw_tbl := kxL_60_in _ (List.mem_of_getElem? (i := 27) rfl)
set_option maxRecDepth 1000000 in
theorem me_45 : (parseMethodDescriptor (yM 45).desc).map (fun d => d.parameters.length) = some (npM 45) := pd_19
theorem mt_45 : MtP 45 := ⟨rfl, Or.inr ma_45, fun h => absurd h (by decide), fun _ => ⟨mb_45, md_45⟩, fun h => absurd h (by decide), me_45⟩
set_option maxRecDepth 1000000 in
theorem ma_46 : cwM 46 ∈ lw_tbl := kcD_0_in _ (List.mem_of_getElem? (i := 57) rfl)
set_option maxRecDepth 1000000 in
theorem mb_46 : Cond.instanceMethod (yM 46) ∈ lw_tbl := kiN_0_in _ (List.mem_of_getElem? (i := 48) rfl)
set_option maxRecDepth 1000000 in
theorem md_46 : Cond.selects (owM 46) (yM 46) (yM 46) ∈ lw_tbl := kxL_60_in _ (List.mem_of_getElem? (i := 34) rfl)
set_option maxRecDepth 1000000 in
theorem me_46 : (parseMethodDescriptor (yM 46).desc).map (fun d => d.parameters.length) = some (npM 46) := pd_13
theorem mt_46 : MtP 46 := ⟨rfl, Or.inr ma_46, fun h => absurd h (by decide), fun _ => ⟨mb_46, md_46⟩, fun h => absurd h (by decide), me_46⟩
set_option maxRecDepth 1000000 in
theorem ma_47 : cwM 47 ∈ lw_tbl := kcD_60_in _ (List.mem_of_getElem? (i := 2) rfl)
set_option maxRecDepth 1000000 in
theorem mb_47 : Cond.instanceMethod (yM 47) ∈ lw_tbl := kiN_0_in _ (List.mem_of_getElem? (i := 52) rfl)
set_option maxRecDepth 1000000 in
theorem md_47 : Cond.selects (owM 47) (yM 47) (yM 47) ∈ lw_tbl := kxL_60_in _ (List.mem_of_getElem? (i := 35) rfl)
set_option maxRecDepth 1000000 in
theorem me_47 : (parseMethodDescriptor (yM 47).desc).map (fun d => d.parameters.length) = some (npM 47) := pd_3
theorem mt_47 : MtP 47 := ⟨rfl, Or.inr ma_47, fun h => absurd h (by decide), fun _ => ⟨mb_47, md_47⟩, fun h => absurd h (by decide), me_47⟩
set_option maxRecDepth 1000000 in
theorem ma_48 : cwM 48 ∈ lw_tbl := kcD_60_in _ (List.mem_of_getElem? (i := 6) rfl)
set_option maxRecDepth 1000000 in
theorem mb_48 : Cond.instanceMethod (yM 48) ∈ lw_tbl := kiN_0_in _ (List.mem_of_getElem? (i := 55) rfl)
set_option maxRecDepth 1000000 in
theorem md_48 : Cond.selects (owM 48) (yM 48) (yM 48) ∈ lw_tbl := kxL_60_in _ (List.mem_of_getElem? (i := 36) rfl)
set_option maxRecDepth 1000000 in
theorem me_48 : (parseMethodDescriptor (yM 48).desc).map (fun d => d.parameters.length) = some (npM 48) := pd_12
theorem mt_48 : MtP 48 := ⟨rfl, Or.inr ma_48, fun h => absurd h (by decide), fun _ => ⟨mb_48, md_48⟩, fun h => absurd h (by decide), me_48⟩
set_option maxRecDepth 1000000 in
theorem ma_49 : cwM 49 ∈ lw_tbl := kcD_60_in _ (List.mem_of_getElem? (i := 9) rfl)
set_option maxRecDepth 1000000 in
theorem mb_49 : Cond.instanceMethod (yM 49) ∈ lw_tbl := kiN_0_in _ (List.mem_of_getElem? (i := 57) rfl)
set_option maxRecDepth 1000000 in
theorem md_49 : Cond.selects (owM 49) (yM 49) (yM 49) ∈ lw_tbl := kxL_60_in _ (List.mem_of_getElem? (i := 37) rfl)
set_option maxRecDepth 1000000 in
theorem me_49 : (parseMethodDescriptor (yM 49).desc).map (fun d => d.parameters.length) = some (npM 49) := pd_12
theorem mt_49 : MtP 49 := ⟨rfl, Or.inr ma_49, fun h => absurd h (by decide), fun _ => ⟨mb_49, md_49⟩, fun h => absurd h (by decide), me_49⟩
set_option maxRecDepth 1000000 in
theorem ma_50 : cwM 50 ∈ lw_tbl := kcD_60_in _ (List.mem_of_getElem? (i := 15) rfl)
set_option maxRecDepth 1000000 in
theorem mb_50 : Cond.instanceMethod (yM 50) ∈ lw_tbl := kiN_0_in _ (List.mem_of_getElem? (i := 58) rfl)
set_option maxRecDepth 1000000 in
theorem md_50 : Cond.selects (owM 50) (yM 50) (yM 50) ∈ lw_tbl := kxL_60_in _ (List.mem_of_getElem? (i := 38) rfl)
set_option maxRecDepth 1000000 in
theorem me_50 : (parseMethodDescriptor (yM 50).desc).map (fun d => d.parameters.length) = some (npM 50) := pd_3
theorem mt_50 : MtP 50 := ⟨rfl, Or.inr ma_50, fun h => absurd h (by decide), fun _ => ⟨mb_50, md_50⟩, fun h => absurd h (by decide), me_50⟩
set_option maxRecDepth 1000000 in
theorem ma_51 : cwM 51 ∈ lw_tbl := kcD_60_in _ (List.mem_of_getElem? (i := 17) rfl)
set_option maxRecDepth 1000000 in
theorem mb_51 : Cond.instanceMethod (yM 51) ∈ lw_tbl := kiN_0_in _ (List.mem_of_getElem? (i := 59) rfl)
set_option maxRecDepth 1000000 in
theorem md_51 : Cond.selects (owM 51) (yM 51) (yM 51) ∈ lw_tbl := kxL_60_in _ (List.mem_of_getElem? (i := 39) rfl)
set_option maxRecDepth 1000000 in
theorem me_51 : (parseMethodDescriptor (yM 51).desc).map (fun d => d.parameters.length) = some (npM 51) := pd_3
theorem mt_51 : MtP 51 := ⟨rfl, Or.inr ma_51, fun h => absurd h (by decide), fun _ => ⟨mb_51, md_51⟩, fun h => absurd h (by decide), me_51⟩
set_option maxRecDepth 1000000 in
theorem ma_52 : cwM 52 ∈ lw_tbl := kcD_60_in _ (List.mem_of_getElem? (i := 19) rfl)
set_option maxRecDepth 1000000 in
theorem mb_52 : Cond.instanceMethod (yM 52) ∈ lw_tbl := kiN_60_in _ (List.mem_of_getElem? (i := 0) rfl)
set_option maxRecDepth 1000000 in
theorem md_52 : Cond.selects (owM 52) (yM 52) (yM 52) ∈ lw_tbl := kxL_60_in _ (List.mem_of_getElem? (i := 40) rfl)
set_option maxRecDepth 1000000 in
theorem me_52 : (parseMethodDescriptor (yM 52).desc).map (fun d => d.parameters.length) = some (npM 52) := pd_20
theorem mt_52 : MtP 52 := ⟨rfl, Or.inr ma_52, fun h => absurd h (by decide), fun _ => ⟨mb_52, md_52⟩, fun h => absurd h (by decide), me_52⟩
set_option maxRecDepth 1000000 in
theorem ma_53 : cwM 53 ∈ lw_tbl := kcD_60_in _ (List.mem_of_getElem? (i := 22) rfl)
set_option maxRecDepth 1000000 in
theorem mb_53 : Cond.instanceMethod (yM 53) ∈ lw_tbl := kiN_60_in _ (List.mem_of_getElem? (i := 2) rfl)
set_option maxRecDepth 1000000 in
theorem md_53 : Cond.selects (owM 53) (yM 53) (yM 53) ∈ lw_tbl := kxL_60_in _ (List.mem_of_getElem? (i := 41) rfl)
set_option maxRecDepth 1000000 in
theorem me_53 : (parseMethodDescriptor (yM 53).desc).map (fun d => d.parameters.length) = some (npM 53) := pd_5
theorem mt_53 : MtP 53 := ⟨rfl, Or.inr ma_53, fun h => absurd h (by decide), fun _ => ⟨mb_53, md_53⟩, fun h => absurd h (by decide), me_53⟩
set_option maxRecDepth 1000000 in
theorem ma_54 : cwM 54 ∈ lw_tbl := kcD_60_in _ (List.mem_of_getElem? (i := 28) rfl)
set_option maxRecDepth 1000000 in
theorem mb_54 : Cond.instanceMethod (yM 54) ∈ lw_tbl := kiN_60_in _ (List.mem_of_getElem? (i := 7) rfl)
set_option maxRecDepth 1000000 in
theorem md_54 : Cond.selects (owM 54) (yM 54) (yM 54) ∈ lw_tbl := kxL_60_in _ (List.mem_of_getElem? (i := 42) rfl)
set_option maxRecDepth 1000000 in
theorem me_54 : (parseMethodDescriptor (yM 54).desc).map (fun d => d.parameters.length) = some (npM 54) := pd_5
theorem mt_54 : MtP 54 := ⟨rfl, Or.inr ma_54, fun h => absurd h (by decide), fun _ => ⟨mb_54, md_54⟩, fun h => absurd h (by decide), me_54⟩
set_option maxRecDepth 1000000 in
theorem ma_55 : cwM 55 ∈ lw_tbl := kcD_0_in _ (List.mem_of_getElem? (i := 6) rfl)
set_option maxRecDepth 1000000 in
theorem mb_55 : Cond.instanceMethod (yM 55) ∈ lw_tbl := kiN_0_in _ (List.mem_of_getElem? (i := 6) rfl)
set_option maxRecDepth 1000000 in
theorem md_55 : Cond.selects (owM 55) (yM 55) (yM 55) ∈ lw_tbl := kxL_60_in _ (List.mem_of_getElem? (i := 18) rfl)
set_option maxRecDepth 1000000 in
theorem me_55 : (parseMethodDescriptor (yM 55).desc).map (fun d => d.parameters.length) = some (npM 55) := pd_15
theorem mt_55 : MtP 55 := ⟨rfl, Or.inr ma_55, fun h => absurd h (by decide), fun _ => ⟨mb_55, md_55⟩, fun h => absurd h (by decide), me_55⟩
set_option maxRecDepth 1000000 in
theorem ma_56 : cwM 56 ∈ lw_tbl := kcD_0_in _ (List.mem_of_getElem? (i := 7) rfl)
set_option maxRecDepth 1000000 in
theorem mb_56 : Cond.instanceMethod (yM 56) ∈ lw_tbl := kiN_0_in _ (List.mem_of_getElem? (i := 7) rfl)
set_option maxRecDepth 1000000 in
theorem md_56 : Cond.selects (owM 56) (yM 56) (yM 56) ∈ lw_tbl := kxL_60_in _ (List.mem_of_getElem? (i := 19) rfl)
set_option maxRecDepth 1000000 in
theorem me_56 : (parseMethodDescriptor (yM 56).desc).map (fun d => d.parameters.length) = some (npM 56) := pd_15
theorem mt_56 : MtP 56 := ⟨rfl, Or.inr ma_56, fun h => absurd h (by decide), fun _ => ⟨mb_56, md_56⟩, fun h => absurd h (by decide), me_56⟩
set_option maxRecDepth 1000000 in
theorem ma_57 : cwM 57 ∈ lw_tbl := kcD_60_in _ (List.mem_of_getElem? (i := 30) rfl)
set_option maxRecDepth 1000000 in
theorem mb_57 : Cond.instanceMethod (yM 57) ∈ lw_tbl := kiN_60_in _ (List.mem_of_getElem? (i := 8) rfl)
set_option maxRecDepth 1000000 in
theorem md_57 : Cond.selects (owM 57) (yM 57) (yM 57) ∈ lw_tbl := kxL_60_in _ (List.mem_of_getElem? (i := 43) rfl)
set_option maxRecDepth 1000000 in
theorem me_57 : (parseMethodDescriptor (yM 57).desc).map (fun d => d.parameters.length) = some (npM 57) := pd_15
theorem mt_57 : MtP 57 := ⟨rfl, Or.inr ma_57, fun h => absurd h (by decide), fun _ => ⟨mb_57, md_57⟩, fun h => absurd h (by decide), me_57⟩
set_option maxRecDepth 1000000 in
theorem ma_58 : cwM 58 ∈ lw_tbl := kcD_60_in _ (List.mem_of_getElem? (i := 33) rfl)
set_option maxRecDepth 1000000 in
theorem mb_58 : Cond.instanceMethod (yM 58) ∈ lw_tbl := kiN_60_in _ (List.mem_of_getElem? (i := 10) rfl)
set_option maxRecDepth 1000000 in
theorem md_58 : Cond.selects (owM 58) (yM 58) (yM 58) ∈ lw_tbl := kxL_60_in _ (List.mem_of_getElem? (i := 44) rfl)
set_option maxRecDepth 1000000 in
theorem me_58 : (parseMethodDescriptor (yM 58).desc).map (fun d => d.parameters.length) = some (npM 58) := pd_15
theorem mt_58 : MtP 58 := ⟨rfl, Or.inr ma_58, fun h => absurd h (by decide), fun _ => ⟨mb_58, md_58⟩, fun h => absurd h (by decide), me_58⟩
set_option maxRecDepth 1000000 in
theorem ma_59 : cwM 59 ∈ lw_tbl := kcD_60_in _ (List.mem_of_getElem? (i := 35) rfl)
set_option maxRecDepth 1000000 in
theorem mb_59 : Cond.instanceMethod (yM 59) ∈ lw_tbl := kiN_60_in _ (List.mem_of_getElem? (i := 11) rfl)
set_option maxRecDepth 1000000 in
theorem md_59 : Cond.selects (owM 59) (yM 59) (yM 59) ∈ lw_tbl := kxL_60_in _ (List.mem_of_getElem? (i := 45) rfl)
set_option maxRecDepth 1000000 in
theorem me_59 : (parseMethodDescriptor (yM 59).desc).map (fun d => d.parameters.length) = some (npM 59) := pd_5
theorem mt_59 : MtP 59 := ⟨rfl, Or.inr ma_59, fun h => absurd h (by decide), fun _ => ⟨mb_59, md_59⟩, fun h => absurd h (by decide), me_59⟩
set_option maxRecDepth 1000000 in
theorem ma_60 : cwM 60 ∈ lw_tbl := kcD_60_in _ (List.mem_of_getElem? (i := 38) rfl)
set_option maxRecDepth 1000000 in
theorem mb_60 : Cond.instanceMethod (yM 60) ∈ lw_tbl := kiN_60_in _ (List.mem_of_getElem? (i := 12) rfl)
set_option maxRecDepth 1000000 in
theorem md_60 : Cond.selects (owM 60) (yM 60) (yM 60) ∈ lw_tbl := kxL_60_in _ (List.mem_of_getElem? (i := 46) rfl)
set_option maxRecDepth 1000000 in
theorem me_60 : (parseMethodDescriptor (yM 60).desc).map (fun d => d.parameters.length) = some (npM 60) := pd_5
theorem mt_60 : MtP 60 := ⟨rfl, Or.inr ma_60, fun h => absurd h (by decide), fun _ => ⟨mb_60, md_60⟩, fun h => absurd h (by decide), me_60⟩
set_option maxRecDepth 1000000 in
theorem ma_61 : cwM 61 ∈ lw_tbl := kcD_60_in _ (List.mem_of_getElem? (i := 40) rfl)
set_option maxRecDepth 1000000 in
theorem mb_61 : Cond.instanceMethod (yM 61) ∈ lw_tbl := kiN_60_in _ (List.mem_of_getElem? (i := 13) rfl)
set_option maxRecDepth 1000000 in
theorem md_61 : Cond.selects (owM 61) (yM 61) (yM 61) ∈ lw_tbl := kxL_60_in _ (List.mem_of_getElem? (i := 47) rfl)
set_option maxRecDepth 1000000 in
theorem me_61 : (parseMethodDescriptor (yM 61).desc).map (fun d => d.parameters.length) = some (npM 61) := pd_3
theorem mt_61 : MtP 61 := ⟨rfl, Or.inr ma_61, fun h => absurd h (by decide), fun _ => ⟨mb_61, md_61⟩, fun h => absurd h (by decide), me_61⟩
set_option maxRecDepth 1000000 in
theorem ma_62 : cwM 62 ∈ lw_tbl := kcD_60_in _ (List.mem_of_getElem? (i := 42) rfl)
set_option maxRecDepth 1000000 in
theorem mb_62 : Cond.instanceMethod (yM 62) ∈ lw_tbl := kiN_60_in _ (List.mem_of_getElem? (i := 14) rfl)
set_option maxRecDepth 1000000 in
theorem md_62 : Cond.selects (owM 62) (yM 62) (yM 62) ∈ lw_tbl := kxL_60_in _ (List.mem_of_getElem? (i := 48) rfl)
set_option maxRecDepth 1000000 in
theorem me_62 : (parseMethodDescriptor (yM 62).desc).map (fun d => d.parameters.length) = some (npM 62) := pd_3
theorem mt_62 : MtP 62 := ⟨rfl, Or.inr ma_62, fun h => absurd h (by decide), fun _ => ⟨mb_62, md_62⟩, fun h => absurd h (by decide), me_62⟩
set_option maxRecDepth 1000000 in
theorem ma_63 : cwM 63 ∈ lw_tbl := kcD_60_in _ (List.mem_of_getElem? (i := 46) rfl)
set_option maxRecDepth 1000000 in
theorem mb_63 : Cond.instanceMethod (yM 63) ∈ lw_tbl := kiN_60_in _ (List.mem_of_getElem? (i := 17) rfl)
set_option maxRecDepth 1000000 in
theorem md_63 : Cond.selects (owM 63) (yM 63) (yM 63) ∈ lw_tbl := kxL_60_in _ (List.mem_of_getElem? (i := 49) rfl)
set_option maxRecDepth 1000000 in
theorem me_63 : (parseMethodDescriptor (yM 63).desc).map (fun d => d.parameters.length) = some (npM 63) := pd_3
theorem mt_63 : MtP 63 := ⟨rfl, Or.inr ma_63, fun h => absurd h (by decide), fun _ => ⟨mb_63, md_63⟩, fun h => absurd h (by decide), me_63⟩
set_option maxRecDepth 1000000 in
theorem ma_64 : cwM 64 ∈ lw_tbl := kcD_60_in _ (List.mem_of_getElem? (i := 48) rfl)
set_option maxRecDepth 1000000 in
theorem mb_64 : Cond.instanceMethod (yM 64) ∈ lw_tbl := kiN_60_in _ (List.mem_of_getElem? (i := 18) rfl)
set_option maxRecDepth 1000000 in
theorem md_64 : Cond.selects (owM 64) (yM 64) (yM 64) ∈ lw_tbl := kxL_60_in _ (List.mem_of_getElem? (i := 50) rfl)
set_option maxRecDepth 1000000 in
theorem me_64 : (parseMethodDescriptor (yM 64).desc).map (fun d => d.parameters.length) = some (npM 64) := pd_3
theorem mt_64 : MtP 64 := ⟨rfl, Or.inr ma_64, fun h => absurd h (by decide), fun _ => ⟨mb_64, md_64⟩, fun h => absurd h (by decide), me_64⟩
set_option maxRecDepth 1000000 in
theorem ma_65 : cwM 65 ∈ lw_tbl := kcD_60_in _ (List.mem_of_getElem? (i := 50) rfl)
set_option maxRecDepth 1000000 in
theorem mb_65 : Cond.instanceMethod (yM 65) ∈ lw_tbl := kiN_60_in _ (List.mem_of_getElem? (i := 19) rfl)
set_option maxRecDepth 1000000 in
theorem md_65 : Cond.selects (owM 65) (yM 65) (yM 65) ∈ lw_tbl := kxL_60_in _ (List.mem_of_getElem? (i := 51) rfl)
set_option maxRecDepth 1000000 in
theorem me_65 : (parseMethodDescriptor (yM 65).desc).map (fun d => d.parameters.length) = some (npM 65) := pd_3
theorem mt_65 : MtP 65 := ⟨rfl, Or.inr ma_65, fun h => absurd h (by decide), fun _ => ⟨mb_65, md_65⟩, fun h => absurd h (by decide), me_65⟩
set_option maxRecDepth 1000000 in
theorem ma_66 : cwM 66 ∈ lw_tbl := kcD_60_in _ (List.mem_of_getElem? (i := 52) rfl)
set_option maxRecDepth 1000000 in
theorem mb_66 : Cond.instanceMethod (yM 66) ∈ lw_tbl := kiN_60_in _ (List.mem_of_getElem? (i := 20) rfl)
set_option maxRecDepth 1000000 in
theorem md_66 : Cond.selects (owM 66) (yM 66) (yM 66) ∈ lw_tbl := kxL_60_in _ (List.mem_of_getElem? (i := 52) rfl)
set_option maxRecDepth 1000000 in
theorem me_66 : (parseMethodDescriptor (yM 66).desc).map (fun d => d.parameters.length) = some (npM 66) := pd_3
theorem mt_66 : MtP 66 := ⟨rfl, Or.inr ma_66, fun h => absurd h (by decide), fun _ => ⟨mb_66, md_66⟩, fun h => absurd h (by decide), me_66⟩
set_option maxRecDepth 1000000 in
theorem ma_67 : cwM 67 ∈ lw_tbl := kcD_60_in _ (List.mem_of_getElem? (i := 55) rfl)
set_option maxRecDepth 1000000 in
theorem mb_67 : Cond.instanceMethod (yM 67) ∈ lw_tbl := kiN_60_in _ (List.mem_of_getElem? (i := 21) rfl)
set_option maxRecDepth 1000000 in
theorem md_67 : Cond.selects (owM 67) (yM 67) (yM 67) ∈ lw_tbl := kxL_60_in _ (List.mem_of_getElem? (i := 53) rfl)
set_option maxRecDepth 1000000 in
theorem me_67 : (parseMethodDescriptor (yM 67).desc).map (fun d => d.parameters.length) = some (npM 67) := pd_3
theorem mt_67 : MtP 67 := ⟨rfl, Or.inr ma_67, fun h => absurd h (by decide), fun _ => ⟨mb_67, md_67⟩, fun h => absurd h (by decide), me_67⟩
set_option maxRecDepth 1000000 in
theorem ma_68 : cwM 68 ∈ lw_tbl := kcD_60_in _ (List.mem_of_getElem? (i := 59) rfl)
set_option maxRecDepth 1000000 in
theorem mb_68 : Cond.instanceMethod (yM 68) ∈ lw_tbl := kiN_60_in _ (List.mem_of_getElem? (i := 23) rfl)
set_option maxRecDepth 1000000 in
theorem md_68 : Cond.selects (owM 68) (yM 68) (yM 68) ∈ lw_tbl := kxL_60_in _ (List.mem_of_getElem? (i := 54) rfl)
set_option maxRecDepth 1000000 in
theorem me_68 : (parseMethodDescriptor (yM 68).desc).map (fun d => d.parameters.length) = some (npM 68) := pd_5
theorem mt_68 : MtP 68 := ⟨rfl, Or.inr ma_68, fun h => absurd h (by decide), fun _ => ⟨mb_68, md_68⟩, fun h => absurd h (by decide), me_68⟩
set_option maxRecDepth 1000000 in
theorem ma_69 : cwM 69 ∈ lw_tbl := kcD_120_in _ (List.mem_of_getElem? (i := 1) rfl)
set_option maxRecDepth 1000000 in
theorem mb_69 : Cond.instanceMethod (yM 69) ∈ lw_tbl := kiN_60_in _ (List.mem_of_getElem? (i := 24) rfl)
set_option maxRecDepth 1000000 in
theorem md_69 : Cond.selects (owM 69) (yM 69) (yM 69) ∈ lw_tbl := kxL_60_in _ (List.mem_of_getElem? (i := 55) rfl)
set_option maxRecDepth 1000000 in
theorem me_69 : (parseMethodDescriptor (yM 69).desc).map (fun d => d.parameters.length) = some (npM 69) := pd_5
theorem mt_69 : MtP 69 := ⟨rfl, Or.inr ma_69, fun h => absurd h (by decide), fun _ => ⟨mb_69, md_69⟩, fun h => absurd h (by decide), me_69⟩
set_option maxRecDepth 1000000 in
theorem ma_70 : cwM 70 ∈ lw_tbl := kcD_120_in _ (List.mem_of_getElem? (i := 5) rfl)
set_option maxRecDepth 1000000 in
theorem mb_70 : Cond.instanceMethod (yM 70) ∈ lw_tbl := kiN_60_in _ (List.mem_of_getElem? (i := 26) rfl)
set_option maxRecDepth 1000000 in
theorem md_70 : Cond.selects (owM 70) (yM 70) (yM 70) ∈ lw_tbl := kxL_60_in _ (List.mem_of_getElem? (i := 56) rfl)
set_option maxRecDepth 1000000 in
theorem me_70 : (parseMethodDescriptor (yM 70).desc).map (fun d => d.parameters.length) = some (npM 70) := pd_3
theorem mt_70 : MtP 70 := ⟨rfl, Or.inr ma_70, fun h => absurd h (by decide), fun _ => ⟨mb_70, md_70⟩, fun h => absurd h (by decide), me_70⟩
set_option maxRecDepth 1000000 in
theorem ma_71 : cwM 71 ∈ lw_tbl := kcD_120_in _ (List.mem_of_getElem? (i := 7) rfl)
set_option maxRecDepth 1000000 in
theorem mb_71 : Cond.instanceMethod (yM 71) ∈ lw_tbl := kiN_60_in _ (List.mem_of_getElem? (i := 27) rfl)
set_option maxRecDepth 1000000 in
theorem md_71 : Cond.selects (owM 71) (yM 71) (yM 71) ∈ lw_tbl := kxL_60_in _ (List.mem_of_getElem? (i := 57) rfl)
set_option maxRecDepth 1000000 in
theorem me_71 : (parseMethodDescriptor (yM 71).desc).map (fun d => d.parameters.length) = some (npM 71) := pd_3
theorem mt_71 : MtP 71 := ⟨rfl, Or.inr ma_71, fun h => absurd h (by decide), fun _ => ⟨mb_71, md_71⟩, fun h => absurd h (by decide), me_71⟩
set_option maxRecDepth 1000000 in
theorem ma_72 : cwM 72 ∈ lw_tbl := kcD_120_in _ (List.mem_of_getElem? (i := 9) rfl)
set_option maxRecDepth 1000000 in
theorem mb_72 : Cond.instanceMethod (yM 72) ∈ lw_tbl := kiN_60_in _ (List.mem_of_getElem? (i := 28) rfl)
set_option maxRecDepth 1000000 in
theorem md_72 : Cond.selects (owM 72) (yM 72) (yM 72) ∈ lw_tbl := kxL_60_in _ (List.mem_of_getElem? (i := 58) rfl)
set_option maxRecDepth 1000000 in
theorem me_72 : (parseMethodDescriptor (yM 72).desc).map (fun d => d.parameters.length) = some (npM 72) := pd_3
theorem mt_72 : MtP 72 := ⟨rfl, Or.inr ma_72, fun h => absurd h (by decide), fun _ => ⟨mb_72, md_72⟩, fun h => absurd h (by decide), me_72⟩
set_option maxRecDepth 1000000 in
theorem ma_73 : cwM 73 ∈ lw_tbl := kcD_0_in _ (List.mem_of_getElem? (i := 15) rfl)
set_option maxRecDepth 1000000 in
theorem mb_73 : Cond.instanceMethod (yM 73) ∈ lw_tbl := kiN_0_in _ (List.mem_of_getElem? (i := 14) rfl)
set_option maxRecDepth 1000000 in
theorem md_73 : Cond.selects (owM 73) (yM 73) (yM 73) ∈ lw_tbl := kxL_60_in _ (List.mem_of_getElem? (i := 20) rfl)
set_option maxRecDepth 1000000 in
theorem me_73 : (parseMethodDescriptor (yM 73).desc).map (fun d => d.parameters.length) = some (npM 73) := pd_15
theorem mt_73 : MtP 73 := ⟨rfl, Or.inr ma_73, fun h => absurd h (by decide), fun _ => ⟨mb_73, md_73⟩, fun h => absurd h (by decide), me_73⟩
set_option maxRecDepth 1000000 in
theorem ma_74 : cwM 74 ∈ lw_tbl := kcD_120_in _ (List.mem_of_getElem? (i := 11) rfl)
set_option maxRecDepth 1000000 in
theorem mb_74 : Cond.instanceMethod (yM 74) ∈ lw_tbl := kiN_60_in _ (List.mem_of_getElem? (i := 29) rfl)
set_option maxRecDepth 1000000 in
theorem md_74 : Cond.selects (owM 74) (yM 74) (yM 74) ∈ lw_tbl := kxL_60_in _ (List.mem_of_getElem? (i := 59) rfl)
set_option maxRecDepth 1000000 in
theorem me_74 : (parseMethodDescriptor (yM 74).desc).map (fun d => d.parameters.length) = some (npM 74) := pd_5
theorem mt_74 : MtP 74 := ⟨rfl, Or.inr ma_74, fun h => absurd h (by decide), fun _ => ⟨mb_74, md_74⟩, fun h => absurd h (by decide), me_74⟩
set_option maxRecDepth 1000000 in
theorem ma_75 : cwM 75 ∈ lw_tbl := kcD_120_in _ (List.mem_of_getElem? (i := 14) rfl)
set_option maxRecDepth 1000000 in
theorem mb_75 : Cond.instanceMethod (yM 75) ∈ lw_tbl := kiN_60_in _ (List.mem_of_getElem? (i := 31) rfl)
set_option maxRecDepth 1000000 in
theorem md_75 : Cond.selects (owM 75) (yM 75) (yM 75) ∈ lw_tbl := kxL_120_in _ (List.mem_of_getElem? (i := 0) rfl)
set_option maxRecDepth 1000000 in
theorem me_75 : (parseMethodDescriptor (yM 75).desc).map (fun d => d.parameters.length) = some (npM 75) := pd_5
theorem mt_75 : MtP 75 := ⟨rfl, Or.inr ma_75, fun h => absurd h (by decide), fun _ => ⟨mb_75, md_75⟩, fun h => absurd h (by decide), me_75⟩
set_option maxRecDepth 1000000 in
theorem ma_76 : cwM 76 ∈ lw_tbl := kcD_120_in _ (List.mem_of_getElem? (i := 17) rfl)
set_option maxRecDepth 1000000 in
theorem mb_76 : Cond.instanceMethod (yM 76) ∈ lw_tbl := kiN_60_in _ (List.mem_of_getElem? (i := 33) rfl)
set_option maxRecDepth 1000000 in
theorem md_76 : Cond.selects (owM 76) (yM 76) (yM 76) ∈ lw_tbl := kxL_120_in _ (List.mem_of_getElem? (i := 1) rfl)
set_option maxRecDepth 1000000 in
theorem me_76 : (parseMethodDescriptor (yM 76).desc).map (fun d => d.parameters.length) = some (npM 76) := pd_13
theorem mt_76 : MtP 76 := ⟨rfl, Or.inr ma_76, fun h => absurd h (by decide), fun _ => ⟨mb_76, md_76⟩, fun h => absurd h (by decide), me_76⟩
set_option maxRecDepth 1000000 in
theorem ma_77 : cwM 77 ∈ lw_tbl := kcD_120_in _ (List.mem_of_getElem? (i := 19) rfl)
set_option maxRecDepth 1000000 in
theorem mb_77 : Cond.instanceMethod (yM 77) ∈ lw_tbl := kiN_60_in _ (List.mem_of_getElem? (i := 34) rfl)
set_option maxRecDepth 1000000 in
theorem md_77 : Cond.selects (owM 77) (yM 77) (yM 77) ∈ lw_tbl := kxL_120_in _ (List.mem_of_getElem? (i := 2) rfl)
set_option maxRecDepth 1000000 in
theorem me_77 : (parseMethodDescriptor (yM 77).desc).map (fun d => d.parameters.length) = some (npM 77) := pd_13
theorem mt_77 : MtP 77 := ⟨rfl, Or.inr ma_77, fun h => absurd h (by decide), fun _ => ⟨mb_77, md_77⟩, fun h => absurd h (by decide), me_77⟩
set_option maxRecDepth 1000000 in
theorem ma_78 : cwM 78 ∈ lw_tbl := kcD_0_in _ (List.mem_of_getElem? (i := 16) rfl)
set_option maxRecDepth 1000000 in
theorem mb_78 : Cond.instanceMethod (yM 78) ∈ lw_tbl := kiN_0_in _ (List.mem_of_getElem? (i := 15) rfl)
set_option maxRecDepth 1000000 in
theorem md_78 : Cond.selects (owM 78) (yM 78) (yM 78) ∈ lw_tbl := kxL_60_in _ (List.mem_of_getElem? (i := 21) rfl)
set_option maxRecDepth 1000000 in
theorem me_78 : (parseMethodDescriptor (yM 78).desc).map (fun d => d.parameters.length) = some (npM 78) := pd_15
theorem mt_78 : MtP 78 := ⟨rfl, Or.inr ma_78, fun h => absurd h (by decide), fun _ => ⟨mb_78, md_78⟩, fun h => absurd h (by decide), me_78⟩
set_option maxRecDepth 1000000 in
theorem ma_79 : cwM 79 ∈ lw_tbl := kcD_120_in _ (List.mem_of_getElem? (i := 21) rfl)
set_option maxRecDepth 1000000 in
theorem mb_79 : Cond.instanceMethod (yM 79) ∈ lw_tbl := kiN_60_in _ (List.mem_of_getElem? (i := 35) rfl)
set_option maxRecDepth 1000000 in
theorem md_79 : Cond.selects (owM 79) (yM 79) (yM 79) ∈ lw_tbl := kxL_120_in _ (List.mem_of_getElem? (i := 3) rfl)
set_option maxRecDepth 1000000 in
theorem me_79 : (parseMethodDescriptor (yM 79).desc).map (fun d => d.parameters.length) = some (npM 79) := pd_5
theorem mt_79 : MtP 79 := ⟨rfl, Or.inr ma_79, fun h => absurd h (by decide), fun _ => ⟨mb_79, md_79⟩, fun h => absurd h (by decide), me_79⟩
set_option maxRecDepth 1000000 in
theorem ma_80 : cwM 80 ∈ lw_tbl := kcD_120_in _ (List.mem_of_getElem? (i := 23) rfl)
set_option maxRecDepth 1000000 in
theorem mb_80 : Cond.instanceMethod (yM 80) ∈ lw_tbl := kiN_60_in _ (List.mem_of_getElem? (i := 36) rfl)
set_option maxRecDepth 1000000 in
theorem md_80 : Cond.selects (owM 80) (yM 80) (yM 80) ∈ lw_tbl := kxL_120_in _ (List.mem_of_getElem? (i := 4) rfl)
set_option maxRecDepth 1000000 in
theorem me_80 : (parseMethodDescriptor (yM 80).desc).map (fun d => d.parameters.length) = some (npM 80) := pd_11
theorem mt_80 : MtP 80 := ⟨rfl, Or.inr ma_80, fun h => absurd h (by decide), fun _ => ⟨mb_80, md_80⟩, fun h => absurd h (by decide), me_80⟩
set_option maxRecDepth 1000000 in
theorem ma_81 : cwM 81 ∈ lw_tbl := kcD_0_in _ (List.mem_of_getElem? (i := 17) rfl)
set_option maxRecDepth 1000000 in
theorem mb_81 : Cond.instanceMethod (yM 81) ∈ lw_tbl := kiN_0_in _ (List.mem_of_getElem? (i := 16) rfl)
set_option maxRecDepth 1000000 in
theorem md_81 : Cond.selects (owM 81) (yM 81) (yM 81) ∈ lw_tbl := kxL_60_in _ (List.mem_of_getElem? (i := 22) rfl)
set_option maxRecDepth 1000000 in
theorem me_81 : (parseMethodDescriptor (yM 81).desc).map (fun d => d.parameters.length) = some (npM 81) := pd_15
theorem mt_81 : MtP 81 := ⟨rfl, Or.inr ma_81, fun h => absurd h (by decide), fun _ => ⟨mb_81, md_81⟩, fun h => absurd h (by decide), me_81⟩
set_option maxRecDepth 1000000 in
theorem ma_82 : cwM 82 ∈ lw_tbl := kcD_0_in _ (List.mem_of_getElem? (i := 19) rfl)
set_option maxRecDepth 1000000 in
theorem mb_82 : Cond.instanceMethod (yM 82) ∈ lw_tbl := kiN_0_in _ (List.mem_of_getElem? (i := 18) rfl)
set_option maxRecDepth 1000000 in
theorem md_82 : Cond.selects (owM 82) (yM 82) (yM 82) ∈ lw_tbl := kxL_60_in _ (List.mem_of_getElem? (i := 23) rfl)
set_option maxRecDepth 1000000 in
theorem me_82 : (parseMethodDescriptor (yM 82).desc).map (fun d => d.parameters.length) = some (npM 82) := pd_15
theorem mt_82 : MtP 82 := ⟨rfl, Or.inr ma_82, fun h => absurd h (by decide), fun _ => ⟨mb_82, md_82⟩, fun h => absurd h (by decide), me_82⟩
set_option maxRecDepth 1000000 in
theorem ma_83 : cwM 83 ∈ lw_tbl := kcD_120_in _ (List.mem_of_getElem? (i := 25) rfl)
set_option maxRecDepth 1000000 in
theorem mb_83 : Cond.instanceMethod (yM 83) ∈ lw_tbl := kiN_60_in _ (List.mem_of_getElem? (i := 37) rfl)
set_option maxRecDepth 1000000 in
theorem md_83 : Cond.selects (owM 83) (yM 83) (yM 83) ∈ lw_tbl := kxL_120_in _ (List.mem_of_getElem? (i := 5) rfl)
set_option maxRecDepth 1000000 in
theorem me_83 : (parseMethodDescriptor (yM 83).desc).map (fun d => d.parameters.length) = some (npM 83) := pd_3
theorem mt_83 : MtP 83 := ⟨rfl, Or.inr ma_83, fun h => absurd h (by decide), fun _ => ⟨mb_83, md_83⟩, fun h => absurd h (by decide), me_83⟩
set_option maxRecDepth 1000000 in
theorem ma_84 : cwM 84 ∈ lw_tbl := kcD_0_in _ (List.mem_of_getElem? (i := 21) rfl)
set_option maxRecDepth 1000000 in
theorem mb_84 : Cond.instanceMethod (yM 84) ∈ lw_tbl := kiN_0_in _ (List.mem_of_getElem? (i := 20) rfl)
set_option maxRecDepth 1000000 in
theorem md_84 : Cond.selects (owM 84) (yM 84) (yM 84) ∈ lw_tbl := kxL_60_in _ (List.mem_of_getElem? (i := 24) rfl)
set_option maxRecDepth 1000000 in
theorem me_84 : (parseMethodDescriptor (yM 84).desc).map (fun d => d.parameters.length) = some (npM 84) := pd_15
theorem mt_84 : MtP 84 := ⟨rfl, Or.inr ma_84, fun h => absurd h (by decide), fun _ => ⟨mb_84, md_84⟩, fun h => absurd h (by decide), me_84⟩
set_option maxRecDepth 1000000 in
theorem ma_85 : cwM 85 ∈ lw_tbl := kcD_0_in _ (List.mem_of_getElem? (i := 22) rfl)
set_option maxRecDepth 1000000 in
theorem mb_85 : Cond.instanceMethod (yM 85) ∈ lw_tbl := kiN_0_in _ (List.mem_of_getElem? (i := 21) rfl)
set_option maxRecDepth 1000000 in
theorem md_85 : Cond.selects (owM 85) (yM 85) (yM 85) ∈ lw_tbl := kxL_60_in _ (List.mem_of_getElem? (i := 25) rfl)
set_option maxRecDepth 1000000 in
theorem me_85 : (parseMethodDescriptor (yM 85).desc).map (fun d => d.parameters.length) = some (npM 85) := pd_15
theorem mt_85 : MtP 85 := ⟨rfl, Or.inr ma_85, fun h => absurd h (by decide), fun _ => ⟨mb_85, md_85⟩, fun h => absurd h (by decide), me_85⟩
set_option maxRecDepth 1000000 in
theorem ma_86 : cwM 86 ∈ lw_tbl := kcD_0_in _ (List.mem_of_getElem? (i := 23) rfl)
set_option maxRecDepth 1000000 in
theorem mb_86 : Cond.instanceMethod (yM 86) ∈ lw_tbl := kiN_0_in _ (List.mem_of_getElem? (i := 22) rfl)
set_option maxRecDepth 1000000 in
theorem md_86 : Cond.selects (owM 86) (yM 86) (yM 86) ∈ lw_tbl := kxL_60_in _ (List.mem_of_getElem? (i := 26) rfl)
set_option maxRecDepth 1000000 in
theorem me_86 : (parseMethodDescriptor (yM 86).desc).map (fun d => d.parameters.length) = some (npM 86) := pd_15
theorem mt_86 : MtP 86 := ⟨rfl, Or.inr ma_86, fun h => absurd h (by decide), fun _ => ⟨mb_86, md_86⟩, fun h => absurd h (by decide), me_86⟩
set_option maxRecDepth 1000000 in
theorem ma_87 : cwM 87 ∈ lw_tbl := kcD_0_in _ (List.mem_of_getElem? (i := 26) rfl)
set_option maxRecDepth 1000000 in
theorem mb_87 : Cond.static (yM 87) ∈ lw_tbl := ksT_0_in _ (List.mem_of_getElem? (i := 2) rfl)
set_option maxRecDepth 1000000 in
theorem me_87 : (parseMethodDescriptor (yM 87).desc).map (fun d => d.parameters.length) = some (npM 87) := pd_7
theorem mt_87 : MtP 87 := ⟨rfl, Or.inr ma_87, fun _ => Or.inr mb_87, fun h => absurd h (by decide), fun h => absurd h (by decide), me_87⟩
set_option maxRecDepth 1000000 in
theorem ma_88 : cwM 88 ∈ lw_tbl := kcD_0_in _ (List.mem_of_getElem? (i := 32) rfl)
set_option maxRecDepth 1000000 in
theorem mb_88 : Cond.static (yM 88) ∈ lw_tbl := ksT_0_in _ (List.mem_of_getElem? (i := 3) rfl)
set_option maxRecDepth 1000000 in
theorem me_88 : (parseMethodDescriptor (yM 88).desc).map (fun d => d.parameters.length) = some (npM 88) := pd_7
theorem mt_88 : MtP 88 := ⟨rfl, Or.inr ma_88, fun _ => Or.inr mb_88, fun h => absurd h (by decide), fun h => absurd h (by decide), me_88⟩
set_option maxRecDepth 1000000 in
theorem ma_89 : cwM 89 ∈ lw_tbl := kcD_60_in _ (List.mem_of_getElem? (i := 11) rfl)
set_option maxRecDepth 1000000 in
theorem mb_89 : Cond.static (yM 89) ∈ lw_tbl := ksT_0_in _ (List.mem_of_getElem? (i := 16) rfl)
set_option maxRecDepth 1000000 in
theorem me_89 : (parseMethodDescriptor (yM 89).desc).map (fun d => d.parameters.length) = some (npM 89) := pd_7
theorem mt_89 : MtP 89 := ⟨rfl, Or.inr ma_89, fun _ => Or.inr mb_89, fun h => absurd h (by decide), fun h => absurd h (by decide), me_89⟩
set_option maxRecDepth 1000000 in
theorem ma_90 : cwM 90 ∈ lw_tbl := kcD_60_in _ (List.mem_of_getElem? (i := 12) rfl)
set_option maxRecDepth 1000000 in
theorem mb_90 : Cond.static (yM 90) ∈ lw_tbl := ksT_0_in _ (List.mem_of_getElem? (i := 17) rfl)
set_option maxRecDepth 1000000 in
theorem me_90 : (parseMethodDescriptor (yM 90).desc).map (fun d => d.parameters.length) = some (npM 90) := pd_7
theorem mt_90 : MtP 90 := ⟨rfl, Or.inr ma_90, fun _ => Or.inr mb_90, fun h => absurd h (by decide), fun h => absurd h (by decide), me_90⟩
set_option maxRecDepth 1000000 in
theorem ma_91 : cwM 91 ∈ lw_tbl := kcD_60_in _ (List.mem_of_getElem? (i := 10) rfl)
set_option maxRecDepth 1000000 in
theorem mb_91 : Cond.static (yM 91) ∈ lw_tbl := ksT_0_in _ (List.mem_of_getElem? (i := 15) rfl)
set_option maxRecDepth 1000000 in
theorem me_91 : (parseMethodDescriptor (yM 91).desc).map (fun d => d.parameters.length) = some (npM 91) := pd_3
theorem mt_91 : MtP 91 := ⟨rfl, Or.inr ma_91, fun _ => Or.inr mb_91, fun h => absurd h (by decide), fun h => absurd h (by decide), me_91⟩
set_option maxRecDepth 1000000 in
theorem ma_92 : cwM 92 ∈ lw_tbl := kcD_0_in _ (List.mem_of_getElem? (i := 34) rfl)
set_option maxRecDepth 1000000 in
theorem mb_92 : Cond.static (yM 92) ∈ lw_tbl := ksT_0_in _ (List.mem_of_getElem? (i := 5) rfl)
set_option maxRecDepth 1000000 in
theorem me_92 : (parseMethodDescriptor (yM 92).desc).map (fun d => d.parameters.length) = some (npM 92) := pd_7
theorem mt_92 : MtP 92 := ⟨rfl, Or.inr ma_92, fun _ => Or.inr mb_92, fun h => absurd h (by decide), fun h => absurd h (by decide), me_92⟩
set_option maxRecDepth 1000000 in
theorem ma_93 : cwM 93 ∈ lw_tbl := kcD_0_in _ (List.mem_of_getElem? (i := 33) rfl)
set_option maxRecDepth 1000000 in
theorem mb_93 : Cond.static (yM 93) ∈ lw_tbl := ksT_0_in _ (List.mem_of_getElem? (i := 4) rfl)
set_option maxRecDepth 1000000 in
theorem me_93 : (parseMethodDescriptor (yM 93).desc).map (fun d => d.parameters.length) = some (npM 93) := pd_3
theorem mt_93 : MtP 93 := ⟨rfl, Or.inr ma_93, fun _ => Or.inr mb_93, fun h => absurd h (by decide), fun h => absurd h (by decide), me_93⟩
set_option maxRecDepth 1000000 in
theorem ma_94 : cwM 94 ∈ lw_tbl := kcD_0_in _ (List.mem_of_getElem? (i := 36) rfl)
set_option maxRecDepth 1000000 in
theorem mb_94 : Cond.static (yM 94) ∈ lw_tbl := ksT_0_in _ (List.mem_of_getElem? (i := 7) rfl)
set_option maxRecDepth 1000000 in
theorem me_94 : (parseMethodDescriptor (yM 94).desc).map (fun d => d.parameters.length) = some (npM 94) := pd_7
theorem mt_94 : MtP 94 := ⟨rfl, Or.inr ma_94, fun _ => Or.inr mb_94, fun h => absurd h (by decide), fun h => absurd h (by decide), me_94⟩
set_option maxRecDepth 1000000 in
theorem ma_95 : cwM 95 ∈ lw_tbl := kcD_60_in _ (List.mem_of_getElem? (i := 13) rfl)
set_option maxRecDepth 1000000 in
theorem mb_95 : Cond.static (yM 95) ∈ lw_tbl := ksT_0_in _ (List.mem_of_getElem? (i := 18) rfl)
set_option maxRecDepth 1000000 in
theorem me_95 : (parseMethodDescriptor (yM 95).desc).map (fun d => d.parameters.length) = some (npM 95) := pd_21
theorem mt_95 : MtP 95 := ⟨rfl, Or.inr ma_95, fun _ => Or.inr mb_95, fun h => absurd h (by decide), fun h => absurd h (by decide), me_95⟩
set_option maxRecDepth 1000000 in
theorem ma_96 : cwM 96 ∈ lw_tbl := kcD_60_in _ (List.mem_of_getElem? (i := 36) rfl)
set_option maxRecDepth 1000000 in
theorem mb_96 : Cond.static (yM 96) ∈ lw_tbl := ksT_0_in _ (List.mem_of_getElem? (i := 27) rfl)
set_option maxRecDepth 1000000 in
theorem me_96 : (parseMethodDescriptor (yM 96).desc).map (fun d => d.parameters.length) = some (npM 96) := pd_7
theorem mt_96 : MtP 96 := ⟨rfl, Or.inr ma_96, fun _ => Or.inr mb_96, fun h => absurd h (by decide), fun h => absurd h (by decide), me_96⟩
set_option maxRecDepth 1000000 in
theorem ma_97 : cwM 97 ∈ lw_tbl := kcD_0_in _ (List.mem_of_getElem? (i := 58) rfl)
set_option maxRecDepth 1000000 in
theorem mb_97 : Cond.instanceMethod (yM 97) ∈ lw_tbl := kiN_0_in _ (List.mem_of_getElem? (i := 49) rfl)
set_option maxRecDepth 1000000 in
theorem md_97 : Cond.selects (owM 97) (yM 97) (yM 97) ∈ lw_tbl := kxL_0_in _ (List.mem_of_getElem? (i := 24) rfl)
set_option maxRecDepth 1000000 in
theorem me_97 : (parseMethodDescriptor (yM 97).desc).map (fun d => d.parameters.length) = some (npM 97) := pd_5
theorem mt_97 : MtP 97 := ⟨rfl, Or.inr ma_97, fun h => absurd h (by decide), fun _ => ⟨mb_97, md_97⟩, fun h => absurd h (by decide), me_97⟩
set_option maxRecDepth 1000000 in
theorem ma_98 : cwM 98 ∈ lw_tbl := kcD_0_in _ (List.mem_of_getElem? (i := 48) rfl)
set_option maxRecDepth 1000000 in
theorem mb_98 : Cond.static (yM 98) ∈ lw_tbl := ksT_0_in _ (List.mem_of_getElem? (i := 10) rfl)
set_option maxRecDepth 1000000 in
theorem me_98 : (parseMethodDescriptor (yM 98).desc).map (fun d => d.parameters.length) = some (npM 98) := pd_3
theorem mt_98 : MtP 98 := ⟨rfl, Or.inr ma_98, fun _ => Or.inr mb_98, fun h => absurd h (by decide), fun h => absurd h (by decide), me_98⟩
set_option maxRecDepth 1000000 in
theorem ma_99 : cwM 99 ∈ lw_tbl := kcD_0_in _ (List.mem_of_getElem? (i := 47) rfl)
set_option maxRecDepth 1000000 in
theorem mb_99 : Cond.static (yM 99) ∈ lw_tbl := ksT_0_in _ (List.mem_of_getElem? (i := 9) rfl)
set_option maxRecDepth 1000000 in
theorem me_99 : (parseMethodDescriptor (yM 99).desc).map (fun d => d.parameters.length) = some (npM 99) := pd_5
theorem mt_99 : MtP 99 := ⟨rfl, Or.inr ma_99, fun _ => Or.inr mb_99, fun h => absurd h (by decide), fun h => absurd h (by decide), me_99⟩
set_option maxRecDepth 1000000 in
theorem ma_100 : cwM 100 ∈ lw_tbl := kcD_0_in _ (List.mem_of_getElem? (i := 35) rfl)
set_option maxRecDepth 1000000 in
theorem mb_100 : Cond.static (yM 100) ∈ lw_tbl := ksT_0_in _ (List.mem_of_getElem? (i := 6) rfl)
set_option maxRecDepth 1000000 in
theorem me_100 : (parseMethodDescriptor (yM 100).desc).map (fun d => d.parameters.length) = some (npM 100) := pd_3
theorem mt_100 : MtP 100 := ⟨rfl, Or.inr ma_100, fun _ => Or.inr mb_100, fun h => absurd h (by decide), fun h => absurd h (by decide), me_100⟩
set_option maxRecDepth 1000000 in
theorem ma_101 : cwM 101 ∈ lw_tbl := kcD_0_in _ (List.mem_of_getElem? (i := 41) rfl)
set_option maxRecDepth 1000000 in
theorem mb_101 : Cond.instanceMethod (yM 101) ∈ lw_tbl := kiN_0_in _ (List.mem_of_getElem? (i := 35) rfl)
set_option maxRecDepth 1000000 in
theorem md_101 : Cond.selects (owM 101) (yM 101) (yM 101) ∈ lw_tbl := kxL_0_in _ (List.mem_of_getElem? (i := 11) rfl)
set_option maxRecDepth 1000000 in
theorem me_101 : (parseMethodDescriptor (yM 101).desc).map (fun d => d.parameters.length) = some (npM 101) := pd_0
theorem mt_101 : MtP 101 := ⟨rfl, Or.inr ma_101, fun h => absurd h (by decide), fun _ => ⟨mb_101, md_101⟩, fun h => absurd h (by decide), me_101⟩
set_option maxRecDepth 1000000 in
theorem ma_102 : cwM 102 ∈ lw_tbl := kcD_60_in _ (List.mem_of_getElem? (i := 31) rfl)
set_option maxRecDepth 1000000 in
theorem mb_102 : Cond.instanceMethod (yM 102) ∈ lw_tbl := kiN_60_in _ (List.mem_of_getElem? (i := 9) rfl)
set_option maxRecDepth 1000000 in
theorem md_102 : Cond.selects (owM 102) (yM 102) (yM 102) ∈ lw_tbl := kxL_0_in _ (List.mem_of_getElem? (i := 35) rfl)
set_option maxRecDepth 1000000 in
theorem me_102 : (parseMethodDescriptor (yM 102).desc).map (fun d => d.parameters.length) = some (npM 102) := pd_16
theorem mt_102 : MtP 102 := ⟨rfl, Or.inr ma_102, fun h => absurd h (by decide), fun _ => ⟨mb_102, md_102⟩, fun h => absurd h (by decide), me_102⟩
set_option maxRecDepth 1000000 in
theorem ma_103 : cwM 103 ∈ lw_tbl := kcD_120_in _ (List.mem_of_getElem? (i := 3) rfl)
set_option maxRecDepth 1000000 in
theorem mb_103 : Cond.static (yM 103) ∈ lw_tbl := ksT_0_in _ (List.mem_of_getElem? (i := 40) rfl)
set_option maxRecDepth 1000000 in
theorem me_103 : (parseMethodDescriptor (yM 103).desc).map (fun d => d.parameters.length) = some (npM 103) := pd_22
theorem mt_103 : MtP 103 := ⟨rfl, Or.inr ma_103, fun _ => Or.inr mb_103, fun h => absurd h (by decide), fun h => absurd h (by decide), me_103⟩
set_option maxRecDepth 1000000 in
theorem ma_104 : cwM 104 ∈ lw_tbl := kcD_120_in _ (List.mem_of_getElem? (i := 27) rfl)
set_option maxRecDepth 1000000 in
theorem mb_104 : Cond.instanceMethod (yM 104) ∈ lw_tbl := kiN_60_in _ (List.mem_of_getElem? (i := 39) rfl)
set_option maxRecDepth 1000000 in
theorem me_104 : (parseMethodDescriptor (yM 104).desc).map (fun d => d.parameters.length) = some (npM 104) := pd_0
theorem mt_104 : MtP 104 := ⟨rfl, Or.inr ma_104, fun h => absurd h (by decide), fun h => absurd h (by decide), fun _ => ⟨mb_104, rfl⟩, me_104⟩
set_option maxRecDepth 1000000 in
theorem ma_105 : cwM 105 ∈ lw_tbl := kcD_120_in _ (List.mem_of_getElem? (i := 28) rfl)
set_option maxRecDepth 1000000 in
theorem mb_105 : Cond.instanceMethod (yM 105) ∈ lw_tbl := kiN_60_in _ (List.mem_of_getElem? (i := 40) rfl)
set_option maxRecDepth 1000000 in
theorem md_105 : Cond.selects (owM 105) (yM 105) (yM 105) ∈ lw_tbl := kxL_120_in _ (List.mem_of_getElem? (i := 6) rfl)
set_option maxRecDepth 1000000 in
theorem me_105 : (parseMethodDescriptor (yM 105).desc).map (fun d => d.parameters.length) = some (npM 105) := pd_15
theorem mt_105 : MtP 105 := ⟨rfl, Or.inr ma_105, fun h => absurd h (by decide), fun _ => ⟨mb_105, md_105⟩, fun h => absurd h (by decide), me_105⟩
set_option maxRecDepth 1000000 in
theorem ma_106 : cwM 106 ∈ lw_tbl := kcD_120_in _ (List.mem_of_getElem? (i := 31) rfl)
set_option maxRecDepth 1000000 in
theorem mb_106 : Cond.static (yM 106) ∈ lw_tbl := ksT_0_in _ (List.mem_of_getElem? (i := 52) rfl)
set_option maxRecDepth 1000000 in
theorem me_106 : (parseMethodDescriptor (yM 106).desc).map (fun d => d.parameters.length) = some (npM 106) := pd_23
theorem mt_106 : MtP 106 := ⟨rfl, Or.inr ma_106, fun _ => Or.inr mb_106, fun h => absurd h (by decide), fun h => absurd h (by decide), me_106⟩
set_option maxRecDepth 1000000 in
theorem ma_107 : cwM 107 ∈ lw_tbl := kcD_120_in _ (List.mem_of_getElem? (i := 36) rfl)
set_option maxRecDepth 1000000 in
theorem mb_107 : Cond.instanceMethod (yM 107) ∈ lw_tbl := kiN_60_in _ (List.mem_of_getElem? (i := 44) rfl)
set_option maxRecDepth 1000000 in
theorem md_107 : Cond.selects (owM 107) (yM 107) (yM 107) ∈ lw_tbl := kxL_0_in _ (List.mem_of_getElem? (i := 45) rfl)
set_option maxRecDepth 1000000 in
theorem me_107 : (parseMethodDescriptor (yM 107).desc).map (fun d => d.parameters.length) = some (npM 107) := pd_11
theorem mt_107 : MtP 107 := ⟨rfl, Or.inr ma_107, fun h => absurd h (by decide), fun _ => ⟨mb_107, md_107⟩, fun h => absurd h (by decide), me_107⟩
set_option maxRecDepth 1000000 in
theorem ma_108 : cwM 108 ∈ lw_tbl := kcD_120_in _ (List.mem_of_getElem? (i := 30) rfl)
set_option maxRecDepth 1000000 in
theorem mb_108 : Cond.static (yM 108) ∈ lw_tbl := ksT_0_in _ (List.mem_of_getElem? (i := 51) rfl)
set_option maxRecDepth 1000000 in
theorem me_108 : (parseMethodDescriptor (yM 108).desc).map (fun d => d.parameters.length) = some (npM 108) := pd_11
theorem mt_108 : MtP 108 := ⟨rfl, Or.inr ma_108, fun _ => Or.inr mb_108, fun h => absurd h (by decide), fun h => absurd h (by decide), me_108⟩
set_option maxRecDepth 1000000 in
theorem ma_109 : cwM 109 ∈ lw_tbl := kcD_120_in _ (List.mem_of_getElem? (i := 32) rfl)
set_option maxRecDepth 1000000 in
theorem mb_109 : Cond.static (yM 109) ∈ lw_tbl := ksT_0_in _ (List.mem_of_getElem? (i := 53) rfl)
set_option maxRecDepth 1000000 in
theorem me_109 : (parseMethodDescriptor (yM 109).desc).map (fun d => d.parameters.length) = some (npM 109) := pd_11
theorem mt_109 : MtP 109 := ⟨rfl, Or.inr ma_109, fun _ => Or.inr mb_109, fun h => absurd h (by decide), fun h => absurd h (by decide), me_109⟩
set_option maxRecDepth 1000000 in
theorem ma_110 : cwM 110 ∈ lw_tbl := kcD_120_in _ (List.mem_of_getElem? (i := 33) rfl)
set_option maxRecDepth 1000000 in
theorem mb_110 : Cond.static (yM 110) ∈ lw_tbl := ksT_0_in _ (List.mem_of_getElem? (i := 54) rfl)
set_option maxRecDepth 1000000 in
theorem me_110 : (parseMethodDescriptor (yM 110).desc).map (fun d => d.parameters.length) = some (npM 110) := pd_8
theorem mt_110 : MtP 110 := ⟨rfl, Or.inr ma_110, fun _ => Or.inr mb_110, fun h => absurd h (by decide), fun h => absurd h (by decide), me_110⟩
set_option maxRecDepth 1000000 in
theorem ma_111 : cwM 111 ∈ lw_tbl := kcD_180_in _ (List.mem_of_getElem? (i := 0) rfl)
set_option maxRecDepth 1000000 in
theorem mb_111 : Cond.static (yM 111) ∈ lw_tbl := ksT_0_in _ (List.mem_of_getElem? (i := 56) rfl)
set_option maxRecDepth 1000000 in
theorem me_111 : (parseMethodDescriptor (yM 111).desc).map (fun d => d.parameters.length) = some (npM 111) := pd_8
theorem mt_111 : MtP 111 := ⟨rfl, Or.inr ma_111, fun _ => Or.inr mb_111, fun h => absurd h (by decide), fun h => absurd h (by decide), me_111⟩
set_option maxRecDepth 1000000 in
theorem ma_112 : cwM 112 ∈ lw_tbl := kcD_120_in _ (List.mem_of_getElem? (i := 35) rfl)
set_option maxRecDepth 1000000 in
theorem mb_112 : Cond.instanceMethod (yM 112) ∈ lw_tbl := kiN_60_in _ (List.mem_of_getElem? (i := 43) rfl)
set_option maxRecDepth 1000000 in
theorem md_112 : Cond.selects (owM 112) (yM 112) (yM 112) ∈ lw_tbl := kxL_0_in _ (List.mem_of_getElem? (i := 44) rfl)
set_option maxRecDepth 1000000 in
theorem me_112 : (parseMethodDescriptor (yM 112).desc).map (fun d => d.parameters.length) = some (npM 112) := pd_3
theorem mt_112 : MtP 112 := ⟨rfl, Or.inr ma_112, fun h => absurd h (by decide), fun _ => ⟨mb_112, md_112⟩, fun h => absurd h (by decide), me_112⟩
set_option maxRecDepth 1000000 in
theorem ma_113 : cwM 113 ∈ lw_tbl := kcD_120_in _ (List.mem_of_getElem? (i := 50) rfl)
set_option maxRecDepth 1000000 in
theorem mb_113 : Cond.instanceMethod (yM 113) ∈ lw_tbl := kiN_60_in _ (List.mem_of_getElem? (i := 57) rfl)
set_option maxRecDepth 1000000 in
theorem md_113 : Cond.selects (owM 113) (yM 113) (yM 113) ∈ lw_tbl := kxL_0_in _ (List.mem_of_getElem? (i := 58) rfl)
set_option maxRecDepth 1000000 in
theorem me_113 : (parseMethodDescriptor (yM 113).desc).map (fun d => d.parameters.length) = some (npM 113) := pd_2
theorem mt_113 : MtP 113 := ⟨rfl, Or.inr ma_113, fun h => absurd h (by decide), fun _ => ⟨mb_113, md_113⟩, fun h => absurd h (by decide), me_113⟩
set_option maxRecDepth 1000000 in
theorem ma_114 : cwM 114 ∈ lw_tbl := kcD_120_in _ (List.mem_of_getElem? (i := 34) rfl)
set_option maxRecDepth 1000000 in
theorem mb_114 : Cond.instanceMethod (yM 114) ∈ lw_tbl := kiN_60_in _ (List.mem_of_getElem? (i := 42) rfl)
set_option maxRecDepth 1000000 in
theorem md_114 : Cond.selects (owM 114) (yM 114) (yM 114) ∈ lw_tbl := kxL_0_in _ (List.mem_of_getElem? (i := 43) rfl)
set_option maxRecDepth 1000000 in
theorem me_114 : (parseMethodDescriptor (yM 114).desc).map (fun d => d.parameters.length) = some (npM 114) := pd_3
theorem mt_114 : MtP 114 := ⟨rfl, Or.inr ma_114, fun h => absurd h (by decide), fun _ => ⟨mb_114, md_114⟩, fun h => absurd h (by decide), me_114⟩
set_option maxRecDepth 1000000 in
theorem ma_115 : cwM 115 ∈ lw_tbl := kcD_120_in _ (List.mem_of_getElem? (i := 46) rfl)
set_option maxRecDepth 1000000 in
theorem mb_115 : Cond.instanceMethod (yM 115) ∈ lw_tbl := kiN_60_in _ (List.mem_of_getElem? (i := 53) rfl)
set_option maxRecDepth 1000000 in
theorem md_115 : Cond.selects (owM 115) (yM 115) (yM 115) ∈ lw_tbl := kxL_0_in _ (List.mem_of_getElem? (i := 54) rfl)
set_option maxRecDepth 1000000 in
theorem me_115 : (parseMethodDescriptor (yM 115).desc).map (fun d => d.parameters.length) = some (npM 115) := pd_8
theorem mt_115 : MtP 115 := ⟨rfl, Or.inr ma_115, fun h => absurd h (by decide), fun _ => ⟨mb_115, md_115⟩, fun h => absurd h (by decide), me_115⟩
set_option maxRecDepth 1000000 in
theorem ma_116 : cwM 116 ∈ lw_tbl := kcD_120_in _ (List.mem_of_getElem? (i := 45) rfl)
set_option maxRecDepth 1000000 in
theorem mb_116 : Cond.instanceMethod (yM 116) ∈ lw_tbl := kiN_60_in _ (List.mem_of_getElem? (i := 52) rfl)
set_option maxRecDepth 1000000 in
theorem md_116 : Cond.selects (owM 116) (yM 116) (yM 116) ∈ lw_tbl := kxL_0_in _ (List.mem_of_getElem? (i := 53) rfl)
set_option maxRecDepth 1000000 in
theorem me_116 : (parseMethodDescriptor (yM 116).desc).map (fun d => d.parameters.length) = some (npM 116) := pd_3
theorem mt_116 : MtP 116 := ⟨rfl, Or.inr ma_116, fun h => absurd h (by decide), fun _ => ⟨mb_116, md_116⟩, fun h => absurd h (by decide), me_116⟩
set_option maxRecDepth 1000000 in
theorem ma_117 : cwM 117 ∈ lw_tbl := kcD_120_in _ (List.mem_of_getElem? (i := 49) rfl)
set_option maxRecDepth 1000000 in
theorem mb_117 : Cond.instanceMethod (yM 117) ∈ lw_tbl := kiN_60_in _ (List.mem_of_getElem? (i := 56) rfl)
set_option maxRecDepth 1000000 in
theorem md_117 : Cond.selects (owM 117) (yM 117) (yM 117) ∈ lw_tbl := kxL_0_in _ (List.mem_of_getElem? (i := 57) rfl)
set_option maxRecDepth 1000000 in
theorem me_117 : (parseMethodDescriptor (yM 117).desc).map (fun d => d.parameters.length) = some (npM 117) := pd_2
theorem mt_117 : MtP 117 := ⟨rfl, Or.inr ma_117, fun h => absurd h (by decide), fun _ => ⟨mb_117, md_117⟩, fun h => absurd h (by decide), me_117⟩
set_option maxRecDepth 1000000 in
theorem ma_118 : cwM 118 ∈ lw_tbl := kcD_120_in _ (List.mem_of_getElem? (i := 52) rfl)
set_option maxRecDepth 1000000 in
theorem mb_118 : Cond.instanceMethod (yM 118) ∈ lw_tbl := kiN_60_in _ (List.mem_of_getElem? (i := 59) rfl)
set_option maxRecDepth 1000000 in
theorem md_118 : Cond.selects (owM 118) (yM 118) (yM 118) ∈ lw_tbl := kxL_60_in _ (List.mem_of_getElem? (i := 0) rfl)
set_option maxRecDepth 1000000 in
theorem me_118 : (parseMethodDescriptor (yM 118).desc).map (fun d => d.parameters.length) = some (npM 118) := pd_21
theorem mt_118 : MtP 118 := ⟨rfl, Or.inr ma_118, fun h => absurd h (by decide), fun _ => ⟨mb_118, md_118⟩, fun h => absurd h (by decide), me_118⟩
set_option maxRecDepth 1000000 in
theorem ma_119 : cwM 119 ∈ lw_tbl := kcD_120_in _ (List.mem_of_getElem? (i := 51) rfl)
set_option maxRecDepth 1000000 in
theorem mb_119 : Cond.instanceMethod (yM 119) ∈ lw_tbl := kiN_60_in _ (List.mem_of_getElem? (i := 58) rfl)
set_option maxRecDepth 1000000 in
theorem md_119 : Cond.selects (owM 119) (yM 119) (yM 119) ∈ lw_tbl := kxL_0_in _ (List.mem_of_getElem? (i := 59) rfl)
set_option maxRecDepth 1000000 in
theorem me_119 : (parseMethodDescriptor (yM 119).desc).map (fun d => d.parameters.length) = some (npM 119) := pd_0
theorem mt_119 : MtP 119 := ⟨rfl, Or.inr ma_119, fun h => absurd h (by decide), fun _ => ⟨mb_119, md_119⟩, fun h => absurd h (by decide), me_119⟩
set_option maxRecDepth 1000000 in
theorem ma_120 : cwM 120 ∈ lw_tbl := kcD_120_in _ (List.mem_of_getElem? (i := 47) rfl)
set_option maxRecDepth 1000000 in
theorem mb_120 : Cond.instanceMethod (yM 120) ∈ lw_tbl := kiN_60_in _ (List.mem_of_getElem? (i := 54) rfl)
set_option maxRecDepth 1000000 in
theorem md_120 : Cond.selects (owM 120) (yM 120) (yM 120) ∈ lw_tbl := kxL_0_in _ (List.mem_of_getElem? (i := 55) rfl)
set_option maxRecDepth 1000000 in
theorem me_120 : (parseMethodDescriptor (yM 120).desc).map (fun d => d.parameters.length) = some (npM 120) := pd_23
theorem mt_120 : MtP 120 := ⟨rfl, Or.inr ma_120, fun h => absurd h (by decide), fun _ => ⟨mb_120, md_120⟩, fun h => absurd h (by decide), me_120⟩
set_option maxRecDepth 1000000 in
theorem ma_121 : cwM 121 ∈ lw_tbl := kcD_120_in _ (List.mem_of_getElem? (i := 48) rfl)
set_option maxRecDepth 1000000 in
theorem mb_121 : Cond.instanceMethod (yM 121) ∈ lw_tbl := kiN_60_in _ (List.mem_of_getElem? (i := 55) rfl)
set_option maxRecDepth 1000000 in
theorem md_121 : Cond.selects (owM 121) (yM 121) (yM 121) ∈ lw_tbl := kxL_0_in _ (List.mem_of_getElem? (i := 56) rfl)
set_option maxRecDepth 1000000 in
theorem me_121 : (parseMethodDescriptor (yM 121).desc).map (fun d => d.parameters.length) = some (npM 121) := pd_24
theorem mt_121 : MtP 121 := ⟨rfl, Or.inr ma_121, fun h => absurd h (by decide), fun _ => ⟨mb_121, md_121⟩, fun h => absurd h (by decide), me_121⟩
set_option maxRecDepth 1000000 in
theorem ma_122 : cwM 122 ∈ lw_tbl := kcD_120_in _ (List.mem_of_getElem? (i := 43) rfl)
set_option maxRecDepth 1000000 in
theorem mb_122 : Cond.instanceMethod (yM 122) ∈ lw_tbl := kiN_60_in _ (List.mem_of_getElem? (i := 51) rfl)
set_option maxRecDepth 1000000 in
theorem md_122 : Cond.selects (owM 122) (yM 122) (yM 122) ∈ lw_tbl := kxL_0_in _ (List.mem_of_getElem? (i := 52) rfl)
set_option maxRecDepth 1000000 in
theorem me_122 : (parseMethodDescriptor (yM 122).desc).map (fun d => d.parameters.length) = some (npM 122) := pd_11
theorem mt_122 : MtP 122 := ⟨rfl, Or.inr ma_122, fun h => absurd h (by decide), fun _ => ⟨mb_122, md_122⟩, fun h => absurd h (by decide), me_122⟩
set_option maxRecDepth 1000000 in
theorem ma_123 : cwM 123 ∈ lw_tbl := kcD_120_in _ (List.mem_of_getElem? (i := 44) rfl)
set_option maxRecDepth 1000000 in
theorem mb_123 : Cond.static (yM 123) ∈ lw_tbl := ksT_0_in _ (List.mem_of_getElem? (i := 55) rfl)
set_option maxRecDepth 1000000 in
theorem me_123 : (parseMethodDescriptor (yM 123).desc).map (fun d => d.parameters.length) = some (npM 123) := pd_13
theorem mt_123 : MtP 123 := ⟨rfl, Or.inr ma_123, fun _ => Or.inr mb_123, fun h => absurd h (by decide), fun h => absurd h (by decide), me_123⟩
set_option maxRecDepth 1000000 in
theorem ma_124 : cwM 124 ∈ lw_tbl := kcD_120_in _ (List.mem_of_getElem? (i := 42) rfl)
set_option maxRecDepth 1000000 in
theorem mb_124 : Cond.instanceMethod (yM 124) ∈ lw_tbl := kiN_60_in _ (List.mem_of_getElem? (i := 50) rfl)
set_option maxRecDepth 1000000 in
theorem md_124 : Cond.selects (owM 124) (yM 124) (yM 124) ∈ lw_tbl := kxL_0_in _ (List.mem_of_getElem? (i := 51) rfl)
set_option maxRecDepth 1000000 in
theorem me_124 : (parseMethodDescriptor (yM 124).desc).map (fun d => d.parameters.length) = some (npM 124) := pd_3
theorem mt_124 : MtP 124 := ⟨rfl, Or.inr ma_124, fun h => absurd h (by decide), fun _ => ⟨mb_124, md_124⟩, fun h => absurd h (by decide), me_124⟩
set_option maxRecDepth 1000000 in
theorem ma_125 : cwM 125 ∈ lw_tbl := kcD_120_in _ (List.mem_of_getElem? (i := 40) rfl)
set_option maxRecDepth 1000000 in
theorem mb_125 : Cond.instanceMethod (yM 125) ∈ lw_tbl := kiN_60_in _ (List.mem_of_getElem? (i := 48) rfl)
set_option maxRecDepth 1000000 in
theorem md_125 : Cond.selects (owM 125) (yM 125) (yM 125) ∈ lw_tbl := kxL_0_in _ (List.mem_of_getElem? (i := 49) rfl)
set_option maxRecDepth 1000000 in
theorem me_125 : (parseMethodDescriptor (yM 125).desc).map (fun d => d.parameters.length) = some (npM 125) := pd_6
theorem mt_125 : MtP 125 := ⟨rfl, Or.inr ma_125, fun h => absurd h (by decide), fun _ => ⟨mb_125, md_125⟩, fun h => absurd h (by decide), me_125⟩
set_option maxRecDepth 1000000 in
theorem ma_126 : cwM 126 ∈ lw_tbl := kcD_120_in _ (List.mem_of_getElem? (i := 41) rfl)
set_option maxRecDepth 1000000 in
theorem mb_126 : Cond.instanceMethod (yM 126) ∈ lw_tbl := kiN_60_in _ (List.mem_of_getElem? (i := 49) rfl)
set_option maxRecDepth 1000000 in
theorem md_126 : Cond.selects (owM 126) (yM 126) (yM 126) ∈ lw_tbl := kxL_0_in _ (List.mem_of_getElem? (i := 50) rfl)
set_option maxRecDepth 1000000 in
theorem me_126 : (parseMethodDescriptor (yM 126).desc).map (fun d => d.parameters.length) = some (npM 126) := pd_3
theorem mt_126 : MtP 126 := ⟨rfl, Or.inr ma_126, fun h => absurd h (by decide), fun _ => ⟨mb_126, md_126⟩, fun h => absurd h (by decide), me_126⟩
set_option maxRecDepth 1000000 in
theorem ma_127 : cwM 127 ∈ lw_tbl := kcD_120_in _ (List.mem_of_getElem? (i := 39) rfl)
set_option maxRecDepth 1000000 in
theorem mb_127 : Cond.instanceMethod (yM 127) ∈ lw_tbl := kiN_60_in _ (List.mem_of_getElem? (i := 47) rfl)
set_option maxRecDepth 1000000 in
theorem md_127 : Cond.selects (owM 127) (yM 127) (yM 127) ∈ lw_tbl := kxL_0_in _ (List.mem_of_getElem? (i := 48) rfl)
set_option maxRecDepth 1000000 in
theorem me_127 : (parseMethodDescriptor (yM 127).desc).map (fun d => d.parameters.length) = some (npM 127) := pd_12
theorem mt_127 : MtP 127 := ⟨rfl, Or.inr ma_127, fun h => absurd h (by decide), fun _ => ⟨mb_127, md_127⟩, fun h => absurd h (by decide), me_127⟩
set_option maxRecDepth 1000000 in
theorem ma_128 : cwM 128 ∈ lw_tbl := kcD_120_in _ (List.mem_of_getElem? (i := 54) rfl)
set_option maxRecDepth 1000000 in
theorem mb_128 : Cond.instanceMethod (yM 128) ∈ lw_tbl := kiN_120_in _ (List.mem_of_getElem? (i := 1) rfl)
set_option maxRecDepth 1000000 in
theorem md_128 : Cond.selects (owM 128) (yM 128) (yM 128) ∈ lw_tbl := kxL_60_in _ (List.mem_of_getElem? (i := 1) rfl)
set_option maxRecDepth 1000000 in
theorem me_128 : (parseMethodDescriptor (yM 128).desc).map (fun d => d.parameters.length) = some (npM 128) := pd_3
theorem mt_128 : MtP 128 := ⟨rfl, Or.inr ma_128, fun h => absurd h (by decide), fun _ => ⟨mb_128, md_128⟩, fun h => absurd h (by decide), me_128⟩
set_option maxRecDepth 1000000 in
theorem ma_129 : cwM 129 ∈ lw_tbl := kcD_120_in _ (List.mem_of_getElem? (i := 56) rfl)
set_option maxRecDepth 1000000 in
theorem mb_129 : Cond.instanceMethod (yM 129) ∈ lw_tbl := kiN_120_in _ (List.mem_of_getElem? (i := 3) rfl)
set_option maxRecDepth 1000000 in
theorem md_129 : Cond.selects (owM 129) (yM 129) (yM 129) ∈ lw_tbl := kxL_60_in _ (List.mem_of_getElem? (i := 2) rfl)
set_option maxRecDepth 1000000 in
theorem me_129 : (parseMethodDescriptor (yM 129).desc).map (fun d => d.parameters.length) = some (npM 129) := pd_5
theorem mt_129 : MtP 129 := ⟨rfl, Or.inr ma_129, fun h => absurd h (by decide), fun _ => ⟨mb_129, md_129⟩, fun h => absurd h (by decide), me_129⟩
set_option maxRecDepth 1000000 in
theorem ma_130 : cwM 130 ∈ lw_tbl := kcD_120_in _ (List.mem_of_getElem? (i := 58) rfl)
set_option maxRecDepth 1000000 in
theorem mb_130 : Cond.instanceMethod (yM 130) ∈ lw_tbl := kiN_120_in _ (List.mem_of_getElem? (i := 5) rfl)
set_option maxRecDepth 1000000 in
theorem md_130 : Cond.selects (owM 130) (yM 130) (yM 130) ∈ lw_tbl := kxL_60_in _ (List.mem_of_getElem? (i := 3) rfl)
set_option maxRecDepth 1000000 in
theorem me_130 : (parseMethodDescriptor (yM 130).desc).map (fun d => d.parameters.length) = some (npM 130) := pd_13
theorem mt_130 : MtP 130 := ⟨rfl, Or.inr ma_130, fun h => absurd h (by decide), fun _ => ⟨mb_130, md_130⟩, fun h => absurd h (by decide), me_130⟩
set_option maxRecDepth 1000000 in
theorem ma_131 : cwM 131 ∈ lw_tbl := kcD_180_in _ (List.mem_of_getElem? (i := 5) rfl)
set_option maxRecDepth 1000000 in
theorem mb_131 : Cond.instanceMethod (yM 131) ∈ lw_tbl := kiN_120_in _ (List.mem_of_getElem? (i := 11) rfl)
set_option maxRecDepth 1000000 in
theorem md_131 : Cond.selects (owM 131) (yM 131) (yM 131) ∈ lw_tbl := kxL_60_in _ (List.mem_of_getElem? (i := 4) rfl)
set_option maxRecDepth 1000000 in
theorem me_131 : (parseMethodDescriptor (yM 131).desc).map (fun d => d.parameters.length) = some (npM 131) := pd_5
theorem mt_131 : MtP 131 := ⟨rfl, Or.inr ma_131, fun h => absurd h (by decide), fun _ => ⟨mb_131, md_131⟩, fun h => absurd h (by decide), me_131⟩
set_option maxRecDepth 1000000 in
theorem ma_132 : cwM 132 ∈ lw_tbl := kcD_120_in _ (List.mem_of_getElem? (i := 38) rfl)
set_option maxRecDepth 1000000 in
theorem mb_132 : Cond.instanceMethod (yM 132) ∈ lw_tbl := kiN_60_in _ (List.mem_of_getElem? (i := 46) rfl)
set_option maxRecDepth 1000000 in
theorem md_132 : Cond.selects (owM 132) (yM 132) (yM 132) ∈ lw_tbl := kxL_0_in _ (List.mem_of_getElem? (i := 47) rfl)
set_option maxRecDepth 1000000 in
theorem me_132 : (parseMethodDescriptor (yM 132).desc).map (fun d => d.parameters.length) = some (npM 132) := pd_21
theorem mt_132 : MtP 132 := ⟨rfl, Or.inr ma_132, fun h => absurd h (by decide), fun _ => ⟨mb_132, md_132⟩, fun h => absurd h (by decide), me_132⟩
set_option maxRecDepth 1000000 in
theorem ma_133 : cwM 133 ∈ lw_tbl := kcD_120_in _ (List.mem_of_getElem? (i := 37) rfl)
set_option maxRecDepth 1000000 in
theorem mb_133 : Cond.instanceMethod (yM 133) ∈ lw_tbl := kiN_60_in _ (List.mem_of_getElem? (i := 45) rfl)
set_option maxRecDepth 1000000 in
theorem md_133 : Cond.selects (owM 133) (yM 133) (yM 133) ∈ lw_tbl := kxL_0_in _ (List.mem_of_getElem? (i := 46) rfl)
set_option maxRecDepth 1000000 in
theorem me_133 : (parseMethodDescriptor (yM 133).desc).map (fun d => d.parameters.length) = some (npM 133) := pd_0
theorem mt_133 : MtP 133 := ⟨rfl, Or.inr ma_133, fun h => absurd h (by decide), fun _ => ⟨mb_133, md_133⟩, fun h => absurd h (by decide), me_133⟩
set_option maxRecDepth 1000000 in
theorem ma_134 : cwM 134 ∈ lw_tbl := kcD_120_in _ (List.mem_of_getElem? (i := 29) rfl)
set_option maxRecDepth 1000000 in
theorem mb_134 : Cond.instanceMethod (yM 134) ∈ lw_tbl := kiN_60_in _ (List.mem_of_getElem? (i := 41) rfl)
set_option maxRecDepth 1000000 in
theorem md_134 : Cond.selects (owM 134) (yM 134) (yM 134) ∈ lw_tbl := kxL_120_in _ (List.mem_of_getElem? (i := 7) rfl)
set_option maxRecDepth 1000000 in
theorem me_134 : (parseMethodDescriptor (yM 134).desc).map (fun d => d.parameters.length) = some (npM 134) := pd_19
theorem mt_134 : MtP 134 := ⟨rfl, Or.inr ma_134, fun h => absurd h (by decide), fun _ => ⟨mb_134, md_134⟩, fun h => absurd h (by decide), me_134⟩
set_option maxRecDepth 1000000 in
theorem ma_135 : cwM 135 ∈ lw_tbl := kcD_120_in _ (List.mem_of_getElem? (i := 53) rfl)
set_option maxRecDepth 1000000 in
theorem mb_135 : Cond.instanceMethod (yM 135) ∈ lw_tbl := kiN_120_in _ (List.mem_of_getElem? (i := 0) rfl)
set_option maxRecDepth 1000000 in
theorem md_135 : Cond.selects (owM 135) (yM 135) (yM 135) ∈ lw_tbl := kxL_120_in _ (List.mem_of_getElem? (i := 8) rfl)
set_option maxRecDepth 1000000 in
theorem me_135 : (parseMethodDescriptor (yM 135).desc).map (fun d => d.parameters.length) = some (npM 135) := pd_13
theorem mt_135 : MtP 135 := ⟨rfl, Or.inr ma_135, fun h => absurd h (by decide), fun _ => ⟨mb_135, md_135⟩, fun h => absurd h (by decide), me_135⟩
set_option maxRecDepth 1000000 in
theorem ma_136 : cwM 136 ∈ lw_tbl := kcD_120_in _ (List.mem_of_getElem? (i := 55) rfl)
set_option maxRecDepth 1000000 in
theorem mb_136 : Cond.instanceMethod (yM 136) ∈ lw_tbl := kiN_120_in _ (List.mem_of_getElem? (i := 2) rfl)
set_option maxRecDepth 1000000 in
theorem md_136 : Cond.selects (owM 136) (yM 136) (yM 136) ∈ lw_tbl := kxL_120_in _ (List.mem_of_getElem? (i := 9) rfl)
set_option maxRecDepth 1000000 in
theorem me_136 : (parseMethodDescriptor (yM 136).desc).map (fun d => d.parameters.length) = some (npM 136) := pd_3
theorem mt_136 : MtP 136 := ⟨rfl, Or.inr ma_136, fun h => absurd h (by decide), fun _ => ⟨mb_136, md_136⟩, fun h => absurd h (by decide), me_136⟩
set_option maxRecDepth 1000000 in
theorem ma_137 : cwM 137 ∈ lw_tbl := kcD_120_in _ (List.mem_of_getElem? (i := 57) rfl)
set_option maxRecDepth 1000000 in
theorem mb_137 : Cond.instanceMethod (yM 137) ∈ lw_tbl := kiN_120_in _ (List.mem_of_getElem? (i := 4) rfl)
set_option maxRecDepth 1000000 in
theorem md_137 : Cond.selects (owM 137) (yM 137) (yM 137) ∈ lw_tbl := kxL_120_in _ (List.mem_of_getElem? (i := 10) rfl)
set_option maxRecDepth 1000000 in
theorem me_137 : (parseMethodDescriptor (yM 137).desc).map (fun d => d.parameters.length) = some (npM 137) := pd_12
theorem mt_137 : MtP 137 := ⟨rfl, Or.inr ma_137, fun h => absurd h (by decide), fun _ => ⟨mb_137, md_137⟩, fun h => absurd h (by decide), me_137⟩
set_option maxRecDepth 1000000 in
theorem ma_138 : cwM 138 ∈ lw_tbl := kcD_120_in _ (List.mem_of_getElem? (i := 59) rfl)
set_option maxRecDepth 1000000 in
theorem mb_138 : Cond.instanceMethod (yM 138) ∈ lw_tbl := kiN_120_in _ (List.mem_of_getElem? (i := 6) rfl)
set_option maxRecDepth 1000000 in
theorem md_138 : Cond.selects (owM 138) (yM 138) (yM 138) ∈ lw_tbl := kxL_120_in _ (List.mem_of_getElem? (i := 11) rfl)
set_option maxRecDepth 1000000 in
theorem me_138 : (parseMethodDescriptor (yM 138).desc).map (fun d => d.parameters.length) = some (npM 138) := pd_12
theorem mt_138 : MtP 138 := ⟨rfl, Or.inr ma_138, fun h => absurd h (by decide), fun _ => ⟨mb_138, md_138⟩, fun h => absurd h (by decide), me_138⟩
set_option maxRecDepth 1000000 in
theorem ma_139 : cwM 139 ∈ lw_tbl := kcD_180_in _ (List.mem_of_getElem? (i := 1) rfl)
set_option maxRecDepth 1000000 in
theorem mb_139 : Cond.instanceMethod (yM 139) ∈ lw_tbl := kiN_120_in _ (List.mem_of_getElem? (i := 7) rfl)
set_option maxRecDepth 1000000 in
theorem md_139 : Cond.selects (owM 139) (yM 139) (yM 139) ∈ lw_tbl := kxL_120_in _ (List.mem_of_getElem? (i := 12) rfl)
set_option maxRecDepth 1000000 in
theorem me_139 : (parseMethodDescriptor (yM 139).desc).map (fun d => d.parameters.length) = some (npM 139) := pd_3
theorem mt_139 : MtP 139 := ⟨rfl, Or.inr ma_139, fun h => absurd h (by decide), fun _ => ⟨mb_139, md_139⟩, fun h => absurd h (by decide), me_139⟩
set_option maxRecDepth 1000000 in
theorem ma_140 : cwM 140 ∈ lw_tbl := kcD_180_in _ (List.mem_of_getElem? (i := 2) rfl)
set_option maxRecDepth 1000000 in
theorem mb_140 : Cond.instanceMethod (yM 140) ∈ lw_tbl := kiN_120_in _ (List.mem_of_getElem? (i := 8) rfl)
set_option maxRecDepth 1000000 in
theorem md_140 : Cond.selects (owM 140) (yM 140) (yM 140) ∈ lw_tbl := kxL_120_in _ (List.mem_of_getElem? (i := 13) rfl)
set_option maxRecDepth 1000000 in
theorem me_140 : (parseMethodDescriptor (yM 140).desc).map (fun d => d.parameters.length) = some (npM 140) := pd_3
theorem mt_140 : MtP 140 := ⟨rfl, Or.inr ma_140, fun h => absurd h (by decide), fun _ => ⟨mb_140, md_140⟩, fun h => absurd h (by decide), me_140⟩
set_option maxRecDepth 1000000 in
theorem ma_141 : cwM 141 ∈ lw_tbl := kcD_180_in _ (List.mem_of_getElem? (i := 3) rfl)
set_option maxRecDepth 1000000 in
theorem mb_141 : Cond.instanceMethod (yM 141) ∈ lw_tbl := kiN_120_in _ (List.mem_of_getElem? (i := 9) rfl)
set_option maxRecDepth 1000000 in
theorem md_141 : Cond.selects (owM 141) (yM 141) (yM 141) ∈ lw_tbl := kxL_120_in _ (List.mem_of_getElem? (i := 14) rfl)
set_option maxRecDepth 1000000 in
theorem me_141 : (parseMethodDescriptor (yM 141).desc).map (fun d => d.parameters.length) = some (npM 141) := pd_20
theorem mt_141 : MtP 141 := ⟨rfl, Or.inr ma_141, fun h => absurd h (by decide), fun _ => ⟨mb_141, md_141⟩, fun h => absurd h (by decide), me_141⟩
set_option maxRecDepth 1000000 in
theorem ma_142 : cwM 142 ∈ lw_tbl := kcD_180_in _ (List.mem_of_getElem? (i := 4) rfl)
set_option maxRecDepth 1000000 in
theorem mb_142 : Cond.instanceMethod (yM 142) ∈ lw_tbl := kiN_120_in _ (List.mem_of_getElem? (i := 10) rfl)
set_option maxRecDepth 1000000 in
theorem md_142 : Cond.selects (owM 142) (yM 142) (yM 142) ∈ lw_tbl := kxL_120_in _ (List.mem_of_getElem? (i := 15) rfl)
set_option maxRecDepth 1000000 in
theorem me_142 : (parseMethodDescriptor (yM 142).desc).map (fun d => d.parameters.length) = some (npM 142) := pd_5
theorem mt_142 : MtP 142 := ⟨rfl, Or.inr ma_142, fun h => absurd h (by decide), fun _ => ⟨mb_142, md_142⟩, fun h => absurd h (by decide), me_142⟩
set_option maxRecDepth 1000000 in
theorem ma_143 : cwM 143 ∈ lw_tbl := kcD_180_in _ (List.mem_of_getElem? (i := 6) rfl)
set_option maxRecDepth 1000000 in
theorem mb_143 : Cond.instanceMethod (yM 143) ∈ lw_tbl := kiN_120_in _ (List.mem_of_getElem? (i := 12) rfl)
set_option maxRecDepth 1000000 in
theorem md_143 : Cond.selects (owM 143) (yM 143) (yM 143) ∈ lw_tbl := kxL_120_in _ (List.mem_of_getElem? (i := 16) rfl)
set_option maxRecDepth 1000000 in
theorem me_143 : (parseMethodDescriptor (yM 143).desc).map (fun d => d.parameters.length) = some (npM 143) := pd_5
theorem mt_143 : MtP 143 := ⟨rfl, Or.inr ma_143, fun h => absurd h (by decide), fun _ => ⟨mb_143, md_143⟩, fun h => absurd h (by decide), me_143⟩
set_option maxRecDepth 1000000 in
theorem ma_144 : cwM 144 ∈ lw_tbl := kcD_180_in _ (List.mem_of_getElem? (i := 7) rfl)
set_option maxRecDepth 1000000 in
theorem mb_144 : Cond.instanceMethod (yM 144) ∈ lw_tbl := kiN_120_in _ (List.mem_of_getElem? (i := 13) rfl)
set_option maxRecDepth 1000000 in
theorem md_144 : Cond.selects (owM 144) (yM 144) (yM 144) ∈ lw_tbl := kxL_120_in _ (List.mem_of_getElem? (i := 17) rfl)
set_option maxRecDepth 1000000 in
theorem me_144 : (parseMethodDescriptor (yM 144).desc).map (fun d => d.parameters.length) = some (npM 144) := pd_15
theorem mt_144 : MtP 144 := ⟨rfl, Or.inr ma_144, fun h => absurd h (by decide), fun _ => ⟨mb_144, md_144⟩, fun h => absurd h (by decide), me_144⟩
set_option maxRecDepth 1000000 in
theorem ma_145 : cwM 145 ∈ lw_tbl := kcD_180_in _ (List.mem_of_getElem? (i := 11) rfl)
set_option maxRecDepth 1000000 in
theorem mb_145 : Cond.instanceMethod (yM 145) ∈ lw_tbl := kiN_120_in _ (List.mem_of_getElem? (i := 17) rfl)
set_option maxRecDepth 1000000 in
theorem md_145 : Cond.selects (owM 145) (yM 145) (yM 145) ∈ lw_tbl := kxL_60_in _ (List.mem_of_getElem? (i := 7) rfl)
set_option maxRecDepth 1000000 in
theorem me_145 : (parseMethodDescriptor (yM 145).desc).map (fun d => d.parameters.length) = some (npM 145) := pd_15
theorem mt_145 : MtP 145 := ⟨rfl, Or.inr ma_145, fun h => absurd h (by decide), fun _ => ⟨mb_145, md_145⟩, fun h => absurd h (by decide), me_145⟩
set_option maxRecDepth 1000000 in
theorem ma_146 : cwM 146 ∈ lw_tbl := kcD_180_in _ (List.mem_of_getElem? (i := 12) rfl)
set_option maxRecDepth 1000000 in
theorem mb_146 : Cond.instanceMethod (yM 146) ∈ lw_tbl := kiN_120_in _ (List.mem_of_getElem? (i := 18) rfl)
set_option maxRecDepth 1000000 in
theorem md_146 : Cond.selects (owM 146) (yM 146) (yM 146) ∈ lw_tbl := kxL_60_in _ (List.mem_of_getElem? (i := 8) rfl)
set_option maxRecDepth 1000000 in
theorem me_146 : (parseMethodDescriptor (yM 146).desc).map (fun d => d.parameters.length) = some (npM 146) := pd_11
theorem mt_146 : MtP 146 := ⟨rfl, Or.inr ma_146, fun h => absurd h (by decide), fun _ => ⟨mb_146, md_146⟩, fun h => absurd h (by decide), me_146⟩
set_option maxRecDepth 1000000 in
theorem ma_147 : cwM 147 ∈ lw_tbl := kcD_180_in _ (List.mem_of_getElem? (i := 14) rfl)
set_option maxRecDepth 1000000 in
theorem mb_147 : Cond.instanceMethod (yM 147) ∈ lw_tbl := kiN_120_in _ (List.mem_of_getElem? (i := 19) rfl)
set_option maxRecDepth 1000000 in
theorem md_147 : Cond.selects (owM 147) (yM 147) (yM 147) ∈ lw_tbl := kxL_60_in _ (List.mem_of_getElem? (i := 9) rfl)
set_option maxRecDepth 1000000 in
theorem me_147 : (parseMethodDescriptor (yM 147).desc).map (fun d => d.parameters.length) = some (npM 147) := pd_3
theorem mt_147 : MtP 147 := ⟨rfl, Or.inr ma_147, fun h => absurd h (by decide), fun _ => ⟨mb_147, md_147⟩, fun h => absurd h (by decide), me_147⟩
set_option maxRecDepth 1000000 in
theorem ma_148 : cwM 148 ∈ lw_tbl := kcD_180_in _ (List.mem_of_getElem? (i := 13) rfl)
set_option maxRecDepth 1000000 in
theorem mb_148 : Cond.static (yM 148) ∈ lw_tbl := ksT_0_in _ (List.mem_of_getElem? (i := 57) rfl)
set_option maxRecDepth 1000000 in
theorem me_148 : (parseMethodDescriptor (yM 148).desc).map (fun d => d.parameters.length) = some (npM 148) := pd_3
theorem mt_148 : MtP 148 := ⟨rfl, Or.inr ma_148, fun _ => Or.inr mb_148, fun h => absurd h (by decide), fun h => absurd h (by decide), me_148⟩
set_option maxRecDepth 1000000 in
theorem ma_149 : cwM 149 ∈ lw_tbl := kcD_180_in _ (List.mem_of_getElem? (i := 10) rfl)
set_option maxRecDepth 1000000 in
theorem mb_149 : Cond.instanceMethod (yM 149) ∈ lw_tbl := kiN_120_in _ (List.mem_of_getElem? (i := 16) rfl)
set_option maxRecDepth 1000000 in
theorem md_149 : Cond.selects (owM 149) (yM 149) (yM 149) ∈ lw_tbl := kxL_60_in _ (List.mem_of_getElem? (i := 6) rfl)
set_option maxRecDepth 1000000 in
theorem me_149 : (parseMethodDescriptor (yM 149).desc).map (fun d => d.parameters.length) = some (npM 149) := pd_16
theorem mt_149 : MtP 149 := ⟨rfl, Or.inr ma_149, fun h => absurd h (by decide), fun _ => ⟨mb_149, md_149⟩, fun h => absurd h (by decide), me_149⟩
set_option maxRecDepth 1000000 in
theorem ma_150 : cwM 150 ∈ lw_tbl := kcD_180_in _ (List.mem_of_getElem? (i := 9) rfl)
set_option maxRecDepth 1000000 in
theorem mb_150 : Cond.instanceMethod (yM 150) ∈ lw_tbl := kiN_120_in _ (List.mem_of_getElem? (i := 15) rfl)
set_option maxRecDepth 1000000 in
theorem md_150 : Cond.selects (owM 150) (yM 150) (yM 150) ∈ lw_tbl := kxL_60_in _ (List.mem_of_getElem? (i := 5) rfl)
set_option maxRecDepth 1000000 in
theorem me_150 : (parseMethodDescriptor (yM 150).desc).map (fun d => d.parameters.length) = some (npM 150) := pd_16
theorem mt_150 : MtP 150 := ⟨rfl, Or.inr ma_150, fun h => absurd h (by decide), fun _ => ⟨mb_150, md_150⟩, fun h => absurd h (by decide), me_150⟩
set_option maxRecDepth 1000000 in
theorem ma_151 : cwM 151 ∈ lw_tbl := kcD_180_in _ (List.mem_of_getElem? (i := 8) rfl)
set_option maxRecDepth 1000000 in
theorem mb_151 : Cond.instanceMethod (yM 151) ∈ lw_tbl := kiN_120_in _ (List.mem_of_getElem? (i := 14) rfl)
set_option maxRecDepth 1000000 in
theorem md_151 : Cond.selects (owM 151) (yM 151) (yM 151) ∈ lw_tbl := kxL_120_in _ (List.mem_of_getElem? (i := 18) rfl)
set_option maxRecDepth 1000000 in
theorem me_151 : (parseMethodDescriptor (yM 151).desc).map (fun d => d.parameters.length) = some (npM 151) := pd_15
theorem mt_151 : MtP 151 := ⟨rfl, Or.inr ma_151, fun h => absurd h (by decide), fun _ => ⟨mb_151, md_151⟩, fun h => absurd h (by decide), me_151⟩
set_option maxRecDepth 1000000 in
theorem ma_152 : cwM 152 ∈ lw_tbl := kcD_180_in _ (List.mem_of_getElem? (i := 16) rfl)
set_option maxRecDepth 1000000 in
theorem mb_152 : Cond.instanceMethod (yM 152) ∈ lw_tbl := kiN_120_in _ (List.mem_of_getElem? (i := 21) rfl)
set_option maxRecDepth 1000000 in
theorem md_152 : Cond.selects (owM 152) (yM 152) (yM 152) ∈ lw_tbl := kxL_60_in _ (List.mem_of_getElem? (i := 10) rfl)
set_option maxRecDepth 1000000 in
theorem me_152 : (parseMethodDescriptor (yM 152).desc).map (fun d => d.parameters.length) = some (npM 152) := pd_16
theorem mt_152 : MtP 152 := ⟨rfl, Or.inr ma_152, fun h => absurd h (by decide), fun _ => ⟨mb_152, md_152⟩, fun h => absurd h (by decide), me_152⟩
set_option maxRecDepth 1000000 in
theorem ma_153 : cwM 153 ∈ lw_tbl := kcD_180_in _ (List.mem_of_getElem? (i := 15) rfl)
set_option maxRecDepth 1000000 in
theorem mb_153 : Cond.instanceMethod (yM 153) ∈ lw_tbl := kiN_120_in _ (List.mem_of_getElem? (i := 20) rfl)
set_option maxRecDepth 1000000 in
theorem md_153 : Cond.selects (owM 153) (yM 153) (yM 153) ∈ lw_tbl := kxL_120_in _ (List.mem_of_getElem? (i := 19) rfl)
set_option maxRecDepth 1000000 in
theorem me_153 : (parseMethodDescriptor (yM 153).desc).map (fun d => d.parameters.length) = some (npM 153) := pd_15
theorem mt_153 : MtP 153 := ⟨rfl, Or.inr ma_153, fun h => absurd h (by decide), fun _ => ⟨mb_153, md_153⟩, fun h => absurd h (by decide), me_153⟩
set_option maxRecDepth 1000000 in
theorem ma_154 : cwM 154 ∈ lw_tbl := kcD_180_in _ (List.mem_of_getElem? (i := 17) rfl)
set_option maxRecDepth 1000000 in
theorem mb_154 : Cond.instanceMethod (yM 154) ∈ lw_tbl := kiN_120_in _ (List.mem_of_getElem? (i := 22) rfl)
set_option maxRecDepth 1000000 in
theorem md_154 : Cond.selects (owM 154) (yM 154) (yM 154) ∈ lw_tbl := kxL_120_in _ (List.mem_of_getElem? (i := 20) rfl)
set_option maxRecDepth 1000000 in
theorem me_154 : (parseMethodDescriptor (yM 154).desc).map (fun d => d.parameters.length) = some (npM 154) := pd_15
theorem mt_154 : MtP 154 := ⟨rfl, Or.inr ma_154, fun h => absurd h (by decide), fun _ => ⟨mb_154, md_154⟩, fun h => absurd h (by decide), me_154⟩
set_option maxRecDepth 1000000 in
theorem ma_155 : cwM 155 ∈ lw_tbl := kcD_180_in _ (List.mem_of_getElem? (i := 18) rfl)
set_option maxRecDepth 1000000 in
theorem mb_155 : Cond.instanceMethod (yM 155) ∈ lw_tbl := kiN_120_in _ (List.mem_of_getElem? (i := 23) rfl)
set_option maxRecDepth 1000000 in
theorem md_155 : Cond.selects (owM 155) (yM 155) (yM 155) ∈ lw_tbl := kxL_120_in _ (List.mem_of_getElem? (i := 21) rfl)
set_option maxRecDepth 1000000 in
theorem me_155 : (parseMethodDescriptor (yM 155).desc).map (fun d => d.parameters.length) = some (npM 155) := pd_5
theorem mt_155 : MtP 155 := ⟨rfl, Or.inr ma_155, fun h => absurd h (by decide), fun _ => ⟨mb_155, md_155⟩, fun h => absurd h (by decide), me_155⟩
set_option maxRecDepth 1000000 in
theorem ma_156 : cwM 156 ∈ lw_tbl := kcD_180_in _ (List.mem_of_getElem? (i := 19) rfl)
set_option maxRecDepth 1000000 in
theorem mb_156 : Cond.instanceMethod (yM 156) ∈ lw_tbl := kiN_120_in _ (List.mem_of_getElem? (i := 24) rfl)
set_option maxRecDepth 1000000 in
theorem md_156 : Cond.selects (owM 156) (yM 156) (yM 156) ∈ lw_tbl := kxL_120_in _ (List.mem_of_getElem? (i := 22) rfl)
set_option maxRecDepth 1000000 in
theorem me_156 : (parseMethodDescriptor (yM 156).desc).map (fun d => d.parameters.length) = some (npM 156) := pd_5
theorem mt_156 : MtP 156 := ⟨rfl, Or.inr ma_156, fun h => absurd h (by decide), fun _ => ⟨mb_156, md_156⟩, fun h => absurd h (by decide), me_156⟩
set_option maxRecDepth 1000000 in
theorem ma_157 : cwM 157 ∈ lw_tbl := kcD_180_in _ (List.mem_of_getElem? (i := 20) rfl)
set_option maxRecDepth 1000000 in
theorem mb_157 : Cond.instanceMethod (yM 157) ∈ lw_tbl := kiN_120_in _ (List.mem_of_getElem? (i := 25) rfl)
set_option maxRecDepth 1000000 in
theorem md_157 : Cond.selects (owM 157) (yM 157) (yM 157) ∈ lw_tbl := kxL_120_in _ (List.mem_of_getElem? (i := 23) rfl)
set_option maxRecDepth 1000000 in
theorem me_157 : (parseMethodDescriptor (yM 157).desc).map (fun d => d.parameters.length) = some (npM 157) := pd_3
theorem mt_157 : MtP 157 := ⟨rfl, Or.inr ma_157, fun h => absurd h (by decide), fun _ => ⟨mb_157, md_157⟩, fun h => absurd h (by decide), me_157⟩
set_option maxRecDepth 1000000 in
theorem ma_158 : cwM 158 ∈ lw_tbl := kcD_180_in _ (List.mem_of_getElem? (i := 21) rfl)
set_option maxRecDepth 1000000 in
theorem mb_158 : Cond.instanceMethod (yM 158) ∈ lw_tbl := kiN_120_in _ (List.mem_of_getElem? (i := 26) rfl)
set_option maxRecDepth 1000000 in
theorem md_158 : Cond.selects (owM 158) (yM 158) (yM 158) ∈ lw_tbl := kxL_120_in _ (List.mem_of_getElem? (i := 24) rfl)
set_option maxRecDepth 1000000 in
theorem me_158 : (parseMethodDescriptor (yM 158).desc).map (fun d => d.parameters.length) = some (npM 158) := pd_3
theorem mt_158 : MtP 158 := ⟨rfl, Or.inr ma_158, fun h => absurd h (by decide), fun _ => ⟨mb_158, md_158⟩, fun h => absurd h (by decide), me_158⟩
set_option maxRecDepth 1000000 in
theorem ma_159 : cwM 159 ∈ lw_tbl := kcD_180_in _ (List.mem_of_getElem? (i := 22) rfl)
set_option maxRecDepth 1000000 in
theorem mb_159 : Cond.instanceMethod (yM 159) ∈ lw_tbl := kiN_120_in _ (List.mem_of_getElem? (i := 27) rfl)
set_option maxRecDepth 1000000 in
theorem md_159 : Cond.selects (owM 159) (yM 159) (yM 159) ∈ lw_tbl := kxL_120_in _ (List.mem_of_getElem? (i := 25) rfl)
set_option maxRecDepth 1000000 in
theorem me_159 : (parseMethodDescriptor (yM 159).desc).map (fun d => d.parameters.length) = some (npM 159) := pd_3
theorem mt_159 : MtP 159 := ⟨rfl, Or.inr ma_159, fun h => absurd h (by decide), fun _ => ⟨mb_159, md_159⟩, fun h => absurd h (by decide), me_159⟩
set_option maxRecDepth 1000000 in
theorem ma_160 : cwM 160 ∈ lw_tbl := kcD_180_in _ (List.mem_of_getElem? (i := 23) rfl)
set_option maxRecDepth 1000000 in
theorem mb_160 : Cond.instanceMethod (yM 160) ∈ lw_tbl := kiN_120_in _ (List.mem_of_getElem? (i := 28) rfl)
set_option maxRecDepth 1000000 in
theorem md_160 : Cond.selects (owM 160) (yM 160) (yM 160) ∈ lw_tbl := kxL_120_in _ (List.mem_of_getElem? (i := 26) rfl)
set_option maxRecDepth 1000000 in
theorem me_160 : (parseMethodDescriptor (yM 160).desc).map (fun d => d.parameters.length) = some (npM 160) := pd_3
theorem mt_160 : MtP 160 := ⟨rfl, Or.inr ma_160, fun h => absurd h (by decide), fun _ => ⟨mb_160, md_160⟩, fun h => absurd h (by decide), me_160⟩
set_option maxRecDepth 1000000 in
theorem ma_161 : cwM 161 ∈ lw_tbl := kcD_180_in _ (List.mem_of_getElem? (i := 24) rfl)
set_option maxRecDepth 1000000 in
theorem mb_161 : Cond.instanceMethod (yM 161) ∈ lw_tbl := kiN_120_in _ (List.mem_of_getElem? (i := 29) rfl)
set_option maxRecDepth 1000000 in
theorem md_161 : Cond.selects (owM 161) (yM 161) (yM 161) ∈ lw_tbl := kxL_120_in _ (List.mem_of_getElem? (i := 27) rfl)
set_option maxRecDepth 1000000 in
theorem me_161 : (parseMethodDescriptor (yM 161).desc).map (fun d => d.parameters.length) = some (npM 161) := pd_3
theorem mt_161 : MtP 161 := ⟨rfl, Or.inr ma_161, fun h => absurd h (by decide), fun _ => ⟨mb_161, md_161⟩, fun h => absurd h (by decide), me_161⟩
set_option maxRecDepth 1000000 in
theorem ma_162 : cwM 162 ∈ lw_tbl := kcD_180_in _ (List.mem_of_getElem? (i := 25) rfl)
set_option maxRecDepth 1000000 in
theorem mb_162 : Cond.instanceMethod (yM 162) ∈ lw_tbl := kiN_120_in _ (List.mem_of_getElem? (i := 30) rfl)
set_option maxRecDepth 1000000 in
theorem md_162 : Cond.selects (owM 162) (yM 162) (yM 162) ∈ lw_tbl := kxL_120_in _ (List.mem_of_getElem? (i := 28) rfl)
set_option maxRecDepth 1000000 in
theorem me_162 : (parseMethodDescriptor (yM 162).desc).map (fun d => d.parameters.length) = some (npM 162) := pd_3
theorem mt_162 : MtP 162 := ⟨rfl, Or.inr ma_162, fun h => absurd h (by decide), fun _ => ⟨mb_162, md_162⟩, fun h => absurd h (by decide), me_162⟩
set_option maxRecDepth 1000000 in
theorem ma_163 : cwM 163 ∈ lw_tbl := kcD_180_in _ (List.mem_of_getElem? (i := 26) rfl)
set_option maxRecDepth 1000000 in
theorem mb_163 : Cond.instanceMethod (yM 163) ∈ lw_tbl := kiN_120_in _ (List.mem_of_getElem? (i := 31) rfl)
set_option maxRecDepth 1000000 in
theorem md_163 : Cond.selects (owM 163) (yM 163) (yM 163) ∈ lw_tbl := kxL_120_in _ (List.mem_of_getElem? (i := 29) rfl)
set_option maxRecDepth 1000000 in
theorem me_163 : (parseMethodDescriptor (yM 163).desc).map (fun d => d.parameters.length) = some (npM 163) := pd_3
theorem mt_163 : MtP 163 := ⟨rfl, Or.inr ma_163, fun h => absurd h (by decide), fun _ => ⟨mb_163, md_163⟩, fun h => absurd h (by decide), me_163⟩
set_option maxRecDepth 1000000 in
theorem ma_164 : cwM 164 ∈ lw_tbl := kcD_180_in _ (List.mem_of_getElem? (i := 27) rfl)
set_option maxRecDepth 1000000 in
theorem mb_164 : Cond.instanceMethod (yM 164) ∈ lw_tbl := kiN_120_in _ (List.mem_of_getElem? (i := 32) rfl)
set_option maxRecDepth 1000000 in
theorem md_164 : Cond.selects (owM 164) (yM 164) (yM 164) ∈ lw_tbl := kxL_120_in _ (List.mem_of_getElem? (i := 30) rfl)
set_option maxRecDepth 1000000 in
theorem me_164 : (parseMethodDescriptor (yM 164).desc).map (fun d => d.parameters.length) = some (npM 164) := pd_5
theorem mt_164 : MtP 164 := ⟨rfl, Or.inr ma_164, fun h => absurd h (by decide), fun _ => ⟨mb_164, md_164⟩, fun h => absurd h (by decide), me_164⟩
set_option maxRecDepth 1000000 in
theorem ma_165 : cwM 165 ∈ lw_tbl := kcD_180_in _ (List.mem_of_getElem? (i := 31) rfl)
set_option maxRecDepth 1000000 in
theorem mb_165 : Cond.instanceMethod (yM 165) ∈ lw_tbl := kiN_120_in _ (List.mem_of_getElem? (i := 36) rfl)
set_option maxRecDepth 1000000 in
theorem md_165 : Cond.selects (owM 165) (yM 165) (yM 165) ∈ lw_tbl := kxL_60_in _ (List.mem_of_getElem? (i := 13) rfl)
set_option maxRecDepth 1000000 in
theorem me_165 : (parseMethodDescriptor (yM 165).desc).map (fun d => d.parameters.length) = some (npM 165) := pd_5
theorem mt_165 : MtP 165 := ⟨rfl, Or.inr ma_165, fun h => absurd h (by decide), fun _ => ⟨mb_165, md_165⟩, fun h => absurd h (by decide), me_165⟩
set_option maxRecDepth 1000000 in
theorem ma_166 : cwM 166 ∈ lw_tbl := kcD_180_in _ (List.mem_of_getElem? (i := 30) rfl)
set_option maxRecDepth 1000000 in
theorem mb_166 : Cond.instanceMethod (yM 166) ∈ lw_tbl := kiN_120_in _ (List.mem_of_getElem? (i := 35) rfl)
set_option maxRecDepth 1000000 in
theorem md_166 : Cond.selects (owM 166) (yM 166) (yM 166) ∈ lw_tbl := kxL_60_in _ (List.mem_of_getElem? (i := 12) rfl)
set_option maxRecDepth 1000000 in
theorem me_166 : (parseMethodDescriptor (yM 166).desc).map (fun d => d.parameters.length) = some (npM 166) := pd_0
theorem mt_166 : MtP 166 := ⟨rfl, Or.inr ma_166, fun h => absurd h (by decide), fun _ => ⟨mb_166, md_166⟩, fun h => absurd h (by decide), me_166⟩
set_option maxRecDepth 1000000 in
theorem ma_167 : cwM 167 ∈ lw_tbl := kcD_180_in _ (List.mem_of_getElem? (i := 29) rfl)
set_option maxRecDepth 1000000 in
theorem mb_167 : Cond.instanceMethod (yM 167) ∈ lw_tbl := kiN_120_in _ (List.mem_of_getElem? (i := 34) rfl)
set_option maxRecDepth 1000000 in
theorem md_167 : Cond.selects (owM 167) (yM 167) (yM 167) ∈ lw_tbl := kxL_60_in _ (List.mem_of_getElem? (i := 11) rfl)
set_option maxRecDepth 1000000 in
theorem me_167 : (parseMethodDescriptor (yM 167).desc).map (fun d => d.parameters.length) = some (npM 167) := pd_5
theorem mt_167 : MtP 167 := ⟨rfl, Or.inr ma_167, fun h => absurd h (by decide), fun _ => ⟨mb_167, md_167⟩, fun h => absurd h (by decide), me_167⟩
set_option maxRecDepth 1000000 in
theorem ma_168 : cwM 168 ∈ lw_tbl := kcD_180_in _ (List.mem_of_getElem? (i := 28) rfl)
set_option maxRecDepth 1000000 in
theorem mb_168 : Cond.instanceMethod (yM 168) ∈ lw_tbl := kiN_120_in _ (List.mem_of_getElem? (i := 33) rfl)
set_option maxRecDepth 1000000 in
theorem md_168 : Cond.selects (owM 168) (yM 168) (yM 168) ∈ lw_tbl := kxL_120_in _ (List.mem_of_getElem? (i := 31) rfl)
set_option maxRecDepth 1000000 in
theorem me_168 : (parseMethodDescriptor (yM 168).desc).map (fun d => d.parameters.length) = some (npM 168) := pd_5
theorem mt_168 : MtP 168 := ⟨rfl, Or.inr ma_168, fun h => absurd h (by decide), fun _ => ⟨mb_168, md_168⟩, fun h => absurd h (by decide), me_168⟩
set_option maxRecDepth 1000000 in
theorem ma_169 : cwM 169 ∈ lw_tbl := kcD_180_in _ (List.mem_of_getElem? (i := 33) rfl)
set_option maxRecDepth 1000000 in
theorem mb_169 : Cond.instanceMethod (yM 169) ∈ lw_tbl := kiN_120_in _ (List.mem_of_getElem? (i := 38) rfl)
set_option maxRecDepth 1000000 in
theorem md_169 : Cond.selects (owM 169) (yM 169) (yM 169) ∈ lw_tbl := kxL_60_in _ (List.mem_of_getElem? (i := 14) rfl)
set_option maxRecDepth 1000000 in
theorem me_169 : (parseMethodDescriptor (yM 169).desc).map (fun d => d.parameters.length) = some (npM 169) := pd_13
theorem mt_169 : MtP 169 := ⟨rfl, Or.inr ma_169, fun h => absurd h (by decide), fun _ => ⟨mb_169, md_169⟩, fun h => absurd h (by decide), me_169⟩
set_option maxRecDepth 1000000 in
theorem ma_170 : cwM 170 ∈ lw_tbl := kcD_180_in _ (List.mem_of_getElem? (i := 32) rfl)
set_option maxRecDepth 1000000 in
theorem mb_170 : Cond.instanceMethod (yM 170) ∈ lw_tbl := kiN_120_in _ (List.mem_of_getElem? (i := 37) rfl)
set_option maxRecDepth 1000000 in
theorem md_170 : Cond.selects (owM 170) (yM 170) (yM 170) ∈ lw_tbl := kxL_120_in _ (List.mem_of_getElem? (i := 32) rfl)
set_option maxRecDepth 1000000 in
theorem me_170 : (parseMethodDescriptor (yM 170).desc).map (fun d => d.parameters.length) = some (npM 170) := pd_3
theorem mt_170 : MtP 170 := ⟨rfl, Or.inr ma_170, fun h => absurd h (by decide), fun _ => ⟨mb_170, md_170⟩, fun h => absurd h (by decide), me_170⟩
set_option maxRecDepth 1000000 in
theorem ma_171 : cwM 171 ∈ lw_tbl := kcD_180_in _ (List.mem_of_getElem? (i := 34) rfl)
set_option maxRecDepth 1000000 in
theorem mb_171 : Cond.instanceMethod (yM 171) ∈ lw_tbl := kiN_120_in _ (List.mem_of_getElem? (i := 39) rfl)
set_option maxRecDepth 1000000 in
theorem md_171 : Cond.selects (owM 171) (yM 171) (yM 171) ∈ lw_tbl := kxL_120_in _ (List.mem_of_getElem? (i := 33) rfl)
set_option maxRecDepth 1000000 in
theorem me_171 : (parseMethodDescriptor (yM 171).desc).map (fun d => d.parameters.length) = some (npM 171) := pd_3
theorem mt_171 : MtP 171 := ⟨rfl, Or.inr ma_171, fun h => absurd h (by decide), fun _ => ⟨mb_171, md_171⟩, fun h => absurd h (by decide), me_171⟩
set_option maxRecDepth 1000000 in
theorem ma_172 : cwM 172 ∈ lw_tbl := kcD_180_in _ (List.mem_of_getElem? (i := 35) rfl)
set_option maxRecDepth 1000000 in
theorem mb_172 : Cond.instanceMethod (yM 172) ∈ lw_tbl := kiN_120_in _ (List.mem_of_getElem? (i := 40) rfl)
set_option maxRecDepth 1000000 in
theorem md_172 : Cond.selects (owM 172) (yM 172) (yM 172) ∈ lw_tbl := kxL_120_in _ (List.mem_of_getElem? (i := 34) rfl)
set_option maxRecDepth 1000000 in
theorem me_172 : (parseMethodDescriptor (yM 172).desc).map (fun d => d.parameters.length) = some (npM 172) := pd_3
theorem mt_172 : MtP 172 := ⟨rfl, Or.inr ma_172, fun h => absurd h (by decide), fun _ => ⟨mb_172, md_172⟩, fun h => absurd h (by decide), me_172⟩
set_option maxRecDepth 1000000 in
theorem ma_173 : cwM 173 ∈ lw_tbl := kcD_180_in _ (List.mem_of_getElem? (i := 36) rfl)
set_option maxRecDepth 1000000 in
theorem mb_173 : Cond.instanceMethod (yM 173) ∈ lw_tbl := kiN_120_in _ (List.mem_of_getElem? (i := 41) rfl)
set_option maxRecDepth 1000000 in
theorem md_173 : Cond.selects (owM 173) (yM 173) (yM 173) ∈ lw_tbl := kxL_120_in _ (List.mem_of_getElem? (i := 35) rfl)
set_option maxRecDepth 1000000 in
theorem me_173 : (parseMethodDescriptor (yM 173).desc).map (fun d => d.parameters.length) = some (npM 173) := pd_15
theorem mt_173 : MtP 173 := ⟨rfl, Or.inr ma_173, fun h => absurd h (by decide), fun _ => ⟨mb_173, md_173⟩, fun h => absurd h (by decide), me_173⟩
set_option maxRecDepth 1000000 in
theorem ma_174 : cwM 174 ∈ lw_tbl := kcD_180_in _ (List.mem_of_getElem? (i := 37) rfl)
set_option maxRecDepth 1000000 in
theorem mb_174 : Cond.instanceMethod (yM 174) ∈ lw_tbl := kiN_120_in _ (List.mem_of_getElem? (i := 42) rfl)
set_option maxRecDepth 1000000 in
theorem md_174 : Cond.selects (owM 174) (yM 174) (yM 174) ∈ lw_tbl := kxL_120_in _ (List.mem_of_getElem? (i := 36) rfl)
set_option maxRecDepth 1000000 in
theorem me_174 : (parseMethodDescriptor (yM 174).desc).map (fun d => d.parameters.length) = some (npM 174) := pd_5
theorem mt_174 : MtP 174 := ⟨rfl, Or.inr ma_174, fun h => absurd h (by decide), fun _ => ⟨mb_174, md_174⟩, fun h => absurd h (by decide), me_174⟩
set_option maxRecDepth 1000000 in
theorem ma_175 : cwM 175 ∈ lw_tbl := kcD_180_in _ (List.mem_of_getElem? (i := 38) rfl)
set_option maxRecDepth 1000000 in
theorem mb_175 : Cond.instanceMethod (yM 175) ∈ lw_tbl := kiN_120_in _ (List.mem_of_getElem? (i := 43) rfl)
set_option maxRecDepth 1000000 in
theorem md_175 : Cond.selects (owM 175) (yM 175) (yM 175) ∈ lw_tbl := kxL_120_in _ (List.mem_of_getElem? (i := 37) rfl)
set_option maxRecDepth 1000000 in
theorem me_175 : (parseMethodDescriptor (yM 175).desc).map (fun d => d.parameters.length) = some (npM 175) := pd_5
theorem mt_175 : MtP 175 := ⟨rfl, Or.inr ma_175, fun h => absurd h (by decide), fun _ => ⟨mb_175, md_175⟩, fun h => absurd h (by decide), me_175⟩
set_option maxRecDepth 1000000 in
theorem ma_176 : cwM 176 ∈ lw_tbl := kcD_180_in _ (List.mem_of_getElem? (i := 39) rfl)
set_option maxRecDepth 1000000 in
theorem mb_176 : Cond.instanceMethod (yM 176) ∈ lw_tbl := kiN_120_in _ (List.mem_of_getElem? (i := 44) rfl)
set_option maxRecDepth 1000000 in
theorem md_176 : Cond.selects (owM 176) (yM 176) (yM 176) ∈ lw_tbl := kxL_120_in _ (List.mem_of_getElem? (i := 38) rfl)
set_option maxRecDepth 1000000 in
theorem me_176 : (parseMethodDescriptor (yM 176).desc).map (fun d => d.parameters.length) = some (npM 176) := pd_13
theorem mt_176 : MtP 176 := ⟨rfl, Or.inr ma_176, fun h => absurd h (by decide), fun _ => ⟨mb_176, md_176⟩, fun h => absurd h (by decide), me_176⟩
set_option maxRecDepth 1000000 in
theorem ma_177 : cwM 177 ∈ lw_tbl := kcD_180_in _ (List.mem_of_getElem? (i := 42) rfl)
set_option maxRecDepth 1000000 in
theorem mb_177 : Cond.instanceMethod (yM 177) ∈ lw_tbl := kiN_120_in _ (List.mem_of_getElem? (i := 47) rfl)
set_option maxRecDepth 1000000 in
theorem md_177 : Cond.selects (owM 177) (yM 177) (yM 177) ∈ lw_tbl := kxL_60_in _ (List.mem_of_getElem? (i := 16) rfl)
set_option maxRecDepth 1000000 in
theorem me_177 : (parseMethodDescriptor (yM 177).desc).map (fun d => d.parameters.length) = some (npM 177) := pd_12
theorem mt_177 : MtP 177 := ⟨rfl, Or.inr ma_177, fun h => absurd h (by decide), fun _ => ⟨mb_177, md_177⟩, fun h => absurd h (by decide), me_177⟩
set_option maxRecDepth 1000000 in
theorem ma_178 : cwM 178 ∈ lw_tbl := kcD_180_in _ (List.mem_of_getElem? (i := 41) rfl)
set_option maxRecDepth 1000000 in
theorem mb_178 : Cond.instanceMethod (yM 178) ∈ lw_tbl := kiN_120_in _ (List.mem_of_getElem? (i := 46) rfl)
set_option maxRecDepth 1000000 in
theorem md_178 : Cond.selects (owM 178) (yM 178) (yM 178) ∈ lw_tbl := kxL_60_in _ (List.mem_of_getElem? (i := 15) rfl)
set_option maxRecDepth 1000000 in
theorem me_178 : (parseMethodDescriptor (yM 178).desc).map (fun d => d.parameters.length) = some (npM 178) := pd_13
theorem mt_178 : MtP 178 := ⟨rfl, Or.inr ma_178, fun h => absurd h (by decide), fun _ => ⟨mb_178, md_178⟩, fun h => absurd h (by decide), me_178⟩
set_option maxRecDepth 1000000 in
theorem ma_179 : cwM 179 ∈ lw_tbl := kcD_180_in _ (List.mem_of_getElem? (i := 40) rfl)
set_option maxRecDepth 1000000 in
theorem mb_179 : Cond.instanceMethod (yM 179) ∈ lw_tbl := kiN_120_in _ (List.mem_of_getElem? (i := 45) rfl)
set_option maxRecDepth 1000000 in
theorem md_179 : Cond.selects (owM 179) (yM 179) (yM 179) ∈ lw_tbl := kxL_120_in _ (List.mem_of_getElem? (i := 39) rfl)
set_option maxRecDepth 1000000 in
theorem me_179 : (parseMethodDescriptor (yM 179).desc).map (fun d => d.parameters.length) = some (npM 179) := pd_13
theorem mt_179 : MtP 179 := ⟨rfl, Or.inr ma_179, fun h => absurd h (by decide), fun _ => ⟨mb_179, md_179⟩, fun h => absurd h (by decide), me_179⟩
set_option maxRecDepth 1000000 in
theorem ma_180 : cwM 180 ∈ lw_tbl := kcD_180_in _ (List.mem_of_getElem? (i := 43) rfl)
set_option maxRecDepth 1000000 in
theorem mb_180 : Cond.instanceMethod (yM 180) ∈ lw_tbl := kiN_120_in _ (List.mem_of_getElem? (i := 48) rfl)
set_option maxRecDepth 1000000 in
theorem md_180 : Cond.selects (owM 180) (yM 180) (yM 180) ∈ lw_tbl := kxL_120_in _ (List.mem_of_getElem? (i := 40) rfl)
set_option maxRecDepth 1000000 in
theorem me_180 : (parseMethodDescriptor (yM 180).desc).map (fun d => d.parameters.length) = some (npM 180) := pd_15
theorem mt_180 : MtP 180 := ⟨rfl, Or.inr ma_180, fun h => absurd h (by decide), fun _ => ⟨mb_180, md_180⟩, fun h => absurd h (by decide), me_180⟩
set_option maxRecDepth 1000000 in
theorem ma_181 : cwM 181 ∈ lw_tbl := kcD_180_in _ (List.mem_of_getElem? (i := 44) rfl)
set_option maxRecDepth 1000000 in
theorem mb_181 : Cond.instanceMethod (yM 181) ∈ lw_tbl := kiN_120_in _ (List.mem_of_getElem? (i := 49) rfl)
set_option maxRecDepth 1000000 in
theorem md_181 : Cond.selects (owM 181) (yM 181) (yM 181) ∈ lw_tbl := kxL_120_in _ (List.mem_of_getElem? (i := 41) rfl)
set_option maxRecDepth 1000000 in
theorem me_181 : (parseMethodDescriptor (yM 181).desc).map (fun d => d.parameters.length) = some (npM 181) := pd_5
theorem mt_181 : MtP 181 := ⟨rfl, Or.inr ma_181, fun h => absurd h (by decide), fun _ => ⟨mb_181, md_181⟩, fun h => absurd h (by decide), me_181⟩
set_option maxRecDepth 1000000 in
theorem ma_182 : cwM 182 ∈ lw_tbl := kcD_180_in _ (List.mem_of_getElem? (i := 45) rfl)
set_option maxRecDepth 1000000 in
theorem mb_182 : Cond.instanceMethod (yM 182) ∈ lw_tbl := kiN_120_in _ (List.mem_of_getElem? (i := 50) rfl)
set_option maxRecDepth 1000000 in
theorem md_182 : Cond.selects (owM 182) (yM 182) (yM 182) ∈ lw_tbl := kxL_120_in _ (List.mem_of_getElem? (i := 42) rfl)
set_option maxRecDepth 1000000 in
theorem me_182 : (parseMethodDescriptor (yM 182).desc).map (fun d => d.parameters.length) = some (npM 182) := pd_11
theorem mt_182 : MtP 182 := ⟨rfl, Or.inr ma_182, fun h => absurd h (by decide), fun _ => ⟨mb_182, md_182⟩, fun h => absurd h (by decide), me_182⟩
set_option maxRecDepth 1000000 in
theorem ma_183 : cwM 183 ∈ lw_tbl := kcD_180_in _ (List.mem_of_getElem? (i := 47) rfl)
set_option maxRecDepth 1000000 in
theorem mb_183 : Cond.instanceMethod (yM 183) ∈ lw_tbl := kiN_120_in _ (List.mem_of_getElem? (i := 52) rfl)
set_option maxRecDepth 1000000 in
theorem md_183 : Cond.selects (owM 183) (yM 183) (yM 183) ∈ lw_tbl := kxL_60_in _ (List.mem_of_getElem? (i := 17) rfl)
set_option maxRecDepth 1000000 in
theorem me_183 : (parseMethodDescriptor (yM 183).desc).map (fun d => d.parameters.length) = some (npM 183) := pd_25
theorem mt_183 : MtP 183 := ⟨rfl, Or.inr ma_183, fun h => absurd h (by decide), fun _ => ⟨mb_183, md_183⟩, fun h => absurd h (by decide), me_183⟩
set_option maxRecDepth 1000000 in
theorem ma_184 : cwM 184 ∈ lw_tbl := kcD_180_in _ (List.mem_of_getElem? (i := 46) rfl)
set_option maxRecDepth 1000000 in
theorem mb_184 : Cond.instanceMethod (yM 184) ∈ lw_tbl := kiN_120_in _ (List.mem_of_getElem? (i := 51) rfl)
set_option maxRecDepth 1000000 in
theorem md_184 : Cond.selects (owM 184) (yM 184) (yM 184) ∈ lw_tbl := kxL_120_in _ (List.mem_of_getElem? (i := 43) rfl)
set_option maxRecDepth 1000000 in
theorem me_184 : (parseMethodDescriptor (yM 184).desc).map (fun d => d.parameters.length) = some (npM 184) := pd_15
theorem mt_184 : MtP 184 := ⟨rfl, Or.inr ma_184, fun h => absurd h (by decide), fun _ => ⟨mb_184, md_184⟩, fun h => absurd h (by decide), me_184⟩
set_option maxRecDepth 1000000 in
theorem ma_185 : cwM 185 ∈ lw_tbl := kcD_180_in _ (List.mem_of_getElem? (i := 48) rfl)
set_option maxRecDepth 1000000 in
theorem mb_185 : Cond.instanceMethod (yM 185) ∈ lw_tbl := kiN_120_in _ (List.mem_of_getElem? (i := 53) rfl)
set_option maxRecDepth 1000000 in
theorem md_185 : Cond.selects (owM 185) (yM 185) (yM 185) ∈ lw_tbl := kxL_120_in _ (List.mem_of_getElem? (i := 44) rfl)
set_option maxRecDepth 1000000 in
theorem me_185 : (parseMethodDescriptor (yM 185).desc).map (fun d => d.parameters.length) = some (npM 185) := pd_15
theorem mt_185 : MtP 185 := ⟨rfl, Or.inr ma_185, fun h => absurd h (by decide), fun _ => ⟨mb_185, md_185⟩, fun h => absurd h (by decide), me_185⟩
set_option maxRecDepth 1000000 in
theorem ma_186 : cwM 186 ∈ lw_tbl := kcD_180_in _ (List.mem_of_getElem? (i := 49) rfl)
set_option maxRecDepth 1000000 in
theorem mb_186 : Cond.instanceMethod (yM 186) ∈ lw_tbl := kiN_120_in _ (List.mem_of_getElem? (i := 54) rfl)
set_option maxRecDepth 1000000 in
theorem md_186 : Cond.selects (owM 186) (yM 186) (yM 186) ∈ lw_tbl := kxL_120_in _ (List.mem_of_getElem? (i := 45) rfl)
set_option maxRecDepth 1000000 in
theorem me_186 : (parseMethodDescriptor (yM 186).desc).map (fun d => d.parameters.length) = some (npM 186) := pd_3
theorem mt_186 : MtP 186 := ⟨rfl, Or.inr ma_186, fun h => absurd h (by decide), fun _ => ⟨mb_186, md_186⟩, fun h => absurd h (by decide), me_186⟩
set_option maxRecDepth 1000000 in
theorem ma_187 : cwM 187 ∈ lw_tbl := kcD_180_in _ (List.mem_of_getElem? (i := 50) rfl)
set_option maxRecDepth 1000000 in
theorem mb_187 : Cond.instanceMethod (yM 187) ∈ lw_tbl := kiN_120_in _ (List.mem_of_getElem? (i := 55) rfl)
set_option maxRecDepth 1000000 in
theorem md_187 : Cond.selects (owM 187) (yM 187) (yM 187) ∈ lw_tbl := kxL_120_in _ (List.mem_of_getElem? (i := 46) rfl)
set_option maxRecDepth 1000000 in
theorem me_187 : (parseMethodDescriptor (yM 187).desc).map (fun d => d.parameters.length) = some (npM 187) := pd_15
theorem mt_187 : MtP 187 := ⟨rfl, Or.inr ma_187, fun h => absurd h (by decide), fun _ => ⟨mb_187, md_187⟩, fun h => absurd h (by decide), me_187⟩
set_option maxRecDepth 1000000 in
theorem ma_188 : cwM 188 ∈ lw_tbl := kcD_180_in _ (List.mem_of_getElem? (i := 51) rfl)
set_option maxRecDepth 1000000 in
theorem mb_188 : Cond.instanceMethod (yM 188) ∈ lw_tbl := kiN_120_in _ (List.mem_of_getElem? (i := 56) rfl)
set_option maxRecDepth 1000000 in
theorem md_188 : Cond.selects (owM 188) (yM 188) (yM 188) ∈ lw_tbl := kxL_120_in _ (List.mem_of_getElem? (i := 47) rfl)
set_option maxRecDepth 1000000 in
theorem me_188 : (parseMethodDescriptor (yM 188).desc).map (fun d => d.parameters.length) = some (npM 188) := pd_15
theorem mt_188 : MtP 188 := ⟨rfl, Or.inr ma_188, fun h => absurd h (by decide), fun _ => ⟨mb_188, md_188⟩, fun h => absurd h (by decide), me_188⟩
set_option maxRecDepth 1000000 in
theorem ma_189 : cwM 189 ∈ lw_tbl := kcD_180_in _ (List.mem_of_getElem? (i := 52) rfl)
set_option maxRecDepth 1000000 in
theorem mb_189 : Cond.instanceMethod (yM 189) ∈ lw_tbl := kiN_120_in _ (List.mem_of_getElem? (i := 57) rfl)
set_option maxRecDepth 1000000 in
theorem md_189 : Cond.selects (owM 189) (yM 189) (yM 189) ∈ lw_tbl := kxL_120_in _ (List.mem_of_getElem? (i := 48) rfl)
set_option maxRecDepth 1000000 in
theorem me_189 : (parseMethodDescriptor (yM 189).desc).map (fun d => d.parameters.length) = some (npM 189) := pd_15
theorem mt_189 : MtP 189 := ⟨rfl, Or.inr ma_189, fun h => absurd h (by decide), fun _ => ⟨mb_189, md_189⟩, fun h => absurd h (by decide), me_189⟩
set_option maxRecDepth 1000000 in
theorem ma_190 : cwM 190 ∈ lw_tbl := kcD_0_in _ (List.mem_of_getElem? (i := 24) rfl)
set_option maxRecDepth 1000000 in
theorem mb_190 : Cond.static (yM 190) ∈ lw_tbl := ksT_0_in _ (List.mem_of_getElem? (i := 1) rfl)
set_option maxRecDepth 1000000 in
theorem me_190 : (parseMethodDescriptor (yM 190).desc).map (fun d => d.parameters.length) = some (npM 190) := pd_26
theorem mt_190 : MtP 190 := ⟨rfl, Or.inr ma_190, fun _ => Or.inr mb_190, fun h => absurd h (by decide), fun h => absurd h (by decide), me_190⟩
set_option maxRecDepth 1000000 in
theorem ma_191 : cwM 191 ∈ lw_tbl := kcD_0_in _ (List.mem_of_getElem? (i := 56) rfl)
set_option maxRecDepth 1000000 in
theorem mb_191 : Cond.static (yM 191) ∈ lw_tbl := ksT_0_in _ (List.mem_of_getElem? (i := 11) rfl)
set_option maxRecDepth 1000000 in
theorem me_191 : (parseMethodDescriptor (yM 191).desc).map (fun d => d.parameters.length) = some (npM 191) := pd_27
theorem mt_191 : MtP 191 := ⟨rfl, Or.inr ma_191, fun _ => Or.inr mb_191, fun h => absurd h (by decide), fun h => absurd h (by decide), me_191⟩
set_option maxRecDepth 1000000 in
theorem ma_192 : cwM 192 ∈ lw_tbl := kcD_60_in _ (List.mem_of_getElem? (i := 1) rfl)
set_option maxRecDepth 1000000 in
theorem mb_192 : Cond.static (yM 192) ∈ lw_tbl := ksT_0_in _ (List.mem_of_getElem? (i := 12) rfl)
set_option maxRecDepth 1000000 in
theorem me_192 : (parseMethodDescriptor (yM 192).desc).map (fun d => d.parameters.length) = some (npM 192) := pd_28
theorem mt_192 : MtP 192 := ⟨rfl, Or.inr ma_192, fun _ => Or.inr mb_192, fun h => absurd h (by decide), fun h => absurd h (by decide), me_192⟩
set_option maxRecDepth 1000000 in
theorem ma_193 : cwM 193 ∈ lw_tbl := kcD_60_in _ (List.mem_of_getElem? (i := 5) rfl)
set_option maxRecDepth 1000000 in
theorem mb_193 : Cond.static (yM 193) ∈ lw_tbl := ksT_0_in _ (List.mem_of_getElem? (i := 13) rfl)
set_option maxRecDepth 1000000 in
theorem me_193 : (parseMethodDescriptor (yM 193).desc).map (fun d => d.parameters.length) = some (npM 193) := pd_29
theorem mt_193 : MtP 193 := ⟨rfl, Or.inr ma_193, fun _ => Or.inr mb_193, fun h => absurd h (by decide), fun h => absurd h (by decide), me_193⟩
set_option maxRecDepth 1000000 in
theorem ma_194 : cwM 194 ∈ lw_tbl := kcD_60_in _ (List.mem_of_getElem? (i := 8) rfl)
set_option maxRecDepth 1000000 in
theorem mb_194 : Cond.static (yM 194) ∈ lw_tbl := ksT_0_in _ (List.mem_of_getElem? (i := 14) rfl)
set_option maxRecDepth 1000000 in
theorem me_194 : (parseMethodDescriptor (yM 194).desc).map (fun d => d.parameters.length) = some (npM 194) := pd_29
theorem mt_194 : MtP 194 := ⟨rfl, Or.inr ma_194, fun _ => Or.inr mb_194, fun h => absurd h (by decide), fun h => absurd h (by decide), me_194⟩
set_option maxRecDepth 1000000 in
theorem ma_195 : cwM 195 ∈ lw_tbl := kcD_60_in _ (List.mem_of_getElem? (i := 14) rfl)
set_option maxRecDepth 1000000 in
theorem mb_195 : Cond.static (yM 195) ∈ lw_tbl := ksT_0_in _ (List.mem_of_getElem? (i := 19) rfl)
set_option maxRecDepth 1000000 in
theorem me_195 : (parseMethodDescriptor (yM 195).desc).map (fun d => d.parameters.length) = some (npM 195) := pd_28
theorem mt_195 : MtP 195 := ⟨rfl, Or.inr ma_195, fun _ => Or.inr mb_195, fun h => absurd h (by decide), fun h => absurd h (by decide), me_195⟩
set_option maxRecDepth 1000000 in
theorem ma_196 : cwM 196 ∈ lw_tbl := kcD_60_in _ (List.mem_of_getElem? (i := 16) rfl)
set_option maxRecDepth 1000000 in
theorem mb_196 : Cond.static (yM 196) ∈ lw_tbl := ksT_0_in _ (List.mem_of_getElem? (i := 20) rfl)
set_option maxRecDepth 1000000 in
theorem me_196 : (parseMethodDescriptor (yM 196).desc).map (fun d => d.parameters.length) = some (npM 196) := pd_28
theorem mt_196 : MtP 196 := ⟨rfl, Or.inr ma_196, fun _ => Or.inr mb_196, fun h => absurd h (by decide), fun h => absurd h (by decide), me_196⟩
set_option maxRecDepth 1000000 in
theorem ma_197 : cwM 197 ∈ lw_tbl := kcD_60_in _ (List.mem_of_getElem? (i := 18) rfl)
set_option maxRecDepth 1000000 in
theorem mb_197 : Cond.static (yM 197) ∈ lw_tbl := ksT_0_in _ (List.mem_of_getElem? (i := 21) rfl)
set_option maxRecDepth 1000000 in
theorem me_197 : (parseMethodDescriptor (yM 197).desc).map (fun d => d.parameters.length) = some (npM 197) := pd_30
theorem mt_197 : MtP 197 := ⟨rfl, Or.inr ma_197, fun _ => Or.inr mb_197, fun h => absurd h (by decide), fun h => absurd h (by decide), me_197⟩
set_option maxRecDepth 1000000 in
theorem ma_198 : cwM 198 ∈ lw_tbl := kcD_60_in _ (List.mem_of_getElem? (i := 21) rfl)
set_option maxRecDepth 1000000 in
theorem mb_198 : Cond.static (yM 198) ∈ lw_tbl := ksT_0_in _ (List.mem_of_getElem? (i := 22) rfl)
set_option maxRecDepth 1000000 in
theorem me_198 : (parseMethodDescriptor (yM 198).desc).map (fun d => d.parameters.length) = some (npM 198) := pd_31
theorem mt_198 : MtP 198 := ⟨rfl, Or.inr ma_198, fun _ => Or.inr mb_198, fun h => absurd h (by decide), fun h => absurd h (by decide), me_198⟩
set_option maxRecDepth 1000000 in
theorem ma_199 : cwM 199 ∈ lw_tbl := kcD_60_in _ (List.mem_of_getElem? (i := 27) rfl)
set_option maxRecDepth 1000000 in
theorem mb_199 : Cond.static (yM 199) ∈ lw_tbl := ksT_0_in _ (List.mem_of_getElem? (i := 23) rfl)
set_option maxRecDepth 1000000 in
theorem me_199 : (parseMethodDescriptor (yM 199).desc).map (fun d => d.parameters.length) = some (npM 199) := pd_31
theorem mt_199 : MtP 199 := ⟨rfl, Or.inr ma_199, fun _ => Or.inr mb_199, fun h => absurd h (by decide), fun h => absurd h (by decide), me_199⟩
set_option maxRecDepth 1000000 in
theorem ma_200 : cwM 200 ∈ lw_tbl := kcD_60_in _ (List.mem_of_getElem? (i := 29) rfl)
set_option maxRecDepth 1000000 in
theorem mb_200 : Cond.static (yM 200) ∈ lw_tbl := ksT_0_in _ (List.mem_of_getElem? (i := 24) rfl)
set_option maxRecDepth 1000000 in
theorem me_200 : (parseMethodDescriptor (yM 200).desc).map (fun d => d.parameters.length) = some (npM 200) := pd_32
theorem mt_200 : MtP 200 := ⟨rfl, Or.inr ma_200, fun _ => Or.inr mb_200, fun h => absurd h (by decide), fun h => absurd h (by decide), me_200⟩
set_option maxRecDepth 1000000 in
theorem ma_201 : cwM 201 ∈ lw_tbl := kcD_60_in _ (List.mem_of_getElem? (i := 32) rfl)
set_option maxRecDepth 1000000 in
theorem mb_201 : Cond.static (yM 201) ∈ lw_tbl := ksT_0_in _ (List.mem_of_getElem? (i := 25) rfl)
set_option maxRecDepth 1000000 in
theorem me_201 : (parseMethodDescriptor (yM 201).desc).map (fun d => d.parameters.length) = some (npM 201) := pd_32
theorem mt_201 : MtP 201 := ⟨rfl, Or.inr ma_201, fun _ => Or.inr mb_201, fun h => absurd h (by decide), fun h => absurd h (by decide), me_201⟩
set_option maxRecDepth 1000000 in
theorem ma_202 : cwM 202 ∈ lw_tbl := kcD_60_in _ (List.mem_of_getElem? (i := 34) rfl)
set_option maxRecDepth 1000000 in
theorem mb_202 : Cond.static (yM 202) ∈ lw_tbl := ksT_0_in _ (List.mem_of_getElem? (i := 26) rfl)
set_option maxRecDepth 1000000 in
theorem me_202 : (parseMethodDescriptor (yM 202).desc).map (fun d => d.parameters.length) = some (npM 202) := pd_31
theorem mt_202 : MtP 202 := ⟨rfl, Or.inr ma_202, fun _ => Or.inr mb_202, fun h => absurd h (by decide), fun h => absurd h (by decide), me_202⟩
set_option maxRecDepth 1000000 in
theorem ma_203 : cwM 203 ∈ lw_tbl := kcD_60_in _ (List.mem_of_getElem? (i := 37) rfl)
set_option maxRecDepth 1000000 in
theorem mb_203 : Cond.static (yM 203) ∈ lw_tbl := ksT_0_in _ (List.mem_of_getElem? (i := 28) rfl)
set_option maxRecDepth 1000000 in
theorem me_203 : (parseMethodDescriptor (yM 203).desc).map (fun d => d.parameters.length) = some (npM 203) := pd_31
theorem mt_203 : MtP 203 := ⟨rfl, Or.inr ma_203, fun _ => Or.inr mb_203, fun h => absurd h (by decide), fun h => absurd h (by decide), me_203⟩
set_option maxRecDepth 1000000 in
theorem ma_204 : cwM 204 ∈ lw_tbl := kcD_60_in _ (List.mem_of_getElem? (i := 39) rfl)
set_option maxRecDepth 1000000 in
theorem mb_204 : Cond.static (yM 204) ∈ lw_tbl := ksT_0_in _ (List.mem_of_getElem? (i := 29) rfl)
set_option maxRecDepth 1000000 in
theorem me_204 : (parseMethodDescriptor (yM 204).desc).map (fun d => d.parameters.length) = some (npM 204) := pd_28
theorem mt_204 : MtP 204 := ⟨rfl, Or.inr ma_204, fun _ => Or.inr mb_204, fun h => absurd h (by decide), fun h => absurd h (by decide), me_204⟩
set_option maxRecDepth 1000000 in
theorem ma_205 : cwM 205 ∈ lw_tbl := kcD_60_in _ (List.mem_of_getElem? (i := 41) rfl)
set_option maxRecDepth 1000000 in
theorem mb_205 : Cond.static (yM 205) ∈ lw_tbl := ksT_0_in _ (List.mem_of_getElem? (i := 30) rfl)
set_option maxRecDepth 1000000 in
theorem me_205 : (parseMethodDescriptor (yM 205).desc).map (fun d => d.parameters.length) = some (npM 205) := pd_28
theorem mt_205 : MtP 205 := ⟨rfl, Or.inr ma_205, fun _ => Or.inr mb_205, fun h => absurd h (by decide), fun h => absurd h (by decide), me_205⟩
set_option maxRecDepth 1000000 in
theorem ma_206 : cwM 206 ∈ lw_tbl := kcD_60_in _ (List.mem_of_getElem? (i := 45) rfl)
set_option maxRecDepth 1000000 in
theorem mb_206 : Cond.static (yM 206) ∈ lw_tbl := ksT_0_in _ (List.mem_of_getElem? (i := 31) rfl)
set_option maxRecDepth 1000000 in
theorem me_206 : (parseMethodDescriptor (yM 206).desc).map (fun d => d.parameters.length) = some (npM 206) := pd_28
theorem mt_206 : MtP 206 := ⟨rfl, Or.inr ma_206, fun _ => Or.inr mb_206, fun h => absurd h (by decide), fun h => absurd h (by decide), me_206⟩
set_option maxRecDepth 1000000 in
theorem ma_207 : cwM 207 ∈ lw_tbl := kcD_60_in _ (List.mem_of_getElem? (i := 47) rfl)
set_option maxRecDepth 1000000 in
theorem mb_207 : Cond.static (yM 207) ∈ lw_tbl := ksT_0_in _ (List.mem_of_getElem? (i := 32) rfl)
set_option maxRecDepth 1000000 in
theorem me_207 : (parseMethodDescriptor (yM 207).desc).map (fun d => d.parameters.length) = some (npM 207) := pd_28
theorem mt_207 : MtP 207 := ⟨rfl, Or.inr ma_207, fun _ => Or.inr mb_207, fun h => absurd h (by decide), fun h => absurd h (by decide), me_207⟩
set_option maxRecDepth 1000000 in
theorem ma_208 : cwM 208 ∈ lw_tbl := kcD_60_in _ (List.mem_of_getElem? (i := 49) rfl)
set_option maxRecDepth 1000000 in
theorem mb_208 : Cond.static (yM 208) ∈ lw_tbl := ksT_0_in _ (List.mem_of_getElem? (i := 33) rfl)
set_option maxRecDepth 1000000 in
theorem me_208 : (parseMethodDescriptor (yM 208).desc).map (fun d => d.parameters.length) = some (npM 208) := pd_28
theorem mt_208 : MtP 208 := ⟨rfl, Or.inr ma_208, fun _ => Or.inr mb_208, fun h => absurd h (by decide), fun h => absurd h (by decide), me_208⟩
set_option maxRecDepth 1000000 in
theorem ma_209 : cwM 209 ∈ lw_tbl := kcD_60_in _ (List.mem_of_getElem? (i := 51) rfl)
set_option maxRecDepth 1000000 in
theorem mb_209 : Cond.static (yM 209) ∈ lw_tbl := ksT_0_in _ (List.mem_of_getElem? (i := 34) rfl)
set_option maxRecDepth 1000000 in
theorem me_209 : (parseMethodDescriptor (yM 209).desc).map (fun d => d.parameters.length) = some (npM 209) := pd_28
theorem mt_209 : MtP 209 := ⟨rfl, Or.inr ma_209, fun _ => Or.inr mb_209, fun h => absurd h (by decide), fun h => absurd h (by decide), me_209⟩
set_option maxRecDepth 1000000 in
theorem ma_210 : cwM 210 ∈ lw_tbl := kcD_60_in _ (List.mem_of_getElem? (i := 54) rfl)
set_option maxRecDepth 1000000 in
theorem mb_210 : Cond.static (yM 210) ∈ lw_tbl := ksT_0_in _ (List.mem_of_getElem? (i := 36) rfl)
set_option maxRecDepth 1000000 in
theorem me_210 : (parseMethodDescriptor (yM 210).desc).map (fun d => d.parameters.length) = some (npM 210) := pd_28
theorem mt_210 : MtP 210 := ⟨rfl, Or.inr ma_210, fun _ => Or.inr mb_210, fun h => absurd h (by decide), fun h => absurd h (by decide), me_210⟩
set_option maxRecDepth 1000000 in
theorem ma_211 : cwM 211 ∈ lw_tbl := kcD_60_in _ (List.mem_of_getElem? (i := 58) rfl)
set_option maxRecDepth 1000000 in
theorem mb_211 : Cond.static (yM 211) ∈ lw_tbl := ksT_0_in _ (List.mem_of_getElem? (i := 38) rfl)
set_option maxRecDepth 1000000 in
theorem me_211 : (parseMethodDescriptor (yM 211).desc).map (fun d => d.parameters.length) = some (npM 211) := pd_31
theorem mt_211 : MtP 211 := ⟨rfl, Or.inr ma_211, fun _ => Or.inr mb_211, fun h => absurd h (by decide), fun h => absurd h (by decide), me_211⟩
set_option maxRecDepth 1000000 in
theorem ma_212 : cwM 212 ∈ lw_tbl := kcD_120_in _ (List.mem_of_getElem? (i := 0) rfl)
set_option maxRecDepth 1000000 in
theorem mb_212 : Cond.static (yM 212) ∈ lw_tbl := ksT_0_in _ (List.mem_of_getElem? (i := 39) rfl)
set_option maxRecDepth 1000000 in
theorem me_212 : (parseMethodDescriptor (yM 212).desc).map (fun d => d.parameters.length) = some (npM 212) := pd_31
theorem mt_212 : MtP 212 := ⟨rfl, Or.inr ma_212, fun _ => Or.inr mb_212, fun h => absurd h (by decide), fun h => absurd h (by decide), me_212⟩
set_option maxRecDepth 1000000 in
theorem ma_213 : cwM 213 ∈ lw_tbl := kcD_120_in _ (List.mem_of_getElem? (i := 4) rfl)
set_option maxRecDepth 1000000 in
theorem mb_213 : Cond.static (yM 213) ∈ lw_tbl := ksT_0_in _ (List.mem_of_getElem? (i := 41) rfl)
set_option maxRecDepth 1000000 in
theorem me_213 : (parseMethodDescriptor (yM 213).desc).map (fun d => d.parameters.length) = some (npM 213) := pd_28
theorem mt_213 : MtP 213 := ⟨rfl, Or.inr ma_213, fun _ => Or.inr mb_213, fun h => absurd h (by decide), fun h => absurd h (by decide), me_213⟩
set_option maxRecDepth 1000000 in
theorem ma_214 : cwM 214 ∈ lw_tbl := kcD_120_in _ (List.mem_of_getElem? (i := 6) rfl)
set_option maxRecDepth 1000000 in
theorem mb_214 : Cond.static (yM 214) ∈ lw_tbl := ksT_0_in _ (List.mem_of_getElem? (i := 42) rfl)
set_option maxRecDepth 1000000 in
theorem me_214 : (parseMethodDescriptor (yM 214).desc).map (fun d => d.parameters.length) = some (npM 214) := pd_28
theorem mt_214 : MtP 214 := ⟨rfl, Or.inr ma_214, fun _ => Or.inr mb_214, fun h => absurd h (by decide), fun h => absurd h (by decide), me_214⟩
set_option maxRecDepth 1000000 in
theorem ma_215 : cwM 215 ∈ lw_tbl := kcD_120_in _ (List.mem_of_getElem? (i := 8) rfl)
set_option maxRecDepth 1000000 in
theorem mb_215 : Cond.static (yM 215) ∈ lw_tbl := ksT_0_in _ (List.mem_of_getElem? (i := 43) rfl)
set_option maxRecDepth 1000000 in
theorem me_215 : (parseMethodDescriptor (yM 215).desc).map (fun d => d.parameters.length) = some (npM 215) := pd_28
theorem mt_215 : MtP 215 := ⟨rfl, Or.inr ma_215, fun _ => Or.inr mb_215, fun h => absurd h (by decide), fun h => absurd h (by decide), me_215⟩
set_option maxRecDepth 1000000 in
theorem ma_216 : cwM 216 ∈ lw_tbl := kcD_120_in _ (List.mem_of_getElem? (i := 10) rfl)
set_option maxRecDepth 1000000 in
theorem mb_216 : Cond.static (yM 216) ∈ lw_tbl := ksT_0_in _ (List.mem_of_getElem? (i := 44) rfl)
set_option maxRecDepth 1000000 in
theorem me_216 : (parseMethodDescriptor (yM 216).desc).map (fun d => d.parameters.length) = some (npM 216) := pd_31
theorem mt_216 : MtP 216 := ⟨rfl, Or.inr ma_216, fun _ => Or.inr mb_216, fun h => absurd h (by decide), fun h => absurd h (by decide), me_216⟩
set_option maxRecDepth 1000000 in
theorem ma_217 : cwM 217 ∈ lw_tbl := kcD_120_in _ (List.mem_of_getElem? (i := 13) rfl)
set_option maxRecDepth 1000000 in
theorem mb_217 : Cond.static (yM 217) ∈ lw_tbl := ksT_0_in _ (List.mem_of_getElem? (i := 45) rfl)
set_option maxRecDepth 1000000 in
theorem me_217 : (parseMethodDescriptor (yM 217).desc).map (fun d => d.parameters.length) = some (npM 217) := pd_31
theorem mt_217 : MtP 217 := ⟨rfl, Or.inr ma_217, fun _ => Or.inr mb_217, fun h => absurd h (by decide), fun h => absurd h (by decide), me_217⟩
set_option maxRecDepth 1000000 in
theorem ma_218 : cwM 218 ∈ lw_tbl := kcD_120_in _ (List.mem_of_getElem? (i := 16) rfl)
set_option maxRecDepth 1000000 in
theorem mb_218 : Cond.static (yM 218) ∈ lw_tbl := ksT_0_in _ (List.mem_of_getElem? (i := 46) rfl)
set_option maxRecDepth 1000000 in
theorem me_218 : (parseMethodDescriptor (yM 218).desc).map (fun d => d.parameters.length) = some (npM 218) := pd_27
theorem mt_218 : MtP 218 := ⟨rfl, Or.inr ma_218, fun _ => Or.inr mb_218, fun h => absurd h (by decide), fun h => absurd h (by decide), me_218⟩
set_option maxRecDepth 1000000 in
theorem ma_219 : cwM 219 ∈ lw_tbl := kcD_120_in _ (List.mem_of_getElem? (i := 18) rfl)
set_option maxRecDepth 1000000 in
theorem mb_219 : Cond.static (yM 219) ∈ lw_tbl := ksT_0_in _ (List.mem_of_getElem? (i := 47) rfl)
set_option maxRecDepth 1000000 in
theorem me_219 : (parseMethodDescriptor (yM 219).desc).map (fun d => d.parameters.length) = some (npM 219) := pd_27
theorem mt_219 : MtP 219 := ⟨rfl, Or.inr ma_219, fun _ => Or.inr mb_219, fun h => absurd h (by decide), fun h => absurd h (by decide), me_219⟩
set_option maxRecDepth 1000000 in
theorem ma_220 : cwM 220 ∈ lw_tbl := kcD_120_in _ (List.mem_of_getElem? (i := 20) rfl)
set_option maxRecDepth 1000000 in
theorem mb_220 : Cond.static (yM 220) ∈ lw_tbl := ksT_0_in _ (List.mem_of_getElem? (i := 48) rfl)
set_option maxRecDepth 1000000 in
theorem me_220 : (parseMethodDescriptor (yM 220).desc).map (fun d => d.parameters.length) = some (npM 220) := pd_31
theorem mt_220 : MtP 220 := ⟨rfl, Or.inr ma_220, fun _ => Or.inr mb_220, fun h => absurd h (by decide), fun h => absurd h (by decide), me_220⟩
set_option maxRecDepth 1000000 in
theorem ma_221 : cwM 221 ∈ lw_tbl := kcD_120_in _ (List.mem_of_getElem? (i := 22) rfl)
set_option maxRecDepth 1000000 in
theorem mb_221 : Cond.static (yM 221) ∈ lw_tbl := ksT_0_in _ (List.mem_of_getElem? (i := 49) rfl)
set_option maxRecDepth 1000000 in
theorem me_221 : (parseMethodDescriptor (yM 221).desc).map (fun d => d.parameters.length) = some (npM 221) := pd_31
theorem mt_221 : MtP 221 := ⟨rfl, Or.inr ma_221, fun _ => Or.inr mb_221, fun h => absurd h (by decide), fun h => absurd h (by decide), me_221⟩
set_option maxRecDepth 1000000 in
theorem ma_222 : cwM 222 ∈ lw_tbl := kcD_120_in _ (List.mem_of_getElem? (i := 24) rfl)
set_option maxRecDepth 1000000 in
theorem mb_222 : Cond.static (yM 222) ∈ lw_tbl := ksT_0_in _ (List.mem_of_getElem? (i := 50) rfl)
set_option maxRecDepth 1000000 in
theorem me_222 : (parseMethodDescriptor (yM 222).desc).map (fun d => d.parameters.length) = some (npM 222) := pd_28
theorem mt_222 : MtP 222 := ⟨rfl, Or.inr ma_222, fun _ => Or.inr mb_222, fun h => absurd h (by decide), fun h => absurd h (by decide), me_222⟩
set_option maxRecDepth 1000000 in
theorem me_223 : (parseMethodDescriptor (yM 223).desc).map (fun d => d.parameters.length) = some (npM 223) := pd_33
theorem mt_223 : MtP 223 := ⟨rfl, Or.inl rfl, fun _ => Or.inl rfl, fun h => absurd h (by decide), fun h => absurd h (by decide), me_223⟩
theorem mt_all : ∀ k, 0 ≤ k → k < 224 → MtP k := (bt (bt (bt (bt (bt (bt (bt (b1 mt_0) (bt (b1 mt_1) (b1 mt_2))) (bt (bt (b1 mt_3) (b1 mt_4)) (bt (b1 mt_5) (b1 mt_6)))) (bt (bt (b1 mt_7) (bt (b1 mt_8) (b1 mt_9))) (bt (bt (b1 mt_10) (b1 mt_11)) (bt (b1 mt_12) (b1 mt_13))))) (bt (bt (bt (b1 mt_14) (bt (b1 mt_15) (b1 mt_16))) (bt (bt (b1 mt_17) (b1 mt_18)) (bt (b1 mt_19) (b1 mt_20)))) (bt (bt (b1 mt_21) (bt (b1 mt_22) (b1 mt_23))) (bt (bt (b1 mt_24) (b1 mt_25)) (bt (b1 mt_26) (b1 mt_27)))))) (bt (bt (bt (bt (b1 mt_28) (bt (b1 mt_29) (b1 mt_30))) (bt (bt (b1 mt_31) (b1 mt_32)) (bt (b1 mt_33) (b1 mt_34)))) (bt (bt (b1 mt_35) (bt (b1 mt_36) (b1 mt_37))) (bt (bt (b1 mt_38) (b1 mt_39)) (bt (b1 mt_40) (b1 mt_41))))) (bt (bt (bt (b1 mt_42) (bt (b1 mt_43) (b1 mt_44))) (bt (bt (b1 mt_45) (b1 mt_46)) (bt (b1 mt_47) (b1 mt_48)))) (bt (bt (b1 mt_49) (bt (b1 mt_50) (b1 mt_51))) (bt (bt (b1 mt_52) (b1 mt_53)) (bt (b1 mt_54) (b1 mt_55))))))) (bt (bt (bt (bt (bt (b1 mt_56) (bt (b1 mt_57) (b1 mt_58))) (bt (bt (b1 mt_59) (b1 mt_60)) (bt (b1 mt_61) (b1 mt_62)))) (bt (bt (b1 mt_63) (bt (b1 mt_64) (b1 mt_65))) (bt (bt (b1 mt_66) (b1 mt_67)) (bt (b1 mt_68) (b1 mt_69))))) (bt (bt (bt (b1 mt_70) (bt (b1 mt_71) (b1 mt_72))) (bt (bt (b1 mt_73) (b1 mt_74)) (bt (b1 mt_75) (b1 mt_76)))) (bt (bt (b1 mt_77) (bt (b1 mt_78) (b1 mt_79))) (bt (bt (b1 mt_80) (b1 mt_81)) (bt (b1 mt_82) (b1 mt_83)))))) (bt (bt (bt (bt (b1 mt_84) (bt (b1 mt_85) (b1 mt_86))) (bt (bt (b1 mt_87) (b1 mt_88)) (bt (b1 mt_89) (b1 mt_90)))) (bt (bt (b1 mt_91) (bt (b1 mt_92) (b1 mt_93))) (bt (bt (b1 mt_94) (b1 mt_95)) (bt (b1 mt_96) (b1 mt_97))))) (bt (bt (bt (b1 mt_98) (bt (b1 mt_99) (b1 mt_100))) (bt (bt (b1 mt_101) (b1 mt_102)) (bt (b1 mt_103) (b1 mt_104)))) (bt (bt (b1 mt_105) (bt (b1 mt_106) (b1 mt_107))) (bt (bt (b1 mt_108) (b1 mt_109)) (bt (b1 mt_110) (b1 mt_111)))))))) (bt (bt (bt (bt (bt (bt (b1 mt_112) (bt (b1 mt_113) (b1 mt_114))) (bt (bt (b1 mt_115) (b1 mt_116)) (bt (b1 mt_117) (b1 mt_118)))) (bt (bt (b1 mt_119) (bt (b1 mt_120) (b1 mt_121))) (bt (bt (b1 mt_122) (b1 mt_123)) (bt (b1 mt_124) (b1 mt_125))))) (bt (bt (bt (b1 mt_126) (bt (b1 mt_127) (b1 mt_128))) (bt (bt (b1 mt_129) (b1 mt_130)) (bt (b1 mt_131) (b1 mt_132)))) (bt (bt (b1 mt_133) (bt (b1 mt_134) (b1 mt_135))) (bt (bt (b1 mt_136) (b1 mt_137)) (bt (b1 mt_138) (b1 mt_139)))))) (bt (bt (bt (bt (b1 mt_140) (bt (b1 mt_141) (b1 mt_142))) (bt (bt (b1 mt_143) (b1 mt_144)) (bt (b1 mt_145) (b1 mt_146)))) (bt (bt (b1 mt_147) (bt (b1 mt_148) (b1 mt_149))) (bt (bt (b1 mt_150) (b1 mt_151)) (bt (b1 mt_152) (b1 mt_153))))) (bt (bt (bt (b1 mt_154) (bt (b1 mt_155) (b1 mt_156))) (bt (bt (b1 mt_157) (b1 mt_158)) (bt (b1 mt_159) (b1 mt_160)))) (bt (bt (b1 mt_161) (bt (b1 mt_162) (b1 mt_163))) (bt (bt (b1 mt_164) (b1 mt_165)) (bt (b1 mt_166) (b1 mt_167))))))) (bt (bt (bt (bt (bt (b1 mt_168) (bt (b1 mt_169) (b1 mt_170))) (bt (bt (b1 mt_171) (b1 mt_172)) (bt (b1 mt_173) (b1 mt_174)))) (bt (bt (b1 mt_175) (bt (b1 mt_176) (b1 mt_177))) (bt (bt (b1 mt_178) (b1 mt_179)) (bt (b1 mt_180) (b1 mt_181))))) (bt (bt (bt (b1 mt_182) (bt (b1 mt_183) (b1 mt_184))) (bt (bt (b1 mt_185) (b1 mt_186)) (bt (b1 mt_187) (b1 mt_188)))) (bt (bt (b1 mt_189) (bt (b1 mt_190) (b1 mt_191))) (bt (bt (b1 mt_192) (b1 mt_193)) (bt (b1 mt_194) (b1 mt_195)))))) (bt (bt (bt (bt (b1 mt_196) (bt (b1 mt_197) (b1 mt_198))) (bt (bt (b1 mt_199) (b1 mt_200)) (bt (b1 mt_201) (b1 mt_202)))) (bt (bt (b1 mt_203) (bt (b1 mt_204) (b1 mt_205))) (bt (bt (b1 mt_206) (b1 mt_207)) (bt (b1 mt_208) (b1 mt_209))))) (bt (bt (bt (b1 mt_210) (bt (b1 mt_211) (b1 mt_212))) (bt (bt (b1 mt_213) (b1 mt_214)) (bt (b1 mt_215) (b1 mt_216)))) (bt (bt (b1 mt_217) (bt (b1 mt_218) (b1 mt_219))) (bt (bt (b1 mt_220) (b1 mt_221)) (bt (b1 mt_222) (b1 mt_223)))))))))
end
section
/-! The bytecode does what the small machine does: one instruction. -/
def vkM (n : Nat) : Value → Bool
  | .int _ => true
  | .long _ => true
  | .ref u => decide (u < n)
  | _ => false
def LoM (n : Nat) (ad : Nat → Nat) (la : List (Option Value)) (ls : Array Slot) (nL : Nat) : Prop :=
  ∃ lv, lv_has ls nL lv ∧ (∀ q ∈ lv, q.2.category = 1) ∧ ∀ (i : Nat) (v : Value), la[i]? = some (some v) → (i, vaM ad v) ∈ lv ∧ vkM n v = true
def SkM (n : Nat) (ad : Nat → Nat) (sa st : List Value) : Prop := st = sa.map (vaM ad) ∧ ∀ v ∈ sa, vkM n v = true
def AcM (G : GlM) (l : Launch) (k : Nat) (p : Program) (R : Room) (s : State) (m : MethodId) (args : Array Value) (meth : Method) (c : Code) : Prop :=
  (p.tables.exec = Jvm.exec ∧ c.code = byM k ∧ c.maxLocals = mxM k ∧ meth.sig.returnType = rtM k ∧ meth.locks = false ∧ meth.name = (yM k).name ∧ s.vm.findClass (owM k) = some m.cls) ∧
  (∀ w ∈ lw_tbl, goodWord w = true → w.before args s = true) ∧ EvG G s ∧ c.exceptionTable.toList = tableOf (rwM k) ∧ l.stackTraces = false ∧ (nfM k ≤ R.frames ∧ nlM k ≤ R.locals ∧ ncM k ≤ R.cells ∧ nsM k ≤ R.slots)
def ReM (k pc : Nat) : Option Value → Prop
  | none => decode (byM k) pc = .ok (.return_, 1) ∧ rtM k = none
  | some (.int x) => decode (byM k) pc = .ok (.ireturn, 1) ∧ (rtM k = some .int ∨ (rtM k = some .boolean ∧ (x = 0 ∨ x = 1)))
  | some (.ref _) => decode (byM k) pc = .ok (.areturn, 1) ∧ rtM k = some (.array .int)
  | _ => False
def voM (n : Nat) : Option Value → Prop
  | some v => vkM n v = true
  | none => True
section SX
variable (G : GlM) (l : Launch) (k : Nat) (p : Program) (e : Env) (R : Room) (s : State) (m : MethodId) (args : Array Value) (below : List Frame) (meth : Method) (c : Code)
def XiM (ad : Nat → Nat) (n0 : Nat) (o : OutM) (Q : State → Prop) : Prop :=
  match o with
  | (.inl v, σ') => ∀ (ad' : Nat → Nat) (H' : Heap) (locs' : List Loc) (kc ks pc : Nat) (ls : Array Slot), (∀ u, u < n0 → ad' u = ad u) → n0 ≤ nxM σ' → RpM G ad' σ' H' → va_S (gU G) s.heap H' locs' → kc ≤ ncM k → ks ≤ nsM k → ReM k pc v → voM (nxM σ') v →
      W p l e R s m args below meth c H' locs' kc ks Q (F0 m pc ls (v.map (vaM ad')).toList)
  | (.inr E, σ') => hsM k = [] →
      (∀ (ad' : Nat → Nat) (H' : Heap) (locs' : List Loc) (kc ks pc : Nat) (ls : Array Slot) (st : List Value) (ic : IcM) (x : Nat), (∀ u, u < n0 → ad' u = ad u) → n0 ≤ nxM σ' → RpM G ad' σ' H' → va_S (gU G) s.heap H' locs' → ls.size = mxM k → okM k pc ic = true → ic.1 = .new x → gaM ic.2.2.1 0 = E → E ≠ 0 →
        (st.map fun v => v.category).sum ≤ 8 → kc + 1 ≤ ncM k → ks + 6 ≤ nsM k → W p l e R s m args below meth c H' locs' kc ks Q (F0 m pc ls st)) ∧
      (∀ (ad' : Nat → Nat) (H' : Heap) (locs' : List Loc) (kc ks pc : Nat) (ls : Array Slot) (rest : List Value) (q : Addr) (ce : Cell), (∀ u, u < n0 → ad' u = ad u) → n0 ≤ nxM σ' → RpM G ad' σ' H' → va_S (gU G) s.heap H' locs' → kc ≤ ncM k → ks ≤ nsM k → H'[q]? = some ce → ce.vm = .none → s.vm.findClass (exM E) = some ce.cls →
        vx_W p l e R s m args below meth c H' locs' kc ks Q (F0 m pc ls rest) q)
end SX
/-- from a frame of the small machine: the bytecode's frame comes to the same end -/
def WsM (G : GlM) (l : Launch) (k : Nat) (fr : FrM) (σ : Mem) (o : OutM) : Prop :=
  ∀ (p : Program) (e : Env) (R : Room) (s : State) (m : MethodId) (args : Array Value) (below : List Frame) (meth : Method) (c : Code) (ad : Nat → Nat) (H : Heap) (locs : List Loc) (Q : State → Prop) (ls : Array Slot) (st : List Value),
    AcM G l k p R s m args meth c → RpM G ad σ H → va_S (gU G) s.heap H locs → LoM (nxM σ) ad fr.2.1 ls (mxM k) → SkM (nxM σ) ad fr.2.2.1 st → XiM G l k p e R s m args below meth c ad (nxM σ) o Q →
      W p l e R s m args below meth c H locs fr.2.2.2.1 fr.2.2.2.2 Q (F0 m fr.1 ls st)
theorem Xi_mono {G : GlM} {l : Launch} {k : Nat} {p : Program} {e : Env} {R : Room} {s : State} {m : MethodId} {args : Array Value} {below : List Frame} {meth : Method} {c : Code} {ad ad' : Nat → Nat} {n0 n1 : Nat} {o : OutM} {Q : State → Prop}
    (h : XiM G l k p e R s m args below meth c ad n0 o Q) (hn : n0 ≤ n1) (ha : ∀ u, u < n0 → ad' u = ad u) : XiM G l k p e R s m args below meth c ad' n1 o Q := by
  obtain ⟨r, σ'⟩ := o
  cases r with
  | inl v => exact fun ad2 H' locs' kc ks pc ls h1 h2 => h ad2 H' locs' kc ks pc ls (fun u hu => (h1 u (by omega)).trans (ha u hu)) (by omega)
  | inr E =>
    intro hs
    obtain ⟨a, b⟩ := h hs
    exact ⟨fun ad2 H' locs' kc ks pc ls st ic x h1 h2 => a ad2 H' locs' kc ks pc ls st ic x (fun u hu => (h1 u (by omega)).trans (ha u hu)) (by omega),
      fun ad2 H' locs' kc ks pc ls rest q ce h1 h2 => b ad2 H' locs' kc ks pc ls rest q ce (fun u hu => (h1 u (by omega)).trans (ha u hu)) (by omega)⟩
-- what a combinator's answer says of the stack
theorem in_I1 {f : Int32 → List Value → Option OutM} {st : List Value} {o : OutM} (h : sI1 f st = some o) : ∃ x r, st = .int x :: r ∧ f x r = some o := by
  unfold sI1 at h
  split at h
  · exact ⟨_, _, rfl, h⟩
  · cases h
theorem in_I2 {f : Int32 → Int32 → List Value → Option OutM} {st : List Value} {o : OutM} (h : sI2 f st = some o) : ∃ x y r, st = .int y :: .int x :: r ∧ f x y r = some o := by
  unfold sI2 at h
  split at h
  · exact ⟨_, _, _, rfl, h⟩
  · cases h
theorem in_L2 {f : Int64 → Int64 → List Value → Option OutM} {st : List Value} {o : OutM} (h : sL2 f st = some o) : ∃ x y r, st = .long y :: .long x :: r ∧ f x y r = some o := by
  unfold sL2 at h
  split at h
  · exact ⟨_, _, _, rfl, h⟩
  · cases h
theorem in_R1 {f : Nat → List Value → Option OutM} {st : List Value} {o : OutM} (h : sR1 f st = some o) : ∃ x r, st = .ref x :: r ∧ f x r = some o := by
  unfold sR1 at h
  split at h
  · exact ⟨_, _, rfl, h⟩
  · cases h
theorem in_IR {f : Int32 → Nat → List Value → Option OutM} {st : List Value} {o : OutM} (h : sIR f st = some o) : ∃ i v r, st = .int i :: .ref v :: r ∧ f i v r = some o := by
  unfold sIR at h
  split at h
  · exact ⟨_, _, _, rfl, h⟩
  · cases h
theorem in_RR {f : Nat → Nat → List Value → Option OutM} {st : List Value} {o : OutM} (h : sRR f st = some o) : ∃ i v r, st = .ref i :: .ref v :: r ∧ f i v r = some o := by
  unfold sRR at h
  split at h
  · exact ⟨_, _, _, rfl, h⟩
  · cases h
theorem in_IIR {f : Int32 → Int32 → Nat → List Value → Option OutM} {st : List Value} {o : OutM} (h : sIIR f st = some o) : ∃ x i v r, st = .int x :: .int i :: .ref v :: r ∧ f x i v r = some o := by
  unfold sIIR at h
  split at h
  · exact ⟨_, _, _, _, rfl, h⟩
  · cases h
theorem in_LIR {f : Int64 → Int32 → Nat → List Value → Option OutM} {st : List Value} {o : OutM} (h : sLIR f st = some o) : ∃ x i v r, st = .long x :: .int i :: .ref v :: r ∧ f x i v r = some o := by
  unfold sLIR at h
  split at h
  · exact ⟨_, _, _, _, rfl, h⟩
  · cases h
theorem in_RIR {f : Nat → Int32 → Nat → List Value → Option OutM} {st : List Value} {o : OutM} (h : sRIR f st = some o) : ∃ x i v r, st = .ref x :: .int i :: .ref v :: r ∧ f x i v r = some o := by
  unfold sRIR at h
  split at h
  · exact ⟨_, _, _, _, rfl, h⟩
  · cases h
theorem in_Cp {f : Int32 → Int32 → Nat → Int32 → Nat → List Value → Option OutM} {st : List Value} {o : OutM} (h : sCp f st = some o) : ∃ n dp dv sp sv r, st = .int n :: .int dp :: .ref dv :: .int sp :: .ref sv :: r ∧ f n dp dv sp sv r = some o := by
  unfold sCp at h
  split at h
  · exact ⟨_, _, _, _, _, _, rfl, h⟩
  · cases h
theorem in_oI {f : Int32 → Option OutM} {v : Option Value} {o : OutM} (h : oI f v = some o) : ∃ x, v = some (.int x) ∧ f x = some o := by
  unfold oI at h
  split at h
  · exact ⟨_, rfl, h⟩
  · cases h
theorem in_oR {f : Nat → Option OutM} {v : Option Value} {o : OutM} (h : oR f v = some o) : ∃ x, v = some (.ref x) ∧ f x = some o := by
  unfold oR at h
  split at h
  · exact ⟨_, rfl, h⟩
  · cases h
theorem in_no {c : Prop} [Decidable c] {A : Option OutM} {o : OutM} (h : (if c then A else none) = some o) : c ∧ A = some o := by
  by_cases hc : c
  · rw [if_pos hc] at h; exact ⟨hc, h⟩
  · rw [if_neg hc] at h; cases h
theorem Lo_get {n : Nat} {ad : Nat → Nat} {la : List (Option Value)} {ls : Array Slot} {nL i : Nat} {v : Value} (h : LoM n ad la ls nL) (hv : la.getD i none = some v) : ls[i]? = some (.val (vaM ad v)) ∧ vkM n v = true := by
  obtain ⟨lv, h1, h2, h3⟩ := h
  have hi : la[i]? = some (some v) := by
    rw [List.getD_eq_getElem?_getD] at hv
    cases e : la[i]? with
    | none => rw [e] at hv; cases hv
    | some w => rw [e] at hv; exact congrArg some hv
  exact ⟨h1.2.2 _ (h3 i v hi).1, (h3 i v hi).2⟩
theorem va_cat1 {ad : Nat → Nat} {v : Value} (h : isOne v = true) : (vaM ad v).category = 1 := by
  cases v <;> first | rfl | (simp [isOne] at h; done) | skip
  · show (va_rf (rfM ad _)).category = 1
    unfold rfM
    split <;> rfl
theorem Lo_set {n : Nat} {ad : Nat → Nat} {la : List (Option Value)} {lv : List (Nat × Value)} {ls' : Array Slot} {nL i : Nat} {w : Value} (x : Option Value) (h2 : ∀ q ∈ lv, q.2.category = 1) (h3 : ∀ (i : Nat) (v : Value), la[i]? = some (some v) → (i, vaM ad v) ∈ lv ∧ vkM n v = true)
    (hx : ∀ v, x = some v → w = vaM ad v ∧ vkM n v = true) (hc : w.category = 1) (h : lv_has ls' nL ((i, w) :: lv.filter (fun q => !(q.1 == i) && !(q.1 + 1 == i && q.2.category == 2)))) : LoM n ad (la.set i x) ls' nL := by
  refine ⟨_, h, fun q hq => ?_, fun j v hj => ?_⟩
  · rcases List.mem_cons.mp hq with rfl | hq
    · exact hc
    · exact h2 q (List.mem_filter.mp hq).1
  · by_cases e : i = j
    · subst e
      by_cases hl : i < la.length
      · rw [List.getElem?_set_self hl] at hj
        obtain ⟨a, b⟩ := hx v (Option.some.inj hj)
        exact ⟨by rw [← a]; exact List.mem_cons_self, b⟩
      · rw [List.getElem?_eq_none (by rw [List.length_set]; omega)] at hj
        cases hj
    · rw [List.getElem?_set_ne e] at hj
      obtain ⟨a, b⟩ := h3 j v hj
      refine ⟨List.mem_cons_of_mem _ (List.mem_filter.mpr ⟨a, ?_⟩), b⟩
      have hc2 := h2 _ a
      have e1 : (j == i) = false := by simp; omega
      simp only [e1, hc2]
      simp
theorem Lo_ad {n n' : Nat} {ad ad' : Nat → Nat} {la : List (Option Value)} {ls : Array Slot} {nL : Nat} (h : LoM n ad la ls nL) (hn : n ≤ n') (ha : ∀ u, u < n → ad' u = ad u) : LoM n' ad' la ls nL := by
  obtain ⟨lv, h1, h2, h3⟩ := h
  refine ⟨lv, h1, h2, fun i v hv => ?_⟩
  obtain ⟨a, b⟩ := h3 i v hv
  cases v <;> first | exact ⟨a, b⟩ | skip
  case ref u =>
    have hu : u < n := of_decide_eq_true b
    refine ⟨?_, decide_eq_true (Nat.lt_of_lt_of_le hu hn)⟩
    have : vaM ad' (.ref u) = vaM ad (.ref u) := by show va_rf (rfM ad' u) = va_rf (rfM ad u); unfold rfM; rw [ha u hu]
    rw [this]; exact a
theorem va_ad {n : Nat} {ad ad' : Nat → Nat} {v : Value} (h : vkM n v = true) (ha : ∀ u, u < n → ad' u = ad u) : vaM ad' v = vaM ad v := by
  cases v <;> first | rfl | skip
  case ref u =>
    have hu : u < n := of_decide_eq_true h
    show va_rf (rfM ad' u) = va_rf (rfM ad u); unfold rfM; rw [ha u hu]
theorem vk_mono {n n' : Nat} {v : Value} (h : vkM n v = true) (hn : n ≤ n') : vkM n' v = true := by
  cases v <;> first | exact h | skip
  case ref u => exact decide_eq_true (Nat.lt_of_lt_of_le (of_decide_eq_true h) hn)
theorem Sk_ad {n n' : Nat} {ad ad' : Nat → Nat} {sa : List Value} (h : ∀ v ∈ sa, vkM n v = true) (hn : n ≤ n') (ha : ∀ u, u < n → ad' u = ad u) : sa.map (vaM ad) = sa.map (vaM ad') ∧ ∀ v ∈ sa, vkM n' v = true :=
  ⟨List.map_congr_left fun v hv => (va_ad (h v hv) ha).symm, fun v hv => vk_mono (h v hv) hn⟩
theorem cat_map (ad : Nat → Nat) : ∀ (sa : List Value), ((sa.map (vaM ad)).map fun v => v.category).sum = catM sa
  | [] => rfl
  | v :: r => by
    have ih := cat_map ad r
    cases v <;> simp only [List.map_cons, List.sum_cons, ih, catM] <;> first | (show Value.category _ + _ = _; simp [Value.category, vaM]; done) | skip
    case ref u =>
      have : (vaM ad (.ref u)).category = 1 := va_cat1 rfl
      rw [this]; omega
    all_goals (show Value.category _ + _ = _; simp [Value.category, vaM]; omega)
end
section
theorem Rp_okT {G : GlM} {ad : Nat → Nat} {σ : Mem} {H : Heap} (h : RpM G ad σ H) : okT G σ := h.2.2.1
/-- an object that is written: the memory and the heap behind -/
theorem Rp_set {G : GlM} {ad : Nat → Nat} {σ σ' : Mem} {H H' : Heap} {v : Nat} (h : RpM G ad σ H) (h1 : 8 ≤ v) (h2 : v < nxM σ) (hn : nxM σ' = nxM σ) (ht : ∀ u, tkM σ' u = tkM σ u) (hr : ∀ u j, u ≠ v → rdM σ' u j = rdM σ u j) (hp : ∀ u j, u ≠ v → prM σ' u j = prM σ u j) (hw : ∀ j, prM σ' v j < nxM σ)
    (hP : va_P (gD G) vwCl ((csM (gC G) ad σ).set (v - 8) (ad v, ceM (gC G) ad σ' v)) H') (hD : va_D (gU G) ((csM (gC G) ad σ).set (v - 8) (ad v, ceM (gC G) ad σ' v))) : RpM G ad σ' H' := by
  obtain ⟨-, -, ⟨a1, a2, a3, a4, a5⟩, a6⟩ := h
  have e := cs_set (c := gC G) (ad := ad) h1 h2 hn ht hr hp
  refine ⟨by rw [e]; exact hP, by rw [e]; exact hD, ⟨by rw [hn]; exact a1, fun u hu => by rw [ht]; exact a2 u (by rw [← hn]; exact hu), by rw [ht]; exact a3, fun u j => ?_, fun u p q => ?_⟩, a6⟩
  · by_cases hu : u = v
    · subst hu; rw [hn]; exact hw j
    · rw [hp u j hu, hn]; exact a4 u j
  · rw [ht]
    exact ⟨(a5 u p q).1, fun j => by rw [hr u j (by omega)]; exact (a5 u p q).2 j⟩
theorem tk_kind {G : GlM} {σ : Mem} {v κ : Nat} (h : okT G σ) (hk : (tkM σ v).1 = κ) (h1 : 1 ≤ κ) : v < nxM σ ∧ v ≠ 0 ∧ (κ ≠ 2 → 8 ≤ v) := by
  obtain ⟨a1, a2, a3, a4, a5⟩ := h
  refine ⟨?_, ?_, fun hne => ?_⟩
  · rcases Nat.lt_or_ge v (nxM σ) with q | q
    · exact q
    · have := a2 v q; omega
  · intro e; subst e; rw [a3] at hk; have hk : 0 = κ := hk; omega
  · rcases Nat.lt_or_ge v 8 with q | q
    · by_cases e : v = 0
      · subst e; rw [a3] at hk; have hk : 0 = κ := hk; omega
      · have := (a5 v (by omega) q).1
        rw [this] at hk
        exact absurd hk.symm hne
    · exact q
theorem ce_obj {c : Nat → ClassId} {ad : Nat → Nat} {σ : Mem} {v ci : Nat} (h : tkM σ v = (1, ci)) : ceM c ad σ v = .inr (ci, (List.range (clM ci).2.2).map fun k => bif Nat.beq (fkN ci k) 1 then vaM ad (.ref (prM σ v k)) else .int (rdM σ v k)) := by
  unfold ceM ceK; rw [h]; rfl
theorem ce_int {c : Nat → ClassId} {ad : Nat → Nat} {σ : Mem} {v κ : Nat} (h : (tkM σ v).1 = κ) (hκ : κ = 2 ∨ κ = 3 ∨ κ = 4) : ceM c ad σ v = .inl (c κ, (tkM σ v).2, .inl (rdM σ v)) := by
  unfold ceM ceK; rw [h]; rcases hκ with rfl | rfl | rfl <;> rfl
theorem ce_long {c : Nat → ClassId} {ad : Nat → Nat} {σ : Mem} {v : Nat} (h : (tkM σ v).1 = 5) : ceM c ad σ v = .inl (c 5, (tkM σ v).2, .inr (.inl fun j => (rdM σ v j).toInt64)) := by
  unfold ceM ceK; rw [h]; rfl
theorem ce_ref {c : Nat → ClassId} {ad : Nat → Nat} {σ : Mem} {v : Nat} (h : (tkM σ v).1 = 6) : ceM c ad σ v = .inl (c 6, (tkM σ v).2, .inr (.inr (.inr (.inr fun j => rfM ad (prM σ v j))))) := by
  unfold ceM ceK; rw [h]; rfl
theorem va_nz {ad : Nat → Nat} {v : Nat} (h : v ≠ 0) : vaM ad (.ref v) = .ref (ad v) := by
  show va_rf (rfM ad v) = _
  unfold rfM; rw [if_neg h]; rfl
theorem cl_at {ci : Nat} (h : ci < 6) : vwCl[ci]? = some (clM ci) := by
  rcases (show ci = 0 ∨ ci = 1 ∨ ci = 2 ∨ ci = 3 ∨ ci = 4 ∨ ci = 5 by omega) with rfl | rfl | rfl | rfl | rfl | rfl <;> rfl
theorem cl_ws : ∀ ci, ci < 6 → ∀ w ∈ u_ws (clM ci).1 (clM ci).2.1 (clM ci).2.2, w ∈ lw_tbl.filter goodWord := by
  intro ci h
  rcases (show ci = 0 ∨ ci = 1 ∨ ci = 2 ∨ ci = 3 ∨ ci = 4 ∨ ci = 5 by omega) with rfl | rfl | rfl | rfl | rfl | rfl <;> decide +kernel
def tyN (ci : Nat) : Nat → FieldType := [tyX0, tyX1, tyX2, tyX3, tyX4, tyX5].getD ci (fun _ => .int)
theorem cl_ty : ∀ ci, ci < 6 → ∀ k, k < (clM ci).2.2 → parseFieldDescriptor ((clM ci).2.1 k).2.2.1 = some (tyN ci k) := by
  intro ci h
  rcases (show ci = 0 ∨ ci = 1 ∨ ci = 2 ∨ ci = 3 ∨ ci = 4 ∨ ci = 5 by omega) with rfl | rfl | rfl | rfl | rfl | rfl <;> first | exact tyX0_ok | exact tyX1_ok | exact tyX2_ok | exact tyX3_ok | exact tyX4_ok | exact tyX5_ok
theorem cl_nm : ∀ ci, ci < 6 → ∀ a, a < (clM ci).2.2 → ∀ b, b < (clM ci).2.2 → a ≠ b → ((clM ci).2.1 a).2.1 ≠ ((clM ci).2.1 b).2.1 := by
  intro ci h
  rcases (show ci = 0 ∨ ci = 1 ∨ ci = 2 ∨ ci = 3 ∨ ci = 4 ∨ ci = 5 by omega) with rfl | rfl | rfl | rfl | rfl | rfl <;> first | exact nmX0 | exact nmX1 | exact nmX2 | exact nmX3 | exact nmX4 | exact nmX5
theorem cl_kind : ∀ ci, ci < 6 → ∀ k, k < (clM ci).2.2 → (fkN ci k = 0 → tyN ci k = .int) ∧ (fkN ci k = 2 → tyN ci k = .char) ∧ (fkN ci k = 1 → (∃ C, tyN ci k = .object C) ∨ ∃ t, tyN ci k = .array t) ∧ fkN ci k ≤ 2 := by
  intro ci h k hk
  have hb : (clM ci).2.2 ≤ 11 := by
    rcases (show ci = 0 ∨ ci = 1 ∨ ci = 2 ∨ ci = 3 ∨ ci = 4 ∨ ci = 5 by omega) with rfl | rfl | rfl | rfl | rfl | rfl <;> decide
  have hk' : k < 11 := Nat.lt_of_lt_of_le hk hb
  rcases (show ci = 0 ∨ ci = 1 ∨ ci = 2 ∨ ci = 3 ∨ ci = 4 ∨ ci = 5 by omega) with rfl | rfl | rfl | rfl | rfl | rfl <;>
    rcases (show k = 0 ∨ k = 1 ∨ k = 2 ∨ k = 3 ∨ k = 4 ∨ k = 5 ∨ k = 6 ∨ k = 7 ∨ k = 8 ∨ k = 9 ∨ k = 10 by omega) with rfl | rfl | rfl | rfl | rfl | rfl | rfl | rfl | rfl | rfl | rfl <;>
    first
    | exact ⟨fun _ => rfl, fun h => absurd h (by decide), fun h => absurd h (by decide), by decide⟩
    | exact ⟨fun h => absurd h (by decide), fun _ => rfl, fun h => absurd h (by decide), by decide⟩
    | exact ⟨fun h => absurd h (by decide), fun h => absurd h (by decide), fun _ => Or.inl ⟨_, rfl⟩, by decide⟩
    | exact ⟨fun h => absurd h (by decide), fun h => absurd h (by decide), fun _ => Or.inr ⟨_, rfl⟩, by decide⟩
    | exact absurd hk (by decide)
theorem Ru_get {n k : Nat} {f : Nat → Value} (h : k < n) : ((List.range n).map f)[k]? = some (f k) := by
  rw [List.getElem?_map, List.getElem?_range h]; rfl
theorem Ru_set {n k : Nat} {f g : Nat → Value} (_h : k < n) (hg : ∀ j, j ≠ k → g j = f j) : ((List.range n).map f).set k (g k) = (List.range n).map g := by
  refine List.ext_getElem? fun i => ?_
  by_cases e : k = i
  · subst e
    rw [List.getElem?_set_self (by simpa using _h), Ru_get _h]
  · rw [List.getElem?_set_ne e, List.getElem?_map, List.getElem?_map]
    by_cases hi : i < n
    · rw [List.getElem?_range hi]; show some (f i) = some (g i); rw [hg i (fun z => e z.symm)]
    · rw [List.getElem?_eq_none (by simpa using hi)]; rfl
theorem ty_at (c : Nat → ClassId) : (tysM c)[0]? = some (c 2, .int) ∧ (tysM c)[1]? = some (c 3, .boolean) ∧ (tysM c)[2]? = some (c 4, .char) ∧ (tysM c)[3]? = some (c 5, .long) ∧ (tysM c)[4]? = some (c 6, .object RX2) := ⟨rfl, rfl, rfl, rfl, rfl⟩
theorem upd_wr {σ : Mem} {v j : Nat} {x : Int32} : upd (rdM σ v) j x = rdM (wrM σ v j x) v := by
  funext i
  show (if i = j then x else rdM σ v i) = if v = v ∧ i = j then x else rdM σ v i
  by_cases e : i = j <;> simp [e]
theorem lg_cmp3 {x y : Int32} : True := trivial
end
section
theorem nb_eq {a b : Nat} (h : Nat.beq a b = true) : a = b := Nat.eq_of_beq_eq_true h
theorem va_null (ad : Nat → Nat) (x : Nat) : vaM ad (.ref x) = .null ∨ ∃ q, vaM ad (.ref x) = .ref q := by
  by_cases h : x = 0
  · subst h; exact Or.inl rfl
  · exact Or.inr ⟨ad x, va_nz h⟩
theorem fv_va (ad : Nat → Nat) (σ : Mem) (v k κ : Nat) : vaM ad (fvM σ v k κ) = bif Nat.beq κ 1 then vaM ad (.ref (prM σ v k)) else .int (rdM σ v k) := by
  unfold fvM
  cases Nat.beq κ 1 <;> rfl
theorem fv_vk {n : Nat} {σ : Mem} {v k κ : Nat} (h : prM σ v k < n) : vkM n (fvM σ v k κ) = true := by
  unfold fvM
  cases Nat.beq κ 1
  · rfl
  · exact decide_eq_true h
theorem i32_nlt {a b : Int32} (h : ¬ a < b) : b ≤ a := Int32.not_lt.mp h
theorem i32_nle {a b : Int32} (h : ¬ a ≤ b) : b < a := Int32.not_le.mp h
theorem i32_le {a b : Int32} (h : a ≤ b) : ¬ b < a := Int32.not_lt.mpr h
theorem ch_ok {x : Int32} (h0 : 0 ≤ x) (h : x < 65536) : narrow .char (.int x) = .int x ∧ fits .char (.int x) = true := by
  obtain ⟨j, hj, rfl⟩ := nI_of (x := x) (i32_le h0)
  have hj2 : j < 65536 := by
    rw [Int32.lt_iff_toInt_lt, nI_toInt hj] at h
    have : (65536 : Int32).toInt = 65536 := by decide
    omega
  exact pk_charN hj2
def spM (ic : IcM) : Prop := match ic.1 with
  | .invokestatic _ | .invokevirtual _ | .invokespecial _ | .new _ | .newarray _ | .anewarray _ | .tableswitch _ _ _ _ | .lookupswitch _ _ | .putfield _ | .iastore | .bastore | .castore | .lastore | .aastore | .ireturn | .areturn | .return_ => True
  | _ => False
set_option maxHeartbeats 8000000 in
theorem sim_a {G : GlM} {l : Launch} {k : Nat} {ic : IcM} {fr : FrM} {σ : Mem} {o : OutM} {Φ : Nat → List Value → Mem → Option OutM} {K : FrM → Mem → Option OutM}
    (hmt : MtP k) (hK : ∀ fr' σ', K fr' σ' = some o → WsM G l k fr' σ' o) (hok : okM k fr.1 ic = true) (hsp : ¬ spM ic) (h : stM Φ K k ic fr σ = some o) : WsM G l k fr σ o := by
  obtain ⟨pc, la, sa, kc, ks⟩ := fr
  obtain ⟨i, len, a, cst⟩ := ic
  intro p e R s m args below meth c ad H locs Q ls st hA hR hS hL hsk hX
  obtain ⟨rfl, hsv⟩ := hsk
  obtain ⟨⟨hx, hb, hml, hrt, hlk, hnm, hown⟩, hts, hE, hex, htr, hr1, hr2, hr3, hr4⟩ := id hA
  obtain ⟨hP, hD, hT, hAd⟩ := id hR
  obtain ⟨hE1, hK2, hZ, hT2, hU, hN, hSt, hNc, hB0⟩ := id hE
  have hts2 : ∀ w ∈ lw_tbl.filter goodWord, w.before args s = true := fun w hw => hts w (List.mem_filter.mp hw).1 (List.mem_filter.mp hw).2
  unfold okM at hok
  dsimp only at hok
  rw [Bool.and_eq_true] at hok
  obtain ⟨hd, hq⟩ := hok
  replace hd := of_decide_eq_true hd
  have go : ∀ {pc' : Nat} {la' : List (Option Value)} {sa' : List Value} {ls' : Array Slot}, K (pc', la', sa', kc, ks) σ = some o → LoM (nxM σ) ad la' ls' (mxM k) → (∀ v ∈ sa', vkM (nxM σ) v = true) → W p l e R s m args below meth c H locs kc ks Q (F0 m pc' ls' (sa'.map (vaM ad))) :=
    fun h h1 h2 => hK _ _ h p e R s m args below meth c ad H locs Q _ _ hA hR hS h1 ⟨rfl, h2⟩ hX
  have cs1 : ∀ {v : Value} {r : List Value}, vkM (nxM σ) v = true → (∀ w ∈ r, vkM (nxM σ) w = true) → ∀ w ∈ v :: r, vkM (nxM σ) w = true := fun h1 h2 => List.forall_mem_cons.mpr ⟨h1, h2⟩
  have tl1 : ∀ {v : Value} {r : List Value}, (∀ w ∈ v :: r, vkM (nxM σ) w = true) → ∀ w ∈ r, vkM (nxM σ) w = true := fun h => (List.forall_mem_cons.mp h).2
  cases i
  case iconst n =>
    simp only [Bool.and_eq_true, decide_eq_true_eq] at hq
    obtain rfl := nb_eq hq.2
    exact lv_iconst hx hb hd hq.1 (go h hL (cs1 rfl hsv))
  case bipush n =>
    simp only [Bool.and_eq_true, decide_eq_true_eq] at hq
    obtain rfl := nb_eq hq.2
    exact lv_bipush hx hb hd hq.1 (go h hL (cs1 rfl hsv))
  case sipush n =>
    simp only [Bool.and_eq_true, decide_eq_true_eq] at hq
    obtain rfl := nb_eq hq.2
    exact lv_sipush hx hb hd hq.1 (go h hL (cs1 rfl hsv))
  case ldc n =>
    simp only [Bool.and_eq_true, decide_eq_true_eq, atM] at hq
    obtain rfl := nb_eq hq.2
    exact lv_ldc hx hb hown (hts _ (List.mem_of_getElem? hq.1) rfl) hd (go h hL (cs1 rfl hsv))
  case ldc_w n =>
    simp only [Bool.and_eq_true, decide_eq_true_eq, atM] at hq
    obtain rfl := nb_eq hq.2
    exact lv_ldcw hx hb hown (hts _ (List.mem_of_getElem? hq.1) rfl) hd (go h hL (cs1 rfl hsv))
  case lconst n =>
    simp only [Bool.and_eq_true, decide_eq_true_eq] at hq
    obtain rfl := nb_eq hq.2
    exact lv_lconst hx hb hd hq.1 (go h hL (cs1 rfl hsv))
  case iload n =>
    simp only [Bool.and_eq_true] at hq
    obtain rfl := nb_eq hq.2
    obtain ⟨x, hx1, h⟩ := in_oI h
    have hl := (Lo_get hL hx1).1
    rw [nb_eq hq.1] at hl
    exact lv_iload hx hb hd hl (go h hL (cs1 rfl hsv))
  case iload_n n =>
    simp only [Bool.and_eq_true] at hq
    obtain rfl := nb_eq hq.2
    obtain ⟨x, hx1, h⟩ := in_oI h
    exact lv_iload_n hx hb hd (nb_eq hq.1).symm (Lo_get hL hx1).1 (go h hL (cs1 rfl hsv))
  case aload n =>
    simp only [Bool.and_eq_true] at hq
    obtain rfl := nb_eq hq.2
    obtain ⟨x, hx1, h⟩ := in_oR h
    obtain ⟨hl, hv⟩ := Lo_get hL hx1
    rw [nb_eq hq.1] at hl
    have g := go h hL (cs1 hv hsv)
    rw [List.map_cons] at g
    rcases va_null ad x with e | ⟨q, e⟩
    · rw [e] at hl g; exact lv_aloadN hx hb hd hl g
    · rw [e] at hl g; exact lv_aload hx hb hd hl g
  case aload_n n =>
    simp only [Bool.and_eq_true] at hq
    obtain rfl := nb_eq hq.2
    obtain ⟨x, hx1, h⟩ := in_oR h
    obtain ⟨hl, hv⟩ := Lo_get hL hx1
    have g := go h hL (cs1 hv hsv)
    rw [List.map_cons] at g
    rcases va_null ad x with e | ⟨q, e⟩
    · rw [e] at hl g; exact lv_aload_nN hx hb hd (nb_eq hq.1).symm hl g
    · rw [e] at hl g; exact lv_aload_n hx hb hd (nb_eq hq.1).symm hl g
  case istore n =>
    simp only [Bool.and_eq_true, decide_eq_true_eq] at hq
    obtain rfl := nb_eq hq.1.2
    obtain ⟨x, r, rfl, g1⟩ := in_I1 h
    obtain ⟨lv, hl1, hl2, hl3⟩ := hL
    rw [nb_eq hq.1.1] at g1
    exact lv_istore hx hb hd hl1 hq.2 rfl (fun ls' hl' => go g1 (Lo_set (w := .int x) _ hl2 hl3 (fun v e => by cases e; exact ⟨rfl, rfl⟩) rfl hl') (tl1 hsv))
  case istore_n n =>
    simp only [Bool.and_eq_true, decide_eq_true_eq] at hq
    obtain rfl := nb_eq hq.1.2
    obtain ⟨x, r, rfl, g1⟩ := in_I1 h
    obtain ⟨lv, hl1, hl2, hl3⟩ := hL
    exact lv_istore_n hx hb hd (nb_eq hq.1.1).symm hl1 hq.2 rfl (fun ls' hl' => go g1 (Lo_set (w := .int x) _ hl2 hl3 (fun v e => by cases e; exact ⟨rfl, rfl⟩) rfl hl') (tl1 hsv))
  case astore n =>
    simp only [Bool.and_eq_true, decide_eq_true_eq] at hq
    obtain rfl := nb_eq hq.1.2
    obtain ⟨x, r, rfl, g1⟩ := in_R1 h
    obtain ⟨lv, hl1, hl2, hl3⟩ := hL
    rw [nb_eq hq.1.1] at g1
    have hv := (List.forall_mem_cons.mp hsv).1
    rw [List.map_cons]
    rcases va_null ad x with e | ⟨q, e⟩
    · rw [e]
      exact lv_astoreN hx hb hd hl1 hq.2 rfl (fun ls' hl' => go g1 (Lo_set (w := .null) _ hl2 hl3 (fun v e2 => by cases e2; exact ⟨e.symm, hv⟩) rfl hl') (tl1 hsv))
    · rw [e]
      exact lv_astore hx hb hd hl1 hq.2 rfl (fun ls' hl' => go g1 (Lo_set (w := .ref q) _ hl2 hl3 (fun v e2 => by cases e2; exact ⟨e.symm, hv⟩) rfl hl') (tl1 hsv))
  case astore_n n =>
    simp only [Bool.and_eq_true, decide_eq_true_eq] at hq
    obtain rfl := nb_eq hq.1.2
    obtain ⟨x, r, rfl, g1⟩ := in_R1 h
    obtain ⟨lv, hl1, hl2, hl3⟩ := hL
    have hv := (List.forall_mem_cons.mp hsv).1
    rw [List.map_cons]
    rcases va_null ad x with e | ⟨q, e⟩
    · rw [e]
      exact lv_astore_nN hx hb hd (nb_eq hq.1.1).symm hl1 hq.2 rfl (fun ls' hl' => go g1 (Lo_set (w := .null) _ hl2 hl3 (fun v e2 => by cases e2; exact ⟨e.symm, hv⟩) rfl hl') (tl1 hsv))
    · rw [e]
      exact lv_astore_n hx hb hd (nb_eq hq.1.1).symm hl1 hq.2 rfl (fun ls' hl' => go g1 (Lo_set (w := .ref q) _ hl2 hl3 (fun v e2 => by cases e2; exact ⟨e.symm, hv⟩) rfl hl') (tl1 hsv))
  case iinc n d =>
    simp only [Bool.and_eq_true, decide_eq_true_eq] at hq
    obtain ⟨⟨⟨q1, q2⟩, q3⟩, q4⟩ := hq
    obtain rfl := nb_eq q2
    obtain ⟨x, hx1, h⟩ := in_oI h
    obtain ⟨lv, hl1, hl2, hl3⟩ := id hL
    rw [nb_eq q1] at h hx1
    have hi : la[n]? = some (some (.int x)) := by
      rw [List.getD_eq_getElem?_getD] at hx1
      cases e : la[n]? with
      | none => rw [e] at hx1; cases hx1
      | some w => rw [e] at hx1; exact congrArg some hx1
    obtain ⟨j, hj⟩ := List.getElem?_of_mem (hl3 n _ hi).1
    exact lv_iinc hx hb hd hl1 hj (by rw [q4]) q3 rfl (fun ls' hl' => go h (Lo_set (w := .int (x + cst)) _ hl2 hl3 (fun v e => by cases e; exact ⟨rfl, rfl⟩) rfl hl') hsv)
  case iadd =>
    simp only [Bool.and_eq_true] at hq
    obtain rfl := nb_eq hq.2
    obtain ⟨x, y, r, rfl, g1⟩ := in_I2 h
    exact lv_iadd hx hb hd (go g1 hL (cs1 rfl (tl1 (tl1 hsv))))
  case isub =>
    simp only [Bool.and_eq_true] at hq
    obtain rfl := nb_eq hq.2
    obtain ⟨x, y, r, rfl, g1⟩ := in_I2 h
    exact lv_isub hx hb hd (go g1 hL (cs1 rfl (tl1 (tl1 hsv))))
  case imul =>
    simp only [Bool.and_eq_true] at hq
    obtain rfl := nb_eq hq.2
    obtain ⟨x, y, r, rfl, g1⟩ := in_I2 h
    exact lv_imul hx hb hd (go g1 hL (cs1 rfl (tl1 (tl1 hsv))))
  case iand =>
    simp only [Bool.and_eq_true] at hq
    obtain rfl := nb_eq hq.2
    obtain ⟨x, y, r, rfl, g1⟩ := in_I2 h
    exact lv_iand hx hb hd (go g1 hL (cs1 rfl (tl1 (tl1 hsv))))
  case ishl =>
    simp only [Bool.and_eq_true] at hq
    obtain rfl := nb_eq hq.2
    obtain ⟨x, y, r, rfl, g1⟩ := in_I2 h
    exact lv_ishl hx hb hd (go g1 hL (cs1 rfl (tl1 (tl1 hsv))))
  case ishr =>
    simp only [Bool.and_eq_true] at hq
    obtain rfl := nb_eq hq.2
    obtain ⟨x, y, r, rfl, g1⟩ := in_I2 h
    exact lv_ishr hx hb hd (go g1 hL (cs1 rfl (tl1 (tl1 hsv))))
  case idiv =>
    simp only [Bool.and_eq_true] at hq
    obtain rfl := nb_eq hq.2
    obtain ⟨x, y, r, rfl, g1⟩ := in_I2 h
    by_cases h0 : y = 0
    · rw [if_pos h0] at g1; cases g1
    · rw [if_neg h0] at g1
      exact lv_idiv hx hb hd h0 (go g1 hL (cs1 rfl (tl1 (tl1 hsv))))
  case irem =>
    simp only [Bool.and_eq_true] at hq
    obtain rfl := nb_eq hq.2
    obtain ⟨x, y, r, rfl, g1⟩ := in_I2 h
    by_cases h0 : y = 0
    · rw [if_pos h0] at g1; cases g1
    · rw [if_neg h0] at g1
      exact lv_irem hx hb hd h0 (go g1 hL (cs1 rfl (tl1 (tl1 hsv))))
  case ineg =>
    simp only [Bool.and_eq_true] at hq
    obtain rfl := nb_eq hq.2
    obtain ⟨x, r, rfl, g1⟩ := in_I1 h
    exact lv_ineg hx hb hd (go g1 hL (cs1 rfl (tl1 hsv)))
  case i2l =>
    simp only [Bool.and_eq_true] at hq
    obtain rfl := nb_eq hq.2
    obtain ⟨x, r, rfl, g1⟩ := in_I1 h
    exact lv_i2l hx hb hd rfl (go g1 hL (cs1 rfl (tl1 hsv)))
  case i2c =>
    simp only [Bool.and_eq_true] at hq
    obtain rfl := nb_eq hq.2
    obtain ⟨x, r, rfl, g1⟩ := in_I1 h
    exact lv_i2c hx hb hd rfl (go g1 hL (cs1 rfl (tl1 hsv)))
  case lcmp =>
    simp only [Bool.and_eq_true] at hq
    obtain rfl := nb_eq hq.2
    obtain ⟨x, y, r, rfl, g1⟩ := in_L2 h
    exact W.lcmp hx hb hd (go g1 hL (cs1 rfl (tl1 (tl1 hsv))))
  case ifCond op off =>
    simp only [Bool.and_eq_true, tgM, decide_eq_true_eq] at hq
    obtain ⟨ht, q2⟩ := hq
    obtain rfl := nb_eq q2
    cases op <;> obtain ⟨x, r, rfl, g1⟩ := in_I1 h
    · exact lv_if_eq hx hb hd ht (fun q => by rw [if_pos q] at g1; exact go g1 hL (tl1 hsv)) (fun q => by rw [if_neg q] at g1; exact go g1 hL (tl1 hsv))
    · exact lv_if_ne hx hb hd ht (fun q => by rw [if_neg q] at g1; exact go g1 hL (tl1 hsv)) (fun q => by rw [if_pos q] at g1; exact go g1 hL (tl1 hsv))
    · exact lv_if_lt hx hb hd ht (fun q => by rw [if_pos q] at g1; exact go g1 hL (tl1 hsv)) (fun q => by rw [if_neg q] at g1; exact go g1 hL (tl1 hsv))
    · exact lv_if_ge hx hb hd ht (fun q => by rw [if_neg (i32_le q)] at g1; exact go g1 hL (tl1 hsv)) (fun q => by rw [if_pos (i32_nle q)] at g1; exact go g1 hL (tl1 hsv))
    · exact lv_if_gt hx hb hd ht (fun q => by rw [if_pos q] at g1; exact go g1 hL (tl1 hsv)) (fun q => by rw [if_neg q] at g1; exact go g1 hL (tl1 hsv))
    · exact lv_if_le hx hb hd ht (fun q => by rw [if_neg (i32_le q)] at g1; exact go g1 hL (tl1 hsv)) (fun q => by rw [if_pos (i32_nle q)] at g1; exact go g1 hL (tl1 hsv))
  case if_icmp op off =>
    simp only [Bool.and_eq_true, tgM, decide_eq_true_eq] at hq
    obtain ⟨ht, q2⟩ := hq
    obtain rfl := nb_eq q2
    cases op <;> obtain ⟨x, y, r, rfl, g1⟩ := in_I2 h
    · exact lv_icmp_eq hx hb hd ht (fun q => by rw [if_pos q] at g1; exact go g1 hL (tl1 (tl1 hsv))) (fun q => by rw [if_neg q] at g1; exact go g1 hL (tl1 (tl1 hsv)))
    · exact lv_icmp_ne hx hb hd ht (fun q => by rw [if_neg q] at g1; exact go g1 hL (tl1 (tl1 hsv))) (fun q => by rw [if_pos q] at g1; exact go g1 hL (tl1 (tl1 hsv)))
    · exact lv_icmp_lt hx hb hd ht (fun q => by rw [if_pos q] at g1; exact go g1 hL (tl1 (tl1 hsv))) (fun q => by rw [if_neg q] at g1; exact go g1 hL (tl1 (tl1 hsv)))
    · exact lv_icmp_ge hx hb hd ht (fun q => by rw [if_neg (i32_le q)] at g1; exact go g1 hL (tl1 (tl1 hsv))) (fun q => by rw [if_pos (i32_nle q)] at g1; exact go g1 hL (tl1 (tl1 hsv)))
    · exact lv_icmp_gt hx hb hd ht (fun q => by rw [if_pos q] at g1; exact go g1 hL (tl1 (tl1 hsv))) (fun q => by rw [if_neg q] at g1; exact go g1 hL (tl1 (tl1 hsv)))
    · exact lv_icmp_le hx hb hd ht (fun q => by rw [if_neg (i32_le q)] at g1; exact go g1 hL (tl1 (tl1 hsv))) (fun q => by rw [if_pos (i32_nle q)] at g1; exact go g1 hL (tl1 (tl1 hsv)))
  case goto off =>
    simp only [Bool.and_eq_true, tgM, decide_eq_true_eq] at hq
    obtain ⟨ht, q2⟩ := hq
    obtain rfl := nb_eq q2
    exact lv_goto hx hb hd ht (go h hL hsv)
  case getfield n =>
    simp only [Bool.and_eq_true, decide_eq_true_eq, flI] at hq
    obtain ⟨⟨⟨⟨⟨q1, q2⟩, q3⟩, q4⟩, q5⟩, q6⟩ := hq
    obtain rfl := nb_eq q4
    obtain ⟨v, r, rfl, g1⟩ := in_R1 h
    obtain ⟨htk, g1⟩ := in_no g1
    obtain ⟨k1, k2, k3⟩ := tk_kind (κ := 1) hT (by rw [htk]) (Nat.le_refl 1)
    have k8 := k3 (by decide)
    have hfl := flL_ok _ (List.mem_of_getElem? q6)
    have hpt := cs_at (c := gC G) (ad := ad) k8 k1
    rw [ce_obj htk] at hpt
    have hval := Ru_get (f := fun k => bif Nat.beq (fkN (gaM a 0) k) 1 then vaM ad (.ref (prM σ v k)) else .int (rdM σ v k)) q2
    have g := go g1 hL (cs1 (fv_vk (hT.2.2.2.1 v (gaM a 1))) (tl1 hsv))
    rw [List.map_cons, fv_va, q3] at g
    rw [List.map_cons, va_nz k2]
    rcases (show gaM a 3 = 0 ∨ gaM a 3 = 1 by omega) with e3 | e3
    · rw [e3] at hfl
      have hw : (Cond.fieldLink (owM k) n (fT (gaM a 0) (gaM a 1)).1 (fT (gaM a 0) (gaM a 1)).2.1 (fT (gaM a 0) (gaM a 1)).2.2.1).before args s = true := by rw [hmt.1]; exact hts _ hfl rfl
      exact va_get (D := gD G) (cl := vwCl) (C := (clM (gaM a 0)).1) (T := (clM (gaM a 0)).2.1) (N := (clM (gaM a 0)).2.2) hx hb hts2 (cl_ws _ q1) hown hK2 hP (v - 8) hpt (cl_at q1) (gaM a 1) q2 hw (fun _ z => z) hval hd g
    · rw [e3] at hfl
      have hw : (Cond.fieldLinkNest (owM k) n (fT (gaM a 0) (gaM a 1)).1 (fT (gaM a 0) (gaM a 1)).2.1 (fT (gaM a 0) (gaM a 1)).2.2.1 RX4).before args s = true := by rw [hmt.1]; exact va_Nw.use rfl (hE1 _ hfl rfl)
      exact va_getN (D := gD G) (cl := vwCl) (C := (clM (gaM a 0)).1) (T := (clM (gaM a 0)).2.1) (N := (clM (gaM a 0)).2.2) hx hb hts2 (cl_ws _ q1) hown hK2 hP (v - 8) hpt (cl_at q1) (gaM a 1) q2 hw (fun _ z => z) hval hd g
  case getstatic n =>
    simp only [Bool.and_eq_true, decide_eq_true_eq, atM] at hq
    obtain ⟨⟨⟨q1, q2⟩, q3⟩, q4⟩ := hq
    obtain rfl := nb_eq q3
    have g := go h hL (cs1 (v := .ref (gaM a 0)) (decide_eq_true (Nat.lt_of_lt_of_le q2 hT.1)) hsv)
    rw [List.map_cons, va_nz (by omega), hAd _ (by omega) q2] at g
    have hz := hZ (gaM a 0 - 2) (by omega)
    rw [show gaM a 0 - 2 + 2 = gaM a 0 by omega] at hz
    exact va_getsN hx hb hz hS hown (va_Nw.use rfl (hE1 _ (List.mem_of_getElem? q4) rfl)) (fun _ z => z) hd g
  case iaload =>
    simp only [Bool.and_eq_true] at hq
    obtain rfl := nb_eq hq.2
    obtain ⟨i, v, r, rfl, g1⟩ := in_IR h
    obtain ⟨⟨hk, hi⟩, g1⟩ := in_no g1
    obtain ⟨k1, k2, -⟩ := tk_kind (κ := 2) hT hk (by decide)
    have g := go g1 hL (cs1 rfl (tl1 (tl1 hsv)))
    rw [List.map_cons, List.map_cons, va_nz k2]
    rcases Nat.lt_or_ge v 8 with k8 | k8
    · obtain ⟨t1, t2⟩ := hT.2.2.2.2 v (by omega) k8
      rw [hAd v (by omega) k8]
      have hi' : vp_in i (gN G v) := by rw [t1] at hi; exact hi
      exact va_ti hx hb (hT2 v (by omega) k8) hS hi' (by rw [← t2]; rfl) hd g
    · have hpt := cs_at (c := gC G) (ad := ad) k8 k1
      rw [ce_int hk (Or.inl rfl)] at hpt
      exact va_iald hx hb hK2 hP (v - 8) 0 hpt (ty_at _).1 hi hd g
  case baload =>
    simp only [Bool.and_eq_true] at hq
    obtain rfl := nb_eq hq.2
    obtain ⟨i, v, r, rfl, g1⟩ := in_IR h
    obtain ⟨⟨hk, hi⟩, g1⟩ := in_no g1
    obtain ⟨k1, k2, k3⟩ := tk_kind (κ := 3) hT hk (by decide)
    have g := go g1 hL (cs1 rfl (tl1 (tl1 hsv)))
    rw [List.map_cons, List.map_cons, va_nz k2]
    have hpt := cs_at (c := gC G) (ad := ad) (k3 (by decide)) k1
    rw [ce_int hk (Or.inr (Or.inl rfl))] at hpt
    exact va_zald hx hb hK2 hP (v - 8) 1 hpt (ty_at _).2.1 hi hd g
  case caload =>
    simp only [Bool.and_eq_true] at hq
    obtain rfl := nb_eq hq.2
    obtain ⟨i, v, r, rfl, g1⟩ := in_IR h
    obtain ⟨⟨hk, hi⟩, g1⟩ := in_no g1
    obtain ⟨k1, k2, k3⟩ := tk_kind (κ := 4) hT hk (by decide)
    have g := go g1 hL (cs1 rfl (tl1 (tl1 hsv)))
    rw [List.map_cons, List.map_cons, va_nz k2]
    have hpt := cs_at (c := gC G) (ad := ad) (k3 (by decide)) k1
    rw [ce_int hk (Or.inr (Or.inr rfl))] at hpt
    exact va_cald hx hb hK2 hP (v - 8) 2 hpt (ty_at _).2.2.1 hi hd g
  case laload =>
    simp only [Bool.and_eq_true] at hq
    obtain rfl := nb_eq hq.2
    obtain ⟨i, v, r, rfl, g1⟩ := in_IR h
    obtain ⟨⟨hk, hi⟩, g1⟩ := in_no g1
    obtain ⟨k1, k2, k3⟩ := tk_kind (κ := 5) hT hk (by decide)
    have g := go g1 hL (cs1 rfl (tl1 (tl1 hsv)))
    rw [List.map_cons, List.map_cons, va_nz k2]
    have hpt := cs_at (c := gC G) (ad := ad) (k3 (by decide)) k1
    rw [ce_long hk] at hpt
    exact va_lald hx hb hK2 hP (v - 8) 3 hpt (ty_at _).2.2.2.1 hi hd g
  case aaload =>
    simp only [Bool.and_eq_true] at hq
    obtain rfl := nb_eq hq.2
    obtain ⟨i, v, r, rfl, g1⟩ := in_IR h
    obtain ⟨⟨hk, hi⟩, g1⟩ := in_no g1
    obtain ⟨k1, k2, k3⟩ := tk_kind (κ := 6) hT hk (by decide)
    have g := go g1 hL (cs1 (v := .ref _) (decide_eq_true (hT.2.2.2.1 v _)) (tl1 (tl1 hsv)))
    rw [List.map_cons, List.map_cons, va_nz k2]
    have hpt := cs_at (c := gC G) (ad := ad) (k3 (by decide)) k1
    rw [ce_ref hk] at hpt
    exact va_aldq hx hb hK2 hP (v - 8) 4 hpt (ty_at _).2.2.2.2 hi hd g
  case arraylength =>
    simp only [Bool.and_eq_true] at hq
    obtain rfl := nb_eq hq.2
    obtain ⟨v, r, rfl, g1⟩ := in_R1 h
    obtain ⟨hk, g1⟩ := in_no g1
    obtain ⟨k1, k2, -⟩ := tk_kind (κ := 2) hT hk (by decide)
    have g := go g1 hL (cs1 rfl (tl1 hsv))
    rw [List.map_cons, va_nz k2]
    rcases Nat.lt_or_ge v 8 with k8 | k8
    · obtain ⟨t1, t2⟩ := hT.2.2.2.2 v (by omega) k8
      rw [hAd v (by omega) k8]
      exact va_tlen hx hb (hT2 v (by omega) k8) hS (by rw [t1]) hd g
    · have hpt := cs_at (c := gC G) (ad := ad) k8 k1
      rw [ce_int hk (Or.inl rfl)] at hpt
      exact va_alen hx hb hK2 hP (v - 8) 0 hpt (ty_at _).1 rfl hd g
  case dup =>
    simp only [Bool.and_eq_true] at hq
    obtain rfl := nb_eq hq.2
    cases sa with
    | nil => cases h
    | cons v r =>
      cases e : isOne v with
      | false => simp only [stM, e] at h; cases h
      | true =>
        simp only [stM, e] at h
        obtain ⟨h1, h2⟩ := List.forall_mem_cons.mp hsv
        exact lv_dup hx hb hd (va_cat1 e) (go h hL (cs1 h1 (cs1 h1 h2)))
  case pop =>
    simp only [Bool.and_eq_true] at hq
    obtain rfl := nb_eq hq.2
    cases sa with
    | nil => cases h
    | cons v r =>
      cases e : isOne v with
      | false => simp only [stM, e] at h; cases h
      | true =>
        simp only [stM, e] at h
        exact lv_pop hx hb hd (va_cat1 e) (go h hL (tl1 hsv))
  case dup2 =>
    simp only [Bool.and_eq_true] at hq
    obtain rfl := nb_eq hq.2
    cases sa with
    | nil => cases h
    | cons v r => cases r with
      | nil => cases h
      | cons w r =>
        cases e : isOne v with
        | false => simp only [stM, e, Bool.false_and] at h; cases h
        | true => cases e2 : isOne w with
          | false => simp only [stM, e, e2, Bool.and_false] at h; cases h
          | true =>
            simp only [stM, e, e2, Bool.and_self] at h
            obtain ⟨h1, h2⟩ := List.forall_mem_cons.mp hsv
            obtain ⟨h3, h4⟩ := List.forall_mem_cons.mp h2
            exact lv_dup2_11 hx hb hd (va_cat1 e) (va_cat1 e2) (go h hL (cs1 h1 (cs1 h3 (cs1 h1 (cs1 h3 h4)))))
  all_goals first
    | exact absurd trivial hsp
    | cases h
end
section
theorem Rp_nxwr (σ : Mem) (v j : Nat) (x : Int32) : nxM (wrM σ v j x) = nxM σ := rfl
theorem wr_tk (σ : Mem) (v j : Nat) (x : Int32) (u : Nat) : tkM (wrM σ v j x) u = tkM σ u := rfl
theorem wr_pr (σ : Mem) (v j : Nat) (x : Int32) (u i : Nat) : prM (wrM σ v j x) u i = prM σ u i := rfl
theorem wr_rd (σ : Mem) (v j : Nat) (x : Int32) (u i : Nat) : rdM (wrM σ v j x) u i = if u = v ∧ i = j then x else rdM σ u i := rfl
theorem wr_ne {σ : Mem} {v j : Nat} {x : Int32} {u i : Nat} (h : u ≠ v) : rdM (wrM σ v j x) u i = rdM σ u i := if_neg (fun q => h q.1)
theorem wp_pr (σ : Mem) (v j x u i : Nat) : prM (wpM σ v j x) u i = if u = v ∧ i = j then x else prM σ u i := rfl
theorem wp_ne {σ : Mem} {v j x u i : Nat} (h : u ≠ v) : prM (wpM σ v j x) u i = prM σ u i := if_neg (fun q => h q.1)
theorem cl_own : ∀ ci, ci < 6 → ∀ k, k < (clM ci).2.2 → (fT ci k).1 = rcM ci := by
  intro ci h k hk
  have hb : (clM ci).2.2 ≤ 11 := by
    rcases (show ci = 0 ∨ ci = 1 ∨ ci = 2 ∨ ci = 3 ∨ ci = 4 ∨ ci = 5 by omega) with rfl | rfl | rfl | rfl | rfl | rfl <;> decide
  have hk' : k < 11 := Nat.lt_of_lt_of_le hk hb
  rcases (show ci = 0 ∨ ci = 1 ∨ ci = 2 ∨ ci = 3 ∨ ci = 4 ∨ ci = 5 by omega) with rfl | rfl | rfl | rfl | rfl | rfl <;>
    rcases (show k = 0 ∨ k = 1 ∨ k = 2 ∨ k = 3 ∨ k = 4 ∨ k = 5 ∨ k = 6 ∨ k = 7 ∨ k = 8 ∨ k = 9 ∨ k = 10 by omega) with rfl | rfl | rfl | rfl | rfl | rfl | rfl | rfl | rfl | rfl | rfl <;> rfl
def psM (ic : IcM) : Prop := match ic.1 with
  | .putfield _ | .iastore | .bastore | .castore | .lastore | .aastore => True
  | _ => False
set_option maxHeartbeats 8000000 in
theorem sim_b {G : GlM} {l : Launch} {k : Nat} {ic : IcM} {fr : FrM} {σ : Mem} {o : OutM} {Φ : Nat → List Value → Mem → Option OutM} {K : FrM → Mem → Option OutM}
    (hmt : MtP k) (hK : ∀ fr' σ', K fr' σ' = some o → WsM G l k fr' σ' o) (hok : okM k fr.1 ic = true) (hsp : psM ic) (h : stM Φ K k ic fr σ = some o) : WsM G l k fr σ o := by
  obtain ⟨pc, la, sa, kc, ks⟩ := fr
  obtain ⟨i, len, a, cst⟩ := ic
  intro p e R s m args below meth c ad H locs Q ls st hA hR hS hL hsk hX
  obtain ⟨rfl, hsv⟩ := hsk
  obtain ⟨⟨hx, hb, hml, hrt, hlk, hnm, hown⟩, hts, hE, hex, htr, hr1, hr2, hr3, hr4⟩ := id hA
  obtain ⟨hP, hD, hT, hAd⟩ := id hR
  obtain ⟨hE1, hK2, hZ, hT2, hU, hN, hSt, hNc, hB0⟩ := id hE
  have hts2 : ∀ w ∈ lw_tbl.filter goodWord, w.before args s = true := fun w hw => hts w (List.mem_filter.mp hw).1 (List.mem_filter.mp hw).2
  unfold okM at hok
  dsimp only at hok
  rw [Bool.and_eq_true] at hok
  obtain ⟨hd, hq⟩ := hok
  replace hd := of_decide_eq_true hd
  have tl1 : ∀ {v : Value} {r : List Value}, (∀ w ∈ v :: r, vkM (nxM σ) w = true) → ∀ w ∈ r, vkM (nxM σ) w = true := fun h => (List.forall_mem_cons.mp h).2
  have go : ∀ {pc' : Nat} {sa' : List Value} {σ' : Mem} {H' : Heap} {locs' : List Loc}, K (pc', la, sa', kc, ks) σ' = some o → nxM σ' = nxM σ → RpM G ad σ' H' → va_S (gU G) s.heap H' locs' → (∀ v ∈ sa', vkM (nxM σ) v = true) → W p l e R s m args below meth c H' locs' kc ks Q (F0 m pc' ls (sa'.map (vaM ad))) :=
    fun h hn h1 h2 h3 => hK _ _ h p e R s m args below meth c ad _ _ Q _ _ hA h1 h2 (by rw [hn]; exact hL) ⟨rfl, by rw [hn]; exact h3⟩ (by rw [hn]; exact hX)
  cases i
  case putfield n =>
    simp only [Bool.and_eq_true, decide_eq_true_eq, flI] at hq
    obtain ⟨⟨⟨⟨⟨⟨q1, q2⟩, q3⟩, q4⟩, q5⟩, q6⟩, q7⟩ := hq
    obtain rfl := nb_eq q4
    have hfl := flL_ok _ (List.mem_of_getElem? q6)
    obtain ⟨c0, c2, c1, c3⟩ := cl_kind _ q1 _ q2
    rw [← q3] at c0 c2 c1 c3
    -- one store, whatever its value
    have main : ∀ (v : Nat) (w : Value) (r : List Value) (σ' : Mem), tkM σ v = (1, gaM a 0) → K (pc + 3, la, r, kc, ks) σ' = some o → (∀ v ∈ r, vkM (nxM σ) v = true) → nxM σ' = nxM σ → (∀ u, tkM σ' u = tkM σ u) → (∀ u j, u ≠ v → rdM σ' u j = rdM σ u j) → (∀ u j, u ≠ v → prM σ' u j = prM σ u j) → (∀ j, prM σ' v j < nxM σ) →
        (∀ j, j ≠ gaM a 1 → rdM σ' v j = rdM σ v j) → (∀ j, j ≠ gaM a 1 → prM σ' v j = prM σ v j) → w = (bif Nat.beq (fkN (gaM a 0) (gaM a 1)) 1 then vaM ad (.ref (prM σ' v (gaM a 1))) else .int (rdM σ' v (gaM a 1))) →
        narrow (tyN (gaM a 0) (gaM a 1)) w = w → fits (tyN (gaM a 0) (gaM a 1)) w = true → W p l e R s m args below meth c H locs kc ks Q (F0 m pc ls (w :: vaM ad (.ref v) :: r.map (vaM ad))) := by
      intro v w r σ' htk h hr s1 s2 s3 s4 s5 s6 s7 hw hn hf
      obtain ⟨k1, k2, k3⟩ := tk_kind (κ := 1) hT (by rw [htk]) (Nat.le_refl 1)
      have k8 := k3 (by decide)
      have hpt := cs_at (c := gC G) (ad := ad) k8 k1
      rw [ce_obj htk] at hpt
      have hset : ((List.range (clM (gaM a 0)).2.2).map fun k => bif Nat.beq (fkN (gaM a 0) k) 1 then vaM ad (.ref (prM σ v k)) else .int (rdM σ v k)).set (gaM a 1) w = (List.range (clM (gaM a 0)).2.2).map fun k => bif Nat.beq (fkN (gaM a 0) k) 1 then vaM ad (.ref (prM σ' v k)) else .int (rdM σ' v k) := by
        rw [hw]
        exact Ru_set (f := fun k => bif Nat.beq (fkN (gaM a 0) k) 1 then vaM ad (.ref (prM σ v k)) else .int (rdM σ v k)) (g := fun k => bif Nat.beq (fkN (gaM a 0) k) 1 then vaM ad (.ref (prM σ' v k)) else .int (rdM σ' v k)) q2 (fun j hj => by rw [s6 j hj, s7 j hj])
      have hl : gaM a 1 < ((List.range (clM (gaM a 0)).2.2).map fun k => bif Nat.beq (fkN (gaM a 0) k) 1 then vaM ad (.ref (prM σ v k)) else .int (rdM σ v k)).length := by rw [List.length_map, List.length_range]; exact q2
      have hce : ceM (gC G) ad σ' v = .inr (gaM a 0, (List.range (clM (gaM a 0)).2.2).map fun k => bif Nat.beq (fkN (gaM a 0) k) 1 then vaM ad (.ref (prM σ' v k)) else .int (rdM σ' v k)) := ce_obj (by rw [s2]; exact htk)
      have fin : ∀ (H1 : Heap) (locs1 : List Loc), va_P (gD G) vwCl ((csM (gC G) ad σ).set (v - 8) (ad v, .inr (gaM a 0, ((List.range (clM (gaM a 0)).2.2).map fun k => bif Nat.beq (fkN (gaM a 0) k) 1 then vaM ad (.ref (prM σ v k)) else .int (rdM σ v k)).set (gaM a 1) w))) H1 → va_D (gU G) ((csM (gC G) ad σ).set (v - 8) (ad v, .inr (gaM a 0, ((List.range (clM (gaM a 0)).2.2).map fun k => bif Nat.beq (fkN (gaM a 0) k) 1 then vaM ad (.ref (prM σ v k)) else .int (rdM σ v k)).set (gaM a 1) w))) → va_S (gU G) s.heap H1 locs1 → W p l e R s m args below meth c H1 locs1 kc ks Q (F0 m (pc + 3) ls (r.map (vaM ad))) := by
        intro H1 locs1 p1 d1 s8
        rw [hset, ← hce] at p1 d1
        exact go h s1 (Rp_set hR k8 k1 s1 s2 s3 s4 s5 p1 d1) s8 hr
      rw [va_nz k2]
      rcases (show gaM a 3 = 0 ∨ gaM a 3 = 1 by omega) with e3 | e3
      · rw [e3] at hfl
        have hw2 : (Cond.fieldLink (owM k) n (fT (gaM a 0) (gaM a 1)).1 (fT (gaM a 0) (gaM a 1)).2.1 (fT (gaM a 0) (gaM a 1)).2.2.1).before args s = true := by rw [hmt.1]; exact hts _ hfl rfl
        simp only [Bool.or_eq_true, Bool.and_eq_true, decide_eq_true_eq] at q7
        rcases q7 with q7 | ⟨⟨⟨f1, f2⟩, f3⟩, f4⟩
        · exact va_put (D := gD G) (cl := vwCl) (C := (clM (gaM a 0)).1) (T := (clM (gaM a 0)).2.1) (N := (clM (gaM a 0)).2.2) (ty := tyN (gaM a 0) (gaM a 1)) hx hb hts2 (cl_ws _ q1) (tyN (gaM a 0)) (cl_ty _ q1) (cl_nm _ q1) hown hK2 hP hD hS (v - 8) hpt (cl_at q1) (gaM a 1) q2 hw2 (fun _ z => z) q7 (cl_ty _ q1 _ q2) hn hf hl hd fin
        · have hown2 : (fT (gaM a 0) (gaM a 1)).1 = owM k := by
            rw [hmt.1, ← f3]
            exact cl_own _ q1 _ q2
          exact va_putF (D := gD G) (cl := vwCl) (C := (clM (gaM a 0)).1) (T := (clM (gaM a 0)).2.1) (N := (clM (gaM a 0)).2.2) (ty := tyN (gaM a 0) (gaM a 1)) hx hb hts2 (cl_ws _ q1) (tyN (gaM a 0)) (cl_ty _ q1) (cl_nm _ q1) hown hK2 hP hD hS (v - 8) hpt (cl_at q1) (gaM a 1) q2 hw2 (fun _ z => z) f1 (hnm.trans (hmt.2.2.2.2.1 f2).2) hown2 (cl_ty _ q1 _ q2) hn hf hl hd fin
      · rw [e3] at hfl
        have hw2 : (Cond.fieldLinkNest (owM k) n (fT (gaM a 0) (gaM a 1)).1 (fT (gaM a 0) (gaM a 1)).2.1 (fT (gaM a 0) (gaM a 1)).2.2.1 RX4).before args s = true := by rw [hmt.1]; exact va_Nw.use rfl (hE1 _ hfl rfl)
        have f7 : ((clM (gaM a 0)).2.1 (gaM a 1)).2.2.2 = false := by
          simp only [Bool.or_eq_true, Bool.and_eq_true, decide_eq_true_eq] at q7
          rcases q7 with q7 | q7
          · exact q7
          · omega
        exact va_putN (D := gD G) (cl := vwCl) (C := (clM (gaM a 0)).1) (T := (clM (gaM a 0)).2.1) (N := (clM (gaM a 0)).2.2) (ty := tyN (gaM a 0) (gaM a 1)) hx hb hts2 (cl_ws _ q1) (tyN (gaM a 0)) (cl_ty _ q1) (cl_nm _ q1) hown hK2 hP hD hS (v - 8) hpt (cl_at q1) (gaM a 1) q2 hw2 (fun _ z => z) f7 (cl_ty _ q1 _ q2) hn hf hl hd fin
    rcases (show gaM a 2 = 0 ∨ gaM a 2 = 1 ∨ gaM a 2 = 2 by omega) with e | e | e
    · simp only [stM, e, show Nat.beq 0 1 = false from rfl, show Nat.beq 0 2 = false from rfl, cond_false] at h
      obtain ⟨x, v, r, rfl, g1⟩ := in_IR h
      obtain ⟨htk, g1⟩ := in_no g1
      rw [List.map_cons, List.map_cons]
      refine main v (.int x) r _ htk g1 (tl1 (tl1 hsv)) rfl (fun _ => rfl) (fun _ _ hu => wr_ne hu) (fun _ _ _ => rfl) (fun j => hT.2.2.2.1 v j) (fun j hj => if_neg (fun q => hj q.2)) (fun _ _ => rfl) ?_ (by rw [c0 e]; rfl) (by rw [c0 e]; rfl)
      rw [← q3, e, wr_rd, if_pos ⟨rfl, rfl⟩]; rfl
    · simp only [stM, e, show Nat.beq 1 1 = true from rfl, cond_true] at h
      obtain ⟨x, v, r, rfl, g1⟩ := in_RR h
      obtain ⟨htk, g1⟩ := in_no g1
      rw [List.map_cons, List.map_cons]
      have hxv : x < nxM σ := of_decide_eq_true (List.forall_mem_cons.mp hsv).1
      refine main v (vaM ad (.ref x)) r _ htk g1 (tl1 (tl1 hsv)) rfl (fun _ => rfl) (fun _ _ _ => rfl) (fun _ _ hu => wp_ne hu) (fun j => ?_) (fun _ _ => rfl) (fun j hj => if_neg (fun q => hj q.2)) ?_ ?_ ?_
      · rw [wp_pr]; split
        · exact hxv
        · exact hT.2.2.2.1 v j
      · rw [← q3, e, wp_pr, if_pos ⟨rfl, rfl⟩]; rfl
      · rcases c1 e with ⟨C, e2⟩ | ⟨t, e2⟩ <;> rw [e2] <;> rcases va_null ad x with e3 | ⟨q, e3⟩ <;> rw [e3] <;> rfl
      · rcases c1 e with ⟨C, e2⟩ | ⟨t, e2⟩ <;> rw [e2] <;> rcases va_null ad x with e3 | ⟨q, e3⟩ <;> rw [e3] <;> rfl
    · simp only [stM, e, show Nat.beq 2 1 = false from rfl, show Nat.beq 2 2 = true from rfl, cond_false, cond_true] at h
      obtain ⟨x, v, r, rfl, g1⟩ := in_IR h
      obtain ⟨⟨htk, hx0, hx1⟩, g1⟩ := in_no g1
      rw [List.map_cons, List.map_cons]
      refine main v (.int x) r _ htk g1 (tl1 (tl1 hsv)) rfl (fun _ => rfl) (fun _ _ hu => wr_ne hu) (fun _ _ _ => rfl) (fun j => hT.2.2.2.1 v j) (fun j hj => if_neg (fun q => hj q.2)) (fun _ _ => rfl) ?_ (by rw [c2 e]; exact (ch_ok hx0 hx1).1) (by rw [c2 e]; exact (ch_ok hx0 hx1).2)
      rw [← q3, e, wr_rd, if_pos ⟨rfl, rfl⟩]; rfl
  case iastore =>
    simp only [Bool.and_eq_true] at hq
    obtain rfl := nb_eq hq.2
    obtain ⟨x, i, v, r, rfl, g1⟩ := in_IIR h
    obtain ⟨⟨⟨hk, hi⟩, k8⟩, g1⟩ := in_no g1
    obtain ⟨k1, k2, -⟩ := tk_kind (κ := 2) hT hk (by decide)
    rw [List.map_cons, List.map_cons, List.map_cons, va_nz k2]
    have hpt := cs_at (c := gC G) (ad := ad) k8 k1
    rw [ce_int hk (Or.inl rfl)] at hpt
    refine va_iast hx hb hK2 hP hD hS (v - 8) 0 hpt (ty_at _).1 hi hd (fun H1 locs1 p1 d1 s1 => ?_)
    have hce : ceM (gC G) ad (wrM σ v i.toNatClampNeg x) v = .inl (gC G 2, (tkM σ v).2, .inl (rdM (wrM σ v i.toNatClampNeg x) v)) := ce_int (κ := 2) hk (Or.inl rfl)
    rw [upd_wr, ← hce] at p1 d1
    exact go g1 rfl (Rp_set hR k8 k1 rfl (fun _ => rfl) (fun _ _ hu => wr_ne hu) (fun _ _ _ => rfl) (fun j => hT.2.2.2.1 v j) p1 d1) s1 (tl1 (tl1 (tl1 hsv)))
  case bastore =>
    simp only [Bool.and_eq_true] at hq
    obtain rfl := nb_eq hq.2
    obtain ⟨x, i, v, r, rfl, g1⟩ := in_IIR h
    obtain ⟨⟨hk, hi⟩, g1⟩ := in_no g1
    obtain ⟨k1, k2, k3⟩ := tk_kind (κ := 3) hT hk (by decide)
    have k8 := k3 (by decide)
    rw [List.map_cons, List.map_cons, List.map_cons, va_nz k2]
    have hpt := cs_at (c := gC G) (ad := ad) k8 k1
    rw [ce_int hk (Or.inr (Or.inl rfl))] at hpt
    refine va_zast hx hb hK2 hP hD hS (v - 8) 1 hpt (ty_at _).2.1 hi hd (fun H1 locs1 p1 d1 s1 => ?_)
    have hce : ceM (gC G) ad (wrM σ v i.toNatClampNeg (x &&& 1)) v = .inl (gC G 3, (tkM σ v).2, .inl (rdM (wrM σ v i.toNatClampNeg (x &&& 1)) v)) := ce_int (κ := 3) hk (Or.inr (Or.inl rfl))
    rw [show vp_nar .boolean x = x &&& 1 from rfl, upd_wr, ← hce] at p1 d1
    exact go g1 rfl (Rp_set hR k8 k1 rfl (fun _ => rfl) (fun _ _ hu => wr_ne hu) (fun _ _ _ => rfl) (fun j => hT.2.2.2.1 v j) p1 d1) s1 (tl1 (tl1 (tl1 hsv)))
  case castore =>
    simp only [Bool.and_eq_true] at hq
    obtain rfl := nb_eq hq.2
    obtain ⟨x, i, v, r, rfl, g1⟩ := in_IIR h
    obtain ⟨⟨hk, hi⟩, g1⟩ := in_no g1
    obtain ⟨k1, k2, k3⟩ := tk_kind (κ := 4) hT hk (by decide)
    have k8 := k3 (by decide)
    rw [List.map_cons, List.map_cons, List.map_cons, va_nz k2]
    have hpt := cs_at (c := gC G) (ad := ad) k8 k1
    rw [ce_int hk (Or.inr (Or.inr rfl))] at hpt
    refine va_cast hx hb hK2 hP hD hS (v - 8) 2 hpt (ty_at _).2.2.1 hi hd (fun H1 locs1 p1 d1 s1 => ?_)
    have hnar : vp_nar .char x = (x.toUInt32 % 65536).toInt32 := by
      rw [vp_nar_char]; congr 1
    have hce : ceM (gC G) ad (wrM σ v i.toNatClampNeg (x.toUInt32 % 65536).toInt32) v = .inl (gC G 4, (tkM σ v).2, .inl (rdM (wrM σ v i.toNatClampNeg (x.toUInt32 % 65536).toInt32) v)) := ce_int (κ := 4) hk (Or.inr (Or.inr rfl))
    rw [hnar, upd_wr, ← hce] at p1 d1
    exact go g1 rfl (Rp_set hR k8 k1 rfl (fun _ => rfl) (fun _ _ hu => wr_ne hu) (fun _ _ _ => rfl) (fun j => hT.2.2.2.1 v j) p1 d1) s1 (tl1 (tl1 (tl1 hsv)))
  case lastore =>
    simp only [Bool.and_eq_true] at hq
    obtain rfl := nb_eq hq.2
    obtain ⟨x, i, v, r, rfl, g1⟩ := in_LIR h
    obtain ⟨⟨⟨hk, hi⟩, hxx⟩, g1⟩ := in_no g1
    obtain ⟨k1, k2, k3⟩ := tk_kind (κ := 5) hT hk (by decide)
    have k8 := k3 (by decide)
    rw [List.map_cons, List.map_cons, List.map_cons, va_nz k2]
    have hpt := cs_at (c := gC G) (ad := ad) k8 k1
    rw [ce_long hk] at hpt
    refine va_last hx hb hK2 hP hD hS (v - 8) 3 hpt (ty_at _).2.2.2.1 hi hd (fun H1 locs1 p1 d1 s1 => ?_)
    have hrow : (vp_updL (fun j => (rdM σ v j).toInt64) i.toNatClampNeg x) = fun j => (rdM (wrM σ v i.toNatClampNeg x.toInt32) v j).toInt64 := by
      funext j
      show (if j = i.toNatClampNeg then x else (rdM σ v j).toInt64) = (if v = v ∧ j = i.toNatClampNeg then x.toInt32 else rdM σ v j).toInt64
      by_cases e : j = i.toNatClampNeg <;> simp [e, hxx]
    have hce : ceM (gC G) ad (wrM σ v i.toNatClampNeg x.toInt32) v = .inl (gC G 5, (tkM σ v).2, .inr (.inl fun j => (rdM (wrM σ v i.toNatClampNeg x.toInt32) v j).toInt64)) := ce_long hk
    rw [hrow, ← hce] at p1 d1
    exact go g1 rfl (Rp_set hR k8 k1 rfl (fun _ => rfl) (fun _ _ hu => wr_ne hu) (fun _ _ _ => rfl) (fun j => hT.2.2.2.1 v j) p1 d1) s1 (tl1 (tl1 (tl1 hsv)))
  case aastore =>
    simp only [Bool.and_eq_true] at hq
    obtain rfl := nb_eq hq.2
    obtain ⟨x, i, v, r, rfl, g1⟩ := in_RIR h
    obtain ⟨⟨⟨hk, hi⟩, hxk⟩, g1⟩ := in_no g1
    obtain ⟨k1, k2, k3⟩ := tk_kind (κ := 6) hT hk (by decide)
    have k8 := k3 (by decide)
    obtain ⟨j1, j2, j3⟩ := tk_kind (κ := 1) hT (by rw [hxk]) (Nat.le_refl 1)
    have j8 := j3 (by decide)
    rw [List.map_cons, List.map_cons, List.map_cons, va_nz k2, va_nz j2]
    have hpt := cs_at (c := gC G) (ad := ad) k8 k1
    rw [ce_ref hk] at hpt
    have hpx := cs_at (c := gC G) (ad := ad) j8 j1
    rw [ce_obj hxk] at hpx
    refine va_astq (r := clM 2) hx hb hK2 hP hD hS (v - 8) 4 (x - 8) 2 hpt (ty_at _).2.2.2.2 hpx (cl_at (by decide)) hi hd (fun H1 locs1 p1 d1 s1 => ?_)
    have hrow : (va_up (fun j => rfM ad (prM σ v j)) i.toNatClampNeg (some (ad x))) = fun j => rfM ad (prM (wpM σ v i.toNatClampNeg x) v j) := by
      funext j
      show (if j = i.toNatClampNeg then some (ad x) else rfM ad (prM σ v j)) = rfM ad (if v = v ∧ j = i.toNatClampNeg then x else prM σ v j)
      by_cases e : j = i.toNatClampNeg
      · simp only [e, and_self, if_true]; unfold rfM; rw [if_neg j2]
      · simp [e]
    have hce : ceM (gC G) ad (wpM σ v i.toNatClampNeg x) v = .inl (gC G 6, (tkM σ v).2, .inr (.inr (.inr (.inr fun j => rfM ad (prM (wpM σ v i.toNatClampNeg x) v j))))) := ce_ref hk
    rw [hrow, ← hce] at p1 d1
    refine go g1 rfl (Rp_set hR k8 k1 rfl (fun _ => rfl) (fun _ _ _ => rfl) (fun _ _ hu => wp_ne hu) (fun j => ?_) p1 d1) s1 (tl1 (tl1 (tl1 hsv)))
    rw [wp_pr]; split
    · exact j1
    · exact hT.2.2.2.1 v j
  all_goals exact absurd hsp (fun z => z)
end
section
theorem nw_tk (σ : Mem) (κ n u : Nat) : tkM (nwM σ κ n) u = if u = nxM σ then (κ, n) else tkM σ u := rfl
theorem nw_rd (σ : Mem) (κ n u i : Nat) : rdM (nwM σ κ n) u i = if u = nxM σ then 0 else rdM σ u i := rfl
theorem nw_pr (σ : Mem) (κ n u i : Nat) : prM (nwM σ κ n) u i = if u = nxM σ then 0 else prM σ u i := rfl
theorem nw_nx (σ : Mem) (κ n : Nat) : nxM (nwM σ κ n) = nxM σ + 1 := rfl
theorem Rp_new {G : GlM} {ad : Nat → Nat} {σ : Mem} {H H1 : Heap} {κ n q : Nat} {e : va_E} (h : RpM G ad σ H) (hk : 1 ≤ κ)
    (he : ceK (gC G) (fun u => if u = nxM σ then q else ad u) (fun _ => 0) (fun _ => 0) κ n = e) (hP : va_P (gD G) vwCl (csM (gC G) ad σ ++ [(q, e)]) H1) (hD : va_D (gU G) (csM (gC G) ad σ ++ [(q, e)])) :
    RpM G (fun u => if u = nxM σ then q else ad u) (nwM σ κ n) H1 := by
  obtain ⟨-, -, ⟨a1, a2, a3, a4, a5⟩, a6⟩ := h
  have hlt : ∀ u, u < nxM σ → u ≠ nxM σ := fun u hu => by omega
  have e1 := cs_new (c := gC G) (ad := ad) (ad' := fun u => if u = nxM σ then q else ad u) (σ := σ) (σ' := nwM σ κ n) a1 rfl (fun u hu => by rw [nw_tk, if_neg (hlt u hu)]) (fun u j hu => by rw [nw_rd, if_neg (hlt u hu)]) (fun u j hu => by rw [nw_pr, if_neg (hlt u hu)]) a4 (fun u hu => if_neg (hlt u hu))
  have e2 : ceM (gC G) (fun u => if u = nxM σ then q else ad u) (nwM σ κ n) (nxM σ) = e := by
    unfold ceM
    rw [nw_tk, if_pos rfl, show rdM (nwM σ κ n) (nxM σ) = fun _ => 0 from funext fun i => by rw [nw_rd, if_pos rfl], show prM (nwM σ κ n) (nxM σ) = fun _ => 0 from funext fun i => by rw [nw_pr, if_pos rfl]]
    exact he
  rw [e2] at e1
  rw [if_pos rfl] at e1
  refine ⟨by rw [e1]; exact hP, by rw [e1]; exact hD, ⟨by rw [nw_nx]; omega, fun v hv => ?_, ?_, fun v j => ?_, fun v p1 p2 => ?_⟩, fun v p1 p2 => ?_⟩
  · rw [nw_nx] at hv
    rw [nw_tk, if_neg (by omega)]; exact a2 v (by omega)
  · rw [nw_tk, if_neg (by omega)]; exact a3
  · rw [nw_nx, nw_pr]; split
    · omega
    · have := a4 v j; omega
  · rw [nw_tk, if_neg (by omega)]
    exact ⟨(a5 v p1 p2).1, fun j => by rw [nw_rd, if_neg (by omega)]; exact (a5 v p1 p2).2 j⟩
  · show (if v = nxM σ then q else ad v) = _
    rw [if_neg (by omega)]; exact a6 v p1 p2
theorem cl_wd : ∀ ci, ci < 6 → Cond.instantiable (clM ci).1 (clM ci).2.2 ∈ lw_tbl ∧ Cond.initialized (clM ci).1 ∈ lw_tbl := by
  intro ci h
  rcases (show ci = 0 ∨ ci = 1 ∨ ci = 2 ∨ ci = 3 ∨ ci = 4 ∨ ci = 5 by omega) with rfl | rfl | rfl | rfl | rfl | rfl <;> exact ⟨by decide +kernel, by decide +kernel⟩
theorem ar_wd : Cond.arrayClass .int ∈ lw_tbl ∧ Cond.arrayClass .boolean ∈ lw_tbl ∧ Cond.arrayClass .char ∈ lw_tbl ∧ Cond.arrayClass .long ∈ lw_tbl := ⟨by decide +kernel, by decide +kernel, by decide +kernel, by decide +kernel⟩
theorem sw_find {pc d : Nat} {x : Int32} {f : Nat → Option OutM} {o : OutM} {dflt : Int} (hd : (pc : Int) + dflt = (d : Int)) : ∀ (l : List Nat) (ps : List (Int × Int)), swOk pc l ps = true → swM x d f l = some o → ∃ (t : Nat) (off : Int), Op.lookupswitch.offset ps dflt x.toInt = off ∧ (pc : Int) + off = (t : Int) ∧ f t = some o
  | [], [], _, h => ⟨d, dflt, rfl, hd, h⟩
  | [], _ :: _, h, _ => by simp [swOk] at h
  | [_], [], h, _ => by simp [swOk] at h
  | [_], _ :: _, h, _ => by simp [swOk] at h
  | _ :: _ :: _, [], h, _ => by simp [swOk] at h
  | k :: t :: r, (y, o') :: ps, h, g => by
    simp only [swOk, Bool.and_eq_true, decide_eq_true_eq] at h
    obtain ⟨⟨⟨h1, h2⟩, h3⟩, h4⟩ := h
    have hk : (Int32.ofNat k).toInt = y := by rw [h2]; exact nI_toInt (by omega)
    unfold swM at g
    by_cases e : x = Int32.ofNat k
    · rw [if_pos e] at g
      exact ⟨t, o', by rw [Op.lookupswitch.offset_cons, if_pos (by rw [e, hk])], h3, g⟩
    · rw [if_neg e] at g
      obtain ⟨t', off, q1, q2, q3⟩ := sw_find hd r ps h4 g
      exact ⟨t', off, by rw [lv_osw e hk]; exact q1, q2, q3⟩
theorem tb_off (os : List Int) (d : Int) : ∀ (n : Nat) (x : Int), Op.lookupswitch.offset (((List.range' n os.length).map (fun q : Nat => (q : Int))).zip os) d x = if (n : Int) ≤ x ∧ x < n + os.length then os.getD (x - n).toNat 0 else d := by
  induction os with
  | nil => intro n x; simp only [List.length_nil, List.range'_zero, List.map_nil, List.zip_nil_left]; rw [if_neg (by simp <;> omega)]; rfl
  | cons a os ih =>
    intro n x
    simp only [List.length_cons, List.range'_succ, List.map_cons, List.zip_cons_cons]
    rw [Op.lookupswitch.offset_cons]
    by_cases e : (n : Int) = x
    · rw [if_pos e, if_pos (by omega)]
      have : (x - n).toNat = 0 := by omega
      rw [this]; rfl
    · rw [if_neg e, ih (n + 1) x]
      by_cases c : ((n + 1 : Nat) : Int) ≤ x ∧ x < ((n + 1 : Nat) : Int) + os.length
      · rw [if_pos c, if_pos (by omega)]
        have : (x - n).toNat = (x - ((n + 1 : Nat) : Int)).toNat + 1 := by omega
        rw [this]; rfl
      · rw [if_neg c, if_neg (by omega)]
def pnM (ic : IcM) : Prop := match ic.1 with
  | .newarray _ | .anewarray _ | .tableswitch _ _ _ _ | .lookupswitch _ _ | .ireturn | .areturn | .return_ | .new _ => True
  | _ => False
set_option maxHeartbeats 8000000 in
theorem sim_c {G : GlM} {l : Launch} {k : Nat} {ic : IcM} {fr : FrM} {σ : Mem} {o : OutM} {Φ : Nat → List Value → Mem → Option OutM} {K : FrM → Mem → Option OutM}
    (hmt : MtP k) (hK : ∀ fr' σ', K fr' σ' = some o → WsM G l k fr' σ' o) (hok : okM k fr.1 ic = true) (hsp : pnM ic) (h : stM Φ K k ic fr σ = some o) : WsM G l k fr σ o := by
  obtain ⟨pc, la, sa, kc, ks⟩ := fr
  obtain ⟨i, len, a, cst⟩ := ic
  intro p e R s m args below meth c ad H locs Q ls st hA hR hS hL hsk hX
  obtain ⟨rfl, hsv⟩ := hsk
  obtain ⟨⟨hx, hb, hml, hrt, hlk, hnm, hown⟩, hts, hE, hex, htr, hr1, hr2, hr3, hr4⟩ := id hA
  obtain ⟨hP, hD, hT, hAd⟩ := id hR
  obtain ⟨hE1, hK2, hZ, hT2, hU, hN, hSt, hNc, hB0, hAO⟩ := id hE
  have hts2 : ∀ w ∈ lw_tbl.filter goodWord, w.before args s = true := fun w hw => hts w (List.mem_filter.mp hw).1 (List.mem_filter.mp hw).2
  have hok0 := hok
  unfold okM at hok
  dsimp only at hok
  rw [Bool.and_eq_true] at hok
  obtain ⟨hd, hq⟩ := hok
  replace hd := of_decide_eq_true hd
  have tl1 : ∀ {v : Value} {r : List Value}, (∀ w ∈ v :: r, vkM (nxM σ) w = true) → ∀ w ∈ r, vkM (nxM σ) w = true := fun h => (List.forall_mem_cons.mp h).2
  have hUA : ∀ q : Nat, s.heap.size ≤ q → gU G q := fun q hq => Nat.le_trans hB0 hq
  have go : ∀ {pc' : Nat} {sa' : List Value}, K (pc', la, sa', kc, ks) σ = some o → (∀ v ∈ sa', vkM (nxM σ) v = true) → W p l e R s m args below meth c H locs kc ks Q (F0 m pc' ls (sa'.map (vaM ad))) :=
    fun h h3 => hK _ _ h p e R s m args below meth c ad _ _ Q _ _ hA hR hS hL ⟨rfl, h3⟩ hX
  have gn : ∀ {pc' κ n q kc' ks' : Nat} {r : List Value} {H1 : Heap} {ex : va_E}, K (pc', la, .ref (nxM σ) :: r, kc', ks') (nwM σ κ n) = some o → 1 ≤ κ → (∀ v ∈ r, vkM (nxM σ) v = true) → ceK (gC G) (fun u => if u = nxM σ then q else ad u) (fun _ => 0) (fun _ => 0) κ n = ex → va_P (gD G) vwCl (csM (gC G) ad σ ++ [(q, ex)]) H1 → va_D (gU G) (csM (gC G) ad σ ++ [(q, ex)]) → va_S (gU G) s.heap H1 locs →
      W p l e R s m args below meth c H1 locs kc' ks' Q (F0 m pc' ls (.ref q :: r.map (vaM ad))) := by
    intro pc' κ n q kc' ks' r H1 ex h hk hr he p1 d1 s1
    have h8 : 8 ≤ nxM σ := hT.1
    have hag : ∀ u, u < nxM σ → (fun u => if u = nxM σ then q else ad u) u = ad u := fun u hu => if_neg (by omega)
    obtain ⟨e1, e2⟩ := Sk_ad (n' := nxM σ + 1) (ad' := fun u => if u = nxM σ then q else ad u) hr (Nat.le_succ _) hag
    have g := hK _ _ h p e R s m args below meth c (fun u => if u = nxM σ then q else ad u) H1 locs Q ls _ hA (Rp_new hR hk he p1 d1) s1 (Lo_ad hL (Nat.le_succ _) hag) ⟨rfl, List.forall_mem_cons.mpr ⟨decide_eq_true (Nat.lt_succ_self _), e2⟩⟩ (Xi_mono hX (Nat.le_succ _) hag)
    rw [List.map_cons, ← e1, va_nz (by omega)] at g
    dsimp only at g
    rw [if_pos rfl] at g
    exact g
  cases i
  case ireturn =>
    simp only [Bool.and_eq_true, Bool.or_eq_true, decide_eq_true_eq] at hq
    obtain ⟨⟨⟨q1, q2⟩, q3⟩, q4⟩ := hq
    obtain rfl := nb_eq q3
    rcases sa with - | ⟨v, r⟩
    · cases h
    · rcases r with - | ⟨w, r⟩
      · cases v <;> first | cases h | skip
        case int x =>
          obtain ⟨⟨g1, g2⟩, h⟩ := in_no (c := kc ≤ gaM a 0 ∧ ks ≤ gaM a 1) h
          have key : (rtM k = some .int ∨ (rtM k = some .boolean ∧ (x = 0 ∨ x = 1))) ∧ some ((.inl (some (.int x)), σ) : OutM) = some o := by
            rcases q4 with ⟨e1, e2⟩ | ⟨e1, e2⟩
            · rw [e1] at h; exact ⟨Or.inl e2, h⟩
            · rw [e1] at h
              obtain ⟨h1, h2⟩ := in_no (c := x = 0 ∨ x = 1) h
              exact ⟨Or.inr ⟨e2, h1⟩, h2⟩
          obtain ⟨k1, k2⟩ := key
          obtain rfl := Option.some.inj k2
          exact hX ad H locs kc ks pc ls (fun _ _ => rfl) (Nat.le_refl _) hR hS (by rw [← q1]; exact g1) (by rw [← q2]; exact g2) ⟨hd, k1⟩ rfl
      · cases v <;> cases h
  case areturn =>
    simp only [Bool.and_eq_true, Bool.or_eq_true, decide_eq_true_eq] at hq
    obtain ⟨⟨⟨q1, q2⟩, q3⟩, q4⟩ := hq
    obtain rfl := nb_eq q3
    rcases sa with - | ⟨v, r⟩
    · cases h
    · rcases r with - | ⟨w, r⟩
      · cases v <;> first | cases h | skip
        case ref x =>
          obtain ⟨⟨g1, g2⟩, h⟩ := in_no (c := kc ≤ gaM a 0 ∧ ks ≤ gaM a 1) h
          obtain rfl := Option.some.inj h
          exact hX ad H locs kc ks pc ls (fun _ _ => rfl) (Nat.le_refl _) hR hS (by rw [← q1]; exact g1) (by rw [← q2]; exact g2) ⟨hd, q4⟩ (List.forall_mem_cons.mp hsv).1
      · cases v <;> cases h
  case return_ =>
    simp only [Bool.and_eq_true, Bool.or_eq_true, decide_eq_true_eq] at hq
    obtain ⟨⟨⟨q1, q2⟩, q3⟩, q4⟩ := hq
    obtain rfl := nb_eq q3
    rcases sa with - | ⟨v, r⟩
    · obtain ⟨⟨g1, g2⟩, h⟩ := in_no (c := kc ≤ gaM a 0 ∧ ks ≤ gaM a 1) h
      obtain rfl := Option.some.inj h
      exact hX ad H locs kc ks pc ls (fun _ _ => rfl) (Nat.le_refl _) hR hS (by rw [← q1]; exact g1) (by rw [← q2]; exact g2) ⟨hd, q4⟩ trivial
    · cases h
  case lookupswitch d ps =>
    simp only [Bool.and_eq_true, tgM, decide_eq_true_eq] at hq
    obtain ⟨⟨ht, q2⟩, q3⟩ := hq
    obtain ⟨x, r, rfl, g1⟩ := in_I1 h
    obtain ⟨t, off, w1, w2, w3⟩ := sw_find ht _ _ q2 g1
    exact lv_lookup hx hb hd q3 w1 w2 (go w3 (tl1 hsv))
  case tableswitch d lo hi os =>
    simp only [Bool.and_eq_true, tgM, decide_eq_true_eq] at hq
    obtain ⟨⟨⟨ht, rfl⟩, q2⟩, q3⟩ := hq
    obtain ⟨x, r, rfl, g1⟩ := in_I1 h
    obtain ⟨t, off, w1, w2, w3⟩ := sw_find ht _ _ q3 g1
    have w4 := tb_off os.toList d 0 x.toInt
    rw [List.range_eq_range', show os.size = os.toList.length from rfl] at w1
    rw [w1] at w4
    by_cases c1 : x.toInt < 0 ∨ hi < x.toInt
    · rw [if_neg (by have : os.toList.length = os.size := rfl; omega)] at w4
      subst w4
      exact lv_tableOut hx hb hd c1 w2 (go w3 (tl1 hsv))
    · have hsz : os.toList.length = os.size := rfl
      rw [if_pos (by omega)] at w4
      refine lv_tableIn hx hb hd (by omega) (by omega) (off := off) ?_ w2 (go w3 (tl1 hsv))
      rw [w4]
      have hlt : (x.toInt - 0).toNat < os.size := by omega
      rw [Array.getElem?_eq_getElem hlt, List.getD_eq_getElem?_getD, Array.getElem?_toList, show (x.toInt - ((0 : Nat) : Int)).toNat = (x.toInt - 0).toNat from rfl, Array.getElem?_eq_getElem hlt]
      rfl
  case new n =>
    simp only [Bool.and_eq_true, decide_eq_true_eq] at hq
    obtain ⟨⟨⟨q1, q2⟩, q3⟩, q4⟩ := hq
    obtain rfl := nb_eq q1
    cases e0 : Nat.beq (gaM a 0) 0 with
    | false =>
      simp only [stM, e0, cond_false] at h
      obtain ⟨⟨g1, g2, g3⟩, h⟩ := in_no h
      rw [e0, cond_false] at q4
      simp only [Bool.and_eq_true, decide_eq_true_eq] at q4
      have hne : gaM a 0 ≠ 0 := fun e => by rw [e] at e0; cases e0
      obtain rfl := Option.some.inj h
      have hs0 : hsM k = [] := List.isEmpty_iff.mp q4.1.1.1.1.1.1.1.2
      exact (hX hs0).1 ad H locs kc ks pc ls _ (.new n, 3, a, cst) n (fun _ _ => rfl) (Nat.le_refl _) hR hS (by obtain ⟨lv, h1, -⟩ := hL; exact h1.1) hok0 rfl rfl hne (by rw [cat_map]; exact g3) (by rw [← q2]; exact g1) (by rw [← q3]; exact g2)
    | true =>
      simp only [stM, e0, cond_true] at h
      obtain ⟨⟨g1, g2⟩, h⟩ := in_no h
      rw [e0, cond_true] at q4
      simp only [Bool.and_eq_true, decide_eq_true_eq, atM] at q4
      obtain ⟨⟨j1, j2⟩, j3⟩ := q4
      obtain ⟨w1, w2⟩ := cl_wd _ j1
      refine va_new (C := (clM (gaM a 1)).1) (T := (clM (gaM a 1)).2.1) (N := (clM (gaM a 1)).2.2) (ci := gaM a 1) (fs := (List.range (clM (gaM a 1)).2.2).map fun k => bif Nat.beq (fkN (gaM a 1) k) 1 then Value.null else .int 0) hx hb hts2 (cl_ws _ j1) (tyN (gaM a 1)) (cl_ty _ j1) hown (hts _ (List.mem_of_getElem? j3) rfl) (hts _ w1 rfl) (hts _ w2 rfl) hK2 hP hD hS hUA (cl_at j1) ?_ (Nat.le_trans g1 (by rw [q2]; exact hr3)) (Nat.le_trans (by rw [← j2]; exact g2) (by rw [q3]; exact hr4)) hd (fun q H1 p1 d1 s1 => ?_)
      · intro j hj
        obtain ⟨c0, c2, c1, c3⟩ := cl_kind _ j1 _ hj
        unfold vp_V
        rw [List.getD_eq_getElem?_getD, Ru_get (f := fun k => bif Nat.beq (fkN (gaM a 1) k) 1 then Value.null else .int 0) hj]
        rcases (show fkN (gaM a 1) j = 0 ∨ fkN (gaM a 1) j = 1 ∨ fkN (gaM a 1) j = 2 by omega) with e | e | e
        · rw [c0 e]; simp only [e]; rfl
        · simp only [e]; rcases c1 e with ⟨C, e2⟩ | ⟨t, e2⟩ <;> rw [e2] <;> rfl
        · rw [c2 e]; simp only [e]; rfl
      · rw [← j2]
        exact gn h (Nat.le_refl 1) hsv (by rfl) p1 d1 s1
  case newarray t =>
    simp only [Bool.and_eq_true, decide_eq_true_eq] at hq
    obtain ⟨⟨⟨⟨⟨q1, q2⟩, q3⟩, q4⟩, q5⟩, q6⟩ := hq
    obtain rfl := nb_eq q1
    obtain ⟨x, r, rfl, g1⟩ := in_I1 h
    obtain ⟨⟨g2, g3, g4, g5⟩, g1⟩ := in_no g1
    rw [q2] at g4
    rw [q3] at g5
    obtain ⟨w1, w2, w3, w4⟩ := ar_wd
    have hcls : ∀ (ty : FieldType) (cA : ClassId) (i : Nat) (cB : ClassId), (∀ C, ty ≠ .object C) → va_K (gD G) vwCl (tysM (gC G) ++ [(cA, ty)]) s → (tysM (gC G))[i]? = some (cB, ty) → cA = cB := by
      intro ty cA i cB hne hk hi
      have h1 := (hk.2 5 (cA, ty) rfl).2
      have h2 := (hK2.2 i (cB, ty) hi).2
      cases ty <;> first | exact absurd rfl (hne _) | exact Option.some.inj (h1.symm.trans h2)
    have fin : ∀ (ty : FieldType) (a0 : vp_A) (i : Nat), gaM a 0 < 6 → 2 ≤ gaM a 0 → newarray.typeOf t = ty → (∀ C, ty ≠ .object C) → Cond.arrayClass ty ∈ lw_tbl → (tysM (gC G))[i]? = some (gC G (gaM a 0), ty) → (∀ cA : ClassId, vp_cell cA a0 = arrV cA x.toNatClampNeg (fun _ => defaultValue ty)) → (∀ ad' : Nat → Nat, ceK (gC G) ad' (fun _ => 0) (fun _ => 0) (gaM a 0) x.toNatClampNeg = .inl (gC G (gaM a 0), a0)) → componentBytes ty ≤ 8 →
        W p l e R s m args below meth c H locs kc ks Q (F0 m pc ls (.int x :: r.map (vaM ad))) := by
      intro ty a0 i h1 h2 h3 h4 h5 h6 h7 h8 h9
      refine va_newa (ty := ty) (a0 := a0) hx hb (by rw [h3]; exact hts _ h5 rfl) h3 hK2 hP hD hS hUA h7 g2 rfl (by have := Nat.mul_le_mul g3 h9; omega) (Nat.le_trans g4 hr3) (Nat.le_trans g5 hr4) hd (fun q cA H1 k1 p1 d1 s1 => ?_)
      obtain rfl := hcls ty cA i _ h4 k1 h6
      exact gn g1 (by omega) (tl1 hsv) (h8 _) p1 d1 s1
    rw [List.map_cons]
    rcases (show gaM a 0 = 2 ∨ gaM a 0 = 3 ∨ gaM a 0 = 4 ∨ gaM a 0 = 5 by omega) with e | e | e | e <;> rw [e] at q6
    · exact fin .int (x.toNatClampNeg, .inl fun _ => 0) 0 q5 q4 q6 (fun C => by intro z; cases z) w1 (by rw [e]; rfl) (fun cA => rfl) (fun ad' => by rw [e]; rfl) (by decide)
    · exact fin .boolean (x.toNatClampNeg, .inl fun _ => 0) 1 q5 q4 q6 (fun C => by intro z; cases z) w2 (by rw [e]; rfl) (fun cA => rfl) (fun ad' => by rw [e]; rfl) (by decide)
    · exact fin .char (x.toNatClampNeg, .inl fun _ => 0) 2 q5 q4 q6 (fun C => by intro z; cases z) w3 (by rw [e]; rfl) (fun cA => rfl) (fun ad' => by rw [e]; rfl) (by decide)
    · exact fin .long (x.toNatClampNeg, .inr (.inl fun _ => 0)) 3 q5 q4 q6 (fun C => by intro z; cases z) w4 (by rw [e]; rfl) (fun cA => rfl) (fun ad' => by rw [e]; rfl) (by decide)
  case anewarray n =>
    simp only [Bool.and_eq_true, decide_eq_true_eq, atM] at hq
    obtain ⟨⟨⟨q1, q2⟩, q3⟩, q4⟩ := hq
    obtain rfl := nb_eq q1
    obtain ⟨x, r, rfl, g1⟩ := in_I1 h
    obtain ⟨⟨g2, g3, g4, g5⟩, g1⟩ := in_no g1
    rw [q2] at g4
    rw [q3] at g5
    rw [List.map_cons]
    refine va_newq (C := RX2) hx hb hown (hts _ (List.mem_of_getElem? q4) rfl) hAO hK2 hP hD hS hUA g2 rfl (by omega) (Nat.le_trans g4 hr3) (Nat.le_trans g5 hr4) hd (fun q cA H1 k1 p1 d1 s1 => ?_)
    have hcA : cA = gC G 6 := by
      obtain ⟨kA, comp, -, -, -, h1⟩ := (k1.2 5 (cA, .object RX2) rfl).2
      obtain ⟨kA2, comp2, -, -, -, h2⟩ := (hK2.2 4 (gC G 6, .object RX2) rfl).2
      exact Option.some.inj (h1.symm.trans h2)
    subst hcA
    exact gn g1 (by omega) (tl1 hsv) (by rfl) p1 d1 s1
  all_goals exact absurd hsp (fun z => z)
end
section
/-! A callee's contract out of its run, and a call. -/
def wsC (k : Nat) : List Cond := cwM k :: lw_tbl.filter goodWord
def rmC (k : Nat) : Room := { frames := nfM k, cells := ncM k, slots := nsM k, locals := nlM k }
def PcC (G : GlM) (ad : Nat → Nat) (as : List Value) (σ : Mem) : Array Value → State → Prop := va_Pc (as.map (vaM ad)) (fun U => EvG G U ∧ RpM G ad σ U.heap)
def EnC (G : GlM) (ad : Nat → Nat) (σ σ' : Mem) (ad' : Nat → Nat) (st t : State) : Prop := (∀ u, u < nxM σ → ad' u = ad u) ∧ nxM σ ≤ nxM σ' ∧ RpM G ad' σ' t.heap ∧ va_F (gU G) st t
def QcC (G : GlM) (ad : Nat → Nat) (σ : Mem) (o : OutM) : Array Value → State → Outcome → State → Prop := fun _ st oc t =>
  match o with
  | (.inl v, σ') => ∃ ad', oc = .returned (v.map (vaM ad')) ∧ EnC G ad σ σ' ad' st t ∧ voM (nxM σ') v
  | (.inr _, _) => False
def XcC (G : GlM) (ad : Nat → Nat) (σ : Mem) (o : OutM) : String → State → State → Prop := fun nm st t =>
  match o with
  | (.inl _, _) => False
  | (.inr E, σ') => nm = exM E ∧ ∃ ad', EnC G ad σ σ' ad' st t
theorem Pc_blind {G : GlM} {ad : Nat → Nat} {as : List Value} {σ : Mem} : FrameBlind (PcC G ad as σ) := fun a U g mk h => ⟨h.1, Ev_same h.2.1 rfl rfl, h.2.2⟩
theorem ow_in {k : Nat} (h : MtP k) : ∀ c, ocM k = c → c < 7 → Cond.initialized (owM k) ∈ lw_tbl ∧ plainName (owM k) = true ∧ owM k ≠ "java/lang/invoke/MethodHandle" ∧ owM k ≠ "java/lang/invoke/VarHandle" := by
  intro c hc h7
  rw [h.1, hc]
  exact ⟨rc_init c h7, rc_plain c h7⟩
theorem lv_args1 (f : Nat → Value) : True := trivial
theorem lv_args_at (ad : Nat → Nat) : ∀ (as : List Value) (j : Nat), (∀ v ∈ as, isOne v = true) → (∀ (i : Nat) (v : Value), as[i]? = some v → (j + i, vaM ad v) ∈ lv_args j (as.map (vaM ad))) ∧ (∀ q ∈ lv_args j (as.map (vaM ad)), q.2.category = 1)
  | [], j, _ => ⟨fun i v h => by simp at h, fun q h => by cases h⟩
  | a :: as, j, h => by
    obtain ⟨h1, h2⟩ := List.forall_mem_cons.mp h
    have hc : (vaM ad a).category = 1 := va_cat1 h1
    have e : lv_args j ((a :: as).map (vaM ad)) = (j, vaM ad a) :: lv_args (j + 1) (as.map (vaM ad)) := by
      show (j, vaM ad a) :: lv_args (if (vaM ad a).category = 2 then j + 2 else j + 1) _ = _
      rw [hc]; rfl
    rw [e]
    obtain ⟨i1, i2⟩ := lv_args_at ad as (j + 1) h2
    refine ⟨fun i v hv => ?_, fun q hq => ?_⟩
    · cases i with
      | zero => cases hv; exact List.mem_cons_self
      | succ i =>
        have := i1 i v hv
        rw [show j + 1 + i = j + (i + 1) by omega] at this
        exact List.mem_cons_of_mem _ this
    · rcases List.mem_cons.mp hq with rfl | hq
      · exact hc
      · exact i2 q hq
theorem lg_len (ad : Nat → Nat) : ∀ (as : List Value), (∀ v ∈ as, isOne v = true) → (lg_sl (as.map (vaM ad))).length = as.length
  | [], _ => rfl
  | a :: as, h => by
    obtain ⟨h1, h2⟩ := List.forall_mem_cons.mp h
    have hc : (vaM ad a).category = 1 := va_cat1 h1
    show (List.flatMap _ (vaM ad a :: as.map (vaM ad))).length = _
    rw [List.flatMap_cons, List.length_append, if_neg (by rw [hc]; decide)]
    have := lg_len ad as h2
    unfold lg_sl at this
    rw [this, List.length_cons]
    simp; omega
theorem en_get {k : Nat} {as : List Value} {i : Nat} {v : Value} (h : (enM k as).2.1[i]? = some (some v)) : as[i]? = some v := by
  show as[i]? = some v
  have h : (as.map some ++ List.replicate (mxM k - as.length) none)[i]? = some (some v) := h
  by_cases hi : i < as.length
  · rw [List.getElem?_append_left (by simpa using hi), List.getElem?_map] at h
    cases e : as[i]? with
    | none => rw [e] at h; cases h
    | some w => rw [e] at h; exact congrArg _ (Option.some.inj (Option.some.inj h))
  · rw [List.getElem?_append_right (by simpa using hi)] at h
    have := List.mem_of_getElem? h
    rw [List.mem_replicate] at this
    cases this.2
theorem ex_wd : ∀ E, 1 ≤ E → E < 4 → (∀ w ∈ vx_atS RX4 ([0, 265, 117, 67].getD E 0) (exM E) ["java/lang/RuntimeException", "java/lang/Exception"], w ∈ lw_tbl ∧ (goodWord w || wkM w) = true) ∧ (∀ w ∈ Cond.classLink RX4 0 "" :: Cond.initialized "" :: vx_atS RX4 ([0, 265, 117, 67].getD E 0) (exM E) ["java/lang/RuntimeException", "java/lang/Exception"], vx_ot w = true) ∧ Cond.initialized (exM E) ∈ lw_tbl ∧ Bundle.fit (exM E) = true ∧ (∀ n ∈ ["java/lang/RuntimeException", "java/lang/Exception"], Bundle.fit n = true) := by
  intro E h1 h2
  rcases (show E = 1 ∨ E = 2 ∨ E = 3 by omega) with rfl | rfl | rfl
  · exact ⟨by decide +kernel, by decide +kernel, by decide +kernel, by decide +kernel, by decide +kernel⟩
  · exact ⟨by decide +kernel, by decide +kernel, by decide +kernel, by decide +kernel, by decide +kernel⟩
  · exact ⟨by decide +kernel, by decide +kernel, by decide +kernel, by decide +kernel, by decide +kernel⟩
theorem wk_use {w : Cond} {s : State} {args : Array Value} (hw : wkM w = true) (h : va_Nw w s) : w.before args s = true := by
  refine va_Nw.use ?_ h
  cases w <;> first | rfl | cases hw
set_option maxHeartbeats 8000000 in
/-- a method's run is a contract -/
theorem Met_of {G : GlM} {l : Launch} {k : Nat} {ad : Nat → Nat} {as : List Value} {σ : Mem} {o : OutM} (hmt : MtP k) (hk : k ≠ 223) (hoc : ocM k < 7) (hl : l.stackTraces = false) (hw : WsM G l k (enM k as) σ o) (hlen : as.length ≤ mxM k) (has : ∀ v ∈ as, isOne v = true) (hav : ∀ v ∈ as, vkM (nxM σ) v = true) :
    vx_Met l (yM k) (wsC k) (rmC k) (PcC G ad as σ) (QcC G ad σ o) (XcC G ad σ o) (ncM k) (nsM k) (gU G) := by
  have hpn : plainName (yM k).cls = true := (ow_in hmt _ rfl hoc).2.1
  have key : ∀ (p : Program) (e : Env) (s : State) (m : MethodId) (args : Array Value) (below : List Frame) (meth : Method) (c : Code) (s₁ : State), BodyLoose p l (yM k) (headSpec (wsC k) (rmC k)) (byM k) (mxM k) (rtM k) e s m args below meth c s₁ → c.maxLocals = mxM k → c.exceptionTable.toList = tableOf (rwM k) → PcC G ad as σ args s →
      W p l e (headSpec (wsC k) (rmC k)).room s m args below meth c s.heap [] 0 0 (vx_MQ below (QcC G ad σ o) (XcC G ad σ o) args s (ncM k) (nsM k) (gU G)) (entryFrame m args (mxM k)) := by
    intro p e s m args below meth c s₁ B hml hex hv
    obtain ⟨rfl, hE, hR⟩ := hv
    have hts := atoms_spec (ws := wsC k) B.pre
    have hgw : ∀ w ∈ lw_tbl, goodWord w = true → w.before ((as.map (vaM ad)).toArray) s = true := fun w h1 h2 => hts w (List.mem_cons_of_mem _ (List.mem_filter.mpr ⟨h1, h2⟩))
    have hA : AcM G l k p (headSpec (wsC k) (rmC k)).room s m ((as.map (vaM ad)).toArray) meth c := ⟨⟨B.exec, B.bytes, hml, B.returns, B.notSynchronized, (name_of_methodNamed B.named B.method).1, findClass_of_methodNamed B.named⟩, hgw, hE, hex, hl, Nat.le_refl _, Nat.le_refl _, Nat.le_refl _, Nat.le_refl _⟩
    have hUA : ∀ q : Nat, s.heap.size ≤ q → gU G q := fun q hq => Nat.le_trans hE.2.2.2.2.2.2.2.2.1 hq
    have hlv := lv_entry (as.map (vaM ad)) (n := mxM k) (by rw [lg_len ad as has]; exact hlen)
    rw [lg_entry_eq]
    obtain ⟨a1, a2⟩ := lv_args_at ad as 0 has
    refine hw p e _ s m _ below meth c ad s.heap [] _ _ [] hA hR va_S.rf ⟨_, hlv, a2, fun i v hv => ?_⟩ ⟨rfl, fun v h => by cases h⟩ ?_
    · have h1 := en_get hv
      have h2 := a1 i v h1
      rw [Nat.zero_add] at h2
      exact ⟨h2, hav v (List.mem_of_getElem? h1)⟩
    · obtain ⟨r, σ'⟩ := o
      cases r with
      | inl v =>
        intro ad' H' locs' kc ks pc ls h1 h2 h3 h4 h5 h6 h7 h8
        refine W.widen h5 h6 (vx_ret ?_)
        have post : ∀ (t : State), t.heap = H' → QcC G ad σ ((.inl v, σ') : OutM) ((as.map (vaM ad)).toArray) s (.returned (v.map (vaM ad'))) t := fun t ht => ⟨ad', rfl, ⟨h1, h2, by rw [ht]; exact h3, h4.F ht⟩, h8⟩
        cases v with
        | none => exact W.vret B.exec B.bytes (B.returns.trans h7.2) (fun t ht _ => post t ht) h4.2.2 h7.1 (hlocks := B.notSynchronized)
        | some v =>
          cases v <;> first | exact absurd h7 (fun z => z) | skip
          case int x =>
            rcases h7.2 with e | ⟨e, e2⟩
            · exact W.iret B.exec B.bytes (B.returns.trans e) (fun t ht _ => post t ht) h4.2.2 h7.1 (hlocks := B.notSynchronized)
            · exact W.zret B.exec B.bytes (B.returns.trans e) (by rcases e2 with rfl | rfl <;> rfl) (fun t ht _ => post t ht) h4.2.2 h7.1 (hlocks := B.notSynchronized)
          case ref x =>
            refine W.aret B.exec B.bytes (B.returns.trans h7.2) (Or.inr ⟨_, rfl⟩) ?_ (fun t ht _ => post t ht) h4.2.2 h7.1 (hlocks := B.notSynchronized)
            rcases va_null ad' x with e | ⟨q, e⟩
            · exact Or.inl e
            · exact Or.inr ⟨q, e⟩
      | inr E =>
        intro hs0
        have hex0 : c.exceptionTable.toList = [] := by rw [hex]; unfold rwM; rw [hs0]; rfl
        refine ⟨fun ad' H' locs' kc ks pc ls st ic x h1 h2 h3 h4 h5 h6 h7 h8 h9 h10 h11 h12 => ?_, fun ad' H' locs' kc ks pc ls rest q ce h1 h2 h3 h4 h5 h6 h7 h8 h9 => ?_⟩
        · obtain ⟨i, len, a, cst⟩ := ic
          cases h7
          unfold okM at h6
          dsimp only at h6
          simp only [Bool.and_eq_true, decide_eq_true_eq] at h6
          obtain ⟨hd, ⟨⟨q1, q2⟩, q3⟩, q4⟩ := h6
          have e0 : Nat.beq (gaM a 0) 0 = false := by
            cases e0 : Nat.beq (gaM a 0) 0 with
            | false => rfl
            | true => exact absurd (h8.symm.trans (nb_eq e0)) h9
          rw [e0, cond_false] at q4
          simp only [Bool.and_eq_true, decide_eq_true_eq, Bool.or_eq_true, atM] at q4
          obtain ⟨⟨⟨⟨⟨⟨⟨⟨⟨⟨p1, p2⟩, p3⟩, p4⟩, p5⟩, p6⟩, p7⟩, p8⟩, p9⟩, p10⟩, p11⟩ := q4
          rw [show gaM a 0 = E from h8] at p1 p2 p5 p6
          obtain ⟨x1, x2, x3, x4, x5⟩ := ex_wd E p1 p2
          obtain ⟨tx, htx⟩ : ∃ tx, Cond.stringRef RX4 (gaM a 6) tx ∈ lw_tbl := by
            cases e9 : lw_tbl[gaM a 9]? with
            | none => rw [e9] at p9; cases p9
            | some w =>
              rw [e9] at p9
              cases w <;> first | cases p9 | skip
              case stringRef oo ii tx =>
                simp only [Bool.and_eq_true, decide_eq_true_eq] at p9
                refine ⟨tx, ?_⟩
                have := List.mem_of_getElem? e9
                rw [p9.1, p9.2] at this
                exact this
          obtain ⟨sa, hsa⟩ := hE.2.2.2.2.2.2.1 _ _ _ htx
          have hown : s.vm.findClass RX4 = some m.cls := by
            have := hA.1.2.2.2.2.2.2
            rw [hmt.1, p3] at this
            exact this
          have hat : ∀ w ∈ vx_atS RX4 (gaM a 7) (exM E) ["java/lang/RuntimeException", "java/lang/Exception"], w.before ((as.map (vaM ad)).toArray) s = true := by
            intro w hw
            rw [p6] at hw
            obtain ⟨w1, w2⟩ := x1 w hw
            cases e8 : goodWord w with
            | true => exact hgw w w1 e8
            | false =>
              rw [e8, Bool.false_or] at w2
              exact wk_use w2 (hE.1 w w1 w2)
          have hgood : ∀ w ∈ Cond.classLink RX4 x (exM E) :: Cond.initialized (exM E) :: vx_atS RX4 (gaM a 7) (exM E) ["java/lang/RuntimeException", "java/lang/Exception"], vx_ot w = true := by
            intro w hw
            rcases List.mem_cons.mp hw with rfl | hw
            · rfl
            · rcases List.mem_cons.mp hw with rfl | hw
              · rfl
              · rw [p6] at hw
                exact x2 w (List.mem_cons_of_mem _ (List.mem_cons_of_mem _ hw))
          have hxc : ∀ t : State, s.vm.Alike t.vm → H'.size ≤ t.heap.size → (∀ q : Nat, q < H'.size → t.heap[q]? = H'[q]?) → XcC G ad σ ((.inr E, σ') : OutM) (exM E) s t := by
            intro t ht hz hk2
            refine ⟨rfl, ad', h1, h2, ⟨h3.1.kept fun j q hq => hk2 _ (h3.1 j q hq).lt, h3.2⟩, Nat.le_trans h4.1 hz, fun q hq hn => ?_⟩
            rw [hk2 q (Nat.lt_of_lt_of_le hq h4.1)]
            exact h4.2.1 q hq hn
          have hfr : 2 + 3 < (headSpec (wsC k) (rmC k)).room.frames := Nat.lt_of_lt_of_le (by decide) p7
          have hlo : (st.map fun v => v.category).sum + (13 * (2 + 1) + 43) ≤ (headSpec (wsC k) (rmC k)).room.locals := Nat.le_trans (by omega) p8
          rcases p11 with ⟨⟨d4, d6⟩, d9⟩ | ⟨⟨d4, d7⟩, d10⟩
          · exact vx_throwS (names := ["java/lang/RuntimeException", "java/lang/Exception"]) B.exec B.bytes hl hown x4 x5 (hgw _ (List.mem_of_getElem? p5) rfl) (hgw _ x3 rfl) hsa hat hgood hE.2.2.2.2.1 hE.2.2.2.2.2.1 h4 (h5.trans hml.symm) (by rw [hd, nb_eq q1]) p10 d4 d6 d9 (fun z hz => by rw [hex0] at hz; cases hz) hfr hlo h11 h12 B.notSynchronized hxc h4.2.2 h11 h12
          · exact vx_throwSW (names := ["java/lang/RuntimeException", "java/lang/Exception"]) B.exec B.bytes hl hown x4 x5 (hgw _ (List.mem_of_getElem? p5) rfl) (hgw _ x3 rfl) hsa hat hgood hE.2.2.2.2.1 hE.2.2.2.2.2.1 h4 (h5.trans hml.symm) (by rw [hd, nb_eq q1]) p10 d4 d7 d10 (fun z hz => by rw [hex0] at hz; cases hz) hfr hlo h11 h12 B.notSynchronized hxc h4.2.2 h11 h12
        · exact vx_out (fun z hz => by rw [hex0] at hz; cases hz) B.notSynchronized h7 h8 h9 (fun t ht ha => ⟨rfl, ad', h1, h2, by rw [ht]; exact h3, h4.F ht⟩) h4.2.2 h5 h6
  cases e : (hsM k).isEmpty with
  | true =>
    have e0 : hsM k = [] := List.isEmpty_iff.mp e
    refine vx_ofW (cc := byM k) (maxL := mxM k) (ret := rtM k) (ws' := lw_tbl.filter goodWord) hpn (by unfold wsC cwM; rw [e]; rfl) (fun p e s m args below meth c s₁ B hml hex hv => key p e s m args below meth c s₁ B hml ?_ hv)
    unfold rwM
    rw [e0]
    cases e1 : c.exceptionTable.toList with
    | nil => rfl
    | cons a b => rw [e1] at hex; exact absurd (hex a List.mem_cons_self) (fun z => z)
  | false =>
    have hcw : cwM k = .codeWith (yM k) (byM k) (mxM k) (rtM k) (rwM k) := by unfold cwM; rw [e]; rfl
    refine vx_ofWH (cc := byM k) (maxL := mxM k) (ret := rtM k) (hh := rwM k) (ws' := lw_tbl.filter goodWord) hpn (by unfold wsC; rw [hcw]) (fun p e s m args below meth c s₁ B hml hv => key p e s m args below meth c s₁ B hml ?_ hv)
    refine vx_table (x := yM k) (y := yM k) (bytes := byM k) (maxL' := mxM k) (ret' := rtM k) B ?_
    have := atoms_spec (ws := wsC k) B.pre (cwM k) List.mem_cons_self
    rw [hcw] at this
    exact this
end
section
/-- behind a call: what came back, or the exception -/
theorem call_end {G : GlM} {l : Launch} {p : Program} {e : Env} {R : Room} {s : State} {m : MethodId} {args : Array Value} {below : List Frame} {meth : Method} {c : Code} {H : Heap} {locs : List Loc} {cells slots mc ms pc : Nat} {ls : Array Slot} {st0 rest : List Value} {Q : State → Prop} {a : Array Value} {ad : Nat → Nat} {σ : Mem} {o' : OutM}
    (hr : vx_Run p l e R s m args below meth c H locs cells slots mc ms (F0 m pc ls st0) rest (QcC G ad σ o' a) (XcC G ad σ o') (gU G)) (hS : va_S (gU G) s.heap H locs)
    (kv : ∀ (v : Option Value) (σ' : Mem) (ad' : Nat → Nat) (H1 : Heap) (locs1 : List Loc), o' = (.inl v, σ') → (∀ u, u < nxM σ → ad' u = ad u) → nxM σ ≤ nxM σ' → RpM G ad' σ' H1 → voM (nxM σ') v → va_S (gU G) s.heap H1 locs1 → W p l e R s m args below meth c H1 locs1 (cells + mc) (slots + ms) Q (F0 m (pc + 3) ls ((v.map (vaM ad')).toList ++ rest)))
    (kx : ∀ (E : Nat) (σ' : Mem) (ad' : Nat → Nat) (H1 : Heap) (locs1 : List Loc) (q : Addr) (ce : Cell), o' = (.inr E, σ') → (∀ u, u < nxM σ → ad' u = ad u) → nxM σ ≤ nxM σ' → RpM G ad' σ' H1 → va_S (gU G) s.heap H1 locs1 → H1[q]? = some ce → ce.vm = .none → s.vm.findClass (exM E) = some ce.cls → vx_W p l e R s m args below meth c H1 locs1 (cells + mc) (slots + ms) Q (F0 m pc ls rest) q) :
    W p l e R s m args below meth c H locs cells slots Q (F0 m pc ls st0) := by
  intro T hT X
  obtain ⟨r, σ'⟩ := o'
  rcases hr T hT X with ⟨v, st₀, t, T', L, h0, X', hL, e1, e2, hq, st⟩ | ⟨q, st₀, t, T', L, E, ce, h0, X', hL, e1, e2, hq, hce, hcv, hcl, st⟩
  · cases r with
    | inr E => exact absurd hq (fun z => z)
    | inl v' =>
      obtain ⟨ad', hv, ⟨g1, g2, g3, g4⟩, g5⟩ := hq
      cases hv
      obtain ⟨k1, k2, k3⟩ := vx_keep h0 e1 hS (fun _ _ h => h) (fun _ h => h) hL g4
      obtain ⟨t2, a1, b1⟩ := kv v' σ' ad' T'.heap (locs ++ L) rfl g1 g2 (by rw [e1]; exact g3) g5 k3 T' rfl X'
      exact ⟨t2, st t2 a1, b1⟩
  · cases r with
    | inl v' => exact absurd hq (fun z => z)
    | inr E' =>
      obtain ⟨hE, ad', g1, g2, g3, g4⟩ := hq
      subst hE
      obtain ⟨k1, k2, k3⟩ := vx_keep h0 e1 hS (fun _ _ h => h) (fun _ h => h) hL g4
      obtain ⟨t2, a1, b1⟩ := kx E' σ' ad' T'.heap (locs ++ L) q ce rfl g1 g2 (by rw [e1]; exact g3) k3 (by rw [e1]; exact hce) hcv hcl T' rfl X'
      exact ⟨t2, st.trans a1, b1⟩
theorem Met_no {l : Launch} {y : MethodName} {ws : List Cond} {rm : Room} {Pc : Array Value → State → Prop} {Qc : Array Value → State → Outcome → State → Prop} {XC : String → State → State → Prop} {mc ms : Nat} {free : Addr → Prop} (h : vx_Met l y ws rm Pc Qc XC mc ms free) (hx : ∀ E st t, ¬ XC E st t) : Met l y ws rm Pc Qc mc ms free := by
  intro p e ha hc hk s m args below hf happ hP hK
  obtain ⟨n, o, h1, h2, h3, h4⟩ := h p e ha hc hk s m args below hf happ hP hK
  refine ⟨n, o, h1, h2, h3, ?_⟩
  rcases h4 with h4 | ⟨q, -, E, ce, L, hq, -⟩
  · exact h4
  · exact absurd hq (hx E _ _)
theorem Run_of {p : Program} {l : Launch} {e : Env} {R : Room} {s : State} {m : MethodId} {args : Array Value} {below : List Frame} {meth : Method} {c : Code} {H : Heap} {locs : List Loc} {cells slots mc ms : Nat} {g : JFrame} {rest : List Value} {Qa : State → Outcome → State → Prop} {XC : String → State → State → Prop} {free : Addr → Prop}
    (h : va_Run p l e R s m args below meth c H locs cells slots mc ms g rest Qa free) : vx_Run p l e R s m args below meth c H locs cells slots mc ms g rest Qa XC free := fun T hT X => Or.inl (h T hT X)
theorem take_rc {n : Nat} {sa : List Value} {b : Nat} {t : List Value} (hn : 1 ≤ n) (h : sa.drop (n - 1) = .ref b :: t) : t = sa.drop n ∧ (sa.take n).reverse = .ref b :: (sa.take (n - 1)).reverse ∧ sa = sa.take (n - 1) ++ .ref b :: sa.drop n := by
  have h1 : t = sa.drop n := by
    have : sa.drop n = (sa.drop (n - 1)).drop 1 := by rw [List.drop_drop]; congr 1; omega
    rw [this, h]; rfl
  have h2 : sa = sa.take (n - 1) ++ .ref b :: sa.drop n := by
    rw [← h1, ← h]; exact (List.take_append_drop _ _).symm
  refine ⟨h1, ?_, h2⟩
  have hl : n - 1 < sa.length := by
    rcases Nat.lt_or_ge (n - 1) sa.length with q | q
    · exact q
    · rw [List.drop_eq_nil_of_le q] at h; cases h
  have h3 : sa.take n = sa.take (n - 1) ++ [.ref b] := by
    have h4 : sa[n - 1]? = some (.ref b) := by
      have : (sa.drop (n - 1))[0]? = some (.ref b) := by rw [h]; rfl
      rw [List.getElem?_drop] at this
      simpa using this
    have h5 : n = (n - 1) + 1 := by omega
    rw [h5, List.take_add_one, h4]; rfl
  rw [h3, List.reverse_append]; rfl
theorem in_rc {n : Nat} {f : Nat → Option OutM} {st : List Value} {o : OutM} (h : rcM_ n f st = some o) : ∃ b t, st.drop (n - 1) = .ref b :: t ∧ f b = some o := by
  unfold rcM_ at h
  split at h
  · next b t e => exact ⟨b, t, e, h⟩
  · cases h
theorem gw_cw {k : Nat} (h : cwM k ∈ lw_tbl) : cwM k ∈ lw_tbl.filter goodWord := by
  refine List.mem_filter.mpr ⟨h, ?_⟩
  unfold cwM
  cases (hsM k).isEmpty <;> rfl
theorem wsC_good {k : Nat} (h : cwM k ∈ lw_tbl) : ∀ w ∈ wsC k, w ∈ lw_tbl.filter goodWord := by
  intro w hw
  rcases List.mem_cons.mp hw with rfl | hw
  · exact gw_cw h
  · exact hw
/-- the words of a callee hold at any later state -/
theorem wsC_pay {k : Nat} {s : State} {args : Array Value} (h : cwM k ∈ lw_tbl) (hts : ∀ w ∈ lw_tbl, goodWord w = true → w.before args s = true) : ∀ w ∈ wsC k, ∀ (a' : Array Value) (U : State), s.WarmedH U.vm → w.before a' U = true := by
  intro w hw a' U hW
  obtain ⟨h1, h2⟩ := List.mem_filter.mp (wsC_good h w hw)
  exact word_at hW (good_of_word h2) (hts w h1 h2)
theorem hd_find {c : Code} {s : State} {m : MethodId} {args : Array Value} {p : Program} {l : Launch} {e : Env} {R : Room} {below : List Frame} {meth : Method} {H : Heap} {locs : List Loc} {cells slots pc E hp : Nat} {Q : State → Prop} {ls : Array Slot} {rest : List Value} {q : Addr} {ce : Cell}
    (hown : s.vm.findClass RL = some m.cls) (hlk : ∀ x, 1 ≤ x → x < 4 → (Cond.classLink RL (ctM x) (exM x)).before args s = true) (hE1 : 1 ≤ E) (hE2 : E < 4) (hcast : (Cond.castable (exM E) (exM E)).before args s = true) (hNc : ∀ a b, 1 ≤ a → a < 4 → 1 ≤ b → b < 4 → a ≠ b → va_Nc (exM a) (exM b) s)
    (hcell : H[q]? = some ce) (hv : ce.vm = .none) (hcl : s.vm.findClass (exM E) = some ce.cls) (kk : W p l e R s m args below meth c H locs cells slots Q (F0 m hp ls [.ref q])) :
    ∀ (hs pre : List (Nat × Nat × Nat × Nat)), (∀ z ∈ hs, 1 ≤ z.2.2.2 ∧ z.2.2.2 < 4) → c.exceptionTable.toList = tableOf (pre.map fun q => (q.1, q.2.1, q.2.2.1, ctM q.2.2.2)) ++ tableOf (hs.map fun q => (q.1, q.2.1, q.2.2.1, ctM q.2.2.2)) → (∀ z ∈ tableOf (pre.map fun q => (q.1, q.2.1, q.2.2.1, ctM q.2.2.2)), covers z pc = false ∨ (z.catchType ≠ 0 ∧ ∃ nm : String, (Cond.classLink RL z.catchType nm).before args s = true ∧ va_Nc (exM E) nm s)) →
      hdM hs pc E = some hp → vx_W p l e R s m args below meth c H locs cells slots Q (F0 m pc ls rest) q
  | [], _, _, _, _, h => by cases h
  | (a, b, h', x) :: hs, pre, hx, hex, hpass, h => by
    obtain ⟨⟨x1, x2⟩, hx2⟩ := List.forall_mem_cons.mp hx
    dsimp only at x1 x2
    have hct : ctM x ≠ 0 := by rcases (show x = 1 ∨ x = 2 ∨ x = 3 by omega) with rfl | rfl | rfl <;> decide
    unfold hdM at h
    cases e : (Nat.ble a pc && Nat.blt pc b) && Nat.beq x E with
    | true =>
      rw [e, cond_true] at h
      obtain rfl := Option.some.inj h
      simp only [Bool.and_eq_true] at e
      have exE := nb_eq e.2
      subst exE
      refine vx_catch (own := RL) (name := exM x) hown (tableOf (pre.map fun q => (q.1, q.2.1, q.2.2.1, ctM q.2.2.2))) ⟨a, b, h', ctM x⟩ (tableOf (hs.map fun q => (q.1, q.2.1, q.2.2.1, ctM q.2.2.2))) hex hpass ?_ hct (hlk x x1 x2) hcast hcell hv hcl kk
      have e1 := Nat.le_of_ble_eq_true e.1.1
      have e2 : pc < b := by have := e.1.2; unfold Nat.blt at this; exact Nat.le_of_ble_eq_true this
      simp [covers, e1, e2]
    | false =>
      rw [e, cond_false] at h
      refine hd_find hown hlk hE1 hE2 hcast hNc hcell hv hcl kk hs (pre ++ [(a, b, h', x)]) hx2 ?_ ?_ h
      · rw [hex]; simp [tableOf]
      · intro z hz
        have hz2 : z ∈ tableOf (pre.map fun q => (q.1, q.2.1, q.2.2.1, ctM q.2.2.2)) ∨ z = ⟨a, b, h', ctM x⟩ := by
          simpa [tableOf] using hz
        rcases hz2 with hz2 | rfl
        · exact hpass z hz2
        · by_cases hxe : x = E
          · subst hxe
            left
            have e3 : (Nat.ble a pc && Nat.blt pc b) = false := by
              cases e4 : (Nat.ble a pc && Nat.blt pc b) with
              | false => rfl
              | true => rw [e4] at e; simp at e
            cases e5 : covers ⟨a, b, h', ctM x⟩ pc with
            | false => rfl
            | true =>
              simp only [covers, Bool.and_eq_true, decide_eq_true_eq] at e5
              have : (Nat.ble a pc && Nat.blt pc b) = true := by
                rw [Bool.and_eq_true]
                exact ⟨Nat.ble_eq_true_of_le e5.1, by unfold Nat.blt; exact Nat.ble_eq_true_of_le e5.2⟩
              rw [this] at e3; cases e3
          · exact Or.inr ⟨hct, exM x, hlk x x1 x2, hNc E x hE1 hE2 x1 x2 (fun z => hxe z.symm)⟩
end
section
theorem hd_E : ∀ (hs : List (Nat × Nat × Nat × Nat)) {pc E h : Nat}, hdM hs pc E = some h → ∃ z ∈ hs, z.2.2.2 = E ∧ z.2.2.1 = h
  | [], _, _, _, h => by cases h
  | (a, b, h', x) :: hs, pc, E, h, g => by
    unfold hdM at g
    cases e : (Nat.ble a pc && Nat.blt pc b) && Nat.beq x E with
    | true =>
      rw [e, cond_true] at g
      simp only [Bool.and_eq_true] at e
      exact ⟨_, List.mem_cons_self, nb_eq e.2, Option.some.inj g⟩
    | false =>
      rw [e, cond_false] at g
      obtain ⟨z, h1, h2⟩ := hd_E hs g
      exact ⟨z, List.mem_cons_of_mem _ h1, h2⟩
theorem my_own {k : Nat} (h : k < 223) : myM k = yM k := by
  unfold myM
  have e : ∀ n, 1000 ≤ n → Nat.beq k n = false := fun n hn => by
    cases e : Nat.beq k n with
    | false => rfl
    | true => have := nb_eq e; omega
  rw [e 1000 (by omega), e 1001 (by omega), e 1002 (by omega), e 1003 (by omega)]; rfl
theorem ml_own {c n k : Nat} (h : k < 223) : mlW (c, n, k, 0) = .methodLink (rcM c) n (yM k) ∧ mlW (c, n, k, 1) = .methodLinkNest (rcM c) n (yM k) RX4 := by
  constructor
  · show Cond.methodLink (rcM c) n (myM k) = _; rw [my_own h]
  · show Cond.methodLinkNest (rcM c) n (myM k) RX4 = _; rw [my_own h]
def pcM (ic : IcM) : Prop := match ic.1 with
  | .invokestatic _ | .invokevirtual _ | .invokespecial _ => True
  | _ => False
set_option maxHeartbeats 16000000 in
theorem sim_d {G : GlM} {l : Launch} {k : Nat} {ic : IcM} {fr : FrM} {σ : Mem} {o : OutM} {Φ : Nat → List Value → Mem → Option OutM} {K : FrM → Mem → Option OutM}
    (hMt : ∀ k, 0 ≤ k → k < 224 → MtP k) (hk : k < 224) (hls : l.stackTraces = false) (hC : ∀ pc ic, cdM k pc = some ic → okM k pc ic = true) (hΦ : ∀ k' as σ' o', k' < 223 → Φ k' as σ' = some o' → WsM G l k' (enM k' as) σ' o')
    (hK : ∀ fr' σ', K fr' σ' = some o → WsM G l k fr' σ' o) (hok : okM k fr.1 ic = true) (hsp : pcM ic) (h : stM Φ K k ic fr σ = some o) : WsM G l k fr σ o := by
  have hmt := hMt k (Nat.zero_le _) hk
  obtain ⟨pc, la, sa, kc, ks⟩ := fr
  obtain ⟨i, len, a, cst⟩ := ic
  intro p e R s m args below meth c ad H locs Q ls st hA hR hS hL hsk hX
  obtain ⟨rfl, hsv⟩ := hsk
  obtain ⟨⟨hx, hb, hml, hrt, hlk, hnm, hown⟩, hts, hE, hex, htr, hr1, hr2, hr3, hr4⟩ := id hA
  obtain ⟨hP, hD, hT, hAd⟩ := id hR
  obtain ⟨hE1, hK2, hZ, hT2, hU, hN, hSt, hNc, hB0, hAO⟩ := id hE
  unfold okM at hok
  dsimp only at hok
  rw [Bool.and_eq_true] at hok
  obtain ⟨hd, hq⟩ := hok
  replace hd := of_decide_eq_true hd
  have tl1 : ∀ {v : Value} {r : List Value}, (∀ w ∈ v :: r, vkM (nxM σ) w = true) → ∀ w ∈ r, vkM (nxM σ) w = true := fun h => (List.forall_mem_cons.mp h).2
  have hmlo := hml
  have hlz : ls.size = mxM k := by obtain ⟨lv, h1, -⟩ := hL; exact h1.1
  have go : ∀ {pc' : Nat} {sa' : List Value}, K (pc', la, sa', kc, ks) σ = some o → (∀ v ∈ sa', vkM (nxM σ) v = true) → W p l e R s m args below meth c H locs kc ks Q (F0 m pc' ls (sa'.map (vaM ad))) :=
    fun h h3 => hK _ _ h p e R s m args below meth c ad _ _ Q _ _ hA hR hS hL ⟨rfl, h3⟩ hX
  have hws : ∀ {w : Cond}, w ∈ lw_tbl → goodWord w = true → w.before args s = true := fun h1 h2 => hts _ h1 h2
  have evU : ∀ U : State, U.heap = H → s.WarmedH U.vm → EvG G U := fun U hU hW => Ev_next hE hW (by rw [hU]; exact hS.1) (fun q h1 h2 => by rw [hU]; exact hS.2.1 q h1 h2)
  have hsok : hsOk k = true := List.all_eq_true.mp hs_all k (List.mem_range.mpr hk)
  unfold hsOk at hsok
  rw [Bool.and_eq_true] at hsok
  -- a call of one of the methods
  have main : ∀ (x : Nat), clOk k a = true → caM Φ K k a (pc, la, sa, kc, ks) σ = some o →
      (∀ (o' : OutM), Φ (gaM a 0) (sa.take (gaM a 1)).reverse σ = some o' → gaM a 1 ≤ sa.length → (∀ v ∈ (sa.take (gaM a 1)).reverse, isOne v = true) → (((sa.drop (gaM a 1)).map (vaM ad)).map fun v => v.category).sum ≤ 8 → kc + ncM (gaM a 0) ≤ R.cells ∧ ks + nsM (gaM a 0) ≤ R.slots → (Nat.ble 4 (gaM a 2) = true → ∃ v σ', o' = (.inl v, σ')) →
        vx_Met l (yM (gaM a 0)) (wsC (gaM a 0)) (rmC (gaM a 0)) (PcC G ad (sa.take (gaM a 1)).reverse σ) (QcC G ad σ o') (XcC G ad σ o') (ncM (gaM a 0)) (nsM (gaM a 0)) (gU G) →
        ∃ a9, vx_Run p l e R s m args below meth c H locs kc ks (ncM (gaM a 0)) (nsM (gaM a 0)) (F0 m pc ls (sa.map (vaM ad))) ((sa.drop (gaM a 1)).map (vaM ad)) (QcC G ad σ o' a9) (XcC G ad σ o') (gU G)) →
      W p l e R s m args below meth c H locs kc ks Q (F0 m pc ls (sa.map (vaM ad))) := by
    intro x hcl h hrun
    unfold clOk at hcl
    simp only [Bool.and_eq_true, decide_eq_true_eq] at hcl
    obtain ⟨⟨⟨⟨⟨⟨⟨⟨⟨c1, c2⟩, c3⟩, c4⟩, c5⟩, c6⟩, c7⟩, c8⟩, c9⟩, c10⟩ := hcl
    unfold caM at h
    dsimp only at h
    obtain ⟨⟨⟨g1, g2⟩, g3, g4, g5⟩, h⟩ := in_no h
    rw [c5, c7] at g4
    rw [c6, c8] at g5
    cases ef : Φ (gaM a 0) (sa.take (gaM a 1)).reverse σ with
    | none => rw [ef] at h; cases h
    | some o' =>
      rw [ef] at h
      have hone : ∀ v ∈ (sa.take (gaM a 1)).reverse, isOne v = true := fun v hv => List.all_eq_true.mp g2 v (List.mem_reverse.mp hv)
      have hvk : ∀ v ∈ (sa.take (gaM a 1)).reverse, vkM (nxM σ) v = true := fun v hv => hsv v (List.mem_of_mem_take (List.mem_reverse.mp hv))
      have hdk : ∀ v ∈ sa.drop (gaM a 1), vkM (nxM σ) v = true := fun v hv => hsv v (List.mem_of_mem_drop hv)
      have hmt' := hMt (gaM a 0) (Nat.zero_le _) (by omega)
      have hmet := Met_of (ad := ad) hmt' (by omega) c10 hls (hΦ _ _ _ _ c1 ef) (by rw [List.length_reverse, List.length_take]; omega) hone hvk
      have hnot : Nat.ble 4 (gaM a 2) = true → ∃ v σ', o' = (.inl v, σ') := by
        intro hb4
        obtain ⟨r, σ'⟩ := o'
        cases r with
        | inl v => exact ⟨v, σ', rfl⟩
        | inr E =>
          dsimp only at h
          rw [hb4, cond_true] at h; cases h
      obtain ⟨a9, hr⟩ := hrun o' ef g1 hone (by rw [cat_map]; exact g3) ⟨Nat.le_trans g4 hr3, Nat.le_trans g5 hr4⟩ hnot hmet
      refine call_end hr hS ?_ ?_
      · intro v σ' ad' H1 locs1 he h1 h2 h3 h4 h5
        subst he
        dsimp only at h
        rw [c5, c6] at h
        obtain ⟨e1, e2⟩ := Sk_ad hdk h2 h1
        have hst : (v.toList ++ sa.drop (gaM a 1)).map (vaM ad') = (v.map (vaM ad')).toList ++ (sa.drop (gaM a 1)).map (vaM ad) := by
          rw [List.map_append, e1]
          cases v <;> rfl
        have g := hK _ _ h p e R s m args below meth c ad' H1 locs1 Q ls _ hA h3 h5 (Lo_ad hL h2 h1) ⟨rfl, ?_⟩ (Xi_mono hX h2 h1)
        · dsimp only at g
          rw [hst] at g
          exact g
        · intro w hw
          rcases List.mem_append.mp hw with hw | hw
          · cases v with
            | none => cases hw
            | some v => rw [List.mem_singleton.mp hw]; exact h4
          · exact e2 w hw
      · intro E σ' ad' H1 locs1 q ce he h1 h2 h3 h5 h6 h7 h8
        subst he
        dsimp only at h
        cases e4 : Nat.ble 4 (gaM a 2) with
        | true => rw [e4, cond_true] at h; cases h
        | false =>
          rw [e4, cond_false] at h
          cases e5 : hdM (hsM k) pc E with
          | none =>
            rw [e5] at h
            dsimp only at h
            cases e6 : (hsM k).isEmpty with
            | false => rw [e6, cond_false] at h; cases h
            | true =>
              rw [e6, cond_true] at h
              obtain rfl := Option.some.inj h
              exact (hX (List.isEmpty_iff.mp e6)).2 ad' H1 locs1 _ _ pc ls _ q ce h1 h2 h3 h5 g4 g5 h6 h7 h8
          | some hp =>
            rw [e5] at h
            dsimp only at h
            cases e6 : cdM k hp with
            | none => rw [e6] at h; cases h
            | some ic2 =>
              rw [e6] at h
              dsimp only at h
              rw [c5, c6] at h
              obtain ⟨z, z1, z2, z3⟩ := hd_E _ e5
              have hz := List.all_eq_true.mp hsok.2
              have hzz := hz z z1
              simp only [Bool.and_eq_true, decide_eq_true_eq] at hzz
              have ho6 : ocM k = 6 := by
                rcases Bool.or_eq_true _ _ ▸ hsok.1 with e7 | e7
                · rw [List.isEmpty_iff.mp e7] at z1; cases z1
                · exact nb_eq e7
              have hownL : s.vm.findClass RL = some m.cls := by rw [hmt.1, ho6] at hown; exact hown
              obtain ⟨w1, w2⟩ := ct_wd E (by rw [← z2]; exact hzz.1.1) (by rw [← z2]; exact hzz.1.2)
              refine hd_find hownL (fun x x1 x2 => hws (ct_wd x x1 x2).1 rfl) (by rw [← z2]; exact hzz.1.1) (by rw [← z2]; exact hzz.1.2) (wk_use rfl (hE1 _ w2 rfl)) hNc h6 h7 h8 ?_ (hsM k) [] (fun z hz' => ?_) (by rw [hex]; rfl) (fun z hz' => by cases hz') e5
              · have hok2 := hC hp ic2 e6
                obtain ⟨i2, len2, a2, cst2⟩ := ic2
                have has2 := hzz.2
                rw [z3, e6] at has2
                unfold okM at hok2
                dsimp only at hok2
                rw [Bool.and_eq_true] at hok2
                obtain ⟨hd2, hq2⟩ := hok2
                replace hd2 := of_decide_eq_true hd2
                obtain ⟨lv, hl1, hl2, hl3⟩ := Lo_ad hL h2 h1
                cases i2 <;> first | exact (Bool.false_ne_true has2).elim | skip
                case astore n =>
                  simp only [Bool.and_eq_true, decide_eq_true_eq] at hq2
                  obtain rfl := nb_eq hq2.1.2
                  rw [nb_eq hq2.1.1] at h
                  exact lv_astore hx hb hd2 hl1 hq2.2 rfl (fun ls' hl' => hK _ _ h p e R s m args below meth c ad' H1 locs1 Q ls' [] hA h3 h5 (Lo_set (w := .ref q) none hl2 hl3 (fun v e2 => by cases e2) rfl hl') ⟨rfl, fun v hv => by cases hv⟩ (Xi_mono hX h2 h1))
                case astore_n n =>
                  simp only [Bool.and_eq_true, decide_eq_true_eq] at hq2
                  obtain rfl := nb_eq hq2.1.2
                  exact lv_astore_n hx hb hd2 (nb_eq hq2.1.1).symm hl1 hq2.2 rfl (fun ls' hl' => hK _ _ h p e R s m args below meth c ad' H1 locs1 Q ls' [] hA h3 h5 (Lo_set (w := .ref q) none hl2 hl3 (fun v e2 => by cases e2) rfl hl') ⟨rfl, fun v hv => by cases hv⟩ (Xi_mono hX h2 h1))
              · have hzz' := hz z hz'
                simp only [Bool.and_eq_true, decide_eq_true_eq] at hzz'
                exact hzz'.1
  have fix : CallFix p m c (byM k) (mxM k) s args [] (owM k) := ⟨hx, hb, hml, hown, fun _ h => by cases h⟩
  have pcU : ∀ (as : List Value) (U : State), U.heap = H → s.WarmedH U.vm → PcC G ad as σ ((as.map (vaM ad)).toArray) U := fun as U hU hW => ⟨rfl, evU U hU hW, by rw [hU]; exact hR⟩
  -- what a callee's row gives
  have rowf : ∀ k', k' < 223 → ocM k' < 7 → (cwM k' ∈ lw_tbl ∧ (cwM k').before args s = true ∧ (Cond.initialized (yM k').cls).before args s = true ∧ ((yM k').cls ≠ "java/lang/invoke/MethodHandle" ∧ (yM k').cls ≠ "java/lang/invoke/VarHandle") ∧ (∀ sig, parseMethodDescriptor (yM k').desc = some sig → npM k' = sig.parameters.length)) := by
    intro k' h1 h2
    have hmt' := hMt k' (Nat.zero_le _) (by omega)
    obtain ⟨o1, o2, o3, o4⟩ := ow_in hmt' _ rfl h2
    have hcw : cwM k' ∈ lw_tbl := hmt'.2.1.resolve_left (by omega)
    refine ⟨hcw, hws hcw (by unfold cwM; cases (hsM k').isEmpty <;> rfl), hws o1 rfl, ⟨o3, o4⟩, fun sig hs => ?_⟩
    have := hmt'.2.2.2.2.2
    rw [hs] at this
    exact (Option.some.inj this).symm
  have codeof : ∀ k', (hsM k').isEmpty = true → cwM k' = .code (yM k') (byM k') (mxM k') (rtM k') := fun k' h => by unfold cwM; rw [h]; rfl
  -- the receiver, and what it makes of the stack
  have recv : ∀ (n : Nat), clOk k a = true → gaM a 1 = npM (gaM a 0) + 1 → ocM (gaM a 0) < 6 → (hsM (gaM a 0)).isEmpty = true → rcM_ (gaM a 1) (fun b => if tkM σ b = (1, gaM a 8) then caM Φ K k a (pc, la, sa, kc, ks) σ else none) sa = some o →
      (∀ (b : Nat) (o' : OutM), gaM a 1 ≤ sa.length → (((sa.drop (gaM a 1)).map (vaM ad)).map fun v => v.category).sum ≤ 8 → kc + ncM (gaM a 0) ≤ R.cells ∧ ks + nsM (gaM a 0) ≤ R.slots → (Nat.ble 4 (gaM a 2) = true → ∃ v σ', o' = (.inl v, σ')) →
        vx_Met l (yM (gaM a 0)) (wsC (gaM a 0)) (rmC (gaM a 0)) (PcC G ad (sa.take (gaM a 1)).reverse σ) (QcC G ad σ o') (XcC G ad σ o') (ncM (gaM a 0)) (nsM (gaM a 0)) (gU G) →
        (gaM a 0 < 223 ∧ nfM (gaM a 0) + 1 ≤ R.frames ∧ 8 + (mxM (gaM a 0) + 11) + nlM (gaM a 0) ≤ R.locals) →
        PreV s H (owM (gaM a 0)) (ad b) (PcC G ad (sa.take (gaM a 1)).reverse σ) ((sa.take (gaM a 1 - 1)).reverse.map (vaM ad)) → ((sa.take (gaM a 1 - 1)).reverse.map (vaM ad)).length = npM (gaM a 0) →
        sa.map (vaM ad) = ((sa.take (gaM a 1 - 1)).reverse.map (vaM ad)).reverse ++ .ref (ad b) :: (sa.drop (gaM a 1)).map (vaM ad) →
        (Cond.code (yM (gaM a 0)) (byM (gaM a 0)) (mxM (gaM a 0)) (rtM (gaM a 0)) ∈ wsC (gaM a 0) ∧ cwM (gaM a 0) ∈ lw_tbl ∧ (Cond.code (yM (gaM a 0)) (byM (gaM a 0)) (mxM (gaM a 0)) (rtM (gaM a 0))).before args s = true) →
        ∃ a9, vx_Run p l e R s m args below meth c H locs kc ks (ncM (gaM a 0)) (nsM (gaM a 0)) (F0 m pc ls (sa.map (vaM ad))) ((sa.drop (gaM a 1)).map (vaM ad)) (QcC G ad σ o' a9) (XcC G ad σ o') (gU G)) →
      W p l e R s m args below meth c H locs kc ks Q (F0 m pc ls (sa.map (vaM ad))) := by
    intro n q2 q3 q6 q5 h hrun
    obtain ⟨b, t, hb1, h⟩ := in_rc h
    obtain ⟨htk, h⟩ := in_no h
    obtain ⟨r1, r2, r3⟩ := take_rc (by omega) hb1
    obtain ⟨k1, k2, k3⟩ := tk_kind (κ := 1) hT (by rw [htk]) (Nat.le_refl 1)
    refine main n q2 h (fun o' hf hle hone hcat hroom hnot hmet => ?_)
    have hcl := q2
    unfold clOk at hcl
    simp only [Bool.and_eq_true, decide_eq_true_eq] at hcl
    obtain ⟨⟨⟨⟨⟨⟨⟨⟨⟨c1, c2⟩, c3⟩, c4⟩, c5⟩, c6⟩, c7⟩, c8⟩, c9⟩, c10⟩ := hcl
    obtain ⟨w1, w2, w3, w4, w5⟩ := rowf _ c1 c10
    have hmt' := hMt (gaM a 0) (Nat.zero_le _) (by omega)
    have hpt := cs_at (c := gC G) (ad := ad) (k3 (by decide)) k1
    rw [ce_obj htk] at hpt
    obtain ⟨cellB, u1, u2, u3⟩ := va_recv hK2 hP (cl_at (by rw [c9]; exact q6)) hpt
    have hcls : s.vm.findClass (owM (gaM a 0)) = some cellB.cls := by
      rw [hmt'.1, ← cl_rc _ q6, ← c9]; exact u3
    have hpre : PreV s H (owM (gaM a 0)) (ad b) (PcC G ad (sa.take (gaM a 1)).reverse σ) ((sa.take (gaM a 1 - 1)).reverse.map (vaM ad)) := by
      refine ⟨Pc_blind, ⟨cellB, u1, u2, hcls⟩, fun U hU hW => ?_⟩
      have := pcU (sa.take (gaM a 1)).reverse U hU hW
      have e9 : ((sa.take (gaM a 1)).reverse.map (vaM ad)).toArray = (Value.ref (ad b) :: (sa.take (gaM a 1 - 1)).reverse.map (vaM ad)).toArray := by rw [r2, List.map_cons, va_nz k2]
      rw [e9] at this
      exact this
    have hn : ((sa.take (gaM a 1 - 1)).reverse.map (vaM ad)).length = npM (gaM a 0) := by rw [List.length_map, List.length_reverse, List.length_take]; omega
    have hst : sa.map (vaM ad) = ((sa.take (gaM a 1 - 1)).reverse.map (vaM ad)).reverse ++ .ref (ad b) :: (sa.drop (gaM a 1)).map (vaM ad) := by
      rw [← List.map_reverse, List.reverse_reverse]
      conv => lhs; rw [r3]
      rw [List.map_append, List.map_cons, va_nz k2]
    have hcw := codeof _ q5
    exact hrun b o' hle hcat hroom hnot hmet ⟨c1, Nat.le_trans c3 hr1, Nat.le_trans c4 hr2⟩ hpre hn hst ⟨by rw [← hcw]; exact List.mem_cons_self, w1, by rw [← hcw]; exact w2⟩
  have npN : ∀ (b : Nat) (o' : OutM), Nat.ble 4 (gaM a 2) = true → (Nat.ble 4 (gaM a 2) = true → ∃ v σ', o' = (.inl v, σ')) → ∀ E st t, ¬ XcC G ad σ o' E st t := fun _ o' h1 h2 E st t h3 => by
    obtain ⟨v, σ', rfl⟩ := h2 h1
    exact h3
  cases i
  case invokevirtual n =>
    simp only [Bool.and_eq_true, decide_eq_true_eq] at hq
    obtain ⟨⟨⟨⟨⟨⟨q1, q2⟩, q3⟩, q4⟩, q5⟩, q6⟩, q7⟩ := hq
    obtain rfl := nb_eq q1
    refine recv n q2 q3 q6 q5 h (fun b o' hle hcat hroom hnot hmet ⟨c1, c3, c4⟩ hpre hn hst ⟨x1, x2, x3⟩ => ?_)
    have hmt' := hMt (gaM a 0) (Nat.zero_le _) (by omega)
    obtain ⟨w6, w7⟩ := hmt'.2.2.2.1 q4
    obtain ⟨w1, w2, w3, w4, w5⟩ := rowf _ c1 (by omega)
    cases e : Nat.beq (gaM a 2) 2 with
    | true =>
      rw [e, cond_true] at q7
      have hml := mlL_ok _ (List.mem_of_getElem? (of_decide_eq_true q7))
      rw [(ml_own c1).1, ← hmt.1] at hml
      exact ⟨_, vx_runV (n := npM (gaM a 0)) fix hmet ⟨⟨rfl, rfl, c3, c4, wsC_pay x2 hts, x1, x3, w3, w4, w5, hws hml rfl⟩, hws w6 rfl, hws w7 rfl⟩ hpre rfl hn hlz hst (lv_room hcat) hd hroom⟩
    | false =>
      rw [e, cond_false] at q7
      simp only [Bool.and_eq_true] at q7
      have hml := mlL_ok _ (List.mem_of_getElem? (of_decide_eq_true q7.2))
      rw [(ml_own c1).2, ← hmt.1] at hml
      exact ⟨_, vx_runVN (n := npM (gaM a 0)) fix hmet ⟨⟨⟨rfl, rfl, c3, c4, wsC_pay x2 hts, x1⟩, x3, w3, w4, w5, wk_use rfl (hE1 _ hml rfl)⟩, hws w6 rfl, hws w7 rfl⟩ hpre rfl hn hlz hst (lv_room hcat) hd hroom⟩
  case invokespecial n =>
    simp only [Bool.and_eq_true] at hq
    obtain ⟨q1, hq⟩ := hq
    obtain rfl := nb_eq q1
    cases e9 : Nat.beq (gaM a 2) 9 with
    | true =>
      rw [e9, cond_true] at hq
      simp only [stM, e9, cond_true] at h
      simp only [Bool.and_eq_true, decide_eq_true_eq] at hq
      obtain ⟨⟨q2, q3⟩, q4⟩ := hq
      obtain ⟨v, r, rfl, g1⟩ := in_R1 h
      obtain ⟨⟨g2, g3⟩, g1⟩ := in_no g1
      have hml := mlL_ok _ (List.mem_of_getElem? (of_decide_eq_true q2))
      have hml : Cond.methodLink (owM k) n Lib.objectInit ∈ lw_tbl := by rw [hmt.1]; exact hml
      obtain ⟨-, -, -, -, m1, m2⟩ := ma_wd
      rw [List.map_cons, va_nz g2]
      refine W.objInit hx hb hown (hws hml rfl) (hws m1 rfl) (hws m2 rfl) rfl (hlz.trans hmlo.symm) rfl hd (Nat.le_trans q3 hr1) ?_ (go g1 (tl1 hsv))
      exact Nat.le_trans (Nat.add_le_add_right (lv_room (m := m) (pc := pc) (ls := ls) (rest := Value.ref (ad v) :: r.map (vaM ad)) (st := r.map (vaM ad)) (by rw [cat_map]; exact g3)) 12) (Nat.le_trans q4 hr2)
    | false =>
      rw [e9, cond_false] at hq
      simp only [stM, e9, cond_false] at h
      simp only [Bool.and_eq_true, decide_eq_true_eq] at hq
      obtain ⟨⟨⟨⟨⟨⟨q2, q3⟩, q4⟩, q5⟩, q6⟩, q8⟩, q7⟩ := hq
      refine recv n q2 q3 q6 q5 h (fun b o' hle hcat hroom hnot hmet ⟨c1, c3, c4⟩ hpre hn hst ⟨x1, x2, x3⟩ => ?_)
      have hmt' := hMt (gaM a 0) (Nat.zero_le _) (by omega)
      obtain ⟨w6, w7⟩ := hmt'.2.2.2.2.1 q4
      obtain ⟨w1, w2, w3, w4, w5⟩ := rowf _ c1 (by omega)
      rw [q8] at x1 x3
      have hb4 : Nat.ble 4 (gaM a 2) = true := by
        cases e : Nat.beq (gaM a 2) 4 with
        | true => rw [nb_eq e]; rfl
        | false =>
          rw [e, cond_false] at q7
          simp only [Bool.and_eq_true, decide_eq_true_eq] at q7
          rw [q7.1]; rfl
      have hmet2 := Met_no hmet (npN b o' hb4 hnot)
      have hpre2 : PreS s H (PcC G ad (sa.take (gaM a 1)).reverse σ) (.ref (ad b) :: (sa.take (gaM a 1 - 1)).reverse.map (vaM ad)) := ⟨hpre.1, hpre.2.2⟩
      cases e : Nat.beq (gaM a 2) 4 with
      | true =>
        rw [e, cond_true] at q7
        have hml := mlL_ok _ (List.mem_of_getElem? (of_decide_eq_true q7))
        rw [(ml_own c1).1, ← hmt.1] at hml
        exact ⟨_, Run_of (va_runI (n := npM (gaM a 0)) fix hmet2 ⟨⟨rfl, rfl, c3, c4, wsC_pay x2 hts, x1, x3, w3, w4, w5, hws hml rfl⟩, w7, hws w6 rfl⟩ hpre2 rfl hn hlz hst (lv_room hcat) hd hroom)⟩
      | false =>
        rw [e, cond_false] at q7
        simp only [Bool.and_eq_true] at q7
        have hml := mlL_ok _ (List.mem_of_getElem? (of_decide_eq_true q7.2))
        rw [(ml_own c1).2, ← hmt.1] at hml
        exact ⟨_, Run_of (va_runIN (n := npM (gaM a 0)) fix hmet2 ⟨⟨⟨rfl, rfl, c3, c4, wsC_pay x2 hts, x1⟩, x3, w3, w4, w5, wk_use rfl (hE1 _ hml rfl)⟩, w7, hws w6 rfl⟩ hpre2 rfl hn hlz hst (lv_room hcat) hd hroom)⟩
  case invokestatic n =>
    simp only [Bool.and_eq_true] at hq
    obtain ⟨q1, hq⟩ := hq
    obtain rfl := nb_eq q1
    obtain ⟨⟨m1, m2⟩, ⟨m3, m4⟩, m5, ⟨m6, m7, m8⟩, -⟩ := ma_wd
    cases e6 : Nat.beq (gaM a 2) 6 with
    | true =>
      rw [e6, cond_true] at hq
      simp only [stM, e6, cond_true] at h
      simp only [Bool.and_eq_true, decide_eq_true_eq] at hq
      obtain ⟨⟨⟨⟨q2, q3⟩, q4⟩, q5⟩, q6⟩ := hq
      obtain ⟨x, y, r, rfl, g1⟩ := in_I2 h
      obtain ⟨⟨g2, g3, g4⟩, g1⟩ := in_no g1
      have hml2 : Cond.methodLink (owM k) n Lib.Math.max.name ∈ lw_tbl := by rw [hmt.1]; exact mlL_ok _ (List.mem_of_getElem? (of_decide_eq_true q2))
      exact va_mmax hx hb (hml.trans hlz.symm) hown (hws hml2 rfl) (hws m1 rfl) (hws m5 rfl) (hws m2 rfl) (Nat.le_trans q3 hr1) (by rw [cat_map]; omega) (Nat.le_trans g3 (by rw [q5]; exact hr3)) (Nat.le_trans g4 (by rw [q6]; exact hr4)) hd (go g1 (List.forall_mem_cons.mpr ⟨rfl, tl1 (tl1 hsv)⟩))
    | false =>
    rw [e6, cond_false] at hq
    cases e7 : Nat.beq (gaM a 2) 7 with
    | true =>
      rw [e7, cond_true] at hq
      simp only [stM, e6, e7, cond_true, cond_false] at h
      simp only [Bool.and_eq_true, decide_eq_true_eq] at hq
      obtain ⟨⟨⟨⟨q2, q3⟩, q4⟩, q5⟩, q6⟩ := hq
      obtain ⟨x, y, r, rfl, g1⟩ := in_I2 h
      obtain ⟨⟨g2, g3, g4⟩, g1⟩ := in_no g1
      have hml2 : Cond.methodLink (owM k) n Lib.Math.min.name ∈ lw_tbl := by rw [hmt.1]; exact mlL_ok _ (List.mem_of_getElem? (of_decide_eq_true q2))
      exact va_mmin hx hb (hml.trans hlz.symm) hown (hws hml2 rfl) (hws m3 rfl) (hws m5 rfl) (hws m4 rfl) (Nat.le_trans q3 hr1) (by rw [cat_map]; omega) (Nat.le_trans g3 (by rw [q5]; exact hr3)) (Nat.le_trans g4 (by rw [q6]; exact hr4)) hd (go g1 (List.forall_mem_cons.mpr ⟨rfl, tl1 (tl1 hsv)⟩))
    | false =>
    rw [e7, cond_false] at hq
    cases e8 : Nat.beq (gaM a 2) 8 with
    | true =>
      rw [e8, cond_true] at hq
      simp only [stM, e6, e7, e8, cond_true, cond_false] at h
      simp only [Bool.and_eq_true, decide_eq_true_eq] at hq
      obtain ⟨⟨q2, q3⟩, q4⟩ := hq
      obtain ⟨nn, dp, dv, sp, sv, r, rfl, g1⟩ := in_Cp h
      obtain ⟨⟨⟨g2, g3, g4, g5⟩, ⟨g6, g7, g8⟩, g9, g10, g11⟩, g1⟩ := in_no g1
      obtain ⟨k1, k2, -⟩ := tk_kind (κ := 2) hT g2 (by decide)
      obtain ⟨j1, j2, -⟩ := tk_kind (κ := 2) hT g4 (by decide)
      have hps := cs_at (c := gC G) (ad := ad) g3 k1
      have hpd := cs_at (c := gC G) (ad := ad) g5 j1
      rw [ce_int g2 (Or.inl rfl)] at hps
      rw [ce_int g4 (Or.inl rfl)] at hpd
      have hml2 : Cond.methodLink (owM k) n arraycopyName ∈ lw_tbl := by rw [hmt.1]; exact mlL_ok _ (List.mem_of_getElem? (of_decide_eq_true q2))
      simp only [List.map_cons]
      rw [va_nz k2, va_nz j2]
      refine va_copyi (ty := .int) hx hb (hml.trans hlz.symm) hown (hws hml2 rfl) (hws m6 rfl) (hws m7 rfl) (hws m8 rfl) hK2 hP hD hS (sv - 8) (dv - 8) 0 0 hps hpd (ty_at _).1 (ty_at _).1 rfl g6 g7 g8 g9 g10 (fun _ _ => rfl) (Nat.le_trans q3 hr1) (by rw [cat_map]; omega) hd (fun H1 locs1 p1 d1 s1 => ?_)
      have hce : ceM (gC G) ad (cpM σ sv sp.toNatClampNeg dv dp.toNatClampNeg nn.toNatClampNeg) dv = .inl (gC G 2, (tkM σ dv).2, .inl (va_cpy (rdM σ sv) (rdM σ dv) sp.toNatClampNeg dp.toNatClampNeg nn.toNatClampNeg)) := by
        rw [ce_int (κ := 2) (σ := cpM σ sv sp.toNatClampNeg dv dp.toNatClampNeg nn.toNatClampNeg) g4 (Or.inl rfl)]
        have hrow : rdM (cpM σ sv sp.toNatClampNeg dv dp.toNatClampNeg nn.toNatClampNeg) dv = va_cpy (rdM σ sv) (rdM σ dv) sp.toNatClampNeg dp.toNatClampNeg nn.toNatClampNeg := by
          funext i
          show (if dv = dv ∧ (dp.toNatClampNeg ≤ i ∧ i < dp.toNatClampNeg + nn.toNatClampNeg) then _ else _) = if _ then _ else _
          by_cases ee : dp.toNatClampNeg ≤ i ∧ i < dp.toNatClampNeg + nn.toNatClampNeg
          · rw [if_pos ⟨rfl, ee⟩, if_pos ee]; rfl
          · rw [if_neg (fun z => ee z.2), if_neg ee]; rfl
        rw [hrow]; rfl
      rw [← hce] at p1 d1
      refine hK _ _ g1 p e R s m args below meth c ad H1 locs1 Q ls _ hA (Rp_set hR g5 j1 rfl (fun _ => rfl) (fun u j hu => if_neg (fun z => hu z.1)) (fun _ _ _ => rfl) (fun j => hT.2.2.2.1 dv j) p1 d1) s1 hL ⟨rfl, tl1 (tl1 (tl1 (tl1 (tl1 hsv))))⟩ hX
    | false =>
      rw [e8, cond_false] at hq
      simp only [stM, e6, e7, e8, cond_false] at h
      simp only [Bool.and_eq_true, decide_eq_true_eq] at hq
      obtain ⟨⟨⟨q2, q3⟩, q4⟩, q7⟩ := hq
      refine main n q2 h (fun o' hf hle hone hcat hroom hnot hmet => ?_)
      have hcl := q2
      unfold clOk at hcl
      simp only [Bool.and_eq_true, decide_eq_true_eq] at hcl
      obtain ⟨⟨⟨⟨⟨⟨⟨⟨⟨c1, c2⟩, c3⟩, c4⟩, c5⟩, c6⟩, c7⟩, c8⟩, c9⟩, c10⟩ := hcl
      obtain ⟨w1, w2, w3, w4, w5⟩ := rowf _ c1 c10
      have hmt' := hMt (gaM a 0) (Nat.zero_le _) (by omega)
      have w6 := (hmt'.2.2.1 q4).resolve_left (by omega)
      have hpre : PreS s H (PcC G ad (sa.take (gaM a 1)).reverse σ) ((sa.take (gaM a 1)).reverse.map (vaM ad)) := ⟨Pc_blind, fun U hU hW => pcU _ U hU hW⟩
      have hn : ((sa.take (gaM a 1)).reverse.map (vaM ad)).length = npM (gaM a 0) := by rw [List.length_map, List.length_reverse, List.length_take]; omega
      have hst : sa.map (vaM ad) = ((sa.take (gaM a 1)).reverse.map (vaM ad)).reverse ++ (sa.drop (gaM a 1)).map (vaM ad) := by
        rw [← List.map_reverse, List.reverse_reverse, ← List.map_append, List.take_append_drop]
      have d3 := Nat.le_trans c3 hr1
      have d4 := Nat.le_trans c4 hr2
      cases e0 : Nat.beq (gaM a 2) 0 with
      | true =>
        rw [e0, cond_true] at q7
        simp only [Bool.and_eq_true] at q7
        have hcw := codeof _ q7.1
        have hml := mlL_ok _ (List.mem_of_getElem? (of_decide_eq_true q7.2))
        rw [(ml_own c1).1, ← hmt.1] at hml
        exact ⟨_, vx_runS (n := npM (gaM a 0)) fix hmet ⟨⟨rfl, rfl, d3, d4, wsC_pay w1 hts, by rw [← hcw]; exact List.mem_cons_self, by rw [← hcw]; exact w2, w3, w4, w5, hws hml rfl⟩, hws w6 rfl⟩ hpre rfl hn hlz hst (lv_room hcat) hd hroom⟩
      | false =>
      rw [e0, cond_false] at q7
      cases e1 : Nat.beq (gaM a 2) 1 with
      | true =>
        rw [e1, cond_true] at q7
        simp only [Bool.and_eq_true] at q7
        have hcw := codeof _ q7.1
        have hml := mlL_ok _ (List.mem_of_getElem? (of_decide_eq_true q7.2))
        rw [(ml_own c1).2, ← hmt.1] at hml
        exact ⟨_, vx_runSN (n := npM (gaM a 0)) fix hmet ⟨⟨⟨rfl, rfl, d3, d4, wsC_pay w1 hts, by rw [← hcw]; exact List.mem_cons_self⟩, by rw [← hcw]; exact w2, w3, w4, w5, wk_use rfl (hE1 _ hml rfl)⟩, hws w6 rfl, trivial⟩ hpre rfl hn hlz hst (lv_room hcat) hd hroom⟩
      | false =>
        rw [e1, cond_false] at q7
        simp only [Bool.and_eq_true, decide_eq_true_eq] at q7
        have hcw : cwM (gaM a 0) = .codeWith (yM (gaM a 0)) (byM (gaM a 0)) (mxM (gaM a 0)) (rtM (gaM a 0)) (rwM (gaM a 0)) := by
          unfold cwM
          cases ee : (hsM (gaM a 0)).isEmpty with
          | true => rw [ee] at q7; exact absurd q7.1.2 (by decide)
          | false => rfl
        have hml := mlL_ok _ (List.mem_of_getElem? (of_decide_eq_true q7.2))
        rw [(ml_own c1).1, ← hmt.1] at hml
        have hmet2 := Met_no hmet (npN 0 o' (by rw [q7.1.1]; rfl) hnot)
        exact ⟨_, Run_of (vx_runSW (n := npM (gaM a 0)) (hh := rwM (gaM a 0)) fix hmet2 ⟨⟨rfl, rfl, d3, d4, wsC_pay w1 hts, by rw [← hcw]; exact List.mem_cons_self⟩, by rw [← hcw]; exact w2, w3, w4, w5, hws hml rfl, hws w6 rfl⟩ hpre rfl hn hlz hst (lv_room hcat) hd hroom)⟩
  all_goals exact absurd hsp (fun z => z)
end
section
theorem ic_cases (ic : IcM) : ¬ spM ic ∨ psM ic ∨ pnM ic ∨ pcM ic := by
  obtain ⟨i, len, a, c⟩ := ic
  cases i <;> first | exact Or.inl (fun z => z) | exact Or.inr (Or.inl trivial) | exact Or.inr (Or.inr (Or.inl trivial)) | exact Or.inr (Or.inr (Or.inr trivial))
theorem sim_run {G : GlM} {l : Launch} (hMt : ∀ k, 0 ≤ k → k < 224 → MtP k) (hls : l.stackTraces = false) (hC : ∀ k, k < 224 → ∀ pc ic, cdM k pc = some ic → okM k pc ic = true) : ∀ (n k : Nat), k < 224 → ∀ (fr : FrM) (σ : Mem) (o : OutM), runM n k fr σ = some o → WsM G l k fr σ o := by
  intro n
  induction n with
  | zero => intro k hk fr σ o h; cases h
  | succ n ih =>
    intro k hk fr σ o h
    unfold runM at h
    split at h
    · next ic hc =>
      have hmt := hMt k (Nat.zero_le _) hk
      have hok := hC k hk fr.1 ic hc
      rcases ic_cases ic with h1 | h1 | h1 | h1
      · exact sim_a hmt (fun fr' σ' g => ih k hk fr' σ' o g) hok h1 h
      · exact sim_b hmt (fun fr' σ' g => ih k hk fr' σ' o g) hok h1 h
      · exact sim_c hmt (fun fr' σ' g => ih k hk fr' σ' o g) hok h1 h
      · exact sim_d hMt hk hls (hC k hk) (fun k' as σ' o' hk' g => ih k' (by omega) _ σ' o' g) (fun fr' σ' g => ih k hk fr' σ' o g) hok h1 h
    · cases h
theorem sim_Do {G : GlM} {l : Launch} (hMt : ∀ k, 0 ≤ k → k < 224 → MtP k) (hls : l.stackTraces = false) (hC : ∀ k, k < 224 → ∀ pc ic, cdM k pc = some ic → okM k pc ic = true) {k : Nat} (hk : k < 224) {as : List Value} {σ : Mem} {o : OutM} (h : DoM k as σ = some o) : WsM G l k (enM k as) σ o := by
  obtain ⟨n, hn⟩ := Ru_iff.mp h
  exact sim_run hMt hls hC n k hk _ _ _ (hn n (Nat.le_refl n))
end
section
theorem ck_all : ∀ k, 0 ≤ k → k < 223 → cdOk k = true := sorry
theorem cr_all : ∀ j, 0 ≤ j → j < 41 → cdR 223 (64 * j) = true := sorry
end
section
def R_law : String := "StorageQuotasLaw"
def lw_P (b : Addr) (xs : List Int32) (args : Array Value) (s : State) : Prop := args = #[.ref b] ∧ s.IntsAt b xs ∧ xs.length ≤ 3072 ∧ (Jvm.Cond.and given_1 narrow_1).before args s = true
def lw_Q (_ : Array Value) (s : State) (o : Outcome) (t : State) : Prop := o = .returned (some (.int 1)) ∧ Framed s o t [] 601024 7293034
def lw_Z (below : List Frame) (a : Array Value) (s : State) : State → Prop := fun t => ∃ o, t.status = .running ∧ Ended t below o ∧ lw_Q a s o t
/-- the law's own end, with 1 on the stack, nothing written that was there before, its room as the claim has it -/
theorem lw_ret {p : Program} {l : Launch} {e : Env} {s : State} {m : MethodId} {below : List Frame} {meth : Method} {c : Code} {b : Nat} (hx : p.tables.exec = Jvm.exec) (hb : c.code = code) (hr : meth.sig.returnType = ret) (hlocks : meth.locks = false) {pc : Nat} {H : Heap} {ls : Array Slot} (hdg : decode code pc = .ok (.ireturn, 1)) : W p l e room_1 s m #[Value.ref b] below meth c H [] 601024 7293034 (lw_Z below #[Value.ref b] s) (F0 m pc ls [.int 1]) := by
  intro T hT X
  obtain ⟨fs, hret, hrun, hended, hW, hframe⟩ := X.leave (v := some (.int 1)) (hlocks := hlocks) (fun h => by rw [hr] at h; cases h)
  have hmeth' : T.vm.method? m = some meth := X.method'
  refine ⟨T.setFrames fs, ?_, .returned (some (.int 1)), hrun, hended, rfl, ⟨_, rfl⟩, hW, hframe⟩
  jvm_step X.here [X.here.top, hx, hb, hdg, hmeth', hr, ret, narrow_b1]
  (try refine ⟨rfl, ?_⟩); (try refine ⟨rfl, ?_⟩)
  first | (intro acts; rw [hret _ acts rfl rfl rfl]) | rw [hret _ _ rfl rfl rfl]
  exact Steps.refl _
/-- what holds at the law's entry: the machine, the code, the tables' words (any of lw_tbl by 'hts w (by decide +kernel)'), the script of L ints xs at the cell b, what the Statement gives of the start (any of its parts by flat_of_before) -/
def lw_At (p : Program) (s : State) (m : MethodId) (meth : Method) (c : Code) (b L : Nat) (xs : Nat → Int32) : Prop :=
  p.tables.exec = Jvm.exec ∧ c.code = code ∧ meth.sig.returnType = ret ∧ c.maxLocals = 7 ∧ s.vm.findClass R_law = some m.cls ∧ (∀ w ∈ lw_tbl, w.before #[Value.ref b] s = true) ∧ va_X b L xs s s.heap ∧ b < s.heap.size ∧ meth.locks = false ∧ (Jvm.Cond.and given_1 narrow_1).before #[Value.ref b] s = true
/-! The law's start: what the small machine's memory is there, and the claim out of the law's run. -/
def svM (v : Nat) : List Int32 := [[], [], [5, 2, 9, 99, 5000], [9, 99, 5000], [9, 99], [9, 99, 5, 2], [100], []].getD v []
/-- the memory at the law's entry: the script, and the six rows of numbers -/
def m0M (L : Nat) (xs : Nat → Int32) : Mem := ((fun v => if v = 1 then (2, L) else if 2 ≤ v ∧ v < 8 then (2, (svM v).length) else (0, 0)), 8, (fun v j => if v = 1 then xs j else if 2 ≤ v ∧ v < 8 then (svM v).getD j 0 else 0), fun _ _ => 0)
theorem nr_at {args : Array Value} {s : State} (h : (Jvm.Cond.and given_1 narrow_1).before args s = true) (i : Nat) {w : Cond} (hw : (flatC (Jvm.Cond.and given_1 narrow_1))[i]? = some w) : w.before args s = true := flat_of_before _ h w (List.mem_of_getElem? hw)
set_option maxRecDepth 100000 in
theorem sr_0 {args : Array Value} {s : State} (h : (Jvm.Cond.and given_1 narrow_1).before args s = true) : ∃ t : Nat, (Term.static RX4 (snM 0) "[I").eval args s none [] s = some (.ref t) ∧ va_T .int t (svM 2).length (fun j => .int ((svM 2).getD j 0)) (fun q => s.heap.size ≤ q) s s.heap := by
  refine va_Tof (tm := (Term.static RX4 (snM 0) "[I")) (ty := .int) (N := (svM 2).length) (f := fun j => .int ((svM 2).getD j 0)) (by decide) (nr_at h 5 rfl) (va_eqt (nr_at h 6 rfl)) (fun j hj => ?_) (fun a ha => Nat.not_le.mpr ha)
  have hj : j < 5 := hj
  rcases (show j = 0 ∨ j = 1 ∨ j = 2 ∨ j = 3 ∨ j = 4 by omega) with rfl | rfl | rfl | rfl | rfl
  · exact va_eqt (nr_at h 7 rfl)
  · exact va_eqt (nr_at h 8 rfl)
  · exact va_eqt (nr_at h 9 rfl)
  · exact va_eqt (nr_at h 10 rfl)
  · exact va_eqt (nr_at h 11 rfl)
set_option maxRecDepth 100000 in
theorem sr_1 {args : Array Value} {s : State} (h : (Jvm.Cond.and given_1 narrow_1).before args s = true) : ∃ t : Nat, (Term.static RX4 (snM 1) "[I").eval args s none [] s = some (.ref t) ∧ va_T .int t (svM 3).length (fun j => .int ((svM 3).getD j 0)) (fun q => s.heap.size ≤ q) s s.heap := by
  refine va_Tof (tm := (Term.static RX4 (snM 1) "[I")) (ty := .int) (N := (svM 3).length) (f := fun j => .int ((svM 3).getD j 0)) (by decide) (nr_at h 13 rfl) (va_eqt (nr_at h 14 rfl)) (fun j hj => ?_) (fun a ha => Nat.not_le.mpr ha)
  have hj : j < 3 := hj
  rcases (show j = 0 ∨ j = 1 ∨ j = 2 by omega) with rfl | rfl | rfl
  · exact va_eqt (nr_at h 15 rfl)
  · exact va_eqt (nr_at h 16 rfl)
  · exact va_eqt (nr_at h 17 rfl)
set_option maxRecDepth 100000 in
theorem sr_2 {args : Array Value} {s : State} (h : (Jvm.Cond.and given_1 narrow_1).before args s = true) : ∃ t : Nat, (Term.static RX4 (snM 2) "[I").eval args s none [] s = some (.ref t) ∧ va_T .int t (svM 4).length (fun j => .int ((svM 4).getD j 0)) (fun q => s.heap.size ≤ q) s s.heap := by
  refine va_Tof (tm := (Term.static RX4 (snM 2) "[I")) (ty := .int) (N := (svM 4).length) (f := fun j => .int ((svM 4).getD j 0)) (by decide) (nr_at h 19 rfl) (va_eqt (nr_at h 20 rfl)) (fun j hj => ?_) (fun a ha => Nat.not_le.mpr ha)
  have hj : j < 2 := hj
  rcases (show j = 0 ∨ j = 1 by omega) with rfl | rfl
  · exact va_eqt (nr_at h 21 rfl)
  · exact va_eqt (nr_at h 22 rfl)
set_option maxRecDepth 100000 in
theorem sr_3 {args : Array Value} {s : State} (h : (Jvm.Cond.and given_1 narrow_1).before args s = true) : ∃ t : Nat, (Term.static RX4 (snM 3) "[I").eval args s none [] s = some (.ref t) ∧ va_T .int t (svM 5).length (fun j => .int ((svM 5).getD j 0)) (fun q => s.heap.size ≤ q) s s.heap := by
  refine va_Tof (tm := (Term.static RX4 (snM 3) "[I")) (ty := .int) (N := (svM 5).length) (f := fun j => .int ((svM 5).getD j 0)) (by decide) (nr_at h 24 rfl) (va_eqt (nr_at h 25 rfl)) (fun j hj => ?_) (fun a ha => Nat.not_le.mpr ha)
  have hj : j < 4 := hj
  rcases (show j = 0 ∨ j = 1 ∨ j = 2 ∨ j = 3 by omega) with rfl | rfl | rfl | rfl
  · exact va_eqt (nr_at h 26 rfl)
  · exact va_eqt (nr_at h 27 rfl)
  · exact va_eqt (nr_at h 28 rfl)
  · exact va_eqt (nr_at h 29 rfl)
set_option maxRecDepth 100000 in
theorem sr_4 {args : Array Value} {s : State} (h : (Jvm.Cond.and given_1 narrow_1).before args s = true) : ∃ t : Nat, (Term.static RX4 (snM 4) "[I").eval args s none [] s = some (.ref t) ∧ va_T .int t (svM 6).length (fun j => .int ((svM 6).getD j 0)) (fun q => s.heap.size ≤ q) s s.heap := by
  refine va_Tof (tm := (Term.static RX4 (snM 4) "[I")) (ty := .int) (N := (svM 6).length) (f := fun j => .int ((svM 6).getD j 0)) (by decide) (nr_at h 31 rfl) (va_eqt (nr_at h 32 rfl)) (fun j hj => ?_) (fun a ha => Nat.not_le.mpr ha)
  have hj : j < 1 := hj
  rcases (show j = 0 by omega) with rfl
  · exact va_eqt (nr_at h 33 rfl)
set_option maxRecDepth 100000 in
theorem sr_5 {args : Array Value} {s : State} (h : (Jvm.Cond.and given_1 narrow_1).before args s = true) : ∃ t : Nat, (Term.static RX4 (snM 5) "[I").eval args s none [] s = some (.ref t) ∧ va_T .int t (svM 7).length (fun j => .int ((svM 7).getD j 0)) (fun q => s.heap.size ≤ q) s s.heap := by
  refine va_Tof (tm := (Term.static RX4 (snM 5) "[I")) (ty := .int) (N := (svM 7).length) (f := fun j => .int ((svM 7).getD j 0)) (by decide) (nr_at h 35 rfl) (va_eqt (nr_at h 36 rfl)) (fun j hj => ?_) (fun a ha => Nat.not_le.mpr ha)
  have hj : j < 0 := hj
  exact absurd hj (Nat.not_lt_zero j)
set_option maxRecDepth 100000 in
theorem nc_all {args : Array Value} {s : State} (h : (Jvm.Cond.and given_1 narrow_1).before args s = true) : ∀ a b, 1 ≤ a → a < 4 → 1 ≤ b → b < 4 → a ≠ b → va_Nc (exM a) (exM b) s := by
  intro a b h1 h2 h3 h4 h5
  rcases (show (a = 2 ∧ b = 1) ∨ (a = 3 ∧ b = 1) ∨ (a = 1 ∧ b = 2) ∨ (a = 3 ∧ b = 2) ∨ (a = 1 ∧ b = 3) ∨ (a = 2 ∧ b = 3) by omega) with ⟨rfl, rfl⟩ | ⟨rfl, rfl⟩ | ⟨rfl, rfl⟩ | ⟨rfl, rfl⟩ | ⟨rfl, rfl⟩ | ⟨rfl, rfl⟩
  · exact va_Nc.of (nr_at h 45 rfl)
  · exact va_Nc.of (nr_at h 46 rfl)
  · exact va_Nc.of (nr_at h 53 rfl)
  · exact va_Nc.of (nr_at h 54 rfl)
  · exact va_Nc.of (nr_at h 61 rfl)
  · exact va_Nc.of (nr_at h 62 rfl)
theorem st_words : (∀ i, i < 6 → Cond.laysStatic RX4 (snM i) "[I" ∈ lw_tbl) ∧ Cond.initialized RX4 ∈ lw_tbl ∧ Cond.laysStatic Bundle.tN "UNASSIGNED_STACK" Bundle.steD ∈ lw_tbl ∧ Cond.laysStatic Bundle.tN "SUPPRESSED_SENTINEL" Bundle.listD ∈ lw_tbl ∧ Cond.initialized Bundle.tN ∈ lw_tbl ∧ Cond.arrayOver (.object RX2) ∈ lw_tbl := by
  refine ⟨fun i h => ?_, by decide +kernel, by decide +kernel, by decide +kernel, by decide +kernel, by decide +kernel⟩
  rcases (show i = 0 ∨ i = 1 ∨ i = 2 ∨ i = 3 ∨ i = 4 ∨ i = 5 by omega) with rfl | rfl | rfl | rfl | rfl | rfl <;> decide +kernel
theorem sr_all {args : Array Value} {s : State} (h : (Jvm.Cond.and given_1 narrow_1).before args s = true) : ∀ i, i < 6 → ∃ t : Nat, (Term.static RX4 (snM i) "[I").eval args s none [] s = some (.ref t) ∧ va_T .int t (svM (i + 2)).length (fun j => .int ((svM (i + 2)).getD j 0)) (fun q => s.heap.size ≤ q) s s.heap := by
  intro i hi
  rcases (show i = 0 ∨ i = 1 ∨ i = 2 ∨ i = 3 ∨ i = 4 ∨ i = 5 by omega) with rfl | rfl | rfl | rfl | rfl | rfl
  · exact sr_0 h
  · exact sr_1 h
  · exact sr_2 h
  · exact sr_3 h
  · exact sr_4 h
  · exact sr_5 h
theorem ar_kn {args : Array Value} {s : State} {ty : FieldType} (hne : ∀ C, ty ≠ .object C) (h : (Cond.arrayClass ty).before args s = true) : ∃ cA : ClassId, ArrOfT s cA ty ∧ va_RA s cA ty := by
  obtain ⟨cA, kA, comp, h1, h2, h3⟩ := Cond.arrayClass_spec h
  refine ⟨cA, fun N z => ⟨(fun k h => by cases h), kA, h2, comp, h3⟩, ?_⟩
  cases ty <;> first | exact absurd rfl (hne _) | exact h1
theorem ar_ko {args : Array Value} {s : State} {C : String} (h : (Cond.arrayOver (.object C)).before args s = true) : ∃ cA : ClassId, ArrOfT s cA (.object C) ∧ va_RA s cA (.object C) := by
  obtain ⟨comp, cA, kA, h1, h2, h3, h4, h5⟩ := Cond.arrayOver_spec h
  exact ⟨cA, fun N z => ⟨(fun k h => by cases h), kA, h3, comp, h4⟩, kA, comp, h3, h4, h1, h5⟩
set_option maxRecDepth 100000 in
theorem Ev_start {p : Program} {s : State} {m : MethodId} {meth : Method} {c : Code} {b L : Nat} {xs : Nat → Int32} (hL : L ≤ 3072) (C0 : lw_At p s m meth c b L xs) :
    ∃ G : GlM, EvG G s ∧ gB G = s.heap.size ∧ (∀ v, 1 ≤ v → v < 8 → tkM (m0M L xs) v = (2, gN G v) ∧ ∀ j, rdM (m0M L xs) v j = gM G v j) ∧ gA G 1 = b := by
  obtain ⟨hx, hb, hr, hml, hown, hts, hX, hbl, hlk, hgv⟩ := C0
  have hkn : ∀ ci, ∃ q : ClassId × (Nat → Nat), ci < 6 → u_Kn s (clM ci).1 (clM ci).2.1 (clM ci).2.2 q.1 q.2 := by
    intro ci
    by_cases h : ci < 6
    · obtain ⟨cC, iS, hk⟩ := u_known (C := (clM ci).1) (T := (clM ci).2.1) (N := (clM ci).2.2) hts (fun w hw => (List.mem_filter.mp (cl_ws ci h w hw)).1) (hts _ (cl_wd ci h).1)
      exact ⟨(cC, iS), fun _ => hk⟩
    · exact ⟨(0, fun _ => 0), fun z => absurd z h⟩
  obtain ⟨w1, w2, w3, w4⟩ := ar_wd
  obtain ⟨x1, x2, x3, x4, x5, x6⟩ := st_words
  obtain ⟨c2, a2⟩ := ar_kn (ty := .int) (fun C z => by cases z) (hts _ w1)
  obtain ⟨c3, a3⟩ := ar_kn (ty := .boolean) (fun C z => by cases z) (hts _ w2)
  obtain ⟨c4, a4⟩ := ar_kn (ty := .char) (fun C z => by cases z) (hts _ w3)
  obtain ⟨c5, a5⟩ := ar_kn (ty := .long) (fun C z => by cases z) (hts _ w4)
  obtain ⟨c6, a6⟩ := ar_ko (C := RX2) (hts _ x6)
  have hst : ∀ i, ∃ t : Nat, i < 6 → (Term.static RX4 (snM i) "[I").eval #[Value.ref b] s none [] s = some (.ref t) ∧ va_T .int t (svM (i + 2)).length (fun j => .int ((svM (i + 2)).getD j 0)) (fun q => s.heap.size ≤ q) s s.heap := by
    intro i
    by_cases h : i < 6
    · obtain ⟨t, ht⟩ := sr_all hgv i h
      exact ⟨t, fun _ => ht⟩
    · exact ⟨0, fun z => absurd z h⟩
  have hA : ∀ a : Nat, a < s.heap.size → ¬ (fun q : Nat => s.heap.size ≤ q) a := fun a ha => Nat.not_le.mpr ha
  refine ⟨(fun κ => if κ = 2 then c2 else if κ = 3 then c3 else if κ = 4 then c4 else if κ = 5 then c5 else c6, (fun ci => (Classical.choose (hkn ci)).1, fun ci => (Classical.choose (hkn ci)).2), s.heap.size, (fun v => if v = 1 then L else (svM v).length), (fun v j => if v = 1 then xs j else (svM v).getD j 0), fun v => if v = 1 then b else Classical.choose (hst (v - 2))), ⟨fun w hw hk => ?_, ⟨fun ci q hq => ?_, fun i q hq => ?_⟩, fun i hi => ?_, fun v h1 h2 => ?_, ?_, ?_, fun o k t ht => ?_, nc_all hgv, Nat.le_refl _, va_AO.of (hts _ x6)⟩, rfl, fun v h1 h2 => ?_, rfl⟩
  · refine va_Nw.of ?_ (hts w hw)
    cases w <;> first | rfl | cases hk
  · have h6 : ci < 6 := (List.getElem?_eq_some_iff.mp hq).1
    have := cl_at h6
    obtain rfl : clM ci = q := Option.some.inj (this.symm.trans hq)
    exact Classical.choose_spec (hkn ci) h6
  · have h5 : i < 5 := (List.getElem?_eq_some_iff.mp hq).1
    rcases (show i = 0 ∨ i = 1 ∨ i = 2 ∨ i = 3 ∨ i = 4 by omega) with rfl | rfl | rfl | rfl | rfl <;> cases hq
    · exact a2
    · exact a3
    · exact a4
    · exact a5
    · exact a6
  · have h := Classical.choose_spec (hst i) hi
    have e : (fun v => if v = 1 then b else Classical.choose (hst (v - 2))) (i + 2) = Classical.choose (hst i) := by
      dsimp only
      rw [if_neg (by omega)]
    show va_Z RX4 (snM i) "[I" (.ref ((fun v => if v = 1 then b else Classical.choose (hst (v - 2))) (i + 2))) _ s s.heap
    rw [e]
    exact va_Zof (hts _ (x1 i hi)) (hts _ x2) h.1 hA
  · by_cases e : v = 1
    · subst e
      obtain ⟨scr, e1, e2, e3, e4, e5⟩ := hX
      exact ⟨scr, e1, e2, e3, by show L ≤ _; omega, by show _ = Int32.ofNat L; rw [e4], fun j hj => e5 j hj, hA b hbl⟩
    · obtain ⟨u, rfl⟩ : ∃ u, v = u + 2 := ⟨v - 2, by omega⟩
      have h := (Classical.choose_spec (hst u) (by omega)).2
      show va_T .int (if u + 2 = 1 then b else Classical.choose (hst u)) (if u + 2 = 1 then L else (svM (u + 2)).length) (fun j => .int (if u + 2 = 1 then xs j else (svM (u + 2)).getD j 0)) _ s s.heap
      simp only [if_neg e]
      exact h
  · exact vx_Zqof (hts _ x3) (hts _ x5) (nr_at hgv 37 rfl) hA
  · exact vx_Zqof (hts _ x4) (hts _ x5) (nr_at hgv 38 rfl) hA
  · have h := hts _ ht
    cases hc : s.vm.findClass o with
    | none =>
      simp only [Cond.before, Cond.holds, Cond.value, hc, Option.map_none] at h
      cases h
    | some cur =>
      obtain ⟨kk, cf, i, a, -, -, -, -, -, he⟩ := Cond.stringRef_spec hc h
      exact ⟨a, vk_R.of h he⟩
  · by_cases e : v = 1
    · subst e
      exact ⟨rfl, fun j => rfl⟩
    · have e2 : 2 ≤ v ∧ v < 8 := ⟨by omega, h2⟩
      refine ⟨?_, fun j => ?_⟩
      · show (if v = 1 then (2, L) else if 2 ≤ v ∧ v < 8 then (2, (svM v).length) else (0, 0)) = (2, if v = 1 then L else (svM v).length)
        rw [if_neg e, if_pos e2, if_neg e]
      · show (if v = 1 then xs j else if 2 ≤ v ∧ v < 8 then (svM v).getD j 0 else 0) = if v = 1 then xs j else (svM v).getD j 0
        rw [if_neg e, if_pos e2, if_neg e]
end
section
theorem law_run (L : Nat) (xs : Nat → Int32) (hL : L ≤ 3072) : ∃ σ', DoM 223 [.ref 1] (m0M L xs) = some (.inl (some (.int 1)), σ') := sorry
end
section
/-! The claim out of the law's run on the small machine. -/
theorem gL_none {α : Type} (l : List (Option α)) (i : Nat) (h : l.length ≤ i) : l.getD i none = none := by
  rw [List.getD_eq_getElem?_getD, List.getElem?_eq_none h]; rfl
theorem ct_le {k pc : Nat} {ic : IcM} (hw : ∀ q ∈ cdT k, q.length ≤ 64) (h : cdM k pc = some ic) : pc < 64 * (cdT k).length := by
  have h : ((cdT k).getD (pc / 64) []).getD (pc % 64) none = some ic := h
  by_cases h1 : pc / 64 < (cdT k).length
  · omega
  · rw [List.getD_eq_getElem?_getD (l := cdT k), List.getElem?_eq_none (Nat.le_of_not_lt h1)] at h
    cases h
theorem ok_all (k : Nat) (hk : k < 224) (pc : Nat) (ic : IcM) (h : cdM k pc = some ic) : okM k pc ic = true := by
  by_cases e : k = 223
  · subst e
    have h1 : pc < 64 * (cdT 223).length := ct_le (k := 223) (by decide +kernel) h
    have h2 : (cdT 223).length ≤ 41 := by decide +kernel
    have h3 := cr_all (pc / 64) (Nat.zero_le _) (by omega)
    have h4 := List.all_eq_true.mp h3 (pc % 64) (List.mem_range.mpr (Nat.mod_lt _ (by decide)))
    rw [Nat.div_add_mod] at h4
    simp only [h] at h4
    exact h4
  · have h3 := ck_all k (Nat.zero_le _) (by omega)
    have h1 : pc < 64 * (cdT k).length := by
      have h : ((cdT k).getD (pc / 64) []).getD (pc % 64) none = some ic := h
      by_cases h1 : pc / 64 < (cdT k).length
      · omega
      · rw [List.getD_eq_getElem?_getD (l := cdT k), List.getElem?_eq_none (Nat.le_of_not_lt h1)] at h
        cases h
    have h4 := List.all_eq_true.mp h3 pc (List.mem_range.mpr h1)
    simp only [h] at h4
    exact h4
theorem en_all {L : Nat} {xs : Nat → Int32} {G : GlM} {s : State} (hE : EvG G s) (hrow : ∀ v, 1 ≤ v → v < 8 → tkM (m0M L xs) v = (2, gN G v) ∧ ∀ j, rdM (m0M L xs) v j = gM G v j) : RpM G (gA G) (m0M L xs) s.heap := by
  refine ⟨fun k q h => ?_, ⟨fun i j p q h => ?_, fun k q h => ?_⟩, ⟨Nat.le_refl _, fun v hv => ?_, rfl, fun v j => ?_, hrow⟩, fun v _ _ => rfl⟩
  · cases h
  · cases h
  · cases h
  · have hv : 8 ≤ v := hv
    show (if v = 1 then (2, L) else if 2 ≤ v ∧ v < 8 then (2, (svM v).length) else (0, 0)).1 = 0
    rw [if_neg (by omega), if_neg (by omega)]
  · show 0 < 8
    decide
/-- YOUR PART: from the entry, for every script of at most 3072 ints, the law comes to its end with true ('hflags': the launch's flags, for a law that throws: no stack traces) -/
theorem whole_start {p : Program} {e : Env} {s : State} {m : MethodId} {below : List Frame} {meth : Method} {c : Code} (l : Launch) (hflags : l.flags = flags0) {b L : Nat} {xs : Nat → Int32} (hL : L ≤ 3072) (C0 : lw_At p s m meth c b L xs) (hnm : meth.name = x.name) (hex : c.exceptionTable.toList = []) : W p l e room_1 s m #[Value.ref b] below meth c s.heap [] 0 0 (lw_Z below #[Value.ref b] s) (entryFrame m ([Value.ref b] : List Value).toArray 7) := by
  obtain ⟨G, hE, hgb, hrow, hA1⟩ := Ev_start hL C0
  obtain ⟨σ', hdo⟩ := law_run L xs hL
  have hls : l.stackTraces = false := by
    unfold Launch.stackTraces
    rw [hflags]
    decide +kernel
  have hw := sim_Do (G := G) (l := l) mt_all hls ok_all (by decide : (223 : Nat) < 224) hdo
  obtain ⟨hx, hb, hr, hml, hown, hts, hX, hbl, hlk, hgv⟩ := C0
  have hA : AcM G l 223 p room_1 s m #[Value.ref b] meth c := ⟨⟨hx, hb, hml, hr, hlk, hnm, hown⟩, fun w h1 _ => hts w h1, hE, hex, hls, by decide, by decide, by decide, by decide⟩
  have hR : RpM G (gA G) (m0M L xs) s.heap := en_all hE hrow
  have has : ∀ v ∈ ([.ref 1] : List Value), isOne v = true := by
    intro v hv
    obtain rfl : v = .ref 1 := List.mem_singleton.mp hv
    rfl
  have hav : ∀ v ∈ ([.ref 1] : List Value), vkM (nxM (m0M L xs)) v = true := by
    intro v hv
    obtain rfl : v = .ref 1 := List.mem_singleton.mp hv
    rfl
  have e0 : ([Value.ref 1] : List Value).map (vaM (gA G)) = [Value.ref b] := by
    show [Value.ref (gA G 1)] = _
    rw [hA1]
  have hlv := lv_entry (([.ref 1] : List Value).map (vaM (gA G))) (n := mxM 223) (by rw [lg_len (gA G) _ has]; decide)
  obtain ⟨a1, a2⟩ := lv_args_at (gA G) ([.ref 1] : List Value) 0 has
  suffices K : W p l e room_1 s m #[Value.ref b] below meth c s.heap [] 0 0 (lw_Z below #[Value.ref b] s) (entryFrame m (([.ref 1] : List Value).map (vaM (gA G))).toArray (mxM 223)) by
    rw [e0] at K
    exact K
  rw [lg_entry_eq]
  refine hw p e _ s m _ below meth c (gA G) s.heap [] _ _ [] hA hR va_S.rf ⟨_, hlv, a2, fun i v hv => ?_⟩ ⟨rfl, fun v h => by cases h⟩ ?_
  · have h1 := en_get hv
    have h2 := a1 i v h1
    rw [Nat.zero_add] at h2
    exact ⟨h2, hav v (List.mem_of_getElem? h1)⟩
  · intro ad' H' locs' kc ks pc ls h1 h2 h3 h4 h5 h6 h7 h8
    refine va_forget (fun q hq => ?_) (W.widen (Nat.le_trans h5 (by decide)) (Nat.le_trans h6 (by decide)) (lw_ret hx hb hr hlk h7.1))
    have := h4.2.2 q hq
    show s.heap.size ≤ _
    rw [← hgb]
    exact this
end
section
set_option maxHeartbeats 4000000 in
theorem lw_walk (l : Launch) (hflags : l.flags = flags0) (b : Addr) (xs : List Int32) : MetFree l x (headSpec (Jvm.Cond.code x code maxLocals ret :: tables_1) room_1) (lw_P b xs) (fun _ _ _ _ _ => True) lw_Q := by
  refine MetFree.of_bodyS (code := code) (maxLocals := maxLocals) (ret := ret) (by decide) ?_ ?_
  · intro args s m h hn
    obtain ⟨meth, c, h1, h2, h3, h4, h5, h6, -, -⟩ := Cond.code_spec hn (atoms_spec (ws := Jvm.Cond.code x code maxLocals ret :: tables_1) h _ List.mem_cons_self)
    exact ⟨meth, c, h1, h2, h3, h4, h5, h6⟩
  · intro p e s m args below meth c s₁ B hml0 hP _
    obtain ⟨rfl, hx, hbd, hgv⟩ := hP
    obtain ⟨scr, harrAt, hlist, hof, hsmall⟩ := hx
    obtain ⟨hcb, hkn, -, -⟩ := State.arrayAt?_spec harrAt
    have hown : s.vm.findClass R_law = some m.cls := findClass_of_methodNamed B.named
    have hts0 : ∀ c ∈ (Jvm.Cond.code x code maxLocals ret :: tables_1), c.before #[Value.ref b] s = true := atoms_spec (ws := Jvm.Cond.code x code maxLocals ret :: tables_1) B.pre
    have hts : ∀ w ∈ lw_tbl, w.before #[Value.ref b] s = true := k2_hts_sels lw_privs (fun w hw => hts0 w (List.mem_cons_of_mem _ hw)) lw_privs_ok
    have hml : c.maxLocals = 7 := B.maxLocals_eq (hts0 _ List.mem_cons_self)
    have X₀ : Stand p l e room_1 s m #[Value.ref b] below meth c s₁ [] 0 0 := Stand.of_body B
    have hh0 : s₁.heap = s.heap := by rw [B.state]; rfl
    have hsz : scr.slots.size = xs.length := by rw [← Array.length_toList, hlist, List.length_map]
    have hval : ∀ j : Nat, j < xs.length → scr.slots[j]? = some (.int (xs.getD j 0)) := fun j hj => by
      rw [← Array.getElem?_toList, hlist]
      simp [hj]
    have hbl : b < s.heap.size := (Array.getElem?_eq_some_iff.mp hcb).1
    have hX : va_X b xs.length (fun j => xs.getD j 0) s s.heap := ⟨scr, hcb, hof, hkn, hsz, hval⟩
    have K : W p l e room_1 s m #[Value.ref b] below meth c s₁.heap [] 0 0 (lw_Z below #[Value.ref b] s) (entryFrame m ([Value.ref b] : List Value).toArray 7) := by
      rw [hh0]
      refine whole_start l hflags hbd ⟨B.exec, B.bytes, B.returns, hml, hown, hts, hX, hbl, B.notSynchronized, hgv⟩ (name_of_methodNamed B.named B.method).1 ?_
      obtain ⟨meth9, c9, h1, h2, -, -, -, -, h6, -⟩ := Cond.code_spec B.named (hts0 _ List.mem_cons_self)
      cases Option.some.inj (h1.symm.trans B.method)
      cases Option.some.inj (h2.symm.trans (Stand.of_body B).code)
      exact Array.toList_eq_nil_iff.mpr (Array.isEmpty_iff.mp h6)
    obtain ⟨t, a1, o, b1, b2, b3⟩ := K s₁ rfl X₀
    exact ⟨t, o, a1, b1, b2, b3⟩
theorem lw_pre_spec {args : Array Value} {s : State} (h : (Jvm.Cond.and given_1 narrow_1).before args s = true) (hr : rest_1_c.before args s = true) : ∃ (b : Addr) (xs : List Int32), lw_P b xs args s := by
  have hs := flat_of_before _ h
  have hq := flat_of_before _ hr
  have hc : (Cond.count 1).before args s = true := hs _ (by decide +kernel)
  have harr : (Cond.arrayOf (.arg 0) .int).before args s = true := hs _ (by decide +kernel)
  have hle : (Cond.le (.length (.arg 0)) (.int 3072)).before args s = true := hs _ (by decide +kernel)
  have hlen : (Cond.isInt (.length (.arg 0))).before args s = true := hq _ (by decide +kernel)
  have hall : (Cond.all (.arg 0) (.isInt (.elem (.arg 0) (.index 0)))).before args s = true := hq _ (by decide +kernel)
  obtain ⟨b, xs, hb, hx⟩ := State.ints_of_pre rfl harr hlen hall
  have hsm : xs.length < 2 ^ 31 := hx.choose_spec.2.2.2
  have hev : (Term.length (.arg 0)).eval args s none [] s = some (.int xs.length.toInt32) := hx.length_eval hb
  have hv := Cond.le_ints hev (show (Term.int 3072).eval args s none [] s = some (.int 3072) from rfl)
  have hd : xs.length.toInt32 ≤ 3072 := by
    simpa [Cond.before, Cond.holds, hv] using hle
  have hN : xs.length ≤ 3072 := (Int32.ofNat_le_ofNat hsm (by decide)).mp (show Int32.ofNat xs.length ≤ Int32.ofNat 3072 from hd)
  exact ⟨b, xs, Cond.one_arg hc (show args[0]? = some (.ref b) from hb), hx, hN, h⟩
theorem lw_comes (l : Launch) (hflags : l.flags = flags0) : Comes l x (Jvm.Cond.code x code maxLocals ret :: tables_1) room_1 (fun tb e args s => Calls_1 tb e args s ∧ rest_1 tb e args s ∧ Pre_1 tb e args s)
    (fun _ _ args s o t => lw_Q args s o t) := by
  intro p e ha hc hk s m args below hf hfit hheap happ hpre
  obtain ⟨b, xs, hP⟩ := lw_pre_spec hpre.2.2 hpre.2.1
  obtain ⟨k, o, h1, h2, h3, hQ⟩ := lw_walk l hflags b xs p e ha hc hk s m args below hf ((Spec.applies_iff_loose hf).mp happ).1 hP trivial
  exact ⟨k, o, h1, h2, h3, hQ⟩
theorem lw_frame {s t : State} {o : Outcome} {args : Array Value} (h : Framed s o t [] 601024 7293034) :
    Framed s o t (fieldLocs frame_1_writes args s ++ arrayLocs frame_1_arrays args s ++ staticLocs frame_1_statics s) 601024 7293034 := h
theorem lw_limb (L : Cond) (hL : ∀ (args : Array Value) (s t : State), L.after args s (.returned (some (.int 1))) t = true) :
    ArmFor flags0 classFile x code maxLocals ret World_1 tables_1 room_1 Calls_1 rest_1 Pre_1
      (fun tb e a s o t => postC L tb e a s o t ∧ Framed s o t (fieldLocs frame_1_writes a s ++ arrayLocs frame_1_arrays a s ++ staticLocs frame_1_statics s) 601024 7293034) := by
  intro l hflags _ _ p e ha hc hk s m args below hf hfit hheap happ hpre
  obtain ⟨k, o, h1, h2, h3, rfl, hF⟩ := lw_comes l hflags p e ha hc hk s m args below hf hfit hheap happ hpre
  exact ⟨k, _, h1, h2, h3, hL args s _, lw_frame hF⟩
theorem i_vc : Claimed_1_1 ∧ Claimed_1_2 := ⟨lw_limb limb_1_1 (fun args s t => by simp [limb_1_1, Cond.after, Cond.holds, Cond.value]), lw_limb limb_1_2 (fun args s t => Cond.after_iff.mpr (by
  first | (rw [show limb_1_2 = Cond.eq .result (.int 1) from rfl, Cond.eq_ints (x := 1) (y := 1) rfl rfl]; simp; done) | (simp [limb_1_2, Cond.value, Term.eval]; done)))⟩
end
