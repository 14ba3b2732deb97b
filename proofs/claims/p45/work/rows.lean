section
-- ===== PART A: goes FIRST, ahead of the names: the tables' words, and 'selects' of the private methods out of them =====
/-- a private method of a class that the tables say can be made, by its rows of tables_1 -/
def lw_okq (q : MethodName × Nat) : Prop := (q.1.cls ≠ "java/lang/invoke/MethodHandle" ∧ q.1.cls ≠ "java/lang/invoke/VarHandle") ∧ Cond.instantiable q.1.cls q.2 ∈ tables_1 ∧ Cond.privateMethod q.1 ∈ tables_1 ∧ Cond.instanceMethod q.1 ∈ tables_1
theorem lw_p0 : lw_okq (⟨"java/lang/Throwable", "fillInStackTrace", "(I)Ljava/lang/Throwable;"⟩, 6) := ⟨⟨by decide +kernel, by decide +kernel⟩, List.mem_of_getElem? (i := 216) (by decide +kernel), List.mem_of_getElem? (i := 214) (by decide +kernel), List.mem_of_getElem? (i := 215) (by decide +kernel)⟩
theorem lw_p1 : lw_okq (⟨"StorageQuotas$State", "copyFrom", "(LStorageQuotas$State;)V"⟩, 10) := ⟨⟨by decide +kernel, by decide +kernel⟩, List.mem_of_getElem? (i := 23) (by decide +kernel), List.mem_of_getElem? (i := 246) (by decide +kernel), List.mem_of_getElem? (i := 247) (by decide +kernel)⟩
theorem lw_p2 : lw_okq (⟨"StorageQuotas$FileTable", "copyRows", "(LStorageQuotas$FileTable;)V"⟩, 5) := ⟨⟨by decide +kernel, by decide +kernel⟩, List.mem_of_getElem? (i := 29) (by decide +kernel), List.mem_of_getElem? (i := 253) (by decide +kernel), List.mem_of_getElem? (i := 254) (by decide +kernel)⟩
theorem lw_p3 : lw_okq (⟨"StorageQuotas$EventLog", "copyEvents", "(LStorageQuotas$EventLog;)V"⟩, 5) := ⟨⟨by decide +kernel, by decide +kernel⟩, List.mem_of_getElem? (i := 61) (by decide +kernel), List.mem_of_getElem? (i := 258) (by decide +kernel), List.mem_of_getElem? (i := 259) (by decide +kernel)⟩
theorem lw_p4 : lw_okq (⟨"StorageQuotas$FileTable", "find", "(I)I"⟩, 5) := ⟨⟨by decide +kernel, by decide +kernel⟩, List.mem_of_getElem? (i := 29) (by decide +kernel), List.mem_of_getElem? (i := 351) (by decide +kernel), List.mem_of_getElem? (i := 352) (by decide +kernel)⟩
theorem lw_p5 : lw_okq (⟨"StorageQuotas$EventLog", "partOf", "(II)I"⟩, 5) := ⟨⟨by decide +kernel, by decide +kernel⟩, List.mem_of_getElem? (i := 61) (by decide +kernel), List.mem_of_getElem? (i := 404) (by decide +kernel), List.mem_of_getElem? (i := 405) (by decide +kernel)⟩
theorem lw_p6 : lw_okq (⟨"StorageQuotas", "keepState", "()V"⟩, 8) := ⟨⟨by decide +kernel, by decide +kernel⟩, List.mem_of_getElem? (i := 15) (by decide +kernel), List.mem_of_getElem? (i := 424) (by decide +kernel), List.mem_of_getElem? (i := 425) (by decide +kernel)⟩
theorem lw_p7 : lw_okq (⟨"StorageQuotas$State", "countExempted", "()I"⟩, 10) := ⟨⟨by decide +kernel, by decide +kernel⟩, List.mem_of_getElem? (i := 23) (by decide +kernel), List.mem_of_getElem? (i := 432) (by decide +kernel), List.mem_of_getElem? (i := 433) (by decide +kernel)⟩
theorem lw_p8 : lw_okq (⟨"StorageQuotas$State", "canPass", "(I)Z"⟩, 10) := ⟨⟨by decide +kernel, by decide +kernel⟩, List.mem_of_getElem? (i := 23) (by decide +kernel), List.mem_of_getElem? (i := 440) (by decide +kernel), List.mem_of_getElem? (i := 441) (by decide +kernel)⟩
theorem lw_p9 : lw_okq (⟨"StorageQuotas$State", "passDays", "(I)I"⟩, 10) := ⟨⟨by decide +kernel, by decide +kernel⟩, List.mem_of_getElem? (i := 23) (by decide +kernel), List.mem_of_getElem? (i := 445) (by decide +kernel), List.mem_of_getElem? (i := 446) (by decide +kernel)⟩
theorem lw_p10 : lw_okq (⟨"StorageQuotas$State", "beginDay", "()I"⟩, 10) := ⟨⟨by decide +kernel, by decide +kernel⟩, List.mem_of_getElem? (i := 23) (by decide +kernel), List.mem_of_getElem? (i := 449) (by decide +kernel), List.mem_of_getElem? (i := 450) (by decide +kernel)⟩
theorem lw_p11 : lw_okq (⟨"StorageQuotas$State", "isRunning", "(I)Z"⟩, 10) := ⟨⟨by decide +kernel, by decide +kernel⟩, List.mem_of_getElem? (i := 23) (by decide +kernel), List.mem_of_getElem? (i := 453) (by decide +kernel), List.mem_of_getElem? (i := 454) (by decide +kernel)⟩
theorem lw_p12 : lw_okq (⟨"StorageQuotas$State", "daysRunning", "(I)I"⟩, 10) := ⟨⟨by decide +kernel, by decide +kernel⟩, List.mem_of_getElem? (i := 23) (by decide +kernel), List.mem_of_getElem? (i := 457) (by decide +kernel), List.mem_of_getElem? (i := 458) (by decide +kernel)⟩
theorem lw_p13 : lw_okq (⟨"StorageQuotas$EventLog", "add", "(III)V"⟩, 5) := ⟨⟨by decide +kernel, by decide +kernel⟩, List.mem_of_getElem? (i := 61) (by decide +kernel), List.mem_of_getElem? (i := 461) (by decide +kernel), List.mem_of_getElem? (i := 462) (by decide +kernel)⟩
theorem lw_p14 : lw_okq (⟨"StorageQuotas$State", "review", "(I)V"⟩, 10) := ⟨⟨by decide +kernel, by decide +kernel⟩, List.mem_of_getElem? (i := 23) (by decide +kernel), List.mem_of_getElem? (i := 486) (by decide +kernel), List.mem_of_getElem? (i := 487) (by decide +kernel)⟩
theorem lw_p15 : lw_okq (⟨"StorageQuotas$FileTable", "scan", "(II)I"⟩, 5) := ⟨⟨by decide +kernel, by decide +kernel⟩, List.mem_of_getElem? (i := 29) (by decide +kernel), List.mem_of_getElem? (i := 505) (by decide +kernel), List.mem_of_getElem? (i := 506) (by decide +kernel)⟩
def lw_privs_1 : List (MethodName × Nat) := [(⟨"java/lang/Throwable", "fillInStackTrace", "(I)Ljava/lang/Throwable;"⟩, 6), (⟨"StorageQuotas$State", "copyFrom", "(LStorageQuotas$State;)V"⟩, 10), (⟨"StorageQuotas$FileTable", "copyRows", "(LStorageQuotas$FileTable;)V"⟩, 5), (⟨"StorageQuotas$EventLog", "copyEvents", "(LStorageQuotas$EventLog;)V"⟩, 5), (⟨"StorageQuotas$FileTable", "find", "(I)I"⟩, 5), (⟨"StorageQuotas$EventLog", "partOf", "(II)I"⟩, 5), (⟨"StorageQuotas", "keepState", "()V"⟩, 8), (⟨"StorageQuotas$State", "countExempted", "()I"⟩, 10), (⟨"StorageQuotas$State", "canPass", "(I)Z"⟩, 10), (⟨"StorageQuotas$State", "passDays", "(I)I"⟩, 10), (⟨"StorageQuotas$State", "beginDay", "()I"⟩, 10), (⟨"StorageQuotas$State", "isRunning", "(I)Z"⟩, 10), (⟨"StorageQuotas$State", "daysRunning", "(I)I"⟩, 10), (⟨"StorageQuotas$EventLog", "add", "(III)V"⟩, 5), (⟨"StorageQuotas$State", "review", "(I)V"⟩, 10), (⟨"StorageQuotas$FileTable", "scan", "(II)I"⟩, 5)]
theorem lw_r1 : ∀ q ∈ lw_privs_1, lw_okq q := List.forall_mem_cons.mpr ⟨lw_p0, List.forall_mem_cons.mpr ⟨lw_p1, List.forall_mem_cons.mpr ⟨lw_p2, List.forall_mem_cons.mpr ⟨lw_p3, List.forall_mem_cons.mpr ⟨lw_p4, List.forall_mem_cons.mpr ⟨lw_p5, List.forall_mem_cons.mpr ⟨lw_p6, List.forall_mem_cons.mpr ⟨lw_p7, List.forall_mem_cons.mpr ⟨lw_p8, List.forall_mem_cons.mpr ⟨lw_p9, List.forall_mem_cons.mpr ⟨lw_p10, List.forall_mem_cons.mpr ⟨lw_p11, List.forall_mem_cons.mpr ⟨lw_p12, List.forall_mem_cons.mpr ⟨lw_p13, List.forall_mem_cons.mpr ⟨lw_p14, List.forall_mem_cons.mpr ⟨lw_p15, fun _ h => absurd h List.not_mem_nil⟩⟩⟩⟩⟩⟩⟩⟩⟩⟩⟩⟩⟩⟩⟩⟩
theorem lw_p16 : lw_okq (⟨"StorageQuotas$FileTable", "isCharged", "(II)Z"⟩, 5) := ⟨⟨by decide +kernel, by decide +kernel⟩, List.mem_of_getElem? (i := 29) (by decide +kernel), List.mem_of_getElem? (i := 509) (by decide +kernel), List.mem_of_getElem? (i := 510) (by decide +kernel)⟩
theorem lw_p17 : lw_okq (⟨"StorageQuotas$State", "greatestIncrease", "(I)I"⟩, 10) := ⟨⟨by decide +kernel, by decide +kernel⟩, List.mem_of_getElem? (i := 23) (by decide +kernel), List.mem_of_getElem? (i := 520) (by decide +kernel), List.mem_of_getElem? (i := 521) (by decide +kernel)⟩
theorem lw_p18 : lw_okq (⟨"StorageQuotas$State", "isOver", "(I)Z"⟩, 10) := ⟨⟨by decide +kernel, by decide +kernel⟩, List.mem_of_getElem? (i := 23) (by decide +kernel), List.mem_of_getElem? (i := 524) (by decide +kernel), List.mem_of_getElem? (i := 525) (by decide +kernel)⟩
theorem lw_p19 : lw_okq (⟨"StorageQuotas$FileTable", "listSizes", "(I[I)I"⟩, 5) := ⟨⟨by decide +kernel, by decide +kernel⟩, List.mem_of_getElem? (i := 29) (by decide +kernel), List.mem_of_getElem? (i := 537) (by decide +kernel), List.mem_of_getElem? (i := 538) (by decide +kernel)⟩
theorem lw_p20 : lw_okq (⟨"StorageQuotas$FileTable", "findLargest", "(I)I"⟩, 5) := ⟨⟨by decide +kernel, by decide +kernel⟩, List.mem_of_getElem? (i := 29) (by decide +kernel), List.mem_of_getElem? (i := 548) (by decide +kernel), List.mem_of_getElem? (i := 549) (by decide +kernel)⟩
theorem lw_p21 : lw_okq (⟨"StorageQuotas$FileTable", "sumDirectory", "(I)I"⟩, 5) := ⟨⟨by decide +kernel, by decide +kernel⟩, List.mem_of_getElem? (i := 29) (by decide +kernel), List.mem_of_getElem? (i := 556) (by decide +kernel), List.mem_of_getElem? (i := 557) (by decide +kernel)⟩
theorem lw_p22 : lw_okq (⟨"StorageQuotas$State", "firstRefusal", "(IIIIII)I"⟩, 10) := ⟨⟨by decide +kernel, by decide +kernel⟩, List.mem_of_getElem? (i := 23) (by decide +kernel), List.mem_of_getElem? (i := 584) (by decide +kernel), List.mem_of_getElem? (i := 585) (by decide +kernel)⟩
theorem lw_p23 : lw_okq (⟨"StorageQuotas$State", "causeOf", "(II)I"⟩, 10) := ⟨⟨by decide +kernel, by decide +kernel⟩, List.mem_of_getElem? (i := 23) (by decide +kernel), List.mem_of_getElem? (i := 590) (by decide +kernel), List.mem_of_getElem? (i := 591) (by decide +kernel)⟩
theorem lw_p24 : lw_okq (⟨"StorageQuotas$State", "canAdd", "(I)Z"⟩, 10) := ⟨⟨by decide +kernel, by decide +kernel⟩, List.mem_of_getElem? (i := 23) (by decide +kernel), List.mem_of_getElem? (i := 604) (by decide +kernel), List.mem_of_getElem? (i := 605) (by decide +kernel)⟩
theorem lw_p25 : lw_okq (⟨"StorageQuotas$State", "addFile", "(IIII)I"⟩, 10) := ⟨⟨by decide +kernel, by decide +kernel⟩, List.mem_of_getElem? (i := 23) (by decide +kernel), List.mem_of_getElem? (i := 610) (by decide +kernel), List.mem_of_getElem? (i := 611) (by decide +kernel)⟩
theorem lw_p26 : lw_okq (⟨"StorageQuotas$State", "noteRefusal", "(III)V"⟩, 10) := ⟨⟨by decide +kernel, by decide +kernel⟩, List.mem_of_getElem? (i := 23) (by decide +kernel), List.mem_of_getElem? (i := 615) (by decide +kernel), List.mem_of_getElem? (i := 616) (by decide +kernel)⟩
theorem lw_p27 : lw_okq (⟨"StorageQuotas$FileTable", "add", "(IIII)V"⟩, 5) := ⟨⟨by decide +kernel, by decide +kernel⟩, List.mem_of_getElem? (i := 29) (by decide +kernel), List.mem_of_getElem? (i := 619) (by decide +kernel), List.mem_of_getElem? (i := 620) (by decide +kernel)⟩
theorem lw_p28 : lw_okq (⟨"StorageQuotas$State", "charge", "(III)V"⟩, 10) := ⟨⟨by decide +kernel, by decide +kernel⟩, List.mem_of_getElem? (i := 23) (by decide +kernel), List.mem_of_getElem? (i := 623) (by decide +kernel), List.mem_of_getElem? (i := 624) (by decide +kernel)⟩
theorem lw_p29 : lw_okq (⟨"StorageQuotas$State", "reviewAll", "()V"⟩, 10) := ⟨⟨by decide +kernel, by decide +kernel⟩, List.mem_of_getElem? (i := 23) (by decide +kernel), List.mem_of_getElem? (i := 627) (by decide +kernel), List.mem_of_getElem? (i := 628) (by decide +kernel)⟩
theorem lw_p30 : lw_okq (⟨"StorageQuotas", "requireFile", "(I)I"⟩, 8) := ⟨⟨by decide +kernel, by decide +kernel⟩, List.mem_of_getElem? (i := 15) (by decide +kernel), List.mem_of_getElem? (i := 636) (by decide +kernel), List.mem_of_getElem? (i := 637) (by decide +kernel)⟩
theorem lw_p31 : lw_okq (⟨"StorageQuotas$State", "removeFile", "(I)I"⟩, 10) := ⟨⟨by decide +kernel, by decide +kernel⟩, List.mem_of_getElem? (i := 23) (by decide +kernel), List.mem_of_getElem? (i := 641) (by decide +kernel), List.mem_of_getElem? (i := 642) (by decide +kernel)⟩
def lw_privs_2 : List (MethodName × Nat) := [(⟨"StorageQuotas$FileTable", "isCharged", "(II)Z"⟩, 5), (⟨"StorageQuotas$State", "greatestIncrease", "(I)I"⟩, 10), (⟨"StorageQuotas$State", "isOver", "(I)Z"⟩, 10), (⟨"StorageQuotas$FileTable", "listSizes", "(I[I)I"⟩, 5), (⟨"StorageQuotas$FileTable", "findLargest", "(I)I"⟩, 5), (⟨"StorageQuotas$FileTable", "sumDirectory", "(I)I"⟩, 5), (⟨"StorageQuotas$State", "firstRefusal", "(IIIIII)I"⟩, 10), (⟨"StorageQuotas$State", "causeOf", "(II)I"⟩, 10), (⟨"StorageQuotas$State", "canAdd", "(I)Z"⟩, 10), (⟨"StorageQuotas$State", "addFile", "(IIII)I"⟩, 10), (⟨"StorageQuotas$State", "noteRefusal", "(III)V"⟩, 10), (⟨"StorageQuotas$FileTable", "add", "(IIII)V"⟩, 5), (⟨"StorageQuotas$State", "charge", "(III)V"⟩, 10), (⟨"StorageQuotas$State", "reviewAll", "()V"⟩, 10), (⟨"StorageQuotas", "requireFile", "(I)I"⟩, 8), (⟨"StorageQuotas$State", "removeFile", "(I)I"⟩, 10)]
theorem lw_r2 : ∀ q ∈ lw_privs_2, lw_okq q := List.forall_mem_cons.mpr ⟨lw_p16, List.forall_mem_cons.mpr ⟨lw_p17, List.forall_mem_cons.mpr ⟨lw_p18, List.forall_mem_cons.mpr ⟨lw_p19, List.forall_mem_cons.mpr ⟨lw_p20, List.forall_mem_cons.mpr ⟨lw_p21, List.forall_mem_cons.mpr ⟨lw_p22, List.forall_mem_cons.mpr ⟨lw_p23, List.forall_mem_cons.mpr ⟨lw_p24, List.forall_mem_cons.mpr ⟨lw_p25, List.forall_mem_cons.mpr ⟨lw_p26, List.forall_mem_cons.mpr ⟨lw_p27, List.forall_mem_cons.mpr ⟨lw_p28, List.forall_mem_cons.mpr ⟨lw_p29, List.forall_mem_cons.mpr ⟨lw_p30, List.forall_mem_cons.mpr ⟨lw_p31, fun _ h => absurd h List.not_mem_nil⟩⟩⟩⟩⟩⟩⟩⟩⟩⟩⟩⟩⟩⟩⟩⟩
theorem lw_p32 : lw_okq (⟨"StorageQuotas$FileTable", "remove", "(I)V"⟩, 5) := ⟨⟨by decide +kernel, by decide +kernel⟩, List.mem_of_getElem? (i := 29) (by decide +kernel), List.mem_of_getElem? (i := 645) (by decide +kernel), List.mem_of_getElem? (i := 646) (by decide +kernel)⟩
theorem lw_p33 : lw_okq (⟨"StorageQuotas$State", "moveFile", "(III)I"⟩, 10) := ⟨⟨by decide +kernel, by decide +kernel⟩, List.mem_of_getElem? (i := 23) (by decide +kernel), List.mem_of_getElem? (i := 653) (by decide +kernel), List.mem_of_getElem? (i := 654) (by decide +kernel)⟩
theorem lw_p34 : lw_okq (⟨"StorageQuotas$State", "resizeFile", "(II)I"⟩, 10) := ⟨⟨by decide +kernel, by decide +kernel⟩, List.mem_of_getElem? (i := 23) (by decide +kernel), List.mem_of_getElem? (i := 661) (by decide +kernel), List.mem_of_getElem? (i := 662) (by decide +kernel)⟩
theorem lw_p35 : lw_okq (⟨"StorageQuotas$State", "changeBlocks", "(III)I"⟩, 10) := ⟨⟨by decide +kernel, by decide +kernel⟩, List.mem_of_getElem? (i := 23) (by decide +kernel), List.mem_of_getElem? (i := 665) (by decide +kernel), List.mem_of_getElem? (i := 666) (by decide +kernel)⟩
def lw_privs_3 : List (MethodName × Nat) := [(⟨"StorageQuotas$FileTable", "remove", "(I)V"⟩, 5), (⟨"StorageQuotas$State", "moveFile", "(III)I"⟩, 10), (⟨"StorageQuotas$State", "resizeFile", "(II)I"⟩, 10), (⟨"StorageQuotas$State", "changeBlocks", "(III)I"⟩, 10)]
theorem lw_r3 : ∀ q ∈ lw_privs_3, lw_okq q := List.forall_mem_cons.mpr ⟨lw_p32, List.forall_mem_cons.mpr ⟨lw_p33, List.forall_mem_cons.mpr ⟨lw_p34, List.forall_mem_cons.mpr ⟨lw_p35, fun _ h => absurd h List.not_mem_nil⟩⟩⟩⟩
def lw_privs : List (MethodName × Nat) := lw_privs_1 ++ (lw_privs_2 ++ (lw_privs_3))
def lw_tbl : List Cond := k2_sels lw_privs ++ tables_1
theorem lw_privs_ok : ∀ q ∈ lw_privs, lw_okq q := by
  show ∀ q ∈ lw_privs_1 ++ (lw_privs_2 ++ (lw_privs_3)), lw_okq q
  exact List.forall_mem_append.mpr ⟨lw_r1, List.forall_mem_append.mpr ⟨lw_r2, lw_r3⟩⟩
end
section
/-! ===== BEGIN printed: names, fields, word lists, decode rows ===== -/
def RX0 : String := "StorageQuotas$EventLog"
def TX0 : u_T := fun k => match k with
  | 0 => ("StorageQuotas$EventLog", "count", "I", false)
  | 1 => ("StorageQuotas$EventLog", "newest", "I", false)
  | 2 => ("StorageQuotas$EventLog", "kinds", "[I", true)
  | 3 => ("StorageQuotas$EventLog", "pairs", "[I", true)
  | _ => ("StorageQuotas$EventLog", "days", "[I", true)
def tyX0 : Nat → FieldType := fun k => match k with
  | 0 => .int
  | 1 => .int
  | 2 => .array .int
  | 3 => .array .int
  | _ => .array .int
abbrev wsX00 : List Cond := u_ws RX0 TX0 5
theorem nmX0 : ∀ a, a < 5 → ∀ b, b < 5 → a ≠ b → (TX0 a).2.1 ≠ (TX0 b).2.1 := by decide +kernel
theorem tyX0_ok : ∀ k, k < 5 → parseFieldDescriptor (TX0 k).2.2.1 = some (tyX0 k) := by decide +kernel
abbrev cX0_init : ByteArray := prog_2_method_1_code
def yX0_init : MethodName := ⟨RX0, "<init>", "()V"⟩
abbrev cX0_copyEvents : ByteArray := prog_2_method_2_code
def yX0_copyEvents : MethodName := ⟨RX0, "copyEvents", "(LStorageQuotas$EventLog;)V"⟩
abbrev cX0_add : ByteArray := prog_2_method_3_code
def yX0_add : MethodName := ⟨RX0, "add", "(III)V"⟩
abbrev cX0_partOf : ByteArray := prog_2_method_4_code
def yX0_partOf : MethodName := ⟨RX0, "partOf", "(II)I"⟩
def RX1 : String := "StorageQuotas$FileTable"
def TX1 : u_T := fun k => match k with
  | 0 => ("StorageQuotas$FileTable", "count", "I", false)
  | 1 => ("StorageQuotas$FileTable", "keys", "[I", true)
  | 2 => ("StorageQuotas$FileTable", "owners", "[I", true)
  | 3 => ("StorageQuotas$FileTable", "groups", "[I", true)
  | _ => ("StorageQuotas$FileTable", "sizes", "[I", true)
def tyX1 : Nat → FieldType := fun k => match k with
  | 0 => .int
  | 1 => .array .int
  | 2 => .array .int
  | 3 => .array .int
  | _ => .array .int
abbrev wsX10 : List Cond := u_ws RX1 TX1 5
theorem nmX1 : ∀ a, a < 5 → ∀ b, b < 5 → a ≠ b → (TX1 a).2.1 ≠ (TX1 b).2.1 := by decide +kernel
theorem tyX1_ok : ∀ k, k < 5 → parseFieldDescriptor (TX1 k).2.2.1 = some (tyX1 k) := by decide +kernel
abbrev cX1_init : ByteArray := prog_3_method_1_code
def yX1_init : MethodName := ⟨RX1, "<init>", "()V"⟩
abbrev cX1_copyRows : ByteArray := prog_3_method_2_code
def yX1_copyRows : MethodName := ⟨RX1, "copyRows", "(LStorageQuotas$FileTable;)V"⟩
abbrev cX1_find : ByteArray := prog_3_method_3_code
def yX1_find : MethodName := ⟨RX1, "find", "(I)I"⟩
abbrev cX1_add : ByteArray := prog_3_method_4_code
def yX1_add : MethodName := ⟨RX1, "add", "(IIII)V"⟩
abbrev cX1_remove : ByteArray := prog_3_method_5_code
def yX1_remove : MethodName := ⟨RX1, "remove", "(I)V"⟩
abbrev cX1_isCharged : ByteArray := prog_3_method_6_code
def yX1_isCharged : MethodName := ⟨RX1, "isCharged", "(II)Z"⟩
abbrev cX1_scan : ByteArray := prog_3_method_7_code
def yX1_scan : MethodName := ⟨RX1, "scan", "(II)I"⟩
abbrev cX1_listSizes : ByteArray := prog_3_method_8_code
def yX1_listSizes : MethodName := ⟨RX1, "listSizes", "(I[I)I"⟩
abbrev cX1_sumDirectory : ByteArray := prog_3_method_9_code
def yX1_sumDirectory : MethodName := ⟨RX1, "sumDirectory", "(I)I"⟩
abbrev cX1_findLargest : ByteArray := prog_3_method_10_code
def yX1_findLargest : MethodName := ⟨RX1, "findLargest", "(I)I"⟩
def RX2 : String := "StorageQuotas$State"
def TX2 : u_T := fun k => match k with
  | 0 => ("StorageQuotas$State", "today", "I", false)
  | 1 => ("StorageQuotas$State", "graceLengths", "[I", true)
  | 2 => ("StorageQuotas$State", "exempted", "[Z", true)
  | 3 => ("StorageQuotas$State", "usages", "[I", true)
  | 4 => ("StorageQuotas$State", "softs", "[I", true)
  | 5 => ("StorageQuotas$State", "hards", "[I", true)
  | 6 => ("StorageQuotas$State", "starts", "[I", true)
  | 7 => ("StorageQuotas$State", "refusalCounts", "[I", true)
  | 8 => ("StorageQuotas$State", "files", "LStorageQuotas$FileTable;", true)
  | _ => ("StorageQuotas$State", "log", "LStorageQuotas$EventLog;", true)
def tyX2 : Nat → FieldType := fun k => match k with
  | 0 => .int
  | 1 => .array .int
  | 2 => .array .boolean
  | 3 => .array .int
  | 4 => .array .int
  | 5 => .array .int
  | 6 => .array .int
  | 7 => .array .int
  | 8 => .object "StorageQuotas$FileTable"
  | _ => .object "StorageQuotas$EventLog"
abbrev wsX20 : List Cond := u_ws RX2 TX2 10
theorem nmX2 : ∀ a, a < 10 → ∀ b, b < 10 → a ≠ b → (TX2 a).2.1 ≠ (TX2 b).2.1 := by decide +kernel
theorem tyX2_ok : ∀ k, k < 10 → parseFieldDescriptor (TX2 k).2.2.1 = some (tyX2 k) := by decide +kernel
abbrev cX2_init : ByteArray := prog_4_method_1_code
def yX2_init : MethodName := ⟨RX2, "<init>", "()V"⟩
abbrev cX2_copyFrom : ByteArray := prog_4_method_2_code
def yX2_copyFrom : MethodName := ⟨RX2, "copyFrom", "(LStorageQuotas$State;)V"⟩
abbrev cX2_canAdd : ByteArray := prog_4_method_3_code
def yX2_canAdd : MethodName := ⟨RX2, "canAdd", "(I)Z"⟩
abbrev cX2_addFile : ByteArray := prog_4_method_4_code
def yX2_addFile : MethodName := ⟨RX2, "addFile", "(IIII)I"⟩
abbrev cX2_resizeFile : ByteArray := prog_4_method_5_code
def yX2_resizeFile : MethodName := ⟨RX2, "resizeFile", "(II)I"⟩
abbrev cX2_changeBlocks : ByteArray := prog_4_method_6_code
def yX2_changeBlocks : MethodName := ⟨RX2, "changeBlocks", "(III)I"⟩
abbrev cX2_removeFile : ByteArray := prog_4_method_7_code
def yX2_removeFile : MethodName := ⟨RX2, "removeFile", "(I)I"⟩
abbrev cX2_moveFile : ByteArray := prog_4_method_8_code
def yX2_moveFile : MethodName := ⟨RX2, "moveFile", "(III)I"⟩
abbrev cX2_charge : ByteArray := prog_4_method_9_code
def yX2_charge : MethodName := ⟨RX2, "charge", "(III)V"⟩
abbrev cX2_firstRefusal : ByteArray := prog_4_method_10_code
def yX2_firstRefusal : MethodName := ⟨RX2, "firstRefusal", "(IIIIII)I"⟩
abbrev cX2_causeOf : ByteArray := prog_4_method_11_code
def yX2_causeOf : MethodName := ⟨RX2, "causeOf", "(II)I"⟩
abbrev cX2_greatestIncrease : ByteArray := prog_4_method_12_code
def yX2_greatestIncrease : MethodName := ⟨RX2, "greatestIncrease", "(I)I"⟩
abbrev cX2_noteRefusal : ByteArray := prog_4_method_13_code
def yX2_noteRefusal : MethodName := ⟨RX2, "noteRefusal", "(III)V"⟩
abbrev cX2_reviewAll : ByteArray := prog_4_method_14_code
def yX2_reviewAll : MethodName := ⟨RX2, "reviewAll", "()V"⟩
abbrev cX2_review : ByteArray := prog_4_method_15_code
def yX2_review : MethodName := ⟨RX2, "review", "(I)V"⟩
abbrev cX2_isRunning : ByteArray := prog_4_method_16_code
def yX2_isRunning : MethodName := ⟨RX2, "isRunning", "(I)Z"⟩
abbrev cX2_daysRunning : ByteArray := prog_4_method_17_code
def yX2_daysRunning : MethodName := ⟨RX2, "daysRunning", "(I)I"⟩
abbrev cX2_isOver : ByteArray := prog_4_method_18_code
def yX2_isOver : MethodName := ⟨RX2, "isOver", "(I)Z"⟩
abbrev cX2_canPass : ByteArray := prog_4_method_19_code
def yX2_canPass : MethodName := ⟨RX2, "canPass", "(I)Z"⟩
abbrev cX2_passDays : ByteArray := prog_4_method_20_code
def yX2_passDays : MethodName := ⟨RX2, "passDays", "(I)I"⟩
abbrev cX2_beginDay : ByteArray := prog_4_method_21_code
def yX2_beginDay : MethodName := ⟨RX2, "beginDay", "()I"⟩
abbrev cX2_countExempted : ByteArray := prog_4_method_22_code
def yX2_countExempted : MethodName := ⟨RX2, "countExempted", "()I"⟩
def RX3 : String := "StorageQuotas$TextReader"
def TX3 : u_T := fun k => match k with
  | 0 => ("StorageQuotas$TextReader", "characters", "[C", true)
  | 1 => ("StorageQuotas$TextReader", "length", "I", false)
  | 2 => ("StorageQuotas$TextReader", "position", "I", false)
  | 3 => ("StorageQuotas$TextReader", "command", "C", false)
  | _ => ("StorageQuotas$TextReader", "numbers", "[I", true)
def tyX3 : Nat → FieldType := fun k => match k with
  | 0 => .array .char
  | 1 => .int
  | 2 => .int
  | 3 => .char
  | _ => .array .int
abbrev wsX30 : List Cond := u_ws RX3 TX3 5
theorem nmX3 : ∀ a, a < 5 → ∀ b, b < 5 → a ≠ b → (TX3 a).2.1 ≠ (TX3 b).2.1 := by decide +kernel
theorem tyX3_ok : ∀ k, k < 5 → parseFieldDescriptor (TX3 k).2.2.1 = some (tyX3 k) := by decide +kernel
abbrev cX3_init : ByteArray := prog_5_method_1_code
def yX3_init : MethodName := ⟨RX3, "<init>", "()V"⟩
def RX4 : String := "StorageQuotas"
def TX4 : u_T := fun k => match k with
  | 0 => ("StorageQuotas", "state", "LStorageQuotas$State;", true)
  | 1 => ("StorageQuotas", "trial", "LStorageQuotas$State;", true)
  | 2 => ("StorageQuotas", "saved", "[LStorageQuotas$State;", true)
  | 3 => ("StorageQuotas", "savedCount", "I", false)
  | 4 => ("StorageQuotas", "slots", "[LStorageQuotas$State;", true)
  | 5 => ("StorageQuotas", "slotFilled", "[Z", true)
  | 6 => ("StorageQuotas", "text", "LStorageQuotas$TextReader;", true)
  | _ => ("StorageQuotas", "sizeRow", "[I", true)
def tyX4 : Nat → FieldType := fun k => match k with
  | 0 => .object "StorageQuotas$State"
  | 1 => .object "StorageQuotas$State"
  | 2 => .array (.object "StorageQuotas$State")
  | 3 => .int
  | 4 => .array (.object "StorageQuotas$State")
  | 5 => .array .boolean
  | 6 => .object "StorageQuotas$TextReader"
  | _ => .array .int
abbrev wsX40 : List Cond := u_ws RX4 TX4 8
theorem nmX4 : ∀ a, a < 8 → ∀ b, b < 8 → a ≠ b → (TX4 a).2.1 ≠ (TX4 b).2.1 := by decide +kernel
theorem tyX4_ok : ∀ k, k < 8 → parseFieldDescriptor (TX4 k).2.2.1 = some (tyX4 k) := by decide +kernel
abbrev cX4_init : ByteArray := prog_1_method_1_code
def yX4_init : MethodName := ⟨RX4, "<init>", "()V"⟩
abbrev cX4_create : ByteArray := prog_1_method_2_code
def yX4_create : MethodName := ⟨RX4, "create", "(IIIII)I"⟩
abbrev cX4_resize : ByteArray := prog_1_method_3_code
def yX4_resize : MethodName := ⟨RX4, "resize", "(III)I"⟩
abbrev cX4_delete : ByteArray := prog_1_method_4_code
def yX4_delete : MethodName := ⟨RX4, "delete", "(II)I"⟩
abbrev cX4_move : ByteArray := prog_1_method_5_code
def yX4_move : MethodName := ⟨RX4, "move", "(IIII)I"⟩
abbrev cX4_setLimits : ByteArray := prog_1_method_6_code
def yX4_setLimits : MethodName := ⟨RX4, "setLimits", "(IIII)I"⟩
abbrev cX4_setGrace : ByteArray := prog_1_method_7_code
def yX4_setGrace : MethodName := ⟨RX4, "setGrace", "(II)I"⟩
abbrev cX4_restartGrace : ByteArray := prog_1_method_8_code
def yX4_restartGrace : MethodName := ⟨RX4, "restartGrace", "(II)I"⟩
abbrev cX4_setExempt : ByteArray := prog_1_method_9_code
def yX4_setExempt : MethodName := ⟨RX4, "setExempt", "(IZ)I"⟩
abbrev cX4_nextDays : ByteArray := prog_1_method_10_code
def yX4_nextDays : MethodName := ⟨RX4, "nextDays", "(I)I"⟩
abbrev cX4_undo : ByteArray := prog_1_method_15_code
def yX4_undo : MethodName := ⟨RX4, "undo", "()I"⟩
abbrev cX4_save : ByteArray := prog_1_method_16_code
def yX4_save : MethodName := ⟨RX4, "save", "(I)I"⟩
abbrev cX4_restore : ByteArray := prog_1_method_17_code
def yX4_restore : MethodName := ⟨RX4, "restore", "(I)I"⟩
abbrev cX4_usage : ByteArray := prog_1_method_18_code
def yX4_usage : MethodName := ⟨RX4, "usage", "(II)I"⟩
abbrev cX4_scannedUsage : ByteArray := prog_1_method_19_code
def yX4_scannedUsage : MethodName := ⟨RX4, "scannedUsage", "(II)I"⟩
abbrev cX4_softLimit : ByteArray := prog_1_method_20_code
def yX4_softLimit : MethodName := ⟨RX4, "softLimit", "(II)I"⟩
abbrev cX4_hardLimit : ByteArray := prog_1_method_21_code
def yX4_hardLimit : MethodName := ⟨RX4, "hardLimit", "(II)I"⟩
abbrev cX4_graceStart : ByteArray := prog_1_method_22_code
def yX4_graceStart : MethodName := ⟨RX4, "graceStart", "(II)I"⟩
abbrev cX4_graceLeft : ByteArray := prog_1_method_23_code
def yX4_graceLeft : MethodName := ⟨RX4, "graceLeft", "(II)I"⟩
abbrev cX4_available : ByteArray := prog_1_method_24_code
def yX4_available : MethodName := ⟨RX4, "available", "(II)I"⟩
abbrev cX4_refusals : ByteArray := prog_1_method_25_code
def yX4_refusals : MethodName := ⟨RX4, "refusals", "(I)I"⟩
abbrev cX4_fewestDeletions : ByteArray := prog_1_method_26_code
def yX4_fewestDeletions : MethodName := ⟨RX4, "fewestDeletions", "(I)I"⟩
abbrev cX4_sizeOf : ByteArray := prog_1_method_27_code
def yX4_sizeOf : MethodName := ⟨RX4, "sizeOf", "(II)I"⟩
abbrev cX4_ownerOf : ByteArray := prog_1_method_28_code
def yX4_ownerOf : MethodName := ⟨RX4, "ownerOf", "(II)I"⟩
abbrev cX4_groupOf : ByteArray := prog_1_method_29_code
def yX4_groupOf : MethodName := ⟨RX4, "groupOf", "(II)I"⟩
abbrev cX4_fileCount : ByteArray := prog_1_method_30_code
def yX4_fileCount : MethodName := ⟨RX4, "fileCount", "()I"⟩
abbrev cX4_directorySize : ByteArray := prog_1_method_31_code
def yX4_directorySize : MethodName := ⟨RX4, "directorySize", "(I)I"⟩
abbrev cX4_largestFile : ByteArray := prog_1_method_32_code
def yX4_largestFile : MethodName := ⟨RX4, "largestFile", "(I)I"⟩
abbrev cX4_ifCreated : ByteArray := prog_1_method_33_code
def yX4_ifCreated : MethodName := ⟨RX4, "ifCreated", "(III)I"⟩
abbrev cX4_day : ByteArray := prog_1_method_35_code
def yX4_day : MethodName := ⟨RX4, "day", "()I"⟩
abbrev cX4_graceLength : ByteArray := prog_1_method_36_code
def yX4_graceLength : MethodName := ⟨RX4, "graceLength", "(I)I"⟩
abbrev cX4_isExempt : ByteArray := prog_1_method_37_code
def yX4_isExempt : MethodName := ⟨RX4, "isExempt", "(I)Z"⟩
abbrev cX4_runningGraces : ByteArray := prog_1_method_38_code
def yX4_runningGraces : MethodName := ⟨RX4, "runningGraces", "()I"⟩
abbrev cX4_overGraces : ByteArray := prog_1_method_39_code
def yX4_overGraces : MethodName := ⟨RX4, "overGraces", "()I"⟩
abbrev cX4_event : ByteArray := prog_1_method_40_code
def yX4_event : MethodName := ⟨RX4, "event", "(II)I"⟩
abbrev cX4_eventCount : ByteArray := prog_1_method_41_code
def yX4_eventCount : MethodName := ⟨RX4, "eventCount", "()I"⟩
abbrev cX4_savedStates : ByteArray := prog_1_method_42_code
def yX4_savedStates : MethodName := ⟨RX4, "savedStates", "()I"⟩
abbrev cX4_requireUser : ByteArray := prog_1_method_44_code
def yX4_requireUser : MethodName := ⟨RX4, "requireUser", "(I)V"⟩
abbrev cX4_requireGroup : ByteArray := prog_1_method_45_code
def yX4_requireGroup : MethodName := ⟨RX4, "requireGroup", "(I)V"⟩
abbrev cX4_requireAccount : ByteArray := prog_1_method_46_code
def yX4_requireAccount : MethodName := ⟨RX4, "requireAccount", "(I)V"⟩
abbrev cX4_requireResource : ByteArray := prog_1_method_47_code
def yX4_requireResource : MethodName := ⟨RX4, "requireResource", "(I)V"⟩
abbrev cX4_requirePair : ByteArray := prog_1_method_48_code
def yX4_requirePair : MethodName := ⟨RX4, "requirePair", "(II)I"⟩
abbrev cX4_requireDirectory : ByteArray := prog_1_method_49_code
def yX4_requireDirectory : MethodName := ⟨RX4, "requireDirectory", "(I)V"⟩
abbrev cX4_requireKey : ByteArray := prog_1_method_50_code
def yX4_requireKey : MethodName := ⟨RX4, "requireKey", "(II)I"⟩
abbrev cX4_requireSize : ByteArray := prog_1_method_51_code
def yX4_requireSize : MethodName := ⟨RX4, "requireSize", "(I)V"⟩
abbrev cX4_requireLimits : ByteArray := prog_1_method_52_code
def yX4_requireLimits : MethodName := ⟨RX4, "requireLimits", "(II)V"⟩
abbrev cX4_requireSlot : ByteArray := prog_1_method_53_code
def yX4_requireSlot : MethodName := ⟨RX4, "requireSlot", "(I)V"⟩
abbrev cX4_requireFile : ByteArray := prog_1_method_54_code
def yX4_requireFile : MethodName := ⟨RX4, "requireFile", "(I)I"⟩
abbrev cX4_pairOf : ByteArray := prog_1_method_55_code
def yX4_pairOf : MethodName := ⟨RX4, "pairOf", "(II)I"⟩
abbrev cX4_groupAccount : ByteArray := prog_1_method_56_code
def yX4_groupAccount : MethodName := ⟨RX4, "groupAccount", "(I)I"⟩
abbrev cX4_keyOf : ByteArray := prog_1_method_57_code
def yX4_keyOf : MethodName := ⟨RX4, "keyOf", "(II)I"⟩
abbrev cX4_keepState : ByteArray := prog_1_method_58_code
def yX4_keepState : MethodName := ⟨RX4, "keepState", "()V"⟩
abbrev cX4_takeLargest : ByteArray := prog_1_method_60_code
def yX4_takeLargest : MethodName := ⟨RX4, "takeLargest", "([II)I"⟩
def RX5 : String := "StorageQuotasModel"
def TX5 : u_T := fun k => match k with
  | _ => ("", "", "", false)
def tyX5 : Nat → FieldType := fun k => match k with
  | _ => .int
abbrev wsX50 : List Cond := u_ws RX5 TX5 0
theorem nmX5 : ∀ a, a < 0 → ∀ b, b < 0 → a ≠ b → (TX5 a).2.1 ≠ (TX5 b).2.1 := by decide +kernel
theorem tyX5_ok : ∀ k, k < 0 → parseFieldDescriptor (TX5 k).2.2.1 = some (tyX5 k) := by decide +kernel
def RJ9 : String := "java/lang/Math"
def TJ9 : u_T := fun k => match k with
  | _ => ("", "", "", false)
def tyJ9 : Nat → FieldType := fun k => match k with
  | _ => .int
abbrev wsJ90 : List Cond := u_ws RJ9 TJ9 0
theorem nmJ9 : ∀ a, a < 0 → ∀ b, b < 0 → a ≠ b → (TJ9 a).2.1 ≠ (TJ9 b).2.1 := by decide +kernel
theorem tyJ9_ok : ∀ k, k < 0 → parseFieldDescriptor (TJ9 k).2.2.1 = some (tyJ9 k) := by decide +kernel
abbrev cJ9_max_7cf53 : ByteArray := prog_12_method_65_code
def yJ9_max_7cf53 : MethodName := ⟨RJ9, "max", "(II)I"⟩
abbrev cJ9_min_7cf53 : ByteArray := prog_12_method_69_code
def yJ9_min_7cf53 : MethodName := ⟨RJ9, "min", "(II)I"⟩
def RJ0 : String := "java/lang/String"
def TJ0 : u_T := fun k => match k with
  | _ => ("", "", "", false)
def tyJ0 : Nat → FieldType := fun k => match k with
  | _ => .int
abbrev wsJ00 : List Cond := u_ws RJ0 TJ0 0
theorem nmJ0 : ∀ a, a < 0 → ∀ b, b < 0 → a ≠ b → (TJ0 a).2.1 ≠ (TJ0 b).2.1 := by decide +kernel
theorem tyJ0_ok : ∀ k, k < 0 → parseFieldDescriptor (TJ0 k).2.2.1 = some (tyJ0 k) := by decide +kernel
def RJ10 : String := "java/lang/System"
def TJ10 : u_T := fun k => match k with
  | _ => ("", "", "", false)
def tyJ10 : Nat → FieldType := fun k => match k with
  | _ => .int
abbrev wsJ100 : List Cond := u_ws RJ10 TJ10 0
theorem nmJ10 : ∀ a, a < 0 → ∀ b, b < 0 → a ≠ b → (TJ10 a).2.1 ≠ (TJ10 b).2.1 := by decide +kernel
theorem tyJ10_ok : ∀ k, k < 0 → parseFieldDescriptor (TJ10 k).2.2.1 = some (tyJ10 k) := by decide +kernel
def RL : String := "StorageQuotasLaw"
abbrev cL_cell : ByteArray := method_2_code
def yL_cell : MethodName := ⟨RL, "cell", "([II)I"⟩
abbrev cL_up : ByteArray := method_3_code
def yL_up : MethodName := ⟨RL, "up", "(II)I"⟩
abbrev cL_quiet : ByteArray := method_4_code
def yL_quiet : MethodName := ⟨RL, "quiet", "(LStorageQuotas;)J"⟩
abbrev cL_told : ByteArray := method_5_code
def yL_told : MethodName := ⟨RL, "told", "(LStorageQuotas;)J"⟩
abbrev cL_refusals : ByteArray := method_6_code
def yL_refusals : MethodName := ⟨RL, "refusals", "(LStorageQuotas;)I"⟩
abbrev cL_operate : ByteArray := method_7_code
def yL_operate : MethodName := ⟨RL, "operate", "(LStorageQuotas;II)I"⟩
abbrev cL_administer : ByteArray := method_8_code
def yL_administer : MethodName := ⟨RL, "administer", "(LStorageQuotas;II)I"⟩
abbrev cL_holds : ByteArray := method_9_code
def yL_holds : MethodName := ⟨RL, "holds", "(LStorageQuotas;)Z"⟩
abbrev cL_isChecked : ByteArray := method_10_code
def yL_isChecked : MethodName := ⟨RL, "isChecked", "(LStorageQuotas;II)Z"⟩
abbrev cL_law : ByteArray := code
def yL_law : MethodName := ⟨RL, "law", "([I)Z"⟩
abbrev vwCl : List vw_C := [(RX0, TX0, 5), (RX1, TX1, 5), (RX2, TX2, 10), (RX3, TX3, 5), (RX4, TX4, 8)]
end
section
/-! A small machine over a memory of numbered objects: rows of ints and rows of references. Its runs are what is reasoned about; that the bytecode does the same is proved behind. -/
abbrev Mem : Type := (Nat → Nat × Nat) × Nat × (Nat → Nat → Int32) × (Nat → Nat → Nat)
def tkM (σ : Mem) (v : Nat) : Nat × Nat := σ.1 v
def nxM (σ : Mem) : Nat := σ.2.1
def rdM (σ : Mem) (v j : Nat) : Int32 := σ.2.2.1 v j
def prM (σ : Mem) (v j : Nat) : Nat := σ.2.2.2 v j
def wrM (σ : Mem) (v j : Nat) (x : Int32) : Mem := (σ.1, σ.2.1, (fun a i => if a = v ∧ i = j then x else σ.2.2.1 a i), σ.2.2.2)
def wpM (σ : Mem) (v j : Nat) (x : Nat) : Mem := (σ.1, σ.2.1, σ.2.2.1, fun a i => if a = v ∧ i = j then x else σ.2.2.2 a i)
def nwM (σ : Mem) (κ n : Nat) : Mem := ((fun a => if a = σ.2.1 then (κ, n) else σ.1 a), σ.2.1 + 1, (fun a i => if a = σ.2.1 then 0 else σ.2.2.1 a i), fun a i => if a = σ.2.1 then 0 else σ.2.2.2 a i)
def cpM (σ : Mem) (sv sp dv dp n : Nat) : Mem := (σ.1, σ.2.1, (fun a i => if a = dv ∧ (dp ≤ i ∧ i < dp + n) then σ.2.2.1 sv (sp + (i - dp)) else σ.2.2.1 a i), σ.2.2.2)
/-- an instruction: as it is decoded, its length, what its numbers stand for, a constant -/
abbrev IcM : Type := Instr × Nat × List Nat × Int32
/-- pc, locals, stack, cells and slots made so far -/
abbrev FrM : Type := Nat × List (Option Value) × List Value × Nat × Nat
/-- a value returned, or the number of the exception that was thrown -/
abbrev OutM : Type := (Option Value ⊕ Nat) × Mem
def gaM (a : List Nat) (i : Nat) : Nat := a.getD i 0
def sI1 (f : Int32 → List Value → Option OutM) : List Value → Option OutM
  | .int x :: r => f x r
  | _ => none
def sI2 (f : Int32 → Int32 → List Value → Option OutM) : List Value → Option OutM
  | .int y :: .int x :: r => f x y r
  | _ => none
def sL2 (f : Int64 → Int64 → List Value → Option OutM) : List Value → Option OutM
  | .long y :: .long x :: r => f x y r
  | _ => none
def sL1 (f : Int64 → List Value → Option OutM) : List Value → Option OutM
  | .long x :: r => f x r
  | _ => none
def sR1 (f : Nat → List Value → Option OutM) : List Value → Option OutM
  | .ref v :: r => f v r
  | _ => none
def sIR (f : Int32 → Nat → List Value → Option OutM) : List Value → Option OutM
  | .int i :: .ref v :: r => f i v r
  | _ => none
def sIIR (f : Int32 → Int32 → Nat → List Value → Option OutM) : List Value → Option OutM
  | .int x :: .int i :: .ref v :: r => f x i v r
  | _ => none
def sRIR (f : Nat → Int32 → Nat → List Value → Option OutM) : List Value → Option OutM
  | .ref u :: .int i :: .ref v :: r => f u i v r
  | _ => none
def sRR (f : Nat → Nat → List Value → Option OutM) : List Value → Option OutM
  | .ref u :: .ref v :: r => f u v r
  | _ => none
def sCp (f : Int32 → Int32 → Nat → Int32 → Nat → List Value → Option OutM) : List Value → Option OutM
  | .int n :: .int dp :: .ref dv :: .int sp :: .ref sv :: r => f n dp dv sp sv r
  | _ => none
def oI (f : Int32 → Option OutM) : Option Value → Option OutM
  | some (.int x) => f x
  | _ => none
def oL (f : Int64 → Option OutM) : Option Value → Option OutM
  | some (.long x) => f x
  | _ => none
def oR (f : Nat → Option OutM) : Option Value → Option OutM
  | some (.ref x) => f x
  | _ => none
def isOne : Value → Bool
  | .int _ | .ref _ => true
  | _ => false
def catM : List Value → Nat
  | [] => 0
  | .long _ :: r => catM r + 2
  | .double _ :: r => catM r + 2
  | _ :: r => catM r + 1
/-- a switch: its keys and targets by pairs -/
def swM (x : Int32) (d : Nat) (K : Nat → Option OutM) : List Nat → Option OutM
  | k :: t :: r => if x = Int32.ofNat k then K t else swM x d K r
  | _ => K d
abbrev aOk (κ : Nat) (σ : Mem) (v : Nat) (i : Int32) : Prop := (tkM σ v).1 = κ ∧ ¬ (i < 0 ∨ (tkM σ v).2 ≤ i.toNatClampNeg)
end
section
def flL : List (Nat × Nat × Nat × Nat × Nat) := [(1, 9, 1, 0, 0), (2, 66, 1, 0, 1), (4, 237, 1, 0, 1), (1, 15, 1, 1, 0), (1, 19, 1, 2, 0), (2, 97, 1, 2, 1), (4, 231, 1, 2, 1), (1, 22, 1, 3, 0), (2, 100, 1, 3, 1), (4, 234, 1, 3, 1), (1, 25, 1, 4, 0), (2, 94, 1, 4, 1), (4, 228, 1, 4, 1), (0, 9, 0, 0, 0), (4, 277, 0, 0, 1), (0, 15, 0, 1, 0), (0, 18, 0, 2, 0), (0, 22, 0, 3, 0), (0, 25, 0, 4, 0), (2, 9, 2, 0, 0), (4, 129, 2, 0, 1), (2, 15, 2, 1, 0), (4, 118, 2, 1, 1), (2, 19, 2, 2, 0), (4, 132, 2, 2, 1), (2, 23, 2, 3, 0), (4, 107, 2, 3, 1), (2, 26, 2, 4, 0), (4, 98, 2, 4, 1), (2, 29, 2, 5, 0), (4, 101, 2, 5, 1), (2, 32, 2, 6, 0), (4, 126, 2, 6, 1), (2, 35, 2, 7, 0), (4, 211, 2, 7, 1), (2, 41, 2, 8, 0), (4, 188, 2, 8, 1), (2, 48, 2, 9, 0), (4, 268, 2, 9, 1), (3, 9, 3, 0, 0), (3, 15, 3, 1, 0), (3, 19, 3, 2, 0), (3, 22, 3, 3, 0), (3, 26, 3, 4, 0), (4, 12, 4, 0, 0), (4, 16, 4, 1, 0), (4, 19, 4, 2, 0), (4, 23, 4, 3, 0), (4, 27, 4, 4, 0), (4, 30, 4, 5, 0), (4, 37, 4, 6, 0), (4, 41, 4, 7, 0)]
def mlL : List (Nat × Nat × Nat × Nat) := [(5, 141, 44, 0), (4, 3, 1000, 0), (4, 11, 14, 1), (2, 3, 1000, 0), (2, 40, 4, 1), (1, 3, 1000, 0), (2, 47, 0, 1), (0, 3, 1000, 0), (4, 36, 36, 1), (3, 3, 1000, 0), (5, 163, 58, 0), (4, 179, 15, 1), (2, 52, 1003, 0), (2, 58, 5, 1), (1, 28, 1003, 0), (2, 62, 1, 1), (0, 28, 1003, 0), (5, 142, 59, 0), (4, 183, 96, 0), (5, 11, 78, 0), (5, 134, 85, 0), (5, 149, 104, 0), (5, 153, 107, 0), (5, 52, 106, 0), (5, 19, 61, 0), (4, 91, 91, 0), (4, 208, 89, 0), (4, 110, 90, 0), (4, 214, 98, 0), (5, 23, 65, 0), (5, 26, 63, 0), (5, 29, 64, 0), (5, 32, 70, 0), (4, 52, 93, 0), (4, 240, 92, 0), (4, 290, 100, 0), (4, 225, 6, 1), (5, 35, 71, 0), (5, 38, 72, 0), (5, 41, 80, 0), (4, 45, 87, 0), (5, 45, 73, 0), (5, 48, 79, 0), (5, 58, 84, 0), (5, 61, 83, 0), (4, 272, 3, 1), (5, 64, 68, 0), (5, 160, 110, 0), (5, 67, 105, 0), (5, 85, 50, 0), (4, 70, 101, 0), (5, 88, 52, 0), (4, 135, 35, 1), (5, 92, 53, 0), (4, 139, 32, 1), (4, 144, 33, 1), (2, 139, 34, 0), (2, 136, 29, 0), (2, 143, 30, 0), (2, 131, 2, 1), (5, 95, 51, 0), (4, 121, 29, 1), (5, 98, 60, 0), (5, 101, 49, 0), (4, 94, 95, 0), (4, 104, 28, 1), (5, 145, 111, 0), (5, 104, 66, 0), (4, 197, 30, 1), (4, 200, 1001, 0), (5, 107, 62, 0), (4, 192, 10, 1), (1, 38, 9, 0), (1, 34, 99, 1), (5, 110, 67, 0), (4, 205, 25, 1), (2, 118, 31, 0), (2, 123, 1002, 0), (2, 128, 1001, 0), (5, 113, 69, 0), (4, 217, 11, 1), (4, 221, 103, 0), (5, 116, 75, 0), (4, 246, 13, 1), (5, 119, 74, 0), (4, 243, 12, 1), (5, 122, 81, 0), (5, 125, 82, 0), (4, 258, 31, 1), (5, 156, 112, 0), (5, 128, 76, 0), (4, 49, 88, 0), (4, 56, 94, 0), (4, 249, 23, 1), (2, 88, 99, 1), (2, 111, 98, 1), (2, 115, 24, 0), (5, 131, 108, 0), (5, 137, 109, 0), (5, 70, 45, 0), (4, 59, 16, 1), (2, 69, 6, 1), (4, 73, 17, 1), (2, 73, 23, 0), (2, 77, 26, 0), (2, 81, 7, 1), (2, 85, 22, 0), (2, 91, 27, 0), (2, 133, 28, 0), (5, 74, 47, 0), (4, 77, 97, 0), (4, 84, 20, 1), (2, 107, 8, 1), (5, 77, 48, 0), (4, 87, 21, 1), (5, 81, 46, 0), (4, 81, 18, 1), (2, 103, 19, 0)]
def cd_0 : List (List (Option IcM)) := [[some (.aload_n 0, 1, [0], 0), some (.invokespecial 3, 3, [0, 1, 9, 0, 0, 3, 36, 7], 0), none, none, some (.aload_n 0, 1, [0], 0), some (.iconst 0, 1, [], 0), some (.putfield 9, 3, [0, 0, 0, 0, 13, 0], 0), none, none, some (.aload_n 0, 1, [0], 0), some (.iconst 0, 1, [], 0), some (.putfield 15, 3, [0, 1, 0, 0, 15, 0], 0), none, none, some (.aload_n 0, 1, [0], 0), some (.bipush 12, 2, [], 12), none, some (.newarray .int, 2, [2, 3, 36], 0), none, some (.putfield 18, 3, [0, 2, 1, 0, 16, 1], 0), none, none, some (.aload_n 0, 1, [0], 0), some (.bipush 12, 2, [], 12), none, some (.newarray .int, 2, [2, 3, 36], 0), none, some (.putfield 22, 3, [0, 3, 1, 0, 17, 1], 0), none, none, some (.aload_n 0, 1, [0], 0), some (.bipush 12, 2, [], 12), none, some (.newarray .int, 2, [2, 3, 36], 0), none, some (.putfield 25, 3, [0, 4, 1, 0, 18, 1], 0), none, none, some (.return_, 1, [3, 36, 0], 0)]]
def cd_1 : List (List (Option IcM)) := [[some (.aload_n 0, 1, [0], 0), some (.aload_n 1, 1, [1], 0), some (.getfield 9, 3, [0, 0, 0, 0, 13], 0), none, none, some (.putfield 9, 3, [0, 0, 0, 0, 13, 0], 0), none, none, some (.aload_n 0, 1, [0], 0), some (.aload_n 1, 1, [1], 0), some (.getfield 15, 3, [0, 1, 0, 0, 15], 0), none, none, some (.putfield 15, 3, [0, 1, 0, 0, 15, 0], 0), none, none, some (.aload_n 1, 1, [1], 0), some (.getfield 18, 3, [0, 2, 1, 0, 16], 0), none, none, some (.iconst 0, 1, [], 0), some (.aload_n 0, 1, [0], 0), some (.getfield 18, 3, [0, 2, 1, 0, 16], 0), none, none, some (.iconst 0, 1, [], 0), some (.bipush 12, 2, [], 12), none, some (.invokestatic 28, 3, [0, 5, 8, 0, 0, 0, 0, 16], 0), none, none, some (.aload_n 1, 1, [1], 0), some (.getfield 22, 3, [0, 3, 1, 0, 17], 0), none, none, some (.iconst 0, 1, [], 0), some (.aload_n 0, 1, [0], 0), some (.getfield 22, 3, [0, 3, 1, 0, 17], 0), none, none, some (.iconst 0, 1, [], 0), some (.bipush 12, 2, [], 12), none, some (.invokestatic 28, 3, [0, 5, 8, 0, 0, 0, 0, 16], 0), none, none, some (.aload_n 1, 1, [1], 0), some (.getfield 25, 3, [0, 4, 1, 0, 18], 0), none, none, some (.iconst 0, 1, [], 0), some (.aload_n 0, 1, [0], 0), some (.getfield 25, 3, [0, 4, 1, 0, 18], 0), none, none, some (.iconst 0, 1, [], 0), some (.bipush 12, 2, [], 12), none, some (.invokestatic 28, 3, [0, 5, 8, 0, 0, 0, 0, 16], 0), none, none, some (.return_, 1, [0, 0, 0], 0)]]
def cd_2 : List (List (Option IcM)) := [[some (.aload_n 0, 1, [0], 0), some (.aload_n 0, 1, [0], 0), some (.getfield 15, 3, [0, 1, 0, 0, 15], 0), none, none, some (.ifCond .ne 8, 3, [13], 0), none, none, some (.bipush 11, 2, [], 11), none, some (.goto 9, 3, [19], 0), none, none, some (.aload_n 0, 1, [0], 0), some (.getfield 15, 3, [0, 1, 0, 0, 15], 0), none, none, some (.iconst 1, 1, [], 1), some (.isub, 1, [], 0), some (.putfield 15, 3, [0, 1, 0, 0, 15, 0], 0), none, none, some (.aload_n 0, 1, [0], 0), some (.getfield 18, 3, [0, 2, 1, 0, 16], 0), none, none, some (.aload_n 0, 1, [0], 0), some (.getfield 15, 3, [0, 1, 0, 0, 15], 0), none, none, some (.iload_n 1, 1, [1], 0), some (.iastore, 1, [], 0), some (.aload_n 0, 1, [0], 0), some (.getfield 22, 3, [0, 3, 1, 0, 17], 0), none, none, some (.aload_n 0, 1, [0], 0), some (.getfield 15, 3, [0, 1, 0, 0, 15], 0), none, none, some (.iload_n 2, 1, [2], 0), some (.iastore, 1, [], 0), some (.aload_n 0, 1, [0], 0), some (.getfield 25, 3, [0, 4, 1, 0, 18], 0), none, none, some (.aload_n 0, 1, [0], 0), some (.getfield 15, 3, [0, 1, 0, 0, 15], 0), none, none, some (.iload_n 3, 1, [3], 0), some (.iastore, 1, [], 0), some (.aload_n 0, 1, [0], 0), some (.getfield 9, 3, [0, 0, 0, 0, 13], 0), none, none, some (.bipush 12, 2, [], 12), none, some (.if_icmp .ge 13, 3, [71], 0), none, none, some (.aload_n 0, 1, [0], 0), some (.dup, 1, [], 0), some (.getfield 9, 3, [0, 0, 0, 0, 13], 0)],
  [none, none, some (.iconst 1, 1, [], 1), some (.iadd, 1, [], 0), some (.putfield 9, 3, [0, 0, 0, 0, 13, 0], 0), none, none, some (.return_, 1, [0, 0, 0], 0)]]
def cd_3 : List (List (Option IcM)) := [[some (.iload_n 1, 1, [1], 0), some (.aload_n 0, 1, [0], 0), some (.getfield 9, 3, [0, 0, 0, 0, 13], 0), none, none, some (.if_icmp .lt 5, 3, [10], 0), none, none, some (.iconst (-1), 1, [], (-1)), some (.ireturn, 1, [0, 0, 1], 0), some (.aload_n 0, 1, [0], 0), some (.getfield 15, 3, [0, 1, 0, 0, 15], 0), none, none, some (.iload_n 1, 1, [1], 0), some (.iadd, 1, [], 0), some (.bipush 12, 2, [], 12), none, some (.irem, 1, [], 0), some (.istore_n 3, 1, [3], 0), some (.iload_n 2, 1, [2], 0), some (.tableswitch 52 0 2 #[27, 34, 43], 27, [73, 0, 48, 1, 55, 2, 64], 0), none, none, none, none, none, none, none, none, none, none, none, none, none, none, none, none, none, none, none, none, none, none, none, none, none, none, some (.aload_n 0, 1, [0], 0), some (.getfield 18, 3, [0, 2, 1, 0, 16], 0), none, none, some (.iload_n 3, 1, [3], 0), some (.iaload, 1, [], 0), some (.ireturn, 1, [0, 0, 1], 0), some (.aload_n 0, 1, [0], 0), some (.getfield 22, 3, [0, 3, 1, 0, 17], 0), none, none, some (.iload_n 3, 1, [3], 0), some (.iaload, 1, [], 0), some (.iconst 2, 1, [], 2), some (.idiv, 1, [], 0), some (.ireturn, 1, [0, 0, 1], 0)],
  [some (.aload_n 0, 1, [0], 0), some (.getfield 22, 3, [0, 3, 1, 0, 17], 0), none, none, some (.iload_n 3, 1, [3], 0), some (.iaload, 1, [], 0), some (.iconst 2, 1, [], 2), some (.irem, 1, [], 0), some (.ireturn, 1, [0, 0, 1], 0), some (.aload_n 0, 1, [0], 0), some (.getfield 25, 3, [0, 4, 1, 0, 18], 0), none, none, some (.iload_n 3, 1, [3], 0), some (.iaload, 1, [], 0), some (.ireturn, 1, [0, 0, 1], 0)]]
def cd_4 : List (List (Option IcM)) := [[some (.aload_n 0, 1, [0], 0), some (.invokespecial 3, 3, [0, 1, 9, 0, 0, 4, 240, 5], 0), none, none, some (.aload_n 0, 1, [0], 0), some (.iconst 0, 1, [], 0), some (.putfield 9, 3, [1, 0, 0, 0, 0, 0], 0), none, none, some (.aload_n 0, 1, [0], 0), some (.bipush 60, 2, [], 60), none, some (.newarray .int, 2, [2, 4, 240], 0), none, some (.putfield 15, 3, [1, 1, 1, 0, 3, 1], 0), none, none, some (.aload_n 0, 1, [0], 0), some (.bipush 60, 2, [], 60), none, some (.newarray .int, 2, [2, 4, 240], 0), none, some (.putfield 19, 3, [1, 2, 1, 0, 4, 1], 0), none, none, some (.aload_n 0, 1, [0], 0), some (.bipush 60, 2, [], 60), none, some (.newarray .int, 2, [2, 4, 240], 0), none, some (.putfield 22, 3, [1, 3, 1, 0, 7, 1], 0), none, none, some (.aload_n 0, 1, [0], 0), some (.bipush 60, 2, [], 60), none, some (.newarray .int, 2, [2, 4, 240], 0), none, some (.putfield 25, 3, [1, 4, 1, 0, 10, 1], 0), none, none, some (.return_, 1, [4, 240, 0], 0)]]
def cd_5 : List (List (Option IcM)) := [[some (.aload_n 0, 1, [0], 0), some (.aload_n 1, 1, [1], 0), some (.getfield 9, 3, [1, 0, 0, 0, 0], 0), none, none, some (.putfield 9, 3, [1, 0, 0, 0, 0, 0], 0), none, none, some (.aload_n 1, 1, [1], 0), some (.getfield 15, 3, [1, 1, 1, 0, 3], 0), none, none, some (.iconst 0, 1, [], 0), some (.aload_n 0, 1, [0], 0), some (.getfield 15, 3, [1, 1, 1, 0, 3], 0), none, none, some (.iconst 0, 1, [], 0), some (.bipush 60, 2, [], 60), none, some (.invokestatic 28, 3, [0, 5, 8, 0, 0, 0, 0, 14], 0), none, none, some (.aload_n 1, 1, [1], 0), some (.getfield 19, 3, [1, 2, 1, 0, 4], 0), none, none, some (.iconst 0, 1, [], 0), some (.aload_n 0, 1, [0], 0), some (.getfield 19, 3, [1, 2, 1, 0, 4], 0), none, none, some (.iconst 0, 1, [], 0), some (.bipush 60, 2, [], 60), none, some (.invokestatic 28, 3, [0, 5, 8, 0, 0, 0, 0, 14], 0), none, none, some (.aload_n 1, 1, [1], 0), some (.getfield 22, 3, [1, 3, 1, 0, 7], 0), none, none, some (.iconst 0, 1, [], 0), some (.aload_n 0, 1, [0], 0), some (.getfield 22, 3, [1, 3, 1, 0, 7], 0), none, none, some (.iconst 0, 1, [], 0), some (.bipush 60, 2, [], 60), none, some (.invokestatic 28, 3, [0, 5, 8, 0, 0, 0, 0, 14], 0), none, none, some (.aload_n 1, 1, [1], 0), some (.getfield 25, 3, [1, 4, 1, 0, 10], 0), none, none, some (.iconst 0, 1, [], 0), some (.aload_n 0, 1, [0], 0), some (.getfield 25, 3, [1, 4, 1, 0, 10], 0), none, none, some (.iconst 0, 1, [], 0), some (.bipush 60, 2, [], 60)],
  [none, some (.invokestatic 28, 3, [0, 5, 8, 0, 0, 0, 0, 14], 0), none, none, some (.return_, 1, [0, 0, 0], 0)]]
def cd_6 : List (List (Option IcM)) := [[some (.iconst 0, 1, [], 0), some (.istore_n 2, 1, [2], 0), some (.iload_n 2, 1, [2], 0), some (.aload_n 0, 1, [0], 0), some (.getfield 9, 3, [1, 0, 0, 0, 0], 0), none, none, some (.if_icmp .ge 21, 3, [28], 0), none, none, some (.aload_n 0, 1, [0], 0), some (.getfield 15, 3, [1, 1, 1, 0, 3], 0), none, none, some (.iload_n 2, 1, [2], 0), some (.iaload, 1, [], 0), some (.iload_n 1, 1, [1], 0), some (.if_icmp .ne 5, 3, [22], 0), none, none, some (.iload_n 2, 1, [2], 0), some (.ireturn, 1, [0, 0, 1], 0), some (.iinc 2 1, 3, [2], 1), none, none, some (.goto (-23), 3, [2], 0), none, none, some (.iconst (-1), 1, [], (-1)), some (.ireturn, 1, [0, 0, 1], 0)]]
def cd_7 : List (List (Option IcM)) := [[some (.aload_n 0, 1, [0], 0), some (.getfield 9, 3, [1, 0, 0, 0, 0], 0), none, none, some (.bipush 60, 2, [], 60), none, some (.if_icmp .lt 4, 3, [10], 0), none, none, some (.return_, 1, [0, 0, 0], 0), some (.aload_n 0, 1, [0], 0), some (.getfield 15, 3, [1, 1, 1, 0, 3], 0), none, none, some (.aload_n 0, 1, [0], 0), some (.getfield 9, 3, [1, 0, 0, 0, 0], 0), none, none, some (.iload_n 3, 1, [3], 0), some (.iastore, 1, [], 0), some (.aload_n 0, 1, [0], 0), some (.getfield 19, 3, [1, 2, 1, 0, 4], 0), none, none, some (.aload_n 0, 1, [0], 0), some (.getfield 9, 3, [1, 0, 0, 0, 0], 0), none, none, some (.iload_n 1, 1, [1], 0), some (.iastore, 1, [], 0), some (.aload_n 0, 1, [0], 0), some (.getfield 22, 3, [1, 3, 1, 0, 7], 0), none, none, some (.aload_n 0, 1, [0], 0), some (.getfield 9, 3, [1, 0, 0, 0, 0], 0), none, none, some (.iload_n 2, 1, [2], 0), some (.iastore, 1, [], 0), some (.aload_n 0, 1, [0], 0), some (.getfield 25, 3, [1, 4, 1, 0, 10], 0), none, none, some (.aload_n 0, 1, [0], 0), some (.getfield 9, 3, [1, 0, 0, 0, 0], 0), none, none, some (.iload 4, 2, [4], 0), none, some (.iastore, 1, [], 0), some (.aload_n 0, 1, [0], 0), some (.dup, 1, [], 0), some (.getfield 9, 3, [1, 0, 0, 0, 0], 0), none, none, some (.iconst 1, 1, [], 1), some (.iadd, 1, [], 0), some (.putfield 9, 3, [1, 0, 0, 0, 0, 0], 0), none, none, some (.return_, 1, [0, 0, 0], 0)]]
def cd_8 : List (List (Option IcM)) := [[some (.aload_n 0, 1, [0], 0), some (.getfield 9, 3, [1, 0, 0, 0, 0], 0), none, none, some (.iconst 1, 1, [], 1), some (.isub, 1, [], 0), some (.istore_n 2, 1, [2], 0), some (.iload_n 1, 1, [1], 0), some (.ifCond .lt 8, 3, [16], 0), none, none, some (.iload_n 1, 1, [1], 0), some (.iload_n 2, 1, [2], 0), some (.if_icmp .le 4, 3, [17], 0), none, none, some (.return_, 1, [0, 0, 0], 0), some (.aload_n 0, 1, [0], 0), some (.getfield 15, 3, [1, 1, 1, 0, 3], 0), none, none, some (.iload_n 1, 1, [1], 0), some (.aload_n 0, 1, [0], 0), some (.getfield 15, 3, [1, 1, 1, 0, 3], 0), none, none, some (.iload_n 2, 1, [2], 0), some (.iaload, 1, [], 0), some (.iastore, 1, [], 0), some (.aload_n 0, 1, [0], 0), some (.getfield 19, 3, [1, 2, 1, 0, 4], 0), none, none, some (.iload_n 1, 1, [1], 0), some (.aload_n 0, 1, [0], 0), some (.getfield 19, 3, [1, 2, 1, 0, 4], 0), none, none, some (.iload_n 2, 1, [2], 0), some (.iaload, 1, [], 0), some (.iastore, 1, [], 0), some (.aload_n 0, 1, [0], 0), some (.getfield 22, 3, [1, 3, 1, 0, 7], 0), none, none, some (.iload_n 1, 1, [1], 0), some (.aload_n 0, 1, [0], 0), some (.getfield 22, 3, [1, 3, 1, 0, 7], 0), none, none, some (.iload_n 2, 1, [2], 0), some (.iaload, 1, [], 0), some (.iastore, 1, [], 0), some (.aload_n 0, 1, [0], 0), some (.getfield 25, 3, [1, 4, 1, 0, 10], 0), none, none, some (.iload_n 1, 1, [1], 0), some (.aload_n 0, 1, [0], 0), some (.getfield 25, 3, [1, 4, 1, 0, 10], 0), none, none, some (.iload_n 2, 1, [2], 0), some (.iaload, 1, [], 0)],
  [some (.iastore, 1, [], 0), some (.aload_n 0, 1, [0], 0), some (.iload_n 2, 1, [2], 0), some (.putfield 9, 3, [1, 0, 0, 0, 0, 0], 0), none, none, some (.return_, 1, [0, 0, 0], 0)]]
def cd_9 : List (List (Option IcM)) := [[some (.aload_n 0, 1, [0], 0), some (.getfield 19, 3, [1, 2, 1, 0, 4], 0), none, none, some (.iload_n 1, 1, [1], 0), some (.iaload, 1, [], 0), some (.iload_n 2, 1, [2], 0), some (.if_icmp .eq 16, 3, [23], 0), none, none, some (.aload_n 0, 1, [0], 0), some (.getfield 22, 3, [1, 3, 1, 0, 7], 0), none, none, some (.iload_n 1, 1, [1], 0), some (.iaload, 1, [], 0), some (.invokestatic 34, 3, [99, 1, 1, 0, 0, 0, 0, 73, 4], 0), none, none, some (.iload_n 2, 1, [2], 0), some (.if_icmp .ne 7, 3, [27], 0), none, none, some (.iconst 1, 1, [], 1), some (.goto 4, 3, [28], 0), none, none, some (.iconst 0, 1, [], 0), some (.ireturn, 1, [0, 0, 2], 0)]]
def cd_10 : List (List (Option IcM)) := [[some (.iconst 0, 1, [], 0), some (.istore_n 3, 1, [3], 0), some (.iconst 0, 1, [], 0), some (.istore 4, 2, [4], 0), none, some (.iload 4, 2, [4], 0), none, some (.aload_n 0, 1, [0], 0), some (.getfield 9, 3, [1, 0, 0, 0, 0], 0), none, none, some (.if_icmp .ge 37, 3, [48], 0), none, none, some (.aload_n 0, 1, [0], 0), some (.iload 4, 2, [4], 0), none, some (.iload_n 1, 1, [1], 0), some (.invokevirtual 38, 3, [9, 3, 2, 0, 0, 0, 0, 72, 1], 0), none, none, some (.ifCond .eq 21, 3, [42], 0), none, none, some (.iload_n 3, 1, [3], 0), some (.iload_n 2, 1, [2], 0), some (.ifCond .ne 13, 3, [39], 0), none, none, some (.aload_n 0, 1, [0], 0), some (.getfield 25, 3, [1, 4, 1, 0, 10], 0), none, none, some (.iload 4, 2, [4], 0), none, some (.iaload, 1, [], 0), some (.goto 4, 3, [40], 0), none, none, some (.iconst 1, 1, [], 1), some (.iadd, 1, [], 0), some (.istore_n 3, 1, [3], 0), some (.iinc 4 1, 3, [4], 1), none, none, some (.goto (-40), 3, [5], 0), none, none, some (.iload_n 3, 1, [3], 0), some (.ireturn, 1, [0, 0, 1], 0)]]
def cd_11 : List (List (Option IcM)) := [[some (.iconst 0, 1, [], 0), some (.istore_n 3, 1, [3], 0), some (.iconst 0, 1, [], 0), some (.istore 4, 2, [4], 0), none, some (.iload 4, 2, [4], 0), none, some (.aload_n 0, 1, [0], 0), some (.getfield 9, 3, [1, 0, 0, 0, 0], 0), none, none, some (.if_icmp .ge 38, 3, [49], 0), none, none, some (.iload_n 3, 1, [3], 0), some (.aload_n 2, 1, [2], 0), some (.arraylength, 1, [], 0), some (.if_icmp .ge 32, 3, [49], 0), none, none, some (.aload_n 0, 1, [0], 0), some (.iload 4, 2, [4], 0), none, some (.iload_n 1, 1, [1], 0), some (.invokevirtual 38, 3, [9, 3, 2, 0, 0, 0, 0, 72, 1], 0), none, none, some (.ifCond .eq 16, 3, [43], 0), none, none, some (.aload_n 2, 1, [2], 0), some (.iload_n 3, 1, [3], 0), some (.aload_n 0, 1, [0], 0), some (.getfield 25, 3, [1, 4, 1, 0, 10], 0), none, none, some (.iload 4, 2, [4], 0), none, some (.iaload, 1, [], 0), some (.iastore, 1, [], 0), some (.iinc 3 1, 3, [3], 1), none, none, some (.iinc 4 1, 3, [4], 1), none, none, some (.goto (-41), 3, [5], 0), none, none, some (.iload_n 3, 1, [3], 0), some (.ireturn, 1, [0, 0, 1], 0)]]
def cd_12 : List (List (Option IcM)) := [[some (.iconst 0, 1, [], 0), some (.istore_n 2, 1, [2], 0), some (.iconst 0, 1, [], 0), some (.istore_n 3, 1, [3], 0), some (.iload_n 3, 1, [3], 0), some (.aload_n 0, 1, [0], 0), some (.getfield 9, 3, [1, 0, 0, 0, 0], 0), none, none, some (.if_icmp .ge 31, 3, [40], 0), none, none, some (.aload_n 0, 1, [0], 0), some (.getfield 15, 3, [1, 1, 1, 0, 3], 0), none, none, some (.iload_n 3, 1, [3], 0), some (.iaload, 1, [], 0), some (.bipush 100, 2, [], 100), none, some (.idiv, 1, [], 0), some (.iload_n 1, 1, [1], 0), some (.if_icmp .ne 12, 3, [34], 0), none, none, some (.iload_n 2, 1, [2], 0), some (.aload_n 0, 1, [0], 0), some (.getfield 25, 3, [1, 4, 1, 0, 10], 0), none, none, some (.iload_n 3, 1, [3], 0), some (.iaload, 1, [], 0), some (.iadd, 1, [], 0), some (.istore_n 2, 1, [2], 0), some (.iinc 3 1, 3, [3], 1), none, none, some (.goto (-33), 3, [4], 0), none, none, some (.iload_n 2, 1, [2], 0), some (.ireturn, 1, [0, 0, 1], 0)]]
def cd_13 : List (List (Option IcM)) := [[some (.iconst (-1), 1, [], (-1)), some (.istore_n 2, 1, [2], 0), some (.iconst (-1), 1, [], (-1)), some (.istore_n 3, 1, [3], 0), some (.iconst 0, 1, [], 0), some (.istore 4, 2, [4], 0), none, some (.iload 4, 2, [4], 0), none, some (.aload_n 0, 1, [0], 0), some (.getfield 9, 3, [1, 0, 0, 0, 0], 0), none, none, some (.if_icmp .ge 80, 3, [93], 0), none, none, some (.aload_n 0, 1, [0], 0), some (.getfield 25, 3, [1, 4, 1, 0, 10], 0), none, none, some (.iload 4, 2, [4], 0), none, some (.iaload, 1, [], 0), some (.iload_n 3, 1, [3], 0), some (.if_icmp .gt 25, 3, [49], 0), none, none, some (.aload_n 0, 1, [0], 0), some (.getfield 25, 3, [1, 4, 1, 0, 10], 0), none, none, some (.iload 4, 2, [4], 0), none, some (.iaload, 1, [], 0), some (.iload_n 3, 1, [3], 0), some (.if_icmp .ne 18, 3, [53], 0), none, none, some (.aload_n 0, 1, [0], 0), some (.getfield 15, 3, [1, 1, 1, 0, 3], 0), none, none, some (.iload 4, 2, [4], 0), none, some (.iaload, 1, [], 0), some (.iload_n 2, 1, [2], 0), some (.if_icmp .ge 7, 3, [53], 0), none, none, some (.iconst 1, 1, [], 1), some (.goto 4, 3, [54], 0), none, none, some (.iconst 0, 1, [], 0), some (.istore 5, 2, [5], 0), none, some (.iload 5, 2, [5], 0), none, some (.ifCond .eq 29, 3, [87], 0), none, none, some (.aload_n 0, 1, [0], 0), some (.iload 4, 2, [4], 0), none],
  [some (.iload_n 1, 1, [1], 0), some (.invokevirtual 38, 3, [9, 3, 2, 0, 0, 0, 0, 72, 1], 0), none, none, some (.ifCond .eq 19, 3, [87], 0), none, none, some (.aload_n 0, 1, [0], 0), some (.getfield 15, 3, [1, 1, 1, 0, 3], 0), none, none, some (.iload 4, 2, [4], 0), none, some (.iaload, 1, [], 0), some (.istore_n 2, 1, [2], 0), some (.aload_n 0, 1, [0], 0), some (.getfield 25, 3, [1, 4, 1, 0, 10], 0), none, none, some (.iload 4, 2, [4], 0), none, some (.iaload, 1, [], 0), some (.istore_n 3, 1, [3], 0), some (.iinc 4 1, 3, [4], 1), none, none, some (.goto (-83), 3, [7], 0), none, none, some (.iload_n 2, 1, [2], 0), some (.ireturn, 1, [0, 0, 1], 0)]]
def cd_14 : List (List (Option IcM)) := [[some (.aload_n 0, 1, [0], 0), some (.invokespecial 3, 3, [0, 1, 9, 0, 0, 16, 375, 3], 0), none, none, some (.aload_n 0, 1, [0], 0), some (.iconst 0, 1, [], 0), some (.putfield 9, 3, [2, 0, 0, 0, 19, 0], 0), none, none, some (.aload_n 0, 1, [0], 0), some (.iconst 2, 1, [], 2), some (.newarray .int, 2, [2, 16, 375], 0), none, some (.putfield 15, 3, [2, 1, 1, 0, 21, 1], 0), none, none, some (.iconst 0, 1, [], 0), some (.istore_n 1, 1, [1], 0), some (.iload_n 1, 1, [1], 0), some (.iconst 2, 1, [], 2), some (.if_icmp .ge 17, 3, [37], 0), none, none, some (.aload_n 0, 1, [0], 0), some (.getfield 15, 3, [2, 1, 1, 0, 21], 0), none, none, some (.iload_n 1, 1, [1], 0), some (.bipush 7, 2, [], 7), none, some (.iastore, 1, [], 0), some (.iinc 1 1, 3, [1], 1), none, none, some (.goto (-16), 3, [18], 0), none, none, some (.aload_n 0, 1, [0], 0), some (.bipush 6, 2, [], 6), none, some (.newarray .boolean, 2, [3, 16, 375], 0), none, some (.putfield 19, 3, [2, 2, 1, 0, 23, 1], 0), none, none, some (.aload_n 0, 1, [0], 0), some (.bipush 18, 2, [], 18), none, some (.newarray .int, 2, [2, 16, 375], 0), none, some (.putfield 23, 3, [2, 3, 1, 0, 25, 1], 0), none, none, some (.aload_n 0, 1, [0], 0), some (.bipush 18, 2, [], 18), none, some (.newarray .int, 2, [2, 16, 375], 0), none, some (.putfield 26, 3, [2, 4, 1, 0, 27, 1], 0), none, none, some (.aload_n 0, 1, [0], 0), some (.bipush 18, 2, [], 18), none],
  [some (.newarray .int, 2, [2, 16, 375], 0), none, some (.putfield 29, 3, [2, 5, 1, 0, 29, 1], 0), none, none, some (.aload_n 0, 1, [0], 0), some (.bipush 18, 2, [], 18), none, some (.newarray .int, 2, [2, 16, 375], 0), none, some (.putfield 32, 3, [2, 6, 1, 0, 31, 1], 0), none, none, some (.iconst 0, 1, [], 0), some (.istore_n 1, 1, [1], 0), some (.iload_n 1, 1, [1], 0), some (.bipush 18, 2, [], 18), none, some (.if_icmp .ge 16, 3, [98], 0), none, none, some (.aload_n 0, 1, [0], 0), some (.getfield 32, 3, [2, 6, 1, 0, 31], 0), none, none, some (.iload_n 1, 1, [1], 0), some (.iconst (-1), 1, [], (-1)), some (.iastore, 1, [], 0), some (.iinc 1 1, 3, [1], 1), none, none, some (.goto (-16), 3, [79], 0), none, none, some (.aload_n 0, 1, [0], 0), some (.bipush 9, 2, [], 9), none, some (.newarray .int, 2, [2, 16, 375], 0), none, some (.putfield 35, 3, [2, 7, 1, 0, 33, 1], 0), none, none, some (.aload_n 0, 1, [0], 0), some (.new 38, 3, [0, 1, 5, 16, 375, 64], 0), none, none, some (.dup, 1, [], 0), some (.invokespecial 40, 3, [4, 1, 5, 4, 240, 16, 375, 4, 1], 0), none, none, some (.putfield 41, 3, [2, 8, 1, 0, 35, 1], 0), none, none, some (.aload_n 0, 1, [0], 0), some (.new 45, 3, [0, 0, 5, 16, 375, 96], 0), none, none, some (.dup, 1, [], 0), some (.invokespecial 47, 3, [0, 1, 5, 3, 36, 16, 375, 6, 0], 0), none, none, some (.putfield 48, 3, [2, 9, 1, 0, 37, 1], 0), none, none],
  [some (.return_, 1, [16, 375, 0], 0)]]
def cd_15 : List (List (Option IcM)) := [[some (.aload_n 0, 1, [0], 0), some (.aload_n 1, 1, [1], 0), some (.getfield 9, 3, [2, 0, 0, 0, 19], 0), none, none, some (.putfield 9, 3, [2, 0, 0, 0, 19, 0], 0), none, none, some (.aload_n 1, 1, [1], 0), some (.getfield 15, 3, [2, 1, 1, 0, 21], 0), none, none, some (.iconst 0, 1, [], 0), some (.aload_n 0, 1, [0], 0), some (.getfield 15, 3, [2, 1, 1, 0, 21], 0), none, none, some (.iconst 0, 1, [], 0), some (.iconst 2, 1, [], 2), some (.invokestatic 52, 3, [0, 5, 8, 0, 0, 0, 0, 12], 0), none, none, some (.iconst 0, 1, [], 0), some (.istore_n 2, 1, [2], 0), some (.iload_n 2, 1, [2], 0), some (.bipush 6, 2, [], 6), none, some (.if_icmp .ge 21, 3, [48], 0), none, none, some (.aload_n 0, 1, [0], 0), some (.getfield 19, 3, [2, 2, 1, 0, 23], 0), none, none, some (.iload_n 2, 1, [2], 0), some (.aload_n 1, 1, [1], 0), some (.getfield 19, 3, [2, 2, 1, 0, 23], 0), none, none, some (.iload_n 2, 1, [2], 0), some (.baload, 1, [], 0), some (.bastore, 1, [], 0), some (.iinc 2 1, 3, [2], 1), none, none, some (.goto (-21), 3, [24], 0), none, none, some (.aload_n 1, 1, [1], 0), some (.getfield 23, 3, [2, 3, 1, 0, 25], 0), none, none, some (.iconst 0, 1, [], 0), some (.aload_n 0, 1, [0], 0), some (.getfield 23, 3, [2, 3, 1, 0, 25], 0), none, none, some (.iconst 0, 1, [], 0), some (.bipush 18, 2, [], 18), none, some (.invokestatic 52, 3, [0, 5, 8, 0, 0, 0, 0, 12], 0), none, none, some (.aload_n 1, 1, [1], 0)],
  [some (.getfield 26, 3, [2, 4, 1, 0, 27], 0), none, none, some (.iconst 0, 1, [], 0), some (.aload_n 0, 1, [0], 0), some (.getfield 26, 3, [2, 4, 1, 0, 27], 0), none, none, some (.iconst 0, 1, [], 0), some (.bipush 18, 2, [], 18), none, some (.invokestatic 52, 3, [0, 5, 8, 0, 0, 0, 0, 12], 0), none, none, some (.aload_n 1, 1, [1], 0), some (.getfield 29, 3, [2, 5, 1, 0, 29], 0), none, none, some (.iconst 0, 1, [], 0), some (.aload_n 0, 1, [0], 0), some (.getfield 29, 3, [2, 5, 1, 0, 29], 0), none, none, some (.iconst 0, 1, [], 0), some (.bipush 18, 2, [], 18), none, some (.invokestatic 52, 3, [0, 5, 8, 0, 0, 0, 0, 12], 0), none, none, some (.aload_n 1, 1, [1], 0), some (.getfield 32, 3, [2, 6, 1, 0, 31], 0), none, none, some (.iconst 0, 1, [], 0), some (.aload_n 0, 1, [0], 0), some (.getfield 32, 3, [2, 6, 1, 0, 31], 0), none, none, some (.iconst 0, 1, [], 0), some (.bipush 18, 2, [], 18), none, some (.invokestatic 52, 3, [0, 5, 8, 0, 0, 0, 0, 12], 0), none, none, some (.aload_n 1, 1, [1], 0), some (.getfield 35, 3, [2, 7, 1, 0, 33], 0), none, none, some (.iconst 0, 1, [], 0), some (.aload_n 0, 1, [0], 0), some (.getfield 35, 3, [2, 7, 1, 0, 33], 0), none, none, some (.iconst 0, 1, [], 0), some (.bipush 9, 2, [], 9), none, some (.invokestatic 52, 3, [0, 5, 8, 0, 0, 0, 0, 12], 0), none, none, some (.aload_n 0, 1, [0], 0), some (.getfield 41, 3, [2, 8, 1, 0, 35], 0), none, none, some (.aload_n 1, 1, [1], 0)],
  [some (.getfield 41, 3, [2, 8, 1, 0, 35], 0), none, none, some (.invokevirtual 58, 3, [5, 2, 3, 0, 0, 0, 0, 13, 1], 0), none, none, some (.aload_n 0, 1, [0], 0), some (.getfield 48, 3, [2, 9, 1, 0, 37], 0), none, none, some (.aload_n 1, 1, [1], 0), some (.getfield 48, 3, [2, 9, 1, 0, 37], 0), none, none, some (.invokevirtual 62, 3, [1, 2, 3, 0, 0, 0, 0, 15, 0], 0), none, none, some (.return_, 1, [0, 0, 0], 0)]]
def cd_16 : List (List (Option IcM)) := [[some (.aload_n 0, 1, [0], 0), some (.getfield 41, 3, [2, 8, 1, 0, 35], 0), none, none, some (.getfield 66, 3, [1, 0, 0, 1, 1], 0), none, none, some (.bipush 60, 2, [], 60), none, some (.if_icmp .ge 19, 3, [28], 0), none, none, some (.aload_n 0, 1, [0], 0), some (.getfield 41, 3, [2, 8, 1, 0, 35], 0), none, none, some (.iload_n 1, 1, [1], 0), some (.invokevirtual 69, 3, [6, 2, 3, 0, 0, 0, 0, 101, 1], 0), none, none, some (.iconst (-1), 1, [], (-1)), some (.if_icmp .ne 7, 3, [28], 0), none, none, some (.iconst 1, 1, [], 1), some (.goto 4, 3, [29], 0), none, none, some (.iconst 0, 1, [], 0), some (.ireturn, 1, [0, 0, 2], 0)]]
def cd_17 : List (List (Option IcM)) := [[some (.aload_n 0, 1, [0], 0), some (.iload_n 1, 1, [1], 0), some (.iload 4, 2, [4], 0), none, some (.iconst 1, 1, [], 1), some (.iload_n 2, 1, [2], 0), some (.iload 4, 2, [4], 0), none, some (.iconst 1, 1, [], 1), some (.invokevirtual 73, 3, [23, 7, 2, 0, 0, 0, 0, 103, 2], 0), none, none, some (.istore 5, 2, [5], 0), none, some (.iload 5, 2, [5], 0), none, some (.ifCond .eq 14, 3, [30], 0), none, none, some (.aload_n 0, 1, [0], 0), some (.iload 5, 2, [5], 0), none, some (.iload_n 1, 1, [1], 0), some (.iload_n 2, 1, [2], 0), some (.invokevirtual 77, 3, [26, 4, 2, 0, 0, 0, 0, 104, 2], 0), none, none, some (.iload 5, 2, [5], 0), none, some (.ireturn, 1, [0, 0, 1], 0), some (.aload_n 0, 1, [0], 0), some (.getfield 41, 3, [2, 8, 1, 0, 35], 0), none, none, some (.iload_n 1, 1, [1], 0), some (.iload_n 2, 1, [2], 0), some (.iload_n 3, 1, [3], 0), some (.iload 4, 2, [4], 0), none, some (.invokevirtual 81, 3, [7, 5, 3, 0, 0, 0, 0, 105, 1], 0), none, none, some (.aload_n 0, 1, [0], 0), some (.iload_n 1, 1, [1], 0), some (.iload 4, 2, [4], 0), none, some (.iconst 1, 1, [], 1), some (.invokevirtual 85, 3, [22, 4, 2, 0, 0, 0, 0, 106, 2], 0), none, none, some (.aload_n 0, 1, [0], 0), some (.iload_n 2, 1, [2], 0), some (.invokestatic 88, 3, [99, 1, 1, 0, 0, 0, 0, 94, 4], 0), none, none, some (.iload 4, 2, [4], 0), none, some (.iconst 1, 1, [], 1), some (.invokevirtual 85, 3, [22, 4, 2, 0, 0, 0, 0, 106, 2], 0), none, none, some (.aload_n 0, 1, [0], 0), some (.invokevirtual 91, 3, [27, 1, 2, 0, 0, 0, 0, 107, 2], 0), none],
  [none, some (.iconst 0, 1, [], 0), some (.ireturn, 1, [0, 0, 1], 0)]]
def cd_18 : List (List (Option IcM)) := [[some (.iload_n 2, 1, [2], 0), some (.aload_n 0, 1, [0], 0), some (.getfield 41, 3, [2, 8, 1, 0, 35], 0), none, none, some (.getfield 94, 3, [1, 4, 1, 1, 11], 0), none, none, some (.iload_n 1, 1, [1], 0), some (.iaload, 1, [], 0), some (.isub, 1, [], 0), some (.istore_n 3, 1, [3], 0), some (.aload_n 0, 1, [0], 0), some (.aload_n 0, 1, [0], 0), some (.getfield 41, 3, [2, 8, 1, 0, 35], 0), none, none, some (.getfield 97, 3, [1, 2, 1, 1, 5], 0), none, none, some (.iload_n 1, 1, [1], 0), some (.iaload, 1, [], 0), some (.aload_n 0, 1, [0], 0), some (.getfield 41, 3, [2, 8, 1, 0, 35], 0), none, none, some (.getfield 100, 3, [1, 3, 1, 1, 8], 0), none, none, some (.iload_n 1, 1, [1], 0), some (.iaload, 1, [], 0), some (.iload_n 3, 1, [3], 0), some (.invokevirtual 103, 3, [19, 4, 2, 0, 0, 0, 0, 117, 2], 0), none, none, some (.istore 4, 2, [4], 0), none, some (.iload 4, 2, [4], 0), none, some (.ifCond .ne 13, 3, [52], 0), none, none, some (.aload_n 0, 1, [0], 0), some (.getfield 41, 3, [2, 8, 1, 0, 35], 0), none, none, some (.getfield 94, 3, [1, 4, 1, 1, 11], 0), none, none, some (.iload_n 1, 1, [1], 0), some (.iload_n 2, 1, [2], 0), some (.iastore, 1, [], 0), some (.iload 4, 2, [4], 0), none, some (.ireturn, 1, [0, 0, 1], 0)]]
def cd_19 : List (List (Option IcM)) := [[some (.aload_n 0, 1, [0], 0), some (.iload_n 1, 1, [1], 0), some (.iload_n 3, 1, [3], 0), some (.iconst 0, 1, [], 0), some (.iload_n 2, 1, [2], 0), some (.iload_n 3, 1, [3], 0), some (.iconst 0, 1, [], 0), some (.invokevirtual 73, 3, [23, 7, 2, 0, 0, 0, 0, 103, 2], 0), none, none, some (.istore 4, 2, [4], 0), none, some (.iload 4, 2, [4], 0), none, some (.ifCond .eq 14, 3, [28], 0), none, none, some (.aload_n 0, 1, [0], 0), some (.iload 4, 2, [4], 0), none, some (.iload_n 1, 1, [1], 0), some (.iload_n 2, 1, [2], 0), some (.invokevirtual 77, 3, [26, 4, 2, 0, 0, 0, 0, 104, 2], 0), none, none, some (.iload 4, 2, [4], 0), none, some (.ireturn, 1, [0, 0, 1], 0), some (.aload_n 0, 1, [0], 0), some (.iload_n 1, 1, [1], 0), some (.iload_n 3, 1, [3], 0), some (.iconst 0, 1, [], 0), some (.invokevirtual 85, 3, [22, 4, 2, 0, 0, 0, 0, 106, 2], 0), none, none, some (.aload_n 0, 1, [0], 0), some (.iload_n 2, 1, [2], 0), some (.invokestatic 88, 3, [99, 1, 1, 0, 0, 0, 0, 94, 4], 0), none, none, some (.iload_n 3, 1, [3], 0), some (.iconst 0, 1, [], 0), some (.invokevirtual 85, 3, [22, 4, 2, 0, 0, 0, 0, 106, 2], 0), none, none, some (.aload_n 0, 1, [0], 0), some (.invokevirtual 91, 3, [27, 1, 2, 0, 0, 0, 0, 107, 2], 0), none, none, some (.iconst 0, 1, [], 0), some (.ireturn, 1, [0, 0, 1], 0)]]
def cd_20 : List (List (Option IcM)) := [[some (.aload_n 0, 1, [0], 0), some (.getfield 41, 3, [2, 8, 1, 0, 35], 0), none, none, some (.getfield 94, 3, [1, 4, 1, 1, 11], 0), none, none, some (.iload_n 1, 1, [1], 0), some (.iaload, 1, [], 0), some (.istore_n 2, 1, [2], 0), some (.aload_n 0, 1, [0], 0), some (.aload_n 0, 1, [0], 0), some (.getfield 41, 3, [2, 8, 1, 0, 35], 0), none, none, some (.getfield 97, 3, [1, 2, 1, 1, 5], 0), none, none, some (.iload_n 1, 1, [1], 0), some (.iaload, 1, [], 0), some (.iload_n 2, 1, [2], 0), some (.ineg, 1, [], 0), some (.iconst (-1), 1, [], (-1)), some (.invokevirtual 85, 3, [22, 4, 2, 0, 0, 0, 0, 106, 2], 0), none, none, some (.aload_n 0, 1, [0], 0), some (.aload_n 0, 1, [0], 0), some (.getfield 41, 3, [2, 8, 1, 0, 35], 0), none, none, some (.getfield 100, 3, [1, 3, 1, 1, 8], 0), none, none, some (.iload_n 1, 1, [1], 0), some (.iaload, 1, [], 0), some (.invokestatic 88, 3, [99, 1, 1, 0, 0, 0, 0, 94, 4], 0), none, none, some (.iload_n 2, 1, [2], 0), some (.ineg, 1, [], 0), some (.iconst (-1), 1, [], (-1)), some (.invokevirtual 85, 3, [22, 4, 2, 0, 0, 0, 0, 106, 2], 0), none, none, some (.aload_n 0, 1, [0], 0), some (.getfield 41, 3, [2, 8, 1, 0, 35], 0), none, none, some (.iload_n 1, 1, [1], 0), some (.invokevirtual 107, 3, [8, 2, 3, 0, 0, 0, 0, 112, 1], 0), none, none, some (.aload_n 0, 1, [0], 0), some (.invokevirtual 91, 3, [27, 1, 2, 0, 0, 0, 0, 107, 2], 0), none, none, some (.iload_n 2, 1, [2], 0), some (.ireturn, 1, [0, 0, 1], 0)]]
def cd_21 : List (List (Option IcM)) := [[some (.aload_n 0, 1, [0], 0), some (.getfield 41, 3, [2, 8, 1, 0, 35], 0), none, none, some (.getfield 94, 3, [1, 4, 1, 1, 11], 0), none, none, some (.iload_n 1, 1, [1], 0), some (.iaload, 1, [], 0), some (.istore 4, 2, [4], 0), none, some (.iload_n 2, 1, [2], 0), some (.aload_n 0, 1, [0], 0), some (.getfield 41, 3, [2, 8, 1, 0, 35], 0), none, none, some (.getfield 97, 3, [1, 2, 1, 1, 5], 0), none, none, some (.iload_n 1, 1, [1], 0), some (.iaload, 1, [], 0), some (.if_icmp .ne 7, 3, [28], 0), none, none, some (.iconst 0, 1, [], 0), some (.goto 4, 3, [29], 0), none, none, some (.iconst 1, 1, [], 1), some (.istore 5, 2, [5], 0), none, some (.iload_n 3, 1, [3], 0), some (.aload_n 0, 1, [0], 0), some (.getfield 41, 3, [2, 8, 1, 0, 35], 0), none, none, some (.getfield 100, 3, [1, 3, 1, 1, 8], 0), none, none, some (.iload_n 1, 1, [1], 0), some (.iaload, 1, [], 0), some (.if_icmp .ne 7, 3, [48], 0), none, none, some (.iconst 0, 1, [], 0), some (.goto 4, 3, [49], 0), none, none, some (.iconst 1, 1, [], 1), some (.istore 6, 2, [6], 0), none, some (.iload 5, 2, [5], 0), none, some (.iload 4, 2, [4], 0), none, some (.imul, 1, [], 0), some (.istore 7, 2, [7], 0), none, some (.iload 6, 2, [6], 0), none, some (.iload 4, 2, [4], 0), none, some (.imul, 1, [], 0), some (.istore 8, 2, [8], 0)],
  [none, some (.aload_n 0, 1, [0], 0), some (.iload_n 2, 1, [2], 0), some (.iload 7, 2, [7], 0), none, some (.iload 5, 2, [5], 0), none, some (.iload_n 3, 1, [3], 0), some (.iload 8, 2, [8], 0), none, some (.iload 6, 2, [6], 0), none, some (.invokevirtual 73, 3, [23, 7, 2, 0, 0, 0, 0, 103, 2], 0), none, none, some (.istore 9, 2, [9], 0), none, some (.iload 9, 2, [9], 0), none, some (.ifCond .eq 14, 3, [97], 0), none, none, some (.aload_n 0, 1, [0], 0), some (.iload 9, 2, [9], 0), none, some (.iload_n 2, 1, [2], 0), some (.iload_n 3, 1, [3], 0), some (.invokevirtual 77, 3, [26, 4, 2, 0, 0, 0, 0, 104, 2], 0), none, none, some (.iload 9, 2, [9], 0), none, some (.ireturn, 1, [0, 0, 1], 0), some (.aload_n 0, 1, [0], 0), some (.aload_n 0, 1, [0], 0), some (.getfield 41, 3, [2, 8, 1, 0, 35], 0), none, none, some (.getfield 97, 3, [1, 2, 1, 1, 5], 0), none, none, some (.iload_n 1, 1, [1], 0), some (.iaload, 1, [], 0), some (.iload 7, 2, [7], 0), none, some (.ineg, 1, [], 0), some (.iload 5, 2, [5], 0), none, some (.ineg, 1, [], 0), some (.invokevirtual 85, 3, [22, 4, 2, 0, 0, 0, 0, 106, 2], 0), none, none, some (.aload_n 0, 1, [0], 0), some (.iload_n 2, 1, [2], 0), some (.iload 7, 2, [7], 0), none, some (.iload 5, 2, [5], 0), none, some (.invokevirtual 85, 3, [22, 4, 2, 0, 0, 0, 0, 106, 2], 0), none, none, some (.aload_n 0, 1, [0], 0), some (.aload_n 0, 1, [0], 0), some (.getfield 41, 3, [2, 8, 1, 0, 35], 0)],
  [none, none, some (.getfield 100, 3, [1, 3, 1, 1, 8], 0), none, none, some (.iload_n 1, 1, [1], 0), some (.iaload, 1, [], 0), some (.invokestatic 88, 3, [99, 1, 1, 0, 0, 0, 0, 94, 4], 0), none, none, some (.iload 8, 2, [8], 0), none, some (.ineg, 1, [], 0), some (.iload 6, 2, [6], 0), none, some (.ineg, 1, [], 0), some (.invokevirtual 85, 3, [22, 4, 2, 0, 0, 0, 0, 106, 2], 0), none, none, some (.aload_n 0, 1, [0], 0), some (.iload_n 3, 1, [3], 0), some (.invokestatic 88, 3, [99, 1, 1, 0, 0, 0, 0, 94, 4], 0), none, none, some (.iload 8, 2, [8], 0), none, some (.iload 6, 2, [6], 0), none, some (.invokevirtual 85, 3, [22, 4, 2, 0, 0, 0, 0, 106, 2], 0), none, none, some (.aload_n 0, 1, [0], 0), some (.getfield 41, 3, [2, 8, 1, 0, 35], 0), none, none, some (.getfield 97, 3, [1, 2, 1, 1, 5], 0), none, none, some (.iload_n 1, 1, [1], 0), some (.iload_n 2, 1, [2], 0), some (.iastore, 1, [], 0), some (.aload_n 0, 1, [0], 0), some (.getfield 41, 3, [2, 8, 1, 0, 35], 0), none, none, some (.getfield 100, 3, [1, 3, 1, 1, 8], 0), none, none, some (.iload_n 1, 1, [1], 0), some (.iload_n 3, 1, [3], 0), some (.iastore, 1, [], 0), some (.aload_n 0, 1, [0], 0), some (.invokevirtual 91, 3, [27, 1, 2, 0, 0, 0, 0, 107, 2], 0), none, none, some (.iconst 0, 1, [], 0), some (.ireturn, 1, [0, 0, 1], 0)]]
def cd_22 : List (List (Option IcM)) := [[some (.aload_n 0, 1, [0], 0), some (.getfield 23, 3, [2, 3, 1, 0, 25], 0), none, none, some (.iload_n 1, 1, [1], 0), some (.iconst 0, 1, [], 0), some (.invokestatic 111, 3, [98, 2, 1, 0, 0, 0, 0, 95, 4], 0), none, none, some (.dup2, 1, [], 0), some (.iaload, 1, [], 0), some (.iload_n 2, 1, [2], 0), some (.iadd, 1, [], 0), some (.iastore, 1, [], 0), some (.aload_n 0, 1, [0], 0), some (.getfield 23, 3, [2, 3, 1, 0, 25], 0), none, none, some (.iload_n 1, 1, [1], 0), some (.iconst 1, 1, [], 1), some (.invokestatic 111, 3, [98, 2, 1, 0, 0, 0, 0, 95, 4], 0), none, none, some (.dup2, 1, [], 0), some (.iaload, 1, [], 0), some (.iload_n 3, 1, [3], 0), some (.iadd, 1, [], 0), some (.iastore, 1, [], 0), some (.return_, 1, [0, 0, 0], 0)]]
def cd_23 : List (List (Option IcM)) := [[some (.aload_n 0, 1, [0], 0), some (.getfield 19, 3, [2, 2, 1, 0, 23], 0), none, none, some (.iload_n 1, 1, [1], 0), some (.baload, 1, [], 0), some (.ifCond .eq 5, 3, [11], 0), none, none, some (.iconst 0, 1, [], 0), some (.ireturn, 1, [0, 0, 1], 0), some (.iload 4, 2, [4], 0), none, some (.invokestatic 88, 3, [99, 1, 1, 0, 0, 0, 0, 94, 4], 0), none, none, some (.istore 7, 2, [7], 0), none, some (.aload_n 0, 1, [0], 0), some (.iload_n 1, 1, [1], 0), some (.iconst 0, 1, [], 0), some (.invokestatic 111, 3, [98, 2, 1, 0, 0, 0, 0, 95, 4], 0), none, none, some (.iload_n 2, 1, [2], 0), some (.invokevirtual 115, 3, [24, 3, 2, 0, 0, 0, 0, 96, 2], 0), none, none, some (.istore 8, 2, [8], 0), none, some (.iload 8, 2, [8], 0), none, some (.ifCond .eq 6, 3, [38], 0), none, none, some (.iload 8, 2, [8], 0), none, some (.ireturn, 1, [0, 0, 1], 0), some (.aload_n 0, 1, [0], 0), some (.iload_n 1, 1, [1], 0), some (.iconst 1, 1, [], 1), some (.invokestatic 111, 3, [98, 2, 1, 0, 0, 0, 0, 95, 4], 0), none, none, some (.iload_n 3, 1, [3], 0), some (.invokevirtual 115, 3, [24, 3, 2, 0, 0, 0, 0, 96, 2], 0), none, none, some (.istore 8, 2, [8], 0), none, some (.iload 8, 2, [8], 0), none, some (.ifCond .eq 8, 3, [60], 0), none, none, some (.iconst 2, 1, [], 2), some (.iload 8, 2, [8], 0), none, some (.iadd, 1, [], 0), some (.ireturn, 1, [0, 0, 1], 0), some (.aload_n 0, 1, [0], 0), some (.iload 7, 2, [7], 0), none, some (.iconst 0, 1, [], 0)],
  [some (.invokestatic 111, 3, [98, 2, 1, 0, 0, 0, 0, 95, 4], 0), none, none, some (.iload 5, 2, [5], 0), none, some (.invokevirtual 115, 3, [24, 3, 2, 0, 0, 0, 0, 96, 2], 0), none, none, some (.istore 8, 2, [8], 0), none, some (.iload 8, 2, [8], 0), none, some (.ifCond .eq 8, 3, [84], 0), none, none, some (.iconst 4, 1, [], 4), some (.iload 8, 2, [8], 0), none, some (.iadd, 1, [], 0), some (.ireturn, 1, [0, 0, 1], 0), some (.aload_n 0, 1, [0], 0), some (.iload 7, 2, [7], 0), none, some (.iconst 1, 1, [], 1), some (.invokestatic 111, 3, [98, 2, 1, 0, 0, 0, 0, 95, 4], 0), none, none, some (.iload 6, 2, [6], 0), none, some (.invokevirtual 115, 3, [24, 3, 2, 0, 0, 0, 0, 96, 2], 0), none, none, some (.istore 8, 2, [8], 0), none, some (.iload 8, 2, [8], 0), none, some (.ifCond .ne 7, 3, [107], 0), none, none, some (.iconst 0, 1, [], 0), some (.goto 8, 3, [112], 0), none, none, some (.bipush 6, 2, [], 6), none, some (.iload 8, 2, [8], 0), none, some (.iadd, 1, [], 0), some (.ireturn, 1, [0, 0, 1], 0)]]
def cd_24 : List (List (Option IcM)) := [[some (.iload_n 2, 1, [2], 0), some (.ifCond .gt 5, 3, [6], 0), none, none, some (.iconst 0, 1, [], 0), some (.ireturn, 1, [0, 0, 1], 0), some (.aload_n 0, 1, [0], 0), some (.getfield 23, 3, [2, 3, 1, 0, 25], 0), none, none, some (.iload_n 1, 1, [1], 0), some (.iaload, 1, [], 0), some (.iload_n 2, 1, [2], 0), some (.iadd, 1, [], 0), some (.istore_n 3, 1, [3], 0), some (.aload_n 0, 1, [0], 0), some (.getfield 29, 3, [2, 5, 1, 0, 29], 0), none, none, some (.iload_n 1, 1, [1], 0), some (.iaload, 1, [], 0), some (.ifCond .eq 15, 3, [36], 0), none, none, some (.iload_n 3, 1, [3], 0), some (.aload_n 0, 1, [0], 0), some (.getfield 29, 3, [2, 5, 1, 0, 29], 0), none, none, some (.iload_n 1, 1, [1], 0), some (.iaload, 1, [], 0), some (.if_icmp .le 5, 3, [36], 0), none, none, some (.iconst 1, 1, [], 1), some (.ireturn, 1, [0, 0, 1], 0), some (.aload_n 0, 1, [0], 0), some (.iload_n 1, 1, [1], 0), some (.invokevirtual 118, 3, [31, 2, 2, 0, 0, 0, 0, 76, 2], 0), none, none, some (.ifCond .eq 17, 3, [58], 0), none, none, some (.iload_n 3, 1, [3], 0), some (.aload_n 0, 1, [0], 0), some (.getfield 26, 3, [2, 4, 1, 0, 27], 0), none, none, some (.iload_n 1, 1, [1], 0), some (.iaload, 1, [], 0), some (.if_icmp .le 7, 3, [58], 0), none, none, some (.iconst 2, 1, [], 2), some (.goto 4, 3, [59], 0), none, none, some (.iconst 0, 1, [], 0), some (.ireturn, 1, [0, 0, 1], 0)]]
def cd_25 : List (List (Option IcM)) := [[some (.aload_n 0, 1, [0], 0), some (.iload_n 1, 1, [1], 0), some (.invokevirtual 118, 3, [31, 2, 2, 0, 0, 0, 0, 76, 2], 0), none, none, some (.istore_n 2, 1, [2], 0), some (.aload_n 0, 1, [0], 0), some (.getfield 29, 3, [2, 5, 1, 0, 29], 0), none, none, some (.iload_n 1, 1, [1], 0), some (.iaload, 1, [], 0), some (.ifCond .ne 10, 3, [22], 0), none, none, some (.iload_n 2, 1, [2], 0), some (.ifCond .ne 6, 3, [22], 0), none, none, some (.bipush (-2), 2, [], (-2)), none, some (.ireturn, 1, [0, 0, 1], 0), some (.ldc 122, 2, [563], 100000), none, some (.istore_n 3, 1, [3], 0), some (.aload_n 0, 1, [0], 0), some (.getfield 29, 3, [2, 5, 1, 0, 29], 0), none, none, some (.iload_n 1, 1, [1], 0), some (.iaload, 1, [], 0), some (.ifCond .eq 10, 3, [41], 0), none, none, some (.aload_n 0, 1, [0], 0), some (.getfield 29, 3, [2, 5, 1, 0, 29], 0), none, none, some (.iload_n 1, 1, [1], 0), some (.iaload, 1, [], 0), some (.istore_n 3, 1, [3], 0), some (.iload_n 2, 1, [2], 0), some (.ifCond .eq 14, 3, [56], 0), none, none, some (.iload_n 3, 1, [3], 0), some (.aload_n 0, 1, [0], 0), some (.getfield 26, 3, [2, 4, 1, 0, 27], 0), none, none, some (.iload_n 1, 1, [1], 0), some (.iaload, 1, [], 0), some (.invokestatic 123, 3, [0, 2, 7, 0, 0, 0, 0, 77], 0), none, none, some (.istore_n 3, 1, [3], 0), some (.iconst 0, 1, [], 0), some (.iload_n 3, 1, [3], 0), some (.aload_n 0, 1, [0], 0), some (.getfield 23, 3, [2, 3, 1, 0, 25], 0), none, none, some (.iload_n 1, 1, [1], 0), some (.iaload, 1, [], 0)],
  [some (.isub, 1, [], 0), some (.invokestatic 128, 3, [0, 2, 6, 0, 0, 0, 0, 78], 0), none, none, some (.ireturn, 1, [0, 0, 1], 0)]]
def cd_26 : List (List (Option IcM)) := [[some (.iload_n 1, 1, [1], 0), some (.iconst 4, 1, [], 4), some (.if_icmp .gt 7, 3, [9], 0), none, none, some (.iload_n 2, 1, [2], 0), some (.goto 7, 3, [13], 0), none, none, some (.iload_n 3, 1, [3], 0), some (.invokestatic 88, 3, [99, 1, 1, 0, 0, 0, 0, 94, 4], 0), none, none, some (.istore 4, 2, [4], 0), none, some (.iload_n 1, 1, [1], 0), some (.iconst 1, 1, [], 1), some (.isub, 1, [], 0), some (.iconst 2, 1, [], 2), some (.idiv, 1, [], 0), some (.iconst 2, 1, [], 2), some (.irem, 1, [], 0), some (.istore 5, 2, [5], 0), none, some (.aload_n 0, 1, [0], 0), some (.getfield 35, 3, [2, 7, 1, 0, 33], 0), none, none, some (.iload 4, 2, [4], 0), none, some (.dup2, 1, [], 0), some (.iaload, 1, [], 0), some (.iconst 1, 1, [], 1), some (.iadd, 1, [], 0), some (.iastore, 1, [], 0), some (.aload_n 0, 1, [0], 0), some (.getfield 48, 3, [2, 9, 1, 0, 37], 0), none, none, some (.iconst 4, 1, [], 4), some (.iload 4, 2, [4], 0), none, some (.iload 5, 2, [5], 0), none, some (.invokestatic 111, 3, [98, 2, 1, 0, 0, 0, 0, 95, 4], 0), none, none, some (.aload_n 0, 1, [0], 0), some (.getfield 9, 3, [2, 0, 0, 0, 19], 0), none, none, some (.invokevirtual 131, 3, [2, 4, 3, 0, 0, 0, 0, 59, 0], 0), none, none, some (.return_, 1, [0, 0, 0], 0)]]
def cd_27 : List (List (Option IcM)) := [[some (.iconst 0, 1, [], 0), some (.istore_n 1, 1, [1], 0), some (.iload_n 1, 1, [1], 0), some (.bipush 18, 2, [], 18), none, some (.if_icmp .ge 14, 3, [19], 0), none, none, some (.aload_n 0, 1, [0], 0), some (.iload_n 1, 1, [1], 0), some (.invokevirtual 133, 3, [28, 2, 2, 0, 0, 0, 0, 108, 2], 0), none, none, some (.iinc 1 1, 3, [1], 1), none, none, some (.goto (-14), 3, [2], 0), none, none, some (.return_, 1, [0, 0, 0], 0)]]
def cd_28 : List (List (Option IcM)) := [[some (.aload_n 0, 1, [0], 0), some (.getfield 26, 3, [2, 4, 1, 0, 27], 0), none, none, some (.iload_n 1, 1, [1], 0), some (.iaload, 1, [], 0), some (.ifCond .eq 22, 3, [28], 0), none, none, some (.aload_n 0, 1, [0], 0), some (.getfield 23, 3, [2, 3, 1, 0, 25], 0), none, none, some (.iload_n 1, 1, [1], 0), some (.iaload, 1, [], 0), some (.aload_n 0, 1, [0], 0), some (.getfield 26, 3, [2, 4, 1, 0, 27], 0), none, none, some (.iload_n 1, 1, [1], 0), some (.iaload, 1, [], 0), some (.if_icmp .le 7, 3, [28], 0), none, none, some (.iconst 1, 1, [], 1), some (.goto 4, 3, [29], 0), none, none, some (.iconst 0, 1, [], 0), some (.istore_n 2, 1, [2], 0), some (.iload_n 2, 1, [2], 0), some (.ifCond .eq 37, 3, [68], 0), none, none, some (.aload_n 0, 1, [0], 0), some (.iload_n 1, 1, [1], 0), some (.invokevirtual 136, 3, [29, 2, 2, 0, 0, 0, 0, 57, 2], 0), none, none, some (.ifCond .ne 29, 3, [68], 0), none, none, some (.aload_n 0, 1, [0], 0), some (.getfield 32, 3, [2, 6, 1, 0, 31], 0), none, none, some (.iload_n 1, 1, [1], 0), some (.aload_n 0, 1, [0], 0), some (.getfield 9, 3, [2, 0, 0, 0, 19], 0), none, none, some (.iastore, 1, [], 0), some (.aload_n 0, 1, [0], 0), some (.getfield 48, 3, [2, 9, 1, 0, 37], 0), none, none, some (.iconst 1, 1, [], 1), some (.iload_n 1, 1, [1], 0), some (.aload_n 0, 1, [0], 0), some (.getfield 9, 3, [2, 0, 0, 0, 19], 0), none, none, some (.invokevirtual 131, 3, [2, 4, 3, 0, 0, 0, 0, 59, 0], 0), none],
  [none, some (.goto 35, 3, [100], 0), none, none, some (.iload_n 2, 1, [2], 0), some (.ifCond .ne 31, 3, [100], 0), none, none, some (.aload_n 0, 1, [0], 0), some (.iload_n 1, 1, [1], 0), some (.invokevirtual 136, 3, [29, 2, 2, 0, 0, 0, 0, 57, 2], 0), none, none, some (.ifCond .eq 23, 3, [100], 0), none, none, some (.aload_n 0, 1, [0], 0), some (.getfield 32, 3, [2, 6, 1, 0, 31], 0), none, none, some (.iload_n 1, 1, [1], 0), some (.iconst (-1), 1, [], (-1)), some (.iastore, 1, [], 0), some (.aload_n 0, 1, [0], 0), some (.getfield 48, 3, [2, 9, 1, 0, 37], 0), none, none, some (.iconst 2, 1, [], 2), some (.iload_n 1, 1, [1], 0), some (.aload_n 0, 1, [0], 0), some (.getfield 9, 3, [2, 0, 0, 0, 19], 0), none, none, some (.invokevirtual 131, 3, [2, 4, 3, 0, 0, 0, 0, 59, 0], 0), none, none, some (.return_, 1, [0, 0, 0], 0)]]
def cd_29 : List (List (Option IcM)) := [[some (.aload_n 0, 1, [0], 0), some (.getfield 32, 3, [2, 6, 1, 0, 31], 0), none, none, some (.iload_n 1, 1, [1], 0), some (.iaload, 1, [], 0), some (.iconst (-1), 1, [], (-1)), some (.if_icmp .eq 7, 3, [14], 0), none, none, some (.iconst 1, 1, [], 1), some (.goto 4, 3, [15], 0), none, none, some (.iconst 0, 1, [], 0), some (.ireturn, 1, [0, 0, 2], 0)]]
def cd_30 : List (List (Option IcM)) := [[some (.aload_n 0, 1, [0], 0), some (.getfield 9, 3, [2, 0, 0, 0, 19], 0), none, none, some (.aload_n 0, 1, [0], 0), some (.getfield 32, 3, [2, 6, 1, 0, 31], 0), none, none, some (.iload_n 1, 1, [1], 0), some (.iaload, 1, [], 0), some (.isub, 1, [], 0), some (.ireturn, 1, [0, 0, 1], 0)]]
def cd_31 : List (List (Option IcM)) := [[some (.aload_n 0, 1, [0], 0), some (.getfield 32, 3, [2, 6, 1, 0, 31], 0), none, none, some (.iload_n 1, 1, [1], 0), some (.iaload, 1, [], 0), some (.iconst (-1), 1, [], (-1)), some (.if_icmp .eq 29, 3, [36], 0), none, none, some (.aload_n 0, 1, [0], 0), some (.getfield 9, 3, [2, 0, 0, 0, 19], 0), none, none, some (.aload_n 0, 1, [0], 0), some (.getfield 32, 3, [2, 6, 1, 0, 31], 0), none, none, some (.iload_n 1, 1, [1], 0), some (.iaload, 1, [], 0), some (.isub, 1, [], 0), some (.aload_n 0, 1, [0], 0), some (.getfield 15, 3, [2, 1, 1, 0, 21], 0), none, none, some (.iload_n 1, 1, [1], 0), some (.iconst 2, 1, [], 2), some (.irem, 1, [], 0), some (.iaload, 1, [], 0), some (.if_icmp .lt 7, 3, [36], 0), none, none, some (.iconst 1, 1, [], 1), some (.goto 4, 3, [37], 0), none, none, some (.iconst 0, 1, [], 0), some (.ireturn, 1, [0, 0, 2], 0)]]
def cd_32 : List (List (Option IcM)) := [[some (.aload_n 0, 1, [0], 0), some (.getfield 9, 3, [2, 0, 0, 0, 19], 0), none, none, some (.iload_n 1, 1, [1], 0), some (.iadd, 1, [], 0), some (.sipush 10000, 3, [], 10000), none, none, some (.if_icmp .gt 7, 3, [16], 0), none, none, some (.iconst 1, 1, [], 1), some (.goto 4, 3, [17], 0), none, none, some (.iconst 0, 1, [], 0), some (.ireturn, 1, [0, 0, 2], 0)]]
def cd_33 : List (List (Option IcM)) := [[some (.iconst 0, 1, [], 0), some (.istore_n 2, 1, [2], 0), some (.iconst 0, 1, [], 0), some (.istore_n 3, 1, [3], 0), some (.iload_n 3, 1, [3], 0), some (.iload_n 1, 1, [1], 0), some (.if_icmp .ge 26, 3, [32], 0), none, none, some (.aload_n 0, 1, [0], 0), some (.dup, 1, [], 0), some (.getfield 9, 3, [2, 0, 0, 0, 19], 0), none, none, some (.iconst 1, 1, [], 1), some (.iadd, 1, [], 0), some (.putfield 9, 3, [2, 0, 0, 0, 19, 0], 0), none, none, some (.iload_n 2, 1, [2], 0), some (.aload_n 0, 1, [0], 0), some (.invokevirtual 139, 3, [34, 1, 2, 0, 0, 0, 0, 56, 2], 0), none, none, some (.iadd, 1, [], 0), some (.istore_n 2, 1, [2], 0), some (.iinc 3 1, 3, [3], 1), none, none, some (.goto (-25), 3, [4], 0), none, none, some (.iload_n 2, 1, [2], 0), some (.ireturn, 1, [0, 0, 1], 0)]]
def cd_34 : List (List (Option IcM)) := [[some (.iconst 0, 1, [], 0), some (.istore_n 1, 1, [1], 0), some (.iconst 0, 1, [], 0), some (.istore_n 2, 1, [2], 0), some (.iload_n 2, 1, [2], 0), some (.bipush 18, 2, [], 18), none, some (.if_icmp .ge 49, 3, [56], 0), none, none, some (.aload_n 0, 1, [0], 0), some (.iload_n 2, 1, [2], 0), some (.invokevirtual 136, 3, [29, 2, 2, 0, 0, 0, 0, 57, 2], 0), none, none, some (.ifCond .eq 35, 3, [50], 0), none, none, some (.aload_n 0, 1, [0], 0), some (.iload_n 2, 1, [2], 0), some (.invokevirtual 143, 3, [30, 2, 2, 0, 0, 0, 0, 58, 2], 0), none, none, some (.aload_n 0, 1, [0], 0), some (.getfield 15, 3, [2, 1, 1, 0, 21], 0), none, none, some (.iload_n 2, 1, [2], 0), some (.iconst 2, 1, [], 2), some (.irem, 1, [], 0), some (.iaload, 1, [], 0), some (.if_icmp .ne 19, 3, [50], 0), none, none, some (.aload_n 0, 1, [0], 0), some (.getfield 48, 3, [2, 9, 1, 0, 37], 0), none, none, some (.iconst 3, 1, [], 3), some (.iload_n 2, 1, [2], 0), some (.aload_n 0, 1, [0], 0), some (.getfield 9, 3, [2, 0, 0, 0, 19], 0), none, none, some (.invokevirtual 131, 3, [2, 4, 3, 0, 0, 0, 0, 59, 0], 0), none, none, some (.iinc 1 1, 3, [1], 1), none, none, some (.iinc 2 1, 3, [2], 1), none, none, some (.goto (-49), 3, [4], 0), none, none, some (.iload_n 1, 1, [1], 0), some (.ireturn, 1, [0, 0, 1], 0)]]
def cd_35 : List (List (Option IcM)) := [[some (.iconst 0, 1, [], 0), some (.istore_n 1, 1, [1], 0), some (.iconst 0, 1, [], 0), some (.istore_n 2, 1, [2], 0), some (.iload_n 2, 1, [2], 0), some (.bipush 6, 2, [], 6), none, some (.if_icmp .ge 21, 3, [28], 0), none, none, some (.aload_n 0, 1, [0], 0), some (.getfield 19, 3, [2, 2, 1, 0, 23], 0), none, none, some (.iload_n 2, 1, [2], 0), some (.baload, 1, [], 0), some (.ifCond .eq 6, 3, [22], 0), none, none, some (.iinc 1 1, 3, [1], 1), none, none, some (.iinc 2 1, 3, [2], 1), none, none, some (.goto (-21), 3, [4], 0), none, none, some (.iload_n 1, 1, [1], 0), some (.ireturn, 1, [0, 0, 1], 0)]]
def cd_36 : List (List (Option IcM)) := [[some (.aload_n 0, 1, [0], 0), some (.invokespecial 3, 3, [0, 1, 9, 0, 0, 2, 105, 9], 0), none, none, some (.aload_n 0, 1, [0], 0), some (.bipush 100, 2, [], 100), none, some (.newarray .char, 2, [4, 2, 105], 0), none, some (.putfield 9, 3, [3, 0, 1, 0, 39, 1], 0), none, none, some (.aload_n 0, 1, [0], 0), some (.iconst 0, 1, [], 0), some (.putfield 15, 3, [3, 1, 0, 0, 40, 0], 0), none, none, some (.aload_n 0, 1, [0], 0), some (.iconst 0, 1, [], 0), some (.putfield 19, 3, [3, 2, 0, 0, 41, 0], 0), none, none, some (.aload_n 0, 1, [0], 0), some (.bipush 32, 2, [], 32), none, some (.putfield 22, 3, [3, 3, 2, 0, 42, 0], 0), none, none, some (.aload_n 0, 1, [0], 0), some (.iconst 5, 1, [], 5), some (.newarray .int, 2, [2, 2, 105], 0), none, some (.putfield 26, 3, [3, 4, 1, 0, 43, 1], 0), none, none, some (.return_, 1, [2, 105, 0], 0)]]
def cd_44 : List (List (Option IcM)) := [[some (.aload_n 0, 1, [0], 0), some (.invokespecial 3, 3, [0, 1, 9, 0, 0, 177, 4030, 1], 0), none, none, some (.aload_n 0, 1, [0], 0), some (.new 9, 3, [0, 2, 10, 177, 4030, 58], 0), none, none, some (.dup, 1, [], 0), some (.invokespecial 11, 3, [14, 1, 5, 16, 375, 177, 4030, 2, 2], 0), none, none, some (.putfield 12, 3, [4, 0, 1, 0, 44, 1], 0), none, none, some (.aload_n 0, 1, [0], 0), some (.new 9, 3, [0, 2, 10, 177, 4030, 58], 0), none, none, some (.dup, 1, [], 0), some (.invokespecial 11, 3, [14, 1, 5, 16, 375, 177, 4030, 2, 2], 0), none, none, some (.putfield 16, 3, [4, 1, 1, 0, 45, 1], 0), none, none, some (.aload_n 0, 1, [0], 0), some (.bipush 6, 2, [], 6), none, some (.anewarray 9, 3, [6, 177, 4030, 58], 0), none, none, some (.putfield 19, 3, [4, 2, 1, 0, 46, 1], 0), none, none, some (.iconst 0, 1, [], 0), some (.istore_n 1, 1, [1], 0), some (.iload_n 1, 1, [1], 0), some (.bipush 6, 2, [], 6), none, some (.if_icmp .ge 22, 3, [62], 0), none, none, some (.aload_n 0, 1, [0], 0), some (.getfield 19, 3, [4, 2, 1, 0, 46], 0), none, none, some (.iload_n 1, 1, [1], 0), some (.new 9, 3, [0, 2, 10, 177, 4030, 58], 0), none, none, some (.dup, 1, [], 0), some (.invokespecial 11, 3, [14, 1, 5, 16, 375, 177, 4030, 2, 2], 0), none, none, some (.aastore, 1, [], 0), some (.iinc 1 1, 3, [1], 1), none, none, some (.goto (-22), 3, [37], 0), none, none, some (.aload_n 0, 1, [0], 0), some (.iconst 0, 1, [], 0)],
  [some (.putfield 23, 3, [4, 3, 0, 0, 47, 0], 0), none, none, some (.aload_n 0, 1, [0], 0), some (.iconst 2, 1, [], 2), some (.anewarray 9, 3, [6, 177, 4030, 58], 0), none, none, some (.putfield 27, 3, [4, 4, 1, 0, 48, 1], 0), none, none, some (.iconst 0, 1, [], 0), some (.istore_n 1, 1, [1], 0), some (.iload_n 1, 1, [1], 0), some (.iconst 2, 1, [], 2), some (.if_icmp .ge 22, 3, [101], 0), none, none, some (.aload_n 0, 1, [0], 0), some (.getfield 27, 3, [4, 4, 1, 0, 48], 0), none, none, some (.iload_n 1, 1, [1], 0), some (.new 9, 3, [0, 2, 10, 177, 4030, 58], 0), none, none, some (.dup, 1, [], 0), some (.invokespecial 11, 3, [14, 1, 5, 16, 375, 177, 4030, 2, 2], 0), none, none, some (.aastore, 1, [], 0), some (.iinc 1 1, 3, [1], 1), none, none, some (.goto (-21), 3, [77], 0), none, none, some (.aload_n 0, 1, [0], 0), some (.iconst 2, 1, [], 2), some (.newarray .boolean, 2, [3, 177, 4030], 0), none, some (.putfield 30, 3, [4, 5, 1, 0, 49, 1], 0), none, none, some (.aload_n 0, 1, [0], 0), some (.new 34, 3, [0, 3, 5, 177, 4030, 161], 0), none, none, some (.dup, 1, [], 0), some (.invokespecial 36, 3, [36, 1, 5, 2, 105, 177, 4030, 8, 3], 0), none, none, some (.putfield 37, 3, [4, 6, 1, 0, 50, 1], 0), none, none, some (.aload_n 0, 1, [0], 0), some (.bipush 60, 2, [], 60), none, some (.newarray .int, 2, [2, 177, 4030], 0), none, some (.putfield 41, 3, [4, 7, 1, 0, 51, 1], 0), none, none, some (.return_, 1, [177, 4030, 0], 0)]]
def cd_45 : List (List (Option IcM)) := [[some (.iload_n 1, 1, [1], 0), some (.invokestatic 45, 3, [87, 1, 0, 0, 0, 0, 0, 40, 4], 0), none, none, some (.iload_n 2, 1, [2], 0), some (.invokestatic 49, 3, [88, 1, 0, 0, 0, 0, 0, 91, 4], 0), none, none, some (.iload_n 3, 1, [3], 0), some (.iload 4, 2, [4], 0), none, some (.invokestatic 52, 3, [93, 2, 0, 0, 0, 0, 0, 33, 4], 0), none, none, some (.istore 6, 2, [6], 0), none, some (.iload 5, 2, [5], 0), none, some (.invokestatic 56, 3, [94, 1, 0, 0, 0, 0, 0, 92, 4], 0), none, none, some (.aload_n 0, 1, [0], 0), some (.getfield 12, 3, [4, 0, 1, 0, 44], 0), none, none, some (.iload 6, 2, [6], 0), none, some (.invokevirtual 59, 3, [16, 2, 3, 0, 0, 0, 0, 100, 2], 0), none, none, some (.ifCond .ne 13, 3, [43], 0), none, none, none, none, none, none, none, none, none, none, none, none, some (.aload_n 0, 1, [0], 0), some (.invokevirtual 70, 3, [101, 1, 2, 0, 0, 0, 0, 50, 4], 0), none, none, some (.aload_n 0, 1, [0], 0), some (.getfield 12, 3, [4, 0, 1, 0, 44], 0), none, none, some (.iload_n 1, 1, [1], 0), some (.iload_n 2, 1, [2], 0), some (.iload 6, 2, [6], 0), none, some (.iload 5, 2, [5], 0), none, some (.invokevirtual 73, 3, [17, 5, 3, 0, 0, 0, 0, 102, 2], 0), none, none, some (.ireturn, 1, [0, 0, 1], 0)]]
def cd_46 : List (List (Option IcM)) := [[some (.iload_n 1, 1, [1], 0), some (.iload_n 2, 1, [2], 0), some (.invokestatic 52, 3, [93, 2, 0, 0, 0, 0, 0, 33, 4], 0), none, none, some (.istore 4, 2, [4], 0), none, some (.iload_n 3, 1, [3], 0), some (.invokestatic 56, 3, [94, 1, 0, 0, 0, 0, 0, 92, 4], 0), none, none, some (.aload_n 0, 1, [0], 0), some (.iload 4, 2, [4], 0), none, some (.invokevirtual 77, 3, [97, 2, 2, 0, 0, 0, 0, 110, 4], 0), none, none, some (.istore 5, 2, [5], 0), none, some (.aload_n 0, 1, [0], 0), some (.invokevirtual 70, 3, [101, 1, 2, 0, 0, 0, 0, 50, 4], 0), none, none, some (.aload_n 0, 1, [0], 0), some (.getfield 12, 3, [4, 0, 1, 0, 44], 0), none, none, some (.iload 5, 2, [5], 0), none, some (.iload_n 3, 1, [3], 0), some (.invokevirtual 81, 3, [18, 3, 3, 0, 0, 0, 0, 116, 2], 0), none, none, some (.ireturn, 1, [0, 0, 1], 0)]]
def cd_47 : List (List (Option IcM)) := [[some (.iload_n 1, 1, [1], 0), some (.iload_n 2, 1, [2], 0), some (.invokestatic 52, 3, [93, 2, 0, 0, 0, 0, 0, 33, 4], 0), none, none, some (.istore_n 3, 1, [3], 0), some (.aload_n 0, 1, [0], 0), some (.iload_n 3, 1, [3], 0), some (.invokevirtual 77, 3, [97, 2, 2, 0, 0, 0, 0, 110, 4], 0), none, none, some (.istore 4, 2, [4], 0), none, some (.aload_n 0, 1, [0], 0), some (.invokevirtual 70, 3, [101, 1, 2, 0, 0, 0, 0, 50, 4], 0), none, none, some (.aload_n 0, 1, [0], 0), some (.getfield 12, 3, [4, 0, 1, 0, 44], 0), none, none, some (.iload 4, 2, [4], 0), none, some (.invokevirtual 84, 3, [20, 2, 3, 0, 0, 0, 0, 111, 2], 0), none, none, some (.ireturn, 1, [0, 0, 1], 0)]]
def cd_48 : List (List (Option IcM)) := [[some (.iload_n 1, 1, [1], 0), some (.iload_n 2, 1, [2], 0), some (.invokestatic 52, 3, [93, 2, 0, 0, 0, 0, 0, 33, 4], 0), none, none, some (.istore 5, 2, [5], 0), none, some (.iload_n 3, 1, [3], 0), some (.invokestatic 45, 3, [87, 1, 0, 0, 0, 0, 0, 40, 4], 0), none, none, some (.iload 4, 2, [4], 0), none, some (.invokestatic 49, 3, [88, 1, 0, 0, 0, 0, 0, 91, 4], 0), none, none, some (.aload_n 0, 1, [0], 0), some (.iload 5, 2, [5], 0), none, some (.invokevirtual 77, 3, [97, 2, 2, 0, 0, 0, 0, 110, 4], 0), none, none, some (.istore 6, 2, [6], 0), none, some (.aload_n 0, 1, [0], 0), some (.invokevirtual 70, 3, [101, 1, 2, 0, 0, 0, 0, 50, 4], 0), none, none, some (.aload_n 0, 1, [0], 0), some (.getfield 12, 3, [4, 0, 1, 0, 44], 0), none, none, some (.iload 6, 2, [6], 0), none, some (.iload_n 3, 1, [3], 0), some (.iload 4, 2, [4], 0), none, some (.invokevirtual 87, 3, [21, 4, 3, 0, 0, 0, 0, 114, 2], 0), none, none, some (.ireturn, 1, [0, 0, 1], 0)]]
def cd_49 : List (List (Option IcM)) := [[some (.iload_n 1, 1, [1], 0), some (.iload_n 2, 1, [2], 0), some (.invokestatic 91, 3, [91, 2, 0, 0, 0, 0, 0, 25, 4], 0), none, none, some (.istore 5, 2, [5], 0), none, some (.iload_n 3, 1, [3], 0), some (.iload 4, 2, [4], 0), none, some (.invokestatic 94, 3, [95, 2, 0, 0, 0, 0, 0, 64, 4], 0), none, none, some (.aload_n 0, 1, [0], 0), some (.invokevirtual 70, 3, [101, 1, 2, 0, 0, 0, 0, 50, 4], 0), none, none, some (.aload_n 0, 1, [0], 0), some (.getfield 12, 3, [4, 0, 1, 0, 44], 0), none, none, some (.getfield 98, 3, [2, 4, 1, 1, 28], 0), none, none, some (.iload 5, 2, [5], 0), none, some (.iload_n 3, 1, [3], 0), some (.iastore, 1, [], 0), some (.aload_n 0, 1, [0], 0), some (.getfield 12, 3, [4, 0, 1, 0, 44], 0), none, none, some (.getfield 101, 3, [2, 5, 1, 1, 30], 0), none, none, some (.iload 5, 2, [5], 0), none, some (.iload 4, 2, [4], 0), none, some (.iastore, 1, [], 0), some (.aload_n 0, 1, [0], 0), some (.getfield 12, 3, [4, 0, 1, 0, 44], 0), none, none, some (.iload 5, 2, [5], 0), none, some (.invokevirtual 104, 3, [28, 2, 3, 0, 0, 0, 0, 65, 2], 0), none, none, some (.aload_n 0, 1, [0], 0), some (.getfield 12, 3, [4, 0, 1, 0, 44], 0), none, none, some (.getfield 107, 3, [2, 3, 1, 1, 26], 0), none, none, some (.iload 5, 2, [5], 0), none, some (.iaload, 1, [], 0), some (.ireturn, 1, [0, 0, 1], 0)]]
def cd_50 : List (List (Option IcM)) := [[some (.iload_n 1, 1, [1], 0), some (.invokestatic 110, 3, [90, 1, 0, 0, 0, 0, 0, 27, 4], 0), none, none, some (.iload_n 2, 1, [2], 0), some (.iconst 1, 1, [], 1), some (.if_icmp .lt 9, 3, [15], 0), none, none, some (.iload_n 2, 1, [2], 0), some (.bipush 60, 2, [], 60), none, some (.if_icmp .le 13, 3, [25], 0), none, none, none, none, none, none, none, none, none, none, none, none, some (.aload_n 0, 1, [0], 0), some (.invokevirtual 70, 3, [101, 1, 2, 0, 0, 0, 0, 50, 4], 0), none, none, some (.aload_n 0, 1, [0], 0), some (.getfield 12, 3, [4, 0, 1, 0, 44], 0), none, none, some (.getfield 118, 3, [2, 1, 1, 1, 22], 0), none, none, some (.iload_n 1, 1, [1], 0), some (.iaload, 1, [], 0), some (.istore_n 3, 1, [3], 0), some (.aload_n 0, 1, [0], 0), some (.getfield 12, 3, [4, 0, 1, 0, 44], 0), none, none, some (.getfield 118, 3, [2, 1, 1, 1, 22], 0), none, none, some (.iload_n 1, 1, [1], 0), some (.iload_n 2, 1, [2], 0), some (.iastore, 1, [], 0), some (.iload_n 3, 1, [3], 0), some (.ireturn, 1, [0, 0, 1], 0)]]
def cd_51 : List (List (Option IcM)) := [[some (.iload_n 1, 1, [1], 0), some (.iload_n 2, 1, [2], 0), some (.invokestatic 91, 3, [91, 2, 0, 0, 0, 0, 0, 25, 4], 0), none, none, some (.istore_n 3, 1, [3], 0), some (.aload_n 0, 1, [0], 0), some (.getfield 12, 3, [4, 0, 1, 0, 44], 0), none, none, some (.iload_n 3, 1, [3], 0), some (.invokevirtual 121, 3, [29, 2, 3, 0, 0, 0, 0, 61, 2], 0), none, none, some (.ifCond .ne 13, 3, [27], 0), none, none, none, none, none, none, none, none, none, none, none, none, some (.aload_n 0, 1, [0], 0), some (.invokevirtual 70, 3, [101, 1, 2, 0, 0, 0, 0, 50, 4], 0), none, none, some (.aload_n 0, 1, [0], 0), some (.getfield 12, 3, [4, 0, 1, 0, 44], 0), none, none, some (.getfield 126, 3, [2, 6, 1, 1, 32], 0), none, none, some (.iload_n 3, 1, [3], 0), some (.iaload, 1, [], 0), some (.istore 4, 2, [4], 0), none, some (.aload_n 0, 1, [0], 0), some (.getfield 12, 3, [4, 0, 1, 0, 44], 0), none, none, some (.getfield 126, 3, [2, 6, 1, 1, 32], 0), none, none, some (.iload_n 3, 1, [3], 0), some (.aload_n 0, 1, [0], 0), some (.getfield 12, 3, [4, 0, 1, 0, 44], 0), none, none, some (.getfield 129, 3, [2, 0, 0, 1, 20], 0), none, none, some (.iastore, 1, [], 0), some (.iload 4, 2, [4], 0), none, some (.ireturn, 1, [0, 0, 1], 0)]]
def cd_52 : List (List (Option IcM)) := [[some (.iload_n 1, 1, [1], 0), some (.invokestatic 45, 3, [87, 1, 0, 0, 0, 0, 0, 40, 4], 0), none, none, some (.aload_n 0, 1, [0], 0), some (.invokevirtual 70, 3, [101, 1, 2, 0, 0, 0, 0, 50, 4], 0), none, none, some (.aload_n 0, 1, [0], 0), some (.getfield 12, 3, [4, 0, 1, 0, 44], 0), none, none, some (.getfield 132, 3, [2, 2, 1, 1, 24], 0), none, none, some (.iload_n 1, 1, [1], 0), some (.iload_n 2, 1, [2], 0), some (.bastore, 1, [], 0), some (.aload_n 0, 1, [0], 0), some (.getfield 12, 3, [4, 0, 1, 0, 44], 0), none, none, some (.invokevirtual 135, 3, [35, 1, 3, 0, 0, 0, 0, 52, 2], 0), none, none, some (.ireturn, 1, [0, 0, 1], 0)]]
def cd_53 : List (List (Option IcM)) := [[some (.iload_n 1, 1, [1], 0), some (.iconst 1, 1, [], 1), some (.if_icmp .lt 9, 3, [11], 0), none, none, some (.iload_n 1, 1, [1], 0), some (.bipush 100, 2, [], 100), none, some (.if_icmp .le 13, 3, [21], 0), none, none, none, none, none, none, none, none, none, none, none, none, some (.aload_n 0, 1, [0], 0), some (.getfield 12, 3, [4, 0, 1, 0, 44], 0), none, none, some (.iload_n 1, 1, [1], 0), some (.invokevirtual 139, 3, [32, 2, 3, 0, 0, 0, 0, 54, 2], 0), none, none, some (.ifCond .ne 13, 3, [42], 0), none, none, none, none, none, none, none, none, none, none, none, none, some (.aload_n 0, 1, [0], 0), some (.invokevirtual 70, 3, [101, 1, 2, 0, 0, 0, 0, 50, 4], 0), none, none, some (.aload_n 0, 1, [0], 0), some (.getfield 12, 3, [4, 0, 1, 0, 44], 0), none, none, some (.iload_n 1, 1, [1], 0), some (.invokevirtual 144, 3, [33, 2, 3, 0, 0, 0, 0, 55, 2], 0), none, none, some (.ireturn, 1, [0, 0, 1], 0)]]
def cd_58 : List (List (Option IcM)) := [[some (.aload_n 0, 1, [0], 0), some (.getfield 23, 3, [4, 3, 0, 0, 47], 0), none, none, some (.ifCond .gt 13, 3, [17], 0), none, none, none, none, none, none, none, none, none, none, none, none, some (.aload_n 0, 1, [0], 0), some (.dup, 1, [], 0), some (.getfield 23, 3, [4, 3, 0, 0, 47], 0), none, none, some (.iconst 1, 1, [], 1), some (.isub, 1, [], 0), some (.putfield 23, 3, [4, 3, 0, 0, 47, 0], 0), none, none, some (.aload_n 0, 1, [0], 0), some (.getfield 12, 3, [4, 0, 1, 0, 44], 0), none, none, some (.aload_n 0, 1, [0], 0), some (.getfield 19, 3, [4, 2, 1, 0, 46], 0), none, none, some (.aload_n 0, 1, [0], 0), some (.getfield 23, 3, [4, 3, 0, 0, 47], 0), none, none, some (.aaload, 1, [], 0), some (.invokevirtual 179, 3, [15, 2, 3, 0, 0, 0, 0, 11, 2], 0), none, none, some (.aload_n 0, 1, [0], 0), some (.getfield 23, 3, [4, 3, 0, 0, 47], 0), none, none, some (.ireturn, 1, [0, 0, 1], 0)]]
def cd_59 : List (List (Option IcM)) := [[some (.iload_n 1, 1, [1], 0), some (.invokestatic 183, 3, [96, 1, 0, 0, 0, 0, 0, 18, 4], 0), none, none, some (.aload_n 0, 1, [0], 0), some (.getfield 27, 3, [4, 4, 1, 0, 48], 0), none, none, some (.iload_n 1, 1, [1], 0), some (.aaload, 1, [], 0), some (.aload_n 0, 1, [0], 0), some (.getfield 12, 3, [4, 0, 1, 0, 44], 0), none, none, some (.invokevirtual 179, 3, [15, 2, 3, 0, 0, 0, 0, 11, 2], 0), none, none, some (.aload_n 0, 1, [0], 0), some (.getfield 30, 3, [4, 5, 1, 0, 49], 0), none, none, some (.iload_n 1, 1, [1], 0), some (.iconst 1, 1, [], 1), some (.bastore, 1, [], 0), some (.aload_n 0, 1, [0], 0), some (.getfield 12, 3, [4, 0, 1, 0, 44], 0), none, none, some (.getfield 129, 3, [2, 0, 0, 1, 20], 0), none, none, some (.ireturn, 1, [0, 0, 1], 0)]]
def cd_60 : List (List (Option IcM)) := [[some (.iload_n 1, 1, [1], 0), some (.invokestatic 183, 3, [96, 1, 0, 0, 0, 0, 0, 18, 4], 0), none, none, some (.aload_n 0, 1, [0], 0), some (.getfield 30, 3, [4, 5, 1, 0, 49], 0), none, none, some (.iload_n 1, 1, [1], 0), some (.baload, 1, [], 0), some (.ifCond .ne 13, 3, [23], 0), none, none, none, none, none, none, none, none, none, none, none, none, some (.aload_n 0, 1, [0], 0), some (.invokevirtual 70, 3, [101, 1, 2, 0, 0, 0, 0, 50, 4], 0), none, none, some (.aload_n 0, 1, [0], 0), some (.getfield 12, 3, [4, 0, 1, 0, 44], 0), none, none, some (.aload_n 0, 1, [0], 0), some (.getfield 27, 3, [4, 4, 1, 0, 48], 0), none, none, some (.iload_n 1, 1, [1], 0), some (.aaload, 1, [], 0), some (.invokevirtual 179, 3, [15, 2, 3, 0, 0, 0, 0, 11, 2], 0), none, none, some (.aload_n 0, 1, [0], 0), some (.getfield 12, 3, [4, 0, 1, 0, 44], 0), none, none, some (.getfield 129, 3, [2, 0, 0, 1, 20], 0), none, none, some (.ireturn, 1, [0, 0, 1], 0)]]
def cd_61 : List (List (Option IcM)) := [[some (.aload_n 0, 1, [0], 0), some (.getfield 12, 3, [4, 0, 1, 0, 44], 0), none, none, some (.getfield 107, 3, [2, 3, 1, 1, 26], 0), none, none, some (.iload_n 1, 1, [1], 0), some (.iload_n 2, 1, [2], 0), some (.invokestatic 91, 3, [91, 2, 0, 0, 0, 0, 0, 25, 4], 0), none, none, some (.iaload, 1, [], 0), some (.ireturn, 1, [0, 0, 1], 0)]]
def cd_62 : List (List (Option IcM)) := [[some (.iload_n 1, 1, [1], 0), some (.iload_n 2, 1, [2], 0), some (.invokestatic 91, 3, [91, 2, 0, 0, 0, 0, 0, 25, 4], 0), none, none, some (.pop, 1, [], 0), some (.aload_n 0, 1, [0], 0), some (.getfield 12, 3, [4, 0, 1, 0, 44], 0), none, none, some (.getfield 188, 3, [2, 8, 1, 1, 36], 0), none, none, some (.iload_n 1, 1, [1], 0), some (.iload_n 2, 1, [2], 0), some (.invokevirtual 192, 3, [10, 3, 3, 0, 0, 0, 0, 71, 1], 0), none, none, some (.ireturn, 1, [0, 0, 1], 0)]]
def cd_63 : List (List (Option IcM)) := [[some (.aload_n 0, 1, [0], 0), some (.getfield 12, 3, [4, 0, 1, 0, 44], 0), none, none, some (.getfield 98, 3, [2, 4, 1, 1, 28], 0), none, none, some (.iload_n 1, 1, [1], 0), some (.iload_n 2, 1, [2], 0), some (.invokestatic 91, 3, [91, 2, 0, 0, 0, 0, 0, 25, 4], 0), none, none, some (.iaload, 1, [], 0), some (.ireturn, 1, [0, 0, 1], 0)]]
def cd_64 : List (List (Option IcM)) := [[some (.aload_n 0, 1, [0], 0), some (.getfield 12, 3, [4, 0, 1, 0, 44], 0), none, none, some (.getfield 101, 3, [2, 5, 1, 1, 30], 0), none, none, some (.iload_n 1, 1, [1], 0), some (.iload_n 2, 1, [2], 0), some (.invokestatic 91, 3, [91, 2, 0, 0, 0, 0, 0, 25, 4], 0), none, none, some (.iaload, 1, [], 0), some (.ireturn, 1, [0, 0, 1], 0)]]
def cd_65 : List (List (Option IcM)) := [[some (.aload_n 0, 1, [0], 0), some (.getfield 12, 3, [4, 0, 1, 0, 44], 0), none, none, some (.getfield 126, 3, [2, 6, 1, 1, 32], 0), none, none, some (.iload_n 1, 1, [1], 0), some (.iload_n 2, 1, [2], 0), some (.invokestatic 91, 3, [91, 2, 0, 0, 0, 0, 0, 25, 4], 0), none, none, some (.iaload, 1, [], 0), some (.ireturn, 1, [0, 0, 1], 0)]]
def cd_66 : List (List (Option IcM)) := [[some (.iload_n 1, 1, [1], 0), some (.iload_n 2, 1, [2], 0), some (.invokestatic 91, 3, [91, 2, 0, 0, 0, 0, 0, 25, 4], 0), none, none, some (.istore_n 3, 1, [3], 0), some (.aload_n 0, 1, [0], 0), some (.getfield 12, 3, [4, 0, 1, 0, 44], 0), none, none, some (.iload_n 3, 1, [3], 0), some (.invokevirtual 121, 3, [29, 2, 3, 0, 0, 0, 0, 61, 2], 0), none, none, some (.ifCond .ne 5, 3, [19], 0), none, none, some (.iconst (-1), 1, [], (-1)), some (.ireturn, 1, [0, 0, 1], 0), some (.iconst 0, 1, [], 0), some (.aload_n 0, 1, [0], 0), some (.getfield 12, 3, [4, 0, 1, 0, 44], 0), none, none, some (.getfield 118, 3, [2, 1, 1, 1, 22], 0), none, none, some (.iload_n 2, 1, [2], 0), some (.iaload, 1, [], 0), some (.aload_n 0, 1, [0], 0), some (.getfield 12, 3, [4, 0, 1, 0, 44], 0), none, none, some (.iload_n 3, 1, [3], 0), some (.invokevirtual 197, 3, [30, 2, 3, 0, 0, 0, 0, 68, 2], 0), none, none, some (.isub, 1, [], 0), some (.invokestatic 200, 3, [0, 2, 6, 0, 0, 0, 0, 69], 0), none, none, some (.ireturn, 1, [0, 0, 1], 0)]]
def cd_67 : List (List (Option IcM)) := [[some (.aload_n 0, 1, [0], 0), some (.getfield 12, 3, [4, 0, 1, 0, 44], 0), none, none, some (.iload_n 1, 1, [1], 0), some (.iload_n 2, 1, [2], 0), some (.invokestatic 91, 3, [91, 2, 0, 0, 0, 0, 0, 25, 4], 0), none, none, some (.invokevirtual 205, 3, [25, 2, 3, 0, 0, 0, 0, 75, 2], 0), none, none, some (.ireturn, 1, [0, 0, 1], 0)]]
def cd_68 : List (List (Option IcM)) := [[some (.iload_n 1, 1, [1], 0), some (.invokestatic 208, 3, [89, 1, 0, 0, 0, 0, 0, 26, 4], 0), none, none, some (.aload_n 0, 1, [0], 0), some (.getfield 12, 3, [4, 0, 1, 0, 44], 0), none, none, some (.getfield 211, 3, [2, 7, 1, 1, 34], 0), none, none, some (.iload_n 1, 1, [1], 0), some (.iaload, 1, [], 0), some (.ireturn, 1, [0, 0, 1], 0)]]
def cd_69 : List (List (Option IcM)) := [[some (.iload_n 1, 1, [1], 0), some (.invokestatic 208, 3, [89, 1, 0, 0, 0, 0, 0, 26, 4], 0), none, none, some (.iload_n 1, 1, [1], 0), some (.iconst 0, 1, [], 0), some (.invokestatic 214, 3, [98, 2, 0, 0, 0, 0, 0, 28, 4], 0), none, none, some (.istore_n 2, 1, [2], 0), some (.aload_n 0, 1, [0], 0), some (.getfield 12, 3, [4, 0, 1, 0, 44], 0), none, none, some (.getfield 98, 3, [2, 4, 1, 1, 28], 0), none, none, some (.iload_n 2, 1, [2], 0), some (.iaload, 1, [], 0), some (.istore_n 3, 1, [3], 0), some (.iload_n 3, 1, [3], 0), some (.ifCond .ne 5, 3, [26], 0), none, none, some (.iconst 0, 1, [], 0), some (.ireturn, 1, [0, 0, 1], 0), some (.aload_n 0, 1, [0], 0), some (.getfield 12, 3, [4, 0, 1, 0, 44], 0), none, none, some (.getfield 188, 3, [2, 8, 1, 1, 36], 0), none, none, some (.iload_n 1, 1, [1], 0), some (.aload_n 0, 1, [0], 0), some (.getfield 41, 3, [4, 7, 1, 0, 51], 0), none, none, some (.invokevirtual 217, 3, [11, 3, 3, 0, 0, 0, 0, 80, 1], 0), none, none, some (.istore 4, 2, [4], 0), none, some (.aload_n 0, 1, [0], 0), some (.getfield 12, 3, [4, 0, 1, 0, 44], 0), none, none, some (.getfield 107, 3, [2, 3, 1, 1, 26], 0), none, none, some (.iload_n 2, 1, [2], 0), some (.iaload, 1, [], 0), some (.istore 5, 2, [5], 0), none, some (.iconst 0, 1, [], 0), some (.istore 6, 2, [6], 0), none, some (.iload 5, 2, [5], 0), none, some (.iload_n 3, 1, [3], 0), some (.if_icmp .le 30, 3, [90], 0), none, none, some (.iload 6, 2, [6], 0)],
  [none, some (.iload 4, 2, [4], 0), none, some (.if_icmp .ge 23, 3, [90], 0), none, none, some (.iload 5, 2, [5], 0), none, some (.aload_n 0, 1, [0], 0), some (.getfield 41, 3, [4, 7, 1, 0, 51], 0), none, none, some (.iload 4, 2, [4], 0), none, some (.invokestatic 221, 3, [103, 2, 0, 0, 0, 0, 0, 81, 4], 0), none, none, some (.isub, 1, [], 0), some (.istore 5, 2, [5], 0), none, some (.iinc 6 1, 3, [6], 1), none, none, some (.goto (-30), 3, [57], 0), none, none, some (.iload 6, 2, [6], 0), none, some (.ireturn, 1, [0, 0, 1], 0)]]
def cd_70 : List (List (Option IcM)) := [[some (.aload_n 0, 1, [0], 0), some (.getfield 12, 3, [4, 0, 1, 0, 44], 0), none, none, some (.getfield 188, 3, [2, 8, 1, 1, 36], 0), none, none, some (.iload_n 1, 1, [1], 0), some (.iload_n 2, 1, [2], 0), some (.invokestatic 52, 3, [93, 2, 0, 0, 0, 0, 0, 33, 4], 0), none, none, some (.invokevirtual 225, 3, [6, 2, 3, 0, 0, 0, 0, 36, 1], 0), none, none, some (.istore_n 3, 1, [3], 0), some (.iload_n 3, 1, [3], 0), some (.iconst (-1), 1, [], (-1)), some (.if_icmp .ne 7, 3, [25], 0), none, none, some (.iconst (-1), 1, [], (-1)), some (.goto 15, 3, [37], 0), none, none, some (.aload_n 0, 1, [0], 0), some (.getfield 12, 3, [4, 0, 1, 0, 44], 0), none, none, some (.getfield 188, 3, [2, 8, 1, 1, 36], 0), none, none, some (.getfield 228, 3, [1, 4, 1, 1, 12], 0), none, none, some (.iload_n 3, 1, [3], 0), some (.iaload, 1, [], 0), some (.ireturn, 1, [0, 0, 1], 0)]]
def cd_71 : List (List (Option IcM)) := [[some (.aload_n 0, 1, [0], 0), some (.getfield 12, 3, [4, 0, 1, 0, 44], 0), none, none, some (.getfield 188, 3, [2, 8, 1, 1, 36], 0), none, none, some (.iload_n 1, 1, [1], 0), some (.iload_n 2, 1, [2], 0), some (.invokestatic 52, 3, [93, 2, 0, 0, 0, 0, 0, 33, 4], 0), none, none, some (.invokevirtual 225, 3, [6, 2, 3, 0, 0, 0, 0, 36, 1], 0), none, none, some (.istore_n 3, 1, [3], 0), some (.iload_n 3, 1, [3], 0), some (.iconst (-1), 1, [], (-1)), some (.if_icmp .ne 7, 3, [25], 0), none, none, some (.iconst (-1), 1, [], (-1)), some (.goto 15, 3, [37], 0), none, none, some (.aload_n 0, 1, [0], 0), some (.getfield 12, 3, [4, 0, 1, 0, 44], 0), none, none, some (.getfield 188, 3, [2, 8, 1, 1, 36], 0), none, none, some (.getfield 231, 3, [1, 2, 1, 1, 6], 0), none, none, some (.iload_n 3, 1, [3], 0), some (.iaload, 1, [], 0), some (.ireturn, 1, [0, 0, 1], 0)]]
def cd_72 : List (List (Option IcM)) := [[some (.aload_n 0, 1, [0], 0), some (.getfield 12, 3, [4, 0, 1, 0, 44], 0), none, none, some (.getfield 188, 3, [2, 8, 1, 1, 36], 0), none, none, some (.iload_n 1, 1, [1], 0), some (.iload_n 2, 1, [2], 0), some (.invokestatic 52, 3, [93, 2, 0, 0, 0, 0, 0, 33, 4], 0), none, none, some (.invokevirtual 225, 3, [6, 2, 3, 0, 0, 0, 0, 36, 1], 0), none, none, some (.istore_n 3, 1, [3], 0), some (.iload_n 3, 1, [3], 0), some (.iconst (-1), 1, [], (-1)), some (.if_icmp .ne 7, 3, [25], 0), none, none, some (.iconst (-1), 1, [], (-1)), some (.goto 15, 3, [37], 0), none, none, some (.aload_n 0, 1, [0], 0), some (.getfield 12, 3, [4, 0, 1, 0, 44], 0), none, none, some (.getfield 188, 3, [2, 8, 1, 1, 36], 0), none, none, some (.getfield 234, 3, [1, 3, 1, 1, 9], 0), none, none, some (.iload_n 3, 1, [3], 0), some (.iaload, 1, [], 0), some (.ireturn, 1, [0, 0, 1], 0)]]
def cd_73 : List (List (Option IcM)) := [[some (.aload_n 0, 1, [0], 0), some (.getfield 12, 3, [4, 0, 1, 0, 44], 0), none, none, some (.getfield 188, 3, [2, 8, 1, 1, 36], 0), none, none, some (.getfield 237, 3, [1, 0, 0, 1, 2], 0), none, none, some (.ireturn, 1, [0, 0, 1], 0)]]
def cd_74 : List (List (Option IcM)) := [[some (.iload_n 1, 1, [1], 0), some (.invokestatic 240, 3, [92, 1, 0, 0, 0, 0, 0, 34, 4], 0), none, none, some (.aload_n 0, 1, [0], 0), some (.getfield 12, 3, [4, 0, 1, 0, 44], 0), none, none, some (.getfield 188, 3, [2, 8, 1, 1, 36], 0), none, none, some (.iload_n 1, 1, [1], 0), some (.invokevirtual 243, 3, [12, 2, 3, 0, 0, 0, 0, 85, 1], 0), none, none, some (.ireturn, 1, [0, 0, 1], 0)]]
def cd_75 : List (List (Option IcM)) := [[some (.iload_n 1, 1, [1], 0), some (.invokestatic 208, 3, [89, 1, 0, 0, 0, 0, 0, 26, 4], 0), none, none, some (.aload_n 0, 1, [0], 0), some (.getfield 12, 3, [4, 0, 1, 0, 44], 0), none, none, some (.getfield 188, 3, [2, 8, 1, 1, 36], 0), none, none, some (.iload_n 1, 1, [1], 0), some (.invokevirtual 246, 3, [13, 2, 3, 0, 0, 0, 0, 83, 1], 0), none, none, some (.ireturn, 1, [0, 0, 1], 0)]]
def cd_76 : List (List (Option IcM)) := [[some (.iload_n 1, 1, [1], 0), some (.invokestatic 45, 3, [87, 1, 0, 0, 0, 0, 0, 40, 4], 0), none, none, some (.iload_n 2, 1, [2], 0), some (.invokestatic 49, 3, [88, 1, 0, 0, 0, 0, 0, 91, 4], 0), none, none, some (.iload_n 3, 1, [3], 0), some (.invokestatic 56, 3, [94, 1, 0, 0, 0, 0, 0, 92, 4], 0), none, none, some (.aload_n 0, 1, [0], 0), some (.getfield 12, 3, [4, 0, 1, 0, 44], 0), none, none, some (.iload_n 1, 1, [1], 0), some (.iload_n 3, 1, [3], 0), some (.iconst 1, 1, [], 1), some (.iload_n 2, 1, [2], 0), some (.iload_n 3, 1, [3], 0), some (.iconst 1, 1, [], 1), some (.invokevirtual 249, 3, [23, 7, 3, 0, 0, 0, 0, 93, 2], 0), none, none, some (.ireturn, 1, [0, 0, 1], 0)]]
def cd_78 : List (List (Option IcM)) := [[some (.aload_n 0, 1, [0], 0), some (.getfield 12, 3, [4, 0, 1, 0, 44], 0), none, none, some (.getfield 129, 3, [2, 0, 0, 1, 20], 0), none, none, some (.ireturn, 1, [0, 0, 1], 0)]]
def cd_79 : List (List (Option IcM)) := [[some (.iload_n 1, 1, [1], 0), some (.invokestatic 110, 3, [90, 1, 0, 0, 0, 0, 0, 27, 4], 0), none, none, some (.aload_n 0, 1, [0], 0), some (.getfield 12, 3, [4, 0, 1, 0, 44], 0), none, none, some (.getfield 118, 3, [2, 1, 1, 1, 22], 0), none, none, some (.iload_n 1, 1, [1], 0), some (.iaload, 1, [], 0), some (.ireturn, 1, [0, 0, 1], 0)]]
def cd_80 : List (List (Option IcM)) := [[some (.iload_n 1, 1, [1], 0), some (.invokestatic 45, 3, [87, 1, 0, 0, 0, 0, 0, 40, 4], 0), none, none, some (.aload_n 0, 1, [0], 0), some (.getfield 12, 3, [4, 0, 1, 0, 44], 0), none, none, some (.getfield 132, 3, [2, 2, 1, 1, 24], 0), none, none, some (.iload_n 1, 1, [1], 0), some (.baload, 1, [], 0), some (.ireturn, 1, [0, 0, 2], 0)]]
def cd_81 : List (List (Option IcM)) := [[some (.iconst 0, 1, [], 0), some (.istore_n 1, 1, [1], 0), some (.iconst 0, 1, [], 0), some (.istore_n 2, 1, [2], 0), some (.iload_n 2, 1, [2], 0), some (.bipush 18, 2, [], 18), none, some (.if_icmp .ge 23, 3, [30], 0), none, none, some (.aload_n 0, 1, [0], 0), some (.getfield 12, 3, [4, 0, 1, 0, 44], 0), none, none, some (.iload_n 2, 1, [2], 0), some (.invokevirtual 121, 3, [29, 2, 3, 0, 0, 0, 0, 61, 2], 0), none, none, some (.ifCond .eq 6, 3, [24], 0), none, none, some (.iinc 1 1, 3, [1], 1), none, none, some (.iinc 2 1, 3, [2], 1), none, none, some (.goto (-23), 3, [4], 0), none, none, some (.iload_n 1, 1, [1], 0), some (.ireturn, 1, [0, 0, 1], 0)]]
def cd_82 : List (List (Option IcM)) := [[some (.iconst 0, 1, [], 0), some (.istore_n 1, 1, [1], 0), some (.iconst 0, 1, [], 0), some (.istore_n 2, 1, [2], 0), some (.iload_n 2, 1, [2], 0), some (.bipush 18, 2, [], 18), none, some (.if_icmp .ge 23, 3, [30], 0), none, none, some (.aload_n 0, 1, [0], 0), some (.getfield 12, 3, [4, 0, 1, 0, 44], 0), none, none, some (.iload_n 2, 1, [2], 0), some (.invokevirtual 258, 3, [31, 2, 3, 0, 0, 0, 0, 88, 2], 0), none, none, some (.ifCond .eq 6, 3, [24], 0), none, none, some (.iinc 1 1, 3, [1], 1), none, none, some (.iinc 2 1, 3, [2], 1), none, none, some (.goto (-23), 3, [4], 0), none, none, some (.iload_n 1, 1, [1], 0), some (.ireturn, 1, [0, 0, 1], 0)]]
def cd_83 : List (List (Option IcM)) := [[some (.iload_n 1, 1, [1], 0), some (.ifCond .ge 14, 3, [15], 0), none, none, none, none, none, none, none, none, none, none, none, none, none, some (.iload_n 2, 1, [2], 0), some (.ifCond .lt 8, 3, [24], 0), none, none, some (.iload_n 2, 1, [2], 0), some (.iconst 4, 1, [], 4), some (.if_icmp .lt 14, 3, [35], 0), none, none, none, none, none, none, none, none, none, none, none, none, none, some (.aload_n 0, 1, [0], 0), some (.getfield 12, 3, [4, 0, 1, 0, 44], 0), none, none, some (.getfield 268, 3, [2, 9, 1, 1, 38], 0), none, none, some (.iload_n 1, 1, [1], 0), some (.iload_n 2, 1, [2], 0), some (.invokevirtual 272, 3, [3, 3, 3, 0, 0, 0, 0, 45, 0], 0), none, none, some (.ireturn, 1, [0, 0, 1], 0)]]
def cd_84 : List (List (Option IcM)) := [[some (.aload_n 0, 1, [0], 0), some (.getfield 12, 3, [4, 0, 1, 0, 44], 0), none, none, some (.getfield 268, 3, [2, 9, 1, 1, 38], 0), none, none, some (.getfield 277, 3, [0, 0, 0, 1, 14], 0), none, none, some (.ireturn, 1, [0, 0, 1], 0)]]
def cd_85 : List (List (Option IcM)) := [[some (.aload_n 0, 1, [0], 0), some (.getfield 23, 3, [4, 3, 0, 0, 47], 0), none, none, some (.ireturn, 1, [0, 0, 1], 0)]]
def cd_87 : List (List (Option IcM)) := [[some (.iload_n 0, 1, [0], 0), some (.ifCond .lt 9, 3, [10], 0), none, none, some (.iload_n 0, 1, [0], 0), some (.bipush 6, 2, [], 6), none, some (.if_icmp .lt 14, 3, [21], 0), none, none, none, none, none, none, none, none, none, none, none, none, none, some (.return_, 1, [0, 0, 0], 0)]]
def cd_88 : List (List (Option IcM)) := [[some (.iload_n 0, 1, [0], 0), some (.ifCond .lt 8, 3, [9], 0), none, none, some (.iload_n 0, 1, [0], 0), some (.iconst 3, 1, [], 3), some (.if_icmp .lt 14, 3, [20], 0), none, none, none, none, none, none, none, none, none, none, none, none, none, some (.return_, 1, [0, 0, 0], 0)]]
def cd_89 : List (List (Option IcM)) := [[some (.iload_n 0, 1, [0], 0), some (.ifCond .lt 9, 3, [10], 0), none, none, some (.iload_n 0, 1, [0], 0), some (.bipush 9, 2, [], 9), none, some (.if_icmp .lt 14, 3, [21], 0), none, none, none, none, none, none, none, none, none, none, none, none, none, some (.return_, 1, [0, 0, 0], 0)]]
def cd_90 : List (List (Option IcM)) := [[some (.iload_n 0, 1, [0], 0), some (.ifCond .lt 8, 3, [9], 0), none, none, some (.iload_n 0, 1, [0], 0), some (.iconst 2, 1, [], 2), some (.if_icmp .lt 14, 3, [20], 0), none, none, none, none, none, none, none, none, none, none, none, none, none, some (.return_, 1, [0, 0, 0], 0)]]
def cd_91 : List (List (Option IcM)) := [[some (.iload_n 0, 1, [0], 0), some (.invokestatic 208, 3, [89, 1, 0, 0, 0, 0, 0, 26, 4], 0), none, none, some (.iload_n 1, 1, [1], 0), some (.invokestatic 110, 3, [90, 1, 0, 0, 0, 0, 0, 27, 4], 0), none, none, some (.iload_n 0, 1, [0], 0), some (.iload_n 1, 1, [1], 0), some (.invokestatic 214, 3, [98, 2, 0, 0, 0, 0, 0, 28, 4], 0), none, none, some (.ireturn, 1, [0, 0, 1], 0)]]
def cd_92 : List (List (Option IcM)) := [[some (.iload_n 0, 1, [0], 0), some (.ifCond .lt 9, 3, [10], 0), none, none, some (.iload_n 0, 1, [0], 0), some (.bipush 10, 2, [], 10), none, some (.if_icmp .lt 14, 3, [21], 0), none, none, none, none, none, none, none, none, none, none, none, none, none, some (.return_, 1, [0, 0, 0], 0)]]
def cd_93 : List (List (Option IcM)) := [[some (.iload_n 0, 1, [0], 0), some (.invokestatic 240, 3, [92, 1, 0, 0, 0, 0, 0, 34, 4], 0), none, none, some (.iload_n 1, 1, [1], 0), some (.ifCond .lt 9, 3, [14], 0), none, none, some (.iload_n 1, 1, [1], 0), some (.bipush 100, 2, [], 100), none, some (.if_icmp .lt 14, 3, [25], 0), none, none, none, none, none, none, none, none, none, none, none, none, none, some (.iload_n 0, 1, [0], 0), some (.iload_n 1, 1, [1], 0), some (.invokestatic 290, 3, [100, 2, 0, 0, 0, 0, 0, 35, 4], 0), none, none, some (.ireturn, 1, [0, 0, 1], 0)]]
def cd_94 : List (List (Option IcM)) := [[some (.iload_n 0, 1, [0], 0), some (.ifCond .lt 10, 3, [11], 0), none, none, some (.iload_n 0, 1, [0], 0), some (.sipush 5000, 3, [], 5000), none, none, some (.if_icmp .le 14, 3, [22], 0), none, none, none, none, none, none, none, none, none, none, none, none, none, some (.return_, 1, [0, 0, 0], 0)]]
def cd_95 : List (List (Option IcM)) := [[some (.iload_n 0, 1, [0], 0), some (.ifCond .lt 21, 3, [22], 0), none, none, some (.iload_n 0, 1, [0], 0), some (.ldc_w 295, 3, [518], 100000), none, none, some (.if_icmp .gt 14, 3, [22], 0), none, none, some (.iload_n 1, 1, [1], 0), some (.ifCond .lt 10, 3, [22], 0), none, none, some (.iload_n 1, 1, [1], 0), some (.ldc_w 295, 3, [518], 100000), none, none, some (.if_icmp .le 14, 3, [33], 0), none, none, none, none, none, none, none, none, none, none, none, none, none, some (.iload_n 0, 1, [0], 0), some (.ifCond .eq 23, 3, [57], 0), none, none, some (.iload_n 1, 1, [1], 0), some (.ifCond .eq 19, 3, [57], 0), none, none, some (.iload_n 0, 1, [0], 0), some (.iload_n 1, 1, [1], 0), some (.if_icmp .le 14, 3, [57], 0), none, none, none, none, none, none, none, none, none, none, none, none, none, some (.return_, 1, [0, 0, 0], 0)]]
def cd_96 : List (List (Option IcM)) := [[some (.iload_n 0, 1, [0], 0), some (.ifCond .lt 8, 3, [9], 0), none, none, some (.iload_n 0, 1, [0], 0), some (.iconst 2, 1, [], 2), some (.if_icmp .lt 14, 3, [20], 0), none, none, none, none, none, none, none, none, none, none, none, none, none, some (.return_, 1, [0, 0, 0], 0)]]
def cd_97 : List (List (Option IcM)) := [[some (.aload_n 0, 1, [0], 0), some (.getfield 12, 3, [4, 0, 1, 0, 44], 0), none, none, some (.getfield 188, 3, [2, 8, 1, 1, 36], 0), none, none, some (.iload_n 1, 1, [1], 0), some (.invokevirtual 225, 3, [6, 2, 3, 0, 0, 0, 0, 36, 1], 0), none, none, some (.istore_n 2, 1, [2], 0), some (.iload_n 2, 1, [2], 0), some (.iconst (-1), 1, [], (-1)), some (.if_icmp .ne 14, 3, [28], 0), none, none, none, none, none, none, none, none, none, none, none, none, none, some (.iload_n 2, 1, [2], 0), some (.ireturn, 1, [0, 0, 1], 0)]]
def cd_98 : List (List (Option IcM)) := [[some (.iload_n 0, 1, [0], 0), some (.iconst 2, 1, [], 2), some (.imul, 1, [], 0), some (.iload_n 1, 1, [1], 0), some (.iadd, 1, [], 0), some (.ireturn, 1, [0, 0, 1], 0)]]
def cd_99 : List (List (Option IcM)) := [[some (.bipush 6, 2, [], 6), none, some (.iload_n 0, 1, [0], 0), some (.iadd, 1, [], 0), some (.ireturn, 1, [0, 0, 1], 0)]]
def cd_100 : List (List (Option IcM)) := [[some (.iload_n 0, 1, [0], 0), some (.bipush 100, 2, [], 100), none, some (.imul, 1, [], 0), some (.iload_n 1, 1, [1], 0), some (.iadd, 1, [], 0), some (.ireturn, 1, [0, 0, 1], 0)]]
def cd_101 : List (List (Option IcM)) := [[some (.aload_n 0, 1, [0], 0), some (.getfield 23, 3, [4, 3, 0, 0, 47], 0), none, none, some (.bipush 6, 2, [], 6), none, some (.if_icmp .ge 30, 3, [36], 0), none, none, some (.aload_n 0, 1, [0], 0), some (.getfield 19, 3, [4, 2, 1, 0, 46], 0), none, none, some (.aload_n 0, 1, [0], 0), some (.getfield 23, 3, [4, 3, 0, 0, 47], 0), none, none, some (.aaload, 1, [], 0), some (.aload_n 0, 1, [0], 0), some (.getfield 12, 3, [4, 0, 1, 0, 44], 0), none, none, some (.invokevirtual 179, 3, [15, 2, 3, 0, 0, 0, 0, 11, 2], 0), none, none, some (.aload_n 0, 1, [0], 0), some (.dup, 1, [], 0), some (.getfield 23, 3, [4, 3, 0, 0, 47], 0), none, none, some (.iconst 1, 1, [], 1), some (.iadd, 1, [], 0), some (.putfield 23, 3, [4, 3, 0, 0, 47, 0], 0), none, none, some (.return_, 1, [0, 0, 0], 0), some (.aload_n 0, 1, [0], 0), some (.getfield 19, 3, [4, 2, 1, 0, 46], 0), none, none, some (.iconst 0, 1, [], 0), some (.aaload, 1, [], 0), some (.astore_n 1, 1, [1], 0), some (.iconst 1, 1, [], 1), some (.istore_n 2, 1, [2], 0), some (.iload_n 2, 1, [2], 0), some (.bipush 6, 2, [], 6), none, some (.if_icmp .ge 23, 3, [71], 0), none, none, some (.aload_n 0, 1, [0], 0), some (.getfield 19, 3, [4, 2, 1, 0, 46], 0), none, none, some (.iload_n 2, 1, [2], 0), some (.iconst 1, 1, [], 1), some (.isub, 1, [], 0), some (.aload_n 0, 1, [0], 0), some (.getfield 19, 3, [4, 2, 1, 0, 46], 0), none, none, some (.iload_n 2, 1, [2], 0), some (.aaload, 1, [], 0)],
  [some (.aastore, 1, [], 0), some (.iinc 2 1, 3, [2], 1), none, none, some (.goto (-23), 3, [45], 0), none, none, some (.aload_n 0, 1, [0], 0), some (.getfield 19, 3, [4, 2, 1, 0, 46], 0), none, none, some (.iconst 5, 1, [], 5), some (.aload_n 1, 1, [1], 0), some (.aastore, 1, [], 0), some (.aload_n 1, 1, [1], 0), some (.aload_n 0, 1, [0], 0), some (.getfield 12, 3, [4, 0, 1, 0, 44], 0), none, none, some (.invokevirtual 179, 3, [15, 2, 3, 0, 0, 0, 0, 11, 2], 0), none, none, some (.return_, 1, [0, 0, 0], 0)]]
def cd_103 : List (List (Option IcM)) := [[some (.iconst 0, 1, [], 0), some (.istore_n 2, 1, [2], 0), some (.iconst 1, 1, [], 1), some (.istore_n 3, 1, [3], 0), some (.iload_n 3, 1, [3], 0), some (.iload_n 1, 1, [1], 0), some (.if_icmp .ge 20, 3, [26], 0), none, none, some (.aload_n 0, 1, [0], 0), some (.iload_n 3, 1, [3], 0), some (.iaload, 1, [], 0), some (.aload_n 0, 1, [0], 0), some (.iload_n 2, 1, [2], 0), some (.iaload, 1, [], 0), some (.if_icmp .le 5, 3, [20], 0), none, none, some (.iload_n 3, 1, [3], 0), some (.istore_n 2, 1, [2], 0), some (.iinc 3 1, 3, [3], 1), none, none, some (.goto (-19), 3, [4], 0), none, none, some (.aload_n 0, 1, [0], 0), some (.iload_n 2, 1, [2], 0), some (.iaload, 1, [], 0), some (.istore_n 3, 1, [3], 0), some (.aload_n 0, 1, [0], 0), some (.iload_n 2, 1, [2], 0), some (.iconst (-1), 1, [], (-1)), some (.iastore, 1, [], 0), some (.iload_n 3, 1, [3], 0), some (.ireturn, 1, [0, 0, 1], 0)]]
def cd_104 : List (List (Option IcM)) := [[some (.iload_n 1, 1, [1], 0), some (.aload_n 0, 1, [0], 0), some (.arraylength, 1, [], 0), some (.if_icmp .ge 9, 3, [12], 0), none, none, some (.aload_n 0, 1, [0], 0), some (.iload_n 1, 1, [1], 0), some (.iaload, 1, [], 0), some (.goto 11, 3, [20], 0), none, none, some (.ldc 7, 2, [332], 1812433253), none, some (.iload_n 1, 1, [1], 0), some (.sipush 131, 3, [], 131), none, none, some (.iadd, 1, [], 0), some (.imul, 1, [], 0), some (.ireturn, 1, [0, 0, 1], 0)]]
def cd_105 : List (List (Option IcM)) := [[some (.iload_n 0, 1, [0], 0), some (.ldc 8, 2, [453], 2147483647), none, some (.iand, 1, [], 0), some (.iload_n 1, 1, [1], 0), some (.irem, 1, [], 0), some (.ireturn, 1, [0, 0, 1], 0)]]
def cd_106 : List (List (Option IcM)) := [[some (.ldc2_w 9, 3, [340], 29), none, none, some (.aload_n 0, 1, [0], 0), some (.invokevirtual 11, 3, [78, 1, 2, 0, 0, 0, 0, 19, 4], 0), none, none, some (.i2l, 1, [], 0), some (.ladd, 1, [], 0), some (.lstore_n 1, 1, [1], 0), some (.iconst 0, 1, [], 0), some (.istore_n 3, 1, [3], 0), some (.iload_n 3, 1, [3], 0), some (.bipush 18, 2, [], 18), none, some (.if_icmp .ge 77, 3, [92], 0), none, none, some (.ldc2_w 17, 3, [336], 31), none, none, some (.ldc2_w 17, 3, [336], 31), none, none, some (.lload_n 1, 1, [1], 0), some (.lmul, 1, [], 0), some (.aload_n 0, 1, [0], 0), some (.iload_n 3, 1, [3], 0), some (.iconst 2, 1, [], 2), some (.idiv, 1, [], 0), some (.iload_n 3, 1, [3], 0), some (.iconst 2, 1, [], 2), some (.irem, 1, [], 0), some (.invokevirtual 19, 3, [61, 3, 2, 0, 0, 0, 0, 24, 4], 0), none, none, some (.i2l, 1, [], 0), some (.ladd, 1, [], 0), some (.lmul, 1, [], 0), some (.aload_n 0, 1, [0], 0), some (.iload_n 3, 1, [3], 0), some (.iconst 2, 1, [], 2), some (.idiv, 1, [], 0), some (.iload_n 3, 1, [3], 0), some (.iconst 2, 1, [], 2), some (.irem, 1, [], 0), some (.invokevirtual 23, 3, [65, 3, 2, 0, 0, 0, 0, 29, 4], 0), none, none, some (.i2l, 1, [], 0), some (.ladd, 1, [], 0), some (.lstore_n 1, 1, [1], 0), some (.ldc2_w 17, 3, [336], 31), none, none, some (.ldc2_w 17, 3, [336], 31), none, none, some (.lload_n 1, 1, [1], 0), some (.lmul, 1, [], 0), some (.aload_n 0, 1, [0], 0), some (.iload_n 3, 1, [3], 0), some (.iconst 2, 1, [], 2), some (.idiv, 1, [], 0)],
  [some (.iload_n 3, 1, [3], 0), some (.iconst 2, 1, [], 2), some (.irem, 1, [], 0), some (.invokevirtual 26, 3, [63, 3, 2, 0, 0, 0, 0, 30, 4], 0), none, none, some (.i2l, 1, [], 0), some (.ladd, 1, [], 0), some (.lmul, 1, [], 0), some (.aload_n 0, 1, [0], 0), some (.iload_n 3, 1, [3], 0), some (.iconst 2, 1, [], 2), some (.idiv, 1, [], 0), some (.iload_n 3, 1, [3], 0), some (.iconst 2, 1, [], 2), some (.irem, 1, [], 0), some (.invokevirtual 29, 3, [64, 3, 2, 0, 0, 0, 0, 31, 4], 0), none, none, some (.i2l, 1, [], 0), some (.ladd, 1, [], 0), some (.lstore_n 1, 1, [1], 0), some (.iinc 3 1, 3, [3], 1), none, none, some (.goto (-77), 3, [12], 0), none, none, some (.iconst 0, 1, [], 0), some (.istore_n 3, 1, [3], 0), some (.iload_n 3, 1, [3], 0), some (.bipush 20, 2, [], 20), none, some (.if_icmp .ge 65, 3, [162], 0), none, none, some (.ldc2_w 17, 3, [336], 31), none, none, some (.ldc2_w 17, 3, [336], 31), none, none, some (.ldc2_w 17, 3, [336], 31), none, none, some (.lload_n 1, 1, [1], 0), some (.lmul, 1, [], 0), some (.aload_n 0, 1, [0], 0), some (.iload_n 3, 1, [3], 0), some (.bipush 10, 2, [], 10), none, some (.idiv, 1, [], 0), some (.iload_n 3, 1, [3], 0), some (.bipush 10, 2, [], 10), none, some (.irem, 1, [], 0), some (.invokevirtual 32, 3, [70, 3, 2, 0, 0, 0, 0, 32, 4], 0), none, none, some (.i2l, 1, [], 0), some (.ladd, 1, [], 0), some (.lmul, 1, [], 0), some (.aload_n 0, 1, [0], 0), some (.iload_n 3, 1, [3], 0)],
  [some (.bipush 10, 2, [], 10), none, some (.idiv, 1, [], 0), some (.iload_n 3, 1, [3], 0), some (.bipush 10, 2, [], 10), none, some (.irem, 1, [], 0), some (.invokevirtual 35, 3, [71, 3, 2, 0, 0, 0, 0, 37, 4], 0), none, none, some (.i2l, 1, [], 0), some (.ladd, 1, [], 0), some (.lmul, 1, [], 0), some (.aload_n 0, 1, [0], 0), some (.iload_n 3, 1, [3], 0), some (.bipush 10, 2, [], 10), none, some (.idiv, 1, [], 0), some (.iload_n 3, 1, [3], 0), some (.bipush 10, 2, [], 10), none, some (.irem, 1, [], 0), some (.invokevirtual 38, 3, [72, 3, 2, 0, 0, 0, 0, 38, 4], 0), none, none, some (.i2l, 1, [], 0), some (.ladd, 1, [], 0), some (.lstore_n 1, 1, [1], 0), some (.iinc 3 1, 3, [3], 1), none, none, some (.goto (-65), 3, [94], 0), none, none, some (.iconst 0, 1, [], 0), some (.istore_n 3, 1, [3], 0), some (.iload_n 3, 1, [3], 0), some (.bipush 6, 2, [], 6), none, some (.if_icmp .ge 30, 3, [197], 0), none, none, some (.ldc2_w 17, 3, [336], 31), none, none, some (.lload_n 1, 1, [1], 0), some (.lmul, 1, [], 0), some (.aload_n 0, 1, [0], 0), some (.iload_n 3, 1, [3], 0), some (.invokevirtual 41, 3, [80, 2, 2, 0, 0, 0, 0, 39, 4], 0), none, none, some (.ifCond .eq 7, 3, [187], 0), none, none, some (.iconst 1, 1, [], 1), some (.goto 4, 3, [188], 0), none, none, some (.iconst 0, 1, [], 0), some (.i2l, 1, [], 0), some (.ladd, 1, [], 0), some (.lstore_n 1, 1, [1], 0), some (.iinc 3 1, 3, [3], 1)],
  [none, none, some (.goto (-30), 3, [164], 0), none, none, some (.ldc2_w 17, 3, [336], 31), none, none, some (.ldc2_w 17, 3, [336], 31), none, none, some (.lload_n 1, 1, [1], 0), some (.lmul, 1, [], 0), some (.aload_n 0, 1, [0], 0), some (.invokevirtual 45, 3, [73, 1, 2, 0, 0, 0, 0, 41, 4], 0), none, none, some (.i2l, 1, [], 0), some (.ladd, 1, [], 0), some (.lmul, 1, [], 0), some (.bipush 100, 2, [], 100), none, some (.aload_n 0, 1, [0], 0), some (.iconst 0, 1, [], 0), some (.invokevirtual 48, 3, [79, 2, 2, 0, 0, 0, 0, 42, 4], 0), none, none, some (.imul, 1, [], 0), some (.i2l, 1, [], 0), some (.ladd, 1, [], 0), some (.aload_n 0, 1, [0], 0), some (.iconst 1, 1, [], 1), some (.invokevirtual 48, 3, [79, 2, 2, 0, 0, 0, 0, 42, 4], 0), none, none, some (.i2l, 1, [], 0), some (.ladd, 1, [], 0), some (.lreturn, 1, [0, 0, 3], 0)]]
def cd_107 : List (List (Option IcM)) := [[some (.ldc2_w 17, 3, [336], 31), none, none, some (.aload_n 0, 1, [0], 0), some (.invokestatic 52, 3, [106, 1, 0, 0, 0, 0, 0, 23, 5], 0), none, none, some (.lmul, 1, [], 0), some (.aload_n 0, 1, [0], 0), some (.invokevirtual 58, 3, [84, 1, 2, 0, 0, 0, 0, 43, 4], 0), none, none, some (.i2l, 1, [], 0), some (.ladd, 1, [], 0), some (.lstore_n 1, 1, [1], 0), some (.iconst 0, 1, [], 0), some (.istore_n 3, 1, [3], 0), some (.iload_n 3, 1, [3], 0), some (.bipush 48, 2, [], 48), none, some (.if_icmp .ge 27, 3, [47], 0), none, none, some (.ldc2_w 17, 3, [336], 31), none, none, some (.lload_n 1, 1, [1], 0), some (.lmul, 1, [], 0), some (.aload_n 0, 1, [0], 0), some (.iload_n 3, 1, [3], 0), some (.iconst 4, 1, [], 4), some (.idiv, 1, [], 0), some (.iload_n 3, 1, [3], 0), some (.iconst 4, 1, [], 4), some (.irem, 1, [], 0), some (.invokevirtual 61, 3, [83, 3, 2, 0, 0, 0, 0, 44, 4], 0), none, none, some (.i2l, 1, [], 0), some (.ladd, 1, [], 0), some (.lstore_n 1, 1, [1], 0), some (.iinc 3 1, 3, [3], 1), none, none, some (.goto (-27), 3, [17], 0), none, none, some (.iconst 0, 1, [], 0), some (.istore_n 3, 1, [3], 0), some (.iload_n 3, 1, [3], 0), some (.bipush 9, 2, [], 9), none, some (.if_icmp .ge 22, 3, [74], 0), none, none, some (.ldc2_w 17, 3, [336], 31), none, none, some (.lload_n 1, 1, [1], 0), some (.lmul, 1, [], 0), some (.aload_n 0, 1, [0], 0), some (.iload_n 3, 1, [3], 0), some (.invokevirtual 64, 3, [68, 2, 2, 0, 0, 0, 0, 46, 4], 0), none],
  [none, some (.i2l, 1, [], 0), some (.ladd, 1, [], 0), some (.lstore_n 1, 1, [1], 0), some (.iinc 3 1, 3, [3], 1), none, none, some (.goto (-22), 3, [49], 0), none, none, some (.lload_n 1, 1, [1], 0), some (.lreturn, 1, [0, 0, 3], 0)]]
def cd_108 : List (List (Option IcM)) := [[some (.iconst 0, 1, [], 0), some (.istore_n 1, 1, [1], 0), some (.iconst 0, 1, [], 0), some (.istore_n 2, 1, [2], 0), some (.iload_n 2, 1, [2], 0), some (.bipush 9, 2, [], 9), none, some (.if_icmp .ge 17, 3, [24], 0), none, none, some (.iload_n 1, 1, [1], 0), some (.aload_n 0, 1, [0], 0), some (.iload_n 2, 1, [2], 0), some (.invokevirtual 64, 3, [68, 2, 2, 0, 0, 0, 0, 46, 4], 0), none, none, some (.iadd, 1, [], 0), some (.istore_n 1, 1, [1], 0), some (.iinc 2 1, 3, [2], 1), none, none, some (.goto (-17), 3, [4], 0), none, none, some (.iload_n 1, 1, [1], 0), some (.ireturn, 1, [0, 0, 1], 0)]]
def cd_109 : List (List (Option IcM)) := [[some (.iload_n 2, 1, [2], 0), some (.iconst 2, 1, [], 2), some (.invokestatic 67, 3, [105, 2, 0, 0, 0, 0, 0, 48, 5], 0), none, none, some (.istore_n 3, 1, [3], 0), some (.iload_n 2, 1, [2], 0), some (.iconst 1, 1, [], 1), some (.ishr, 1, [], 0), some (.bipush 10, 2, [], 10), none, some (.invokestatic 67, 3, [105, 2, 0, 0, 0, 0, 0, 48, 5], 0), none, none, some (.istore 4, 2, [4], 0), none, some (.iload_n 2, 1, [2], 0), some (.iconst 5, 1, [], 5), some (.ishr, 1, [], 0), some (.iload_n 2, 1, [2], 0), some (.bipush 19, 2, [], 19), none, some (.ishr, 1, [], 0), some (.iconst 1, 1, [], 1), some (.iand, 1, [], 0), some (.ifCond .ne 9, 3, [34], 0), none, none, some (.sipush 5001, 3, [], 5001), none, none, some (.goto 5, 3, [36], 0), none, none, some (.bipush 50, 2, [], 50), none, some (.invokestatic 67, 3, [105, 2, 0, 0, 0, 0, 0, 48, 5], 0), none, none, some (.istore 5, 2, [5], 0), none, some (.aload_n 0, 1, [0], 0), some (.iload_n 3, 1, [3], 0), some (.iload 4, 2, [4], 0), none, some (.invokevirtual 32, 3, [70, 3, 2, 0, 0, 0, 0, 32, 4], 0), none, none, some (.iconst (-1), 1, [], (-1)), some (.if_icmp .ne 26, 3, [75], 0), none, none, some (.aload_n 0, 1, [0], 0), some (.iload_n 1, 1, [1], 0), some (.bipush 6, 2, [], 6), none, some (.invokestatic 67, 3, [105, 2, 0, 0, 0, 0, 0, 48, 5], 0), none, none, some (.iload_n 1, 1, [1], 0), some (.iconst 3, 1, [], 3), some (.ishr, 1, [], 0), some (.iconst 3, 1, [], 3), some (.invokestatic 67, 3, [105, 2, 0, 0, 0, 0, 0, 48, 5], 0)],
  [none, none, some (.iload_n 3, 1, [3], 0), some (.iload 4, 2, [4], 0), none, some (.iload 5, 2, [5], 0), none, some (.invokevirtual 70, 3, [45, 6, 2, 0, 0, 0, 0, 99, 4], 0), none, none, some (.ireturn, 1, [0, 0, 1], 0), some (.iload_n 1, 1, [1], 0), some (.iconst 5, 1, [], 5), some (.ishr, 1, [], 0), some (.bipush 8, 2, [], 8), none, some (.invokestatic 67, 3, [105, 2, 0, 0, 0, 0, 0, 48, 5], 0), none, none, some (.tableswitch 57 0 2 #[25, 36, 36], 25, [140, 0, 108, 1, 119, 2, 119], 0), none, none, none, none, none, none, none, none, none, none, none, none, none, none, none, none, none, none, none, none, none, none, none, none, some (.bipush 10, 2, [], 10), none, some (.aload_n 0, 1, [0], 0), some (.iload_n 3, 1, [3], 0), some (.iload 4, 2, [4], 0), none, some (.invokevirtual 74, 3, [47, 3, 2, 0, 0, 0, 0, 109, 4], 0), none, none, some (.iadd, 1, [], 0), some (.ireturn, 1, [0, 0, 1], 0), some (.aload_n 0, 1, [0], 0), some (.iload_n 3, 1, [3], 0), some (.iload 4, 2, [4], 0), none, some (.iload_n 1, 1, [1], 0), some (.bipush 6, 2, [], 6), none, some (.invokestatic 67, 3, [105, 2, 0, 0, 0, 0, 0, 48, 5], 0), none],
  [none, some (.iload_n 1, 1, [1], 0), some (.iconst 3, 1, [], 3), some (.ishr, 1, [], 0), some (.iconst 3, 1, [], 3), some (.invokestatic 67, 3, [105, 2, 0, 0, 0, 0, 0, 48, 5], 0), none, none, some (.invokevirtual 77, 3, [48, 5, 2, 0, 0, 0, 0, 113, 4], 0), none, none, some (.ireturn, 1, [0, 0, 1], 0), some (.aload_n 0, 1, [0], 0), some (.iload_n 3, 1, [3], 0), some (.iload 4, 2, [4], 0), none, some (.iload 5, 2, [5], 0), none, some (.invokevirtual 81, 3, [46, 4, 2, 0, 0, 0, 0, 115, 4], 0), none, none, some (.ireturn, 1, [0, 0, 1], 0)]]
def cd_110 : List (List (Option IcM)) := [[some (.iload_n 2, 1, [2], 0), some (.bipush 9, 2, [], 9), none, some (.invokestatic 67, 3, [105, 2, 0, 0, 0, 0, 0, 48, 5], 0), none, none, some (.istore_n 3, 1, [3], 0), some (.iload_n 2, 1, [2], 0), some (.iconst 4, 1, [], 4), some (.ishr, 1, [], 0), some (.iconst 3, 1, [], 3), some (.invokestatic 67, 3, [105, 2, 0, 0, 0, 0, 0, 48, 5], 0), none, none, some (.ifCond .ne 7, 3, [21], 0), none, none, some (.iconst 1, 1, [], 1), some (.goto 4, 3, [22], 0), none, none, some (.iconst 0, 1, [], 0), some (.istore 4, 2, [4], 0), none, some (.iload_n 1, 1, [1], 0), some (.bipush 8, 2, [], 8), none, some (.invokestatic 67, 3, [105, 2, 0, 0, 0, 0, 0, 48, 5], 0), none, none, some (.tableswitch 141 0 5 #[38, 58, 82, 108, 108, 121], 38, [171, 0, 68, 1, 88, 2, 112, 3, 138, 4, 138, 5, 151], 0), none, none, none, none, none, none, none, none, none, none, none, none, none, none, none, none, none, none, none, none, none, none, none, none, none, none, none, none, none, none, none, none, none],
  [none, none, none, none, some (.aload_n 0, 1, [0], 0), some (.iload_n 2, 1, [2], 0), some (.iconst 2, 1, [], 2), some (.invokestatic 67, 3, [105, 2, 0, 0, 0, 0, 0, 48, 5], 0), none, none, some (.iconst 1, 1, [], 1), some (.iload_n 2, 1, [2], 0), some (.iconst 1, 1, [], 1), some (.ishr, 1, [], 0), some (.bipush 12, 2, [], 12), none, some (.invokestatic 67, 3, [105, 2, 0, 0, 0, 0, 0, 48, 5], 0), none, none, some (.iadd, 1, [], 0), some (.invokevirtual 85, 3, [50, 3, 2, 0, 0, 0, 0, 49, 4], 0), none, none, some (.ireturn, 1, [0, 0, 1], 0), some (.aload_n 0, 1, [0], 0), some (.iload_n 2, 1, [2], 0), some (.bipush 6, 2, [], 6), none, some (.invokestatic 67, 3, [105, 2, 0, 0, 0, 0, 0, 48, 5], 0), none, none, some (.iload_n 2, 1, [2], 0), some (.iconst 5, 1, [], 5), some (.ishr, 1, [], 0), some (.iconst 3, 1, [], 3), some (.iand, 1, [], 0), some (.ifCond .ne 7, 3, [107], 0), none, none, some (.iconst 1, 1, [], 1), some (.goto 4, 3, [108], 0), none, none, some (.iconst 0, 1, [], 0), some (.invokevirtual 88, 3, [52, 3, 2, 0, 0, 0, 0, 51, 4], 0), none, none, some (.ireturn, 1, [0, 0, 1], 0), some (.aload_n 0, 1, [0], 0), some (.iload_n 3, 1, [3], 0), some (.iload 4, 2, [4], 0), none, some (.invokevirtual 23, 3, [65, 3, 2, 0, 0, 0, 0, 29, 4], 0), none, none, some (.ifCond .ge 11, 3, [130], 0), none, none, some (.aload_n 0, 1, [0], 0), some (.iconst 1, 1, [], 1), some (.invokevirtual 92, 3, [53, 2, 2, 0, 0, 0, 0, 53, 4], 0), none, none, some (.goto 10, 3, [137], 0)],
  [none, none, some (.aload_n 0, 1, [0], 0), some (.iload_n 3, 1, [3], 0), some (.iload 4, 2, [4], 0), none, some (.invokevirtual 95, 3, [51, 3, 2, 0, 0, 0, 0, 60, 4], 0), none, none, some (.ireturn, 1, [0, 0, 1], 0), some (.aload_n 0, 1, [0], 0), some (.iconst 1, 1, [], 1), some (.iload_n 2, 1, [2], 0), some (.bipush 6, 2, [], 6), none, some (.invokestatic 67, 3, [105, 2, 0, 0, 0, 0, 0, 48, 5], 0), none, none, some (.iadd, 1, [], 0), some (.invokevirtual 92, 3, [53, 2, 2, 0, 0, 0, 0, 53, 4], 0), none, none, some (.ireturn, 1, [0, 0, 1], 0), some (.iload_n 2, 1, [2], 0), some (.iconst 3, 1, [], 3), some (.iand, 1, [], 0), some (.ifCond .ne 11, 3, [165], 0), none, none, some (.aload_n 0, 1, [0], 0), some (.iconst 0, 1, [], 0), some (.invokevirtual 98, 3, [60, 2, 2, 0, 0, 0, 0, 62, 4], 0), none, none, some (.goto 8, 3, [170], 0), none, none, some (.aload_n 0, 1, [0], 0), some (.iconst 1, 1, [], 1), some (.invokevirtual 92, 3, [53, 2, 2, 0, 0, 0, 0, 53, 4], 0), none, none, some (.ireturn, 1, [0, 0, 1], 0), some (.iload_n 2, 1, [2], 0), some (.bipush 7, 2, [], 7), none, some (.ishr, 1, [], 0), some (.iconst 4, 1, [], 4), some (.invokestatic 67, 3, [105, 2, 0, 0, 0, 0, 0, 48, 5], 0), none, none, some (.ifCond .ne 7, 3, [186], 0), none, none, some (.iconst 0, 1, [], 0), some (.goto 26, 3, [209], 0), none, none, some (.iconst 1, 1, [], 1), some (.iload_n 2, 1, [2], 0), some (.bipush 9, 2, [], 9), none, some (.ishr, 1, [], 0), some (.iload 4, 2, [4], 0)],
  [none, some (.iconst 1, 1, [], 1), some (.if_icmp .ne 8, 3, [202], 0), none, none, some (.bipush 7, 2, [], 7), none, some (.goto 6, 3, [205], 0), none, none, some (.sipush 9000, 3, [], 9000), none, none, some (.invokestatic 67, 3, [105, 2, 0, 0, 0, 0, 0, 48, 5], 0), none, none, some (.iadd, 1, [], 0), some (.istore 5, 2, [5], 0), none, some (.aload_n 0, 1, [0], 0), some (.iload_n 3, 1, [3], 0), some (.iload 4, 2, [4], 0), none, some (.iload_n 2, 1, [2], 0), some (.bipush 12, 2, [], 12), none, some (.ishr, 1, [], 0), some (.iload 5, 2, [5], 0), none, some (.ifCond .ne 9, 3, [230], 0), none, none, some (.sipush 400, 3, [], 400), none, none, some (.goto 7, 3, [234], 0), none, none, some (.iload 5, 2, [5], 0), none, some (.iconst 1, 1, [], 1), some (.iadd, 1, [], 0), some (.invokestatic 67, 3, [105, 2, 0, 0, 0, 0, 0, 48, 5], 0), none, none, some (.iload 5, 2, [5], 0), none, some (.invokevirtual 101, 3, [49, 5, 2, 0, 0, 0, 0, 63, 4], 0), none, none, some (.ireturn, 1, [0, 0, 1], 0)]]
def cd_111 : List (List (Option IcM)) := [[some (.iconst 0, 1, [], 0), some (.istore_n 1, 1, [1], 0), some (.iconst 0, 1, [], 0), some (.istore_n 2, 1, [2], 0), some (.iconst 1, 1, [], 1), some (.istore_n 3, 1, [3], 0), some (.iconst 0, 1, [], 0), some (.istore 4, 2, [4], 0), none, some (.iload 4, 2, [4], 0), none, some (.bipush 18, 2, [], 18), none, some (.if_icmp .ge 286, 3, [299], 0), none, none, some (.iload 4, 2, [4], 0), none, some (.iconst 2, 1, [], 2), some (.idiv, 1, [], 0), some (.istore 5, 2, [5], 0), none, some (.iload 4, 2, [4], 0), none, some (.iconst 2, 1, [], 2), some (.irem, 1, [], 0), some (.istore 6, 2, [6], 0), none, some (.aload_n 0, 1, [0], 0), some (.iload 5, 2, [5], 0), none, some (.iload 6, 2, [6], 0), none, some (.invokevirtual 19, 3, [61, 3, 2, 0, 0, 1, 4, 24, 4], 0), none, none, some (.istore 7, 2, [7], 0), none, some (.aload_n 0, 1, [0], 0), some (.iload 5, 2, [5], 0), none, some (.iload 6, 2, [6], 0), none, some (.invokevirtual 26, 3, [63, 3, 2, 0, 0, 1, 4, 30, 4], 0), none, none, some (.istore 8, 2, [8], 0), none, some (.aload_n 0, 1, [0], 0), some (.iload 5, 2, [5], 0), none, some (.iload 6, 2, [6], 0), none, some (.invokevirtual 23, 3, [65, 3, 2, 0, 0, 1, 4, 29, 4], 0), none, none, some (.istore 9, 2, [9], 0), none, some (.aload_n 0, 1, [0], 0), some (.iload 5, 2, [5], 0), none, some (.iload 6, 2, [6], 0), none, some (.invokevirtual 104, 3, [66, 3, 2, 0, 0, 1, 4, 67, 4], 0)],
  [none, none, some (.istore 10, 2, [10], 0), none, some (.iload 9, 2, [9], 0), none, some (.ifCond .lt 23, 3, [93], 0), none, none, some (.aload_n 0, 1, [0], 0), some (.invokevirtual 11, 3, [78, 1, 2, 0, 0, 1, 4, 19, 4], 0), none, none, some (.iload 9, 2, [9], 0), none, some (.isub, 1, [], 0), some (.aload_n 0, 1, [0], 0), some (.iload 6, 2, [6], 0), none, some (.invokevirtual 48, 3, [79, 2, 2, 0, 0, 1, 4, 42, 4], 0), none, none, some (.if_icmp .lt 7, 3, [93], 0), none, none, some (.iconst 1, 1, [], 1), some (.goto 4, 3, [94], 0), none, none, some (.iconst 0, 1, [], 0), some (.istore 11, 2, [11], 0), none, some (.aload_n 0, 1, [0], 0), some (.iload 5, 2, [5], 0), none, some (.iload 6, 2, [6], 0), none, some (.invokevirtual 29, 3, [64, 3, 2, 0, 0, 1, 4, 31, 4], 0), none, none, some (.iload 7, 2, [7], 0), none, some (.isub, 1, [], 0), some (.istore 12, 2, [12], 0), none, some (.iload_n 3, 1, [3], 0), some (.ifCond .eq 98, 3, [208], 0), none, none, some (.iload 7, 2, [7], 0), none, some (.aload_n 0, 1, [0], 0), some (.iload 5, 2, [5], 0), none, some (.iload 6, 2, [6], 0), none, some (.invokevirtual 107, 3, [62, 3, 2, 0, 0, 1, 4, 70, 4], 0), none, none, some (.if_icmp .ne 85, 3, [208], 0), none, none, some (.iload 9, 2, [9], 0), none],
  [some (.ifCond .lt 7, 3, [135], 0), none, none, some (.iconst 1, 1, [], 1), some (.goto 4, 3, [136], 0), none, none, some (.iconst 0, 1, [], 0), some (.iload 8, 2, [8], 0), none, some (.ifCond .eq 14, 3, [152], 0), none, none, some (.iload 7, 2, [7], 0), none, some (.iload 8, 2, [8], 0), none, some (.if_icmp .le 7, 3, [152], 0), none, none, some (.iconst 1, 1, [], 1), some (.goto 4, 3, [153], 0), none, none, some (.iconst 0, 1, [], 0), some (.if_icmp .ne 55, 3, [208], 0), none, none, some (.iload 9, 2, [9], 0), none, some (.aload_n 0, 1, [0], 0), some (.invokevirtual 11, 3, [78, 1, 2, 0, 0, 1, 4, 19, 4], 0), none, none, some (.if_icmp .gt 46, 3, [208], 0), none, none, some (.iload 10, 2, [10], 0), none, some (.ifCond .ne 7, 3, [174], 0), none, none, some (.iconst 1, 1, [], 1), some (.goto 4, 3, [175], 0), none, none, some (.iconst 0, 1, [], 0), some (.iload 11, 2, [11], 0), none, some (.if_icmp .ne 31, 3, [208], 0), none, none, some (.iload 10, 2, [10], 0), none, some (.iconst (-1), 1, [], (-1)), some (.if_icmp .ne 7, 3, [190], 0), none, none, some (.iconst 1, 1, [], 1), some (.goto 4, 3, [191], 0), none, none, some (.iconst 0, 1, [], 0), some (.iload 9, 2, [9], 0)],
  [none, some (.ifCond .ge 7, 3, [200], 0), none, none, some (.iconst 1, 1, [], 1), some (.goto 4, 3, [201], 0), none, none, some (.iconst 0, 1, [], 0), some (.if_icmp .ne 7, 3, [208], 0), none, none, some (.iconst 1, 1, [], 1), some (.goto 4, 3, [209], 0), none, none, some (.iconst 0, 1, [], 0), some (.istore_n 3, 1, [3], 0), some (.iload_n 3, 1, [3], 0), some (.ifCond .eq 54, 3, [265], 0), none, none, some (.aload_n 0, 1, [0], 0), some (.iload 5, 2, [5], 0), none, some (.iload 6, 2, [6], 0), none, some (.invokevirtual 110, 3, [67, 3, 2, 0, 0, 1, 4, 74, 4], 0), none, none, some (.iload 11, 2, [11], 0), none, some (.ifCond .eq 7, 3, [231], 0), none, none, some (.iconst 0, 1, [], 0), some (.goto 30, 3, [258], 0), none, none, some (.aload_n 0, 1, [0], 0), some (.iload 5, 2, [5], 0), none, some (.iload 6, 2, [6], 0), none, some (.invokevirtual 29, 3, [64, 3, 2, 0, 0, 1, 4, 31, 4], 0), none, none, some (.ifCond .ne 8, 3, [247], 0), none, none, some (.bipush (-2), 2, [], (-2)), none, some (.goto 14, 3, [258], 0), none, none, some (.iload 12, 2, [12], 0), none, some (.ifCond .ge 7, 3, [256], 0), none, none, some (.iconst 0, 1, [], 0), some (.goto 5, 3, [258], 0), none, none],
  [some (.iload 12, 2, [12], 0), none, some (.if_icmp .ne 7, 3, [265], 0), none, none, some (.iconst 1, 1, [], 1), some (.goto 4, 3, [266], 0), none, none, some (.iconst 0, 1, [], 0), some (.istore_n 3, 1, [3], 0), some (.iload_n 1, 1, [1], 0), some (.iload 9, 2, [9], 0), none, some (.ifCond .lt 7, 3, [277], 0), none, none, some (.iconst 1, 1, [], 1), some (.goto 4, 3, [278], 0), none, none, some (.iconst 0, 1, [], 0), some (.iadd, 1, [], 0), some (.istore_n 1, 1, [1], 0), some (.iload_n 2, 1, [2], 0), some (.iload 11, 2, [11], 0), none, some (.ifCond .eq 7, 3, [290], 0), none, none, some (.iconst 1, 1, [], 1), some (.goto 4, 3, [291], 0), none, none, some (.iconst 0, 1, [], 0), some (.iadd, 1, [], 0), some (.istore_n 2, 1, [2], 0), some (.iinc 4 1, 3, [4], 1), none, none, some (.goto (-287), 3, [9], 0), none, none, some (.iconst 4, 1, [], 4), some (.newarray .int, 2, [2, 1, 4], 0), none, some (.astore 4, 2, [4], 0), none, some (.iconst 0, 1, [], 0), some (.istore 5, 2, [5], 0), none, some (.iconst 0, 1, [], 0), some (.istore 6, 2, [6], 0), none, some (.iload 6, 2, [6], 0), none, some (.bipush 9, 2, [], 9), none, some (.if_icmp .ge 128, 3, [442], 0), none, none, some (.iconst 0, 1, [], 0), some (.istore 7, 2, [7], 0), none],
  [some (.iload 7, 2, [7], 0), none, some (.iconst 2, 1, [], 2), some (.if_icmp .ge 39, 3, [362], 0), none, none, some (.aload 4, 2, [4], 0), none, some (.iload 6, 2, [6], 0), none, some (.bipush 6, 2, [], 6), none, some (.if_icmp .ge 8, 3, [340], 0), none, none, some (.iload 7, 2, [7], 0), none, some (.goto 7, 3, [344], 0), none, none, some (.iconst 2, 1, [], 2), some (.iload 7, 2, [7], 0), none, some (.iadd, 1, [], 0), some (.dup2, 1, [], 0), some (.iaload, 1, [], 0), some (.aload_n 0, 1, [0], 0), some (.iload 6, 2, [6], 0), none, some (.iload 7, 2, [7], 0), none, some (.invokevirtual 19, 3, [61, 3, 2, 0, 0, 1, 4, 24, 4], 0), none, none, some (.iadd, 1, [], 0), some (.iastore, 1, [], 0), some (.iinc 7 1, 3, [7], 1), none, none, some (.goto (-39), 3, [320], 0), none, none, some (.iload_n 3, 1, [3], 0), some (.ifCond .eq 71, 3, [434], 0), none, none, some (.aload_n 0, 1, [0], 0), some (.iload 6, 2, [6], 0), none, some (.invokevirtual 113, 3, [69, 2, 2, 0, 0, 1, 4, 79, 4], 0), none, none, some (.ifCond .ne 7, 3, [379], 0), none, none, some (.iconst 1, 1, [], 1), some (.goto 4, 3, [380], 0), none, none, some (.iconst 0, 1, [], 0), some (.aload_n 0, 1, [0], 0), some (.iload 6, 2, [6], 0), none, some (.iconst 0, 1, [], 0)],
  [some (.invokevirtual 23, 3, [65, 3, 2, 0, 0, 1, 4, 29, 4], 0), none, none, some (.ifCond .ge 7, 3, [394], 0), none, none, some (.iconst 1, 1, [], 1), some (.goto 4, 3, [395], 0), none, none, some (.iconst 0, 1, [], 0), some (.if_icmp .ne 39, 3, [434], 0), none, none, some (.aload_n 0, 1, [0], 0), some (.iload 6, 2, [6], 0), none, some (.invokevirtual 116, 3, [75, 2, 2, 0, 0, 1, 4, 82, 4], 0), none, none, some (.ifCond .ge 7, 3, [411], 0), none, none, some (.iconst 1, 1, [], 1), some (.goto 4, 3, [412], 0), none, none, some (.iconst 0, 1, [], 0), some (.aload_n 0, 1, [0], 0), some (.iload 6, 2, [6], 0), none, some (.iconst 1, 1, [], 1), some (.invokevirtual 19, 3, [61, 3, 2, 0, 0, 1, 4, 24, 4], 0), none, none, some (.ifCond .ne 7, 3, [426], 0), none, none, some (.iconst 1, 1, [], 1), some (.goto 4, 3, [427], 0), none, none, some (.iconst 0, 1, [], 0), some (.if_icmp .ne 7, 3, [434], 0), none, none, some (.iconst 1, 1, [], 1), some (.goto 4, 3, [435], 0), none, none, some (.iconst 0, 1, [], 0), some (.istore_n 3, 1, [3], 0), some (.iinc 6 1, 3, [6], 1), none, none, some (.goto (-129), 3, [310], 0), none, none, some (.iconst 0, 1, [], 0), some (.istore 6, 2, [6], 0), none, some (.iload 6, 2, [6], 0), none, some (.bipush 10, 2, [], 10)],
  [none, some (.if_icmp .ge 20, 3, [469], 0), none, none, some (.iload 5, 2, [5], 0), none, some (.aload_n 0, 1, [0], 0), some (.iload 6, 2, [6], 0), none, some (.invokevirtual 119, 3, [74, 2, 2, 0, 0, 1, 4, 84, 4], 0), none, none, some (.iadd, 1, [], 0), some (.istore 5, 2, [5], 0), none, some (.iinc 6 1, 3, [6], 1), none, none, some (.goto (-21), 3, [445], 0), none, none, some (.iload_n 3, 1, [3], 0), some (.ifCond .eq 65, 3, [535], 0), none, none, some (.iload_n 1, 1, [1], 0), some (.aload_n 0, 1, [0], 0), some (.invokevirtual 122, 3, [81, 1, 2, 0, 0, 1, 4, 86, 4], 0), none, none, some (.if_icmp .ne 57, 3, [535], 0), none, none, some (.iload_n 2, 1, [2], 0), some (.aload_n 0, 1, [0], 0), some (.invokevirtual 125, 3, [82, 1, 2, 0, 0, 1, 4, 87, 4], 0), none, none, some (.if_icmp .ne 49, 3, [535], 0), none, none, some (.aload 4, 2, [4], 0), none, some (.iconst 0, 1, [], 0), some (.iaload, 1, [], 0), some (.aload 4, 2, [4], 0), none, some (.iconst 2, 1, [], 2), some (.iaload, 1, [], 0), some (.if_icmp .ne 38, 3, [535], 0), none, none, some (.aload 4, 2, [4], 0), none, some (.iconst 1, 1, [], 1), some (.iaload, 1, [], 0), some (.aload 4, 2, [4], 0), none, some (.iconst 3, 1, [], 3), some (.iaload, 1, [], 0), some (.if_icmp .ne 27, 3, [535], 0), none, none, some (.aload 4, 2, [4], 0)],
  [none, some (.iconst 1, 1, [], 1), some (.iaload, 1, [], 0), some (.aload_n 0, 1, [0], 0), some (.invokevirtual 45, 3, [73, 1, 2, 0, 0, 1, 4, 41, 4], 0), none, none, some (.if_icmp .ne 16, 3, [535], 0), none, none, some (.aload 4, 2, [4], 0), none, some (.iconst 0, 1, [], 0), some (.iaload, 1, [], 0), some (.iload 5, 2, [5], 0), none, some (.if_icmp .ne 7, 3, [535], 0), none, none, some (.iconst 1, 1, [], 1), some (.goto 4, 3, [536], 0), none, none, some (.iconst 0, 1, [], 0), some (.ireturn, 1, [1, 4, 2], 0)]]
def cd_112 : List (List (Option IcM)) := [[some (.bipush 54, 2, [], 54), none, some (.newarray .int, 2, [2, 1, 54], 0), none, some (.astore_n 3, 1, [3], 0), some (.iconst 0, 1, [], 0), some (.istore 4, 2, [4], 0), none, some (.iload 4, 2, [4], 0), none, some (.bipush 18, 2, [], 18), none, some (.if_icmp .ge 68, 3, [80], 0), none, none, some (.aload_n 3, 1, [3], 0), some (.iload 4, 2, [4], 0), none, some (.aload_n 0, 1, [0], 0), some (.iload 4, 2, [4], 0), none, some (.iconst 2, 1, [], 2), some (.idiv, 1, [], 0), some (.iload 4, 2, [4], 0), none, some (.iconst 2, 1, [], 2), some (.irem, 1, [], 0), some (.invokevirtual 19, 3, [61, 3, 2, 0, 0, 1, 54, 24, 4], 0), none, none, some (.iastore, 1, [], 0), some (.aload_n 3, 1, [3], 0), some (.bipush 18, 2, [], 18), none, some (.iload 4, 2, [4], 0), none, some (.iadd, 1, [], 0), some (.aload_n 0, 1, [0], 0), some (.iload 4, 2, [4], 0), none, some (.iconst 2, 1, [], 2), some (.idiv, 1, [], 0), some (.iload 4, 2, [4], 0), none, some (.iconst 2, 1, [], 2), some (.irem, 1, [], 0), some (.invokevirtual 110, 3, [67, 3, 2, 0, 0, 1, 54, 74, 4], 0), none, none, some (.iastore, 1, [], 0), some (.aload_n 3, 1, [3], 0), some (.bipush 36, 2, [], 36), none, some (.iload 4, 2, [4], 0), none, some (.iadd, 1, [], 0), some (.iload 4, 2, [4], 0), none, some (.bipush 9, 2, [], 9), none, some (.if_icmp .ge 12, 3, [72], 0), none, none, some (.aload_n 0, 1, [0], 0)],
  [some (.iload 4, 2, [4], 0), none, some (.invokevirtual 64, 3, [68, 2, 2, 0, 0, 1, 54, 46, 4], 0), none, none, some (.goto 4, 3, [73], 0), none, none, some (.iconst 0, 1, [], 0), some (.iastore, 1, [], 0), some (.iinc 4 1, 3, [4], 1), none, none, some (.goto (-69), 3, [8], 0), none, none, some (.iload_n 2, 1, [2], 0), some (.iconst 2, 1, [], 2), some (.invokestatic 67, 3, [105, 2, 0, 0, 0, 1, 54, 48, 5], 0), none, none, some (.istore 4, 2, [4], 0), none, some (.iload_n 2, 1, [2], 0), some (.iconst 1, 1, [], 1), some (.ishr, 1, [], 0), some (.bipush 10, 2, [], 10), none, some (.invokestatic 67, 3, [105, 2, 0, 0, 0, 1, 54, 48, 5], 0), none, none, some (.istore 5, 2, [5], 0), none, some (.aload_n 0, 1, [0], 0), some (.iload 4, 2, [4], 0), none, some (.iload 5, 2, [5], 0), none, some (.invokevirtual 32, 3, [70, 3, 2, 0, 0, 1, 54, 32, 4], 0), none, none, some (.iconst (-1), 1, [], (-1)), some (.if_icmp .ne 7, 3, [113], 0), none, none, some (.iconst 1, 1, [], 1), some (.goto 4, 3, [114], 0), none, none, some (.iconst 0, 1, [], 0), some (.istore 6, 2, [6], 0), none, some (.iload 6, 2, [6], 0), none, some (.ifCond .ne 27, 3, [145], 0), none, none, some (.iload_n 1, 1, [1], 0), some (.iconst 5, 1, [], 5), some (.ishr, 1, [], 0), some (.bipush 8, 2, [], 8), none, some (.invokestatic 67, 3, [105, 2, 0, 0, 0, 1, 54, 48, 5], 0), none],
  [none, some (.iconst 1, 1, [], 1), some (.if_icmp .eq 15, 3, [145], 0), none, none, some (.iload_n 1, 1, [1], 0), some (.iconst 5, 1, [], 5), some (.ishr, 1, [], 0), some (.bipush 8, 2, [], 8), none, some (.invokestatic 67, 3, [105, 2, 0, 0, 0, 1, 54, 48, 5], 0), none, none, some (.iconst 2, 1, [], 2), some (.if_icmp .ne 7, 3, [149], 0), none, none, some (.iconst 1, 1, [], 1), some (.goto 4, 3, [150], 0), none, none, some (.iconst 0, 1, [], 0), some (.istore 7, 2, [7], 0), none, some (.iload 7, 2, [7], 0), none, some (.ifCond .eq 12, 3, [166], 0), none, none, some (.iload_n 1, 1, [1], 0), some (.bipush 6, 2, [], 6), none, some (.invokestatic 67, 3, [105, 2, 0, 0, 0, 1, 54, 48, 5], 0), none, none, some (.goto 11, 3, [174], 0), none, none, some (.aload_n 0, 1, [0], 0), some (.iload 4, 2, [4], 0), none, some (.iload 5, 2, [5], 0), none, some (.invokevirtual 35, 3, [71, 3, 2, 0, 0, 1, 54, 37, 4], 0), none, none, some (.istore 8, 2, [8], 0), none, some (.aload_n 0, 1, [0], 0), some (.iload 8, 2, [8], 0), none, some (.invokevirtual 41, 3, [80, 2, 2, 0, 0, 1, 54, 39, 4], 0), none, none, some (.istore 9, 2, [9], 0), none, some (.iload_n 2, 1, [2], 0), some (.iconst 5, 1, [], 5), some (.ishr, 1, [], 0), some (.iload_n 2, 1, [2], 0), some (.bipush 19, 2, [], 19), none, some (.ishr, 1, [], 0), some (.iconst 1, 1, [], 1)],
  [some (.iand, 1, [], 0), some (.ifCond .ne 9, 3, [202], 0), none, none, some (.sipush 5001, 3, [], 5001), none, none, some (.goto 5, 3, [204], 0), none, none, some (.bipush 50, 2, [], 50), none, some (.invokestatic 67, 3, [105, 2, 0, 0, 0, 1, 54, 48, 5], 0), none, none, some (.istore 10, 2, [10], 0), none, some (.iload 6, 2, [6], 0), none, some (.ifCond .eq 21, 3, [232], 0), none, none, some (.aload_n 0, 1, [0], 0), some (.iload 8, 2, [8], 0), none, some (.iload_n 1, 1, [1], 0), some (.iconst 3, 1, [], 3), some (.ishr, 1, [], 0), some (.iconst 3, 1, [], 3), some (.invokestatic 67, 3, [105, 2, 0, 0, 0, 1, 54, 48, 5], 0), none, none, some (.iload 10, 2, [10], 0), none, some (.invokevirtual 128, 3, [76, 4, 2, 0, 0, 1, 54, 90, 4], 0), none, none, some (.goto 4, 3, [233], 0), none, none, some (.iconst 0, 1, [], 0), some (.istore 11, 2, [11], 0), none, some (.aload_n 0, 1, [0], 0), some (.invokestatic 52, 3, [106, 1, 0, 0, 0, 1, 54, 23, 5], 0), none, none, some (.lstore 12, 2, [12], 0), none, some (.aload_n 0, 1, [0], 0), some (.invokestatic 131, 3, [108, 1, 0, 0, 0, 1, 54, 97, 5], 0), none, none, some (.istore 14, 2, [14], 0), none, some (.aload_n 0, 1, [0], 0), some (.invokevirtual 58, 3, [84, 1, 2, 0, 0, 1, 54, 43, 4], 0), none, none, some (.istore 15, 2, [15], 0), none, some (.aload_n 0, 1, [0], 0), some (.invokevirtual 134, 3, [85, 1, 2, 0, 0, 1, 54, 20, 4], 0), none],
  [none, some (.istore 16, 2, [16], 0), none, some (.aload_n 0, 1, [0], 0), some (.iload_n 1, 1, [1], 0), some (.iload_n 2, 1, [2], 0), some (.invokestatic 137, 3, [109, 3, 0, 0, 0, 1, 54, 98, 5], 0), none, none, some (.istore 17, 2, [17], 0), none, some (.aload_n 0, 1, [0], 0), some (.invokevirtual 134, 3, [85, 1, 2, 0, 0, 1, 54, 20, 4], 0), none, none, some (.iload 16, 2, [16], 0), none, some (.bipush 6, 2, [], 6), none, some (.if_icmp .ge 10, 3, [285], 0), none, none, some (.iload 16, 2, [16], 0), none, some (.iconst 1, 1, [], 1), some (.iadd, 1, [], 0), some (.goto 5, 3, [287], 0), none, none, some (.bipush 6, 2, [], 6), none, some (.if_icmp .ne 19, 3, [306], 0), none, none, some (.iload 6, 2, [6], 0), none, some (.ifCond .eq 10, 3, [302], 0), none, none, some (.iload 11, 2, [11], 0), none, some (.iload 17, 2, [17], 0), none, some (.if_icmp .ne 7, 3, [306], 0), none, none, some (.iconst 1, 1, [], 1), some (.goto 4, 3, [307], 0), none, none, some (.iconst 0, 1, [], 0), some (.istore 18, 2, [18], 0), none, some (.iload 17, 2, [17], 0), none, some (.ifCond .le 184, 3, [495], 0), none, none, some (.iload 17, 2, [17], 0), none, some (.bipush 9, 2, [], 9), none, some (.if_icmp .ge 177, 3, [495], 0), none],
  [none, some (.iload 17, 2, [17], 0), none, some (.iconst 5, 1, [], 5), some (.if_icmp .ge 8, 3, [332], 0), none, none, some (.iload 8, 2, [8], 0), none, some (.goto 9, 3, [338], 0), none, none, some (.aload_n 0, 1, [0], 0), some (.iconst 0, 1, [], 0), some (.iconst 1, 1, [], 1), some (.invokevirtual 61, 3, [83, 3, 2, 0, 0, 1, 54, 44, 4], 0), none, none, some (.istore 19, 2, [19], 0), none, some (.iload 18, 2, [18], 0), none, some (.ifCond .eq 151, 3, [493], 0), none, none, some (.iload 9, 2, [9], 0), none, some (.ifCond .ne 146, 3, [493], 0), none, none, some (.aload_n 0, 1, [0], 0), some (.invokestatic 52, 3, [106, 1, 0, 0, 0, 1, 54, 23, 5], 0), none, none, some (.lload 12, 2, [12], 0), none, some (.lcmp, 1, [], 0), some (.ifCond .ne 136, 3, [493], 0), none, none, some (.aload_n 0, 1, [0], 0), some (.invokestatic 131, 3, [108, 1, 0, 0, 0, 1, 54, 97, 5], 0), none, none, some (.iload 14, 2, [14], 0), none, some (.iconst 1, 1, [], 1), some (.iadd, 1, [], 0), some (.if_icmp .ne 125, 3, [493], 0), none, none, some (.aload_n 0, 1, [0], 0), some (.iload 19, 2, [19], 0), none, some (.invokevirtual 64, 3, [68, 2, 2, 0, 0, 1, 54, 46, 4], 0), none, none, some (.aload_n 3, 1, [3], 0), some (.bipush 36, 2, [], 36), none, some (.iload 19, 2, [19], 0), none, some (.iadd, 1, [], 0), some (.iaload, 1, [], 0)],
  [some (.iconst 1, 1, [], 1), some (.iadd, 1, [], 0), some (.if_icmp .ne 107, 3, [493], 0), none, none, some (.aload_n 0, 1, [0], 0), some (.iconst 0, 1, [], 0), some (.iconst 0, 1, [], 0), some (.invokevirtual 61, 3, [83, 3, 2, 0, 0, 1, 54, 44, 4], 0), none, none, some (.iconst 4, 1, [], 4), some (.if_icmp .ne 97, 3, [493], 0), none, none, some (.aload_n 0, 1, [0], 0), some (.iconst 0, 1, [], 0), some (.iconst 1, 1, [], 1), some (.invokevirtual 61, 3, [83, 3, 2, 0, 0, 1, 54, 44, 4], 0), none, none, some (.iload 19, 2, [19], 0), none, some (.if_icmp .ne 86, 3, [493], 0), none, none, some (.iload 19, 2, [19], 0), none, some (.bipush 6, 2, [], 6), none, some (.if_icmp .lt 7, 3, [421], 0), none, none, some (.iconst 1, 1, [], 1), some (.goto 4, 3, [422], 0), none, none, some (.iconst 0, 1, [], 0), some (.iload 17, 2, [17], 0), none, some (.iconst 4, 1, [], 4), some (.if_icmp .le 7, 3, [432], 0), none, none, some (.iconst 1, 1, [], 1), some (.goto 4, 3, [433], 0), none, none, some (.iconst 0, 1, [], 0), some (.if_icmp .ne 60, 3, [493], 0), none, none, some (.aload_n 0, 1, [0], 0), some (.iconst 0, 1, [], 0), some (.iconst 2, 1, [], 2), some (.invokevirtual 61, 3, [83, 3, 2, 0, 0, 1, 54, 44, 4], 0), none, none, some (.iload 17, 2, [17], 0), none, some (.iconst 1, 1, [], 1), some (.isub, 1, [], 0), some (.iconst 2, 1, [], 2), some (.idiv, 1, [], 0)],
  [some (.iconst 2, 1, [], 2), some (.irem, 1, [], 0), some (.if_icmp .ne 43, 3, [493], 0), none, none, some (.aload_n 0, 1, [0], 0), some (.iconst 0, 1, [], 0), some (.iconst 3, 1, [], 3), some (.invokevirtual 61, 3, [83, 3, 2, 0, 0, 1, 54, 44, 4], 0), none, none, some (.aload_n 0, 1, [0], 0), some (.invokevirtual 11, 3, [78, 1, 2, 0, 0, 1, 54, 19, 4], 0), none, none, some (.if_icmp .ne 30, 3, [493], 0), none, none, some (.aload_n 0, 1, [0], 0), some (.invokevirtual 58, 3, [84, 1, 2, 0, 0, 1, 54, 43, 4], 0), none, none, some (.iload 15, 2, [15], 0), none, some (.bipush 12, 2, [], 12), none, some (.if_icmp .ge 10, 3, [484], 0), none, none, some (.iload 15, 2, [15], 0), none, some (.iconst 1, 1, [], 1), some (.iadd, 1, [], 0), some (.goto 5, 3, [486], 0), none, none, some (.bipush 12, 2, [], 12), none, some (.if_icmp .ne 7, 3, [493], 0), none, none, some (.iconst 1, 1, [], 1), some (.goto 4, 3, [494], 0), none, none, some (.iconst 0, 1, [], 0), some (.ireturn, 1, [1, 54, 2], 0), some (.iconst 0, 1, [], 0), some (.istore 19, 2, [19], 0), none, some (.iload 19, 2, [19], 0), none, some (.bipush 18, 2, [], 18), none, some (.if_icmp .ge 74, 3, [576], 0), none, none, some (.aload_n 0, 1, [0], 0), some (.iload 19, 2, [19], 0), none, some (.iconst 2, 1, [], 2), some (.idiv, 1, [], 0), some (.iload 19, 2, [19], 0), none],
  [some (.iconst 2, 1, [], 2), some (.irem, 1, [], 0), some (.invokevirtual 19, 3, [61, 3, 2, 0, 0, 1, 54, 24, 4], 0), none, none, some (.aload_n 3, 1, [3], 0), some (.iload 19, 2, [19], 0), none, some (.iaload, 1, [], 0), some (.isub, 1, [], 0), some (.istore 20, 2, [20], 0), none, some (.iload 18, 2, [18], 0), none, some (.ifCond .eq 41, 3, [567], 0), none, none, some (.iload 20, 2, [20], 0), none, some (.ifCond .le 32, 3, [563], 0), none, none, some (.iload 9, 2, [9], 0), none, some (.ifCond .ne 27, 3, [563], 0), none, none, some (.aload_n 3, 1, [3], 0), some (.bipush 18, 2, [], 18), none, some (.iload 19, 2, [19], 0), none, some (.iadd, 1, [], 0), some (.iaload, 1, [], 0), some (.bipush (-2), 2, [], (-2)), none, some (.if_icmp .eq 15, 3, [563], 0), none, none, some (.iload 20, 2, [20], 0), none, some (.aload_n 3, 1, [3], 0), some (.bipush 18, 2, [], 18), none, some (.iload 19, 2, [19], 0), none, some (.iadd, 1, [], 0), some (.iaload, 1, [], 0), some (.if_icmp .gt 7, 3, [567], 0), none, none, some (.iconst 1, 1, [], 1), some (.goto 4, 3, [568], 0), none, none, some (.iconst 0, 1, [], 0), some (.istore 18, 2, [18], 0), none, some (.iinc 19 1, 3, [19], 1), none, none, some (.goto (-75), 3, [498], 0), none, none],
  [some (.iload 18, 2, [18], 0), none, some (.ifCond .eq 16, 3, [594], 0), none, none, some (.aload_n 0, 1, [0], 0), some (.invokestatic 131, 3, [108, 1, 0, 0, 0, 1, 54, 97, 5], 0), none, none, some (.iload 14, 2, [14], 0), none, some (.if_icmp .ne 7, 3, [594], 0), none, none, some (.iconst 1, 1, [], 1), some (.goto 4, 3, [595], 0), none, none, some (.iconst 0, 1, [], 0), some (.ireturn, 1, [1, 54, 2], 0)]]
def cd_113 : List (List (Option IcM)) := [[some (.new 12, 3, [0, 4, 8, 600086, 7301442, 50], 0), none, none, some (.dup, 1, [], 0), some (.invokespecial 141, 3, [44, 1, 4, 177, 4030, 600086, 7301442, 0, 4], 0), none, none, some (.astore_n 1, 1, [1], 0), some (.aload_n 1, 1, [1], 0), some (.iconst 0, 1, [], 0), some (.invokevirtual 142, 3, [59, 2, 2, 0, 0, 600086, 7301442, 17, 4], 0), none, none, some (.ifCond .ne 10, 3, [23], 0), none, none, some (.aload_n 1, 1, [1], 0), some (.invokestatic 145, 3, [111, 1, 0, 1, 4, 600086, 7301442, 66, 5], 0), none, none, some (.ifCond .ne 5, 3, [25], 0), none, none, some (.iconst 0, 1, [], 0), some (.ireturn, 1, [600086, 7301442, 2], 0), some (.iconst 0, 1, [], 0), some (.istore_n 2, 1, [2], 0), some (.iload_n 2, 1, [2], 0), some (.bipush 44, 2, [], 44), none, some (.if_icmp .ge 233, 3, [263], 0), none, none, some (.aload_n 0, 1, [0], 0), some (.iconst 2, 1, [], 2), some (.iload_n 2, 1, [2], 0), some (.imul, 1, [], 0), some (.invokestatic 149, 3, [104, 2, 0, 0, 0, 600086, 7301442, 21, 5], 0), none, none, some (.istore_n 3, 1, [3], 0), some (.aload_n 0, 1, [0], 0), some (.iconst 2, 1, [], 2), some (.iload_n 2, 1, [2], 0), some (.imul, 1, [], 0), some (.iconst 1, 1, [], 1), some (.iadd, 1, [], 0), some (.invokestatic 149, 3, [104, 2, 0, 0, 0, 600086, 7301442, 21, 5], 0), none, none, some (.istore 4, 2, [4], 0), none, some (.iload_n 2, 1, [2], 0), some (.bipush 6, 2, [], 6), none, some (.if_icmp .lt 12, 3, [67], 0), none, none, some (.iload_n 3, 1, [3], 0), some (.bipush 9, 2, [], 9), none, some (.ishr, 1, [], 0), some (.iconst 3, 1, [], 3), some (.iand, 1, [], 0)],
  [some (.ifCond .le 7, 3, [71], 0), none, none, some (.iconst 1, 1, [], 1), some (.goto 4, 3, [72], 0), none, none, some (.iconst 0, 1, [], 0), some (.istore 5, 2, [5], 0), none, some (.aload_n 1, 1, [1], 0), some (.invokestatic 153, 3, [107, 1, 0, 0, 0, 600086, 7301442, 22, 5], 0), none, none, some (.lstore 6, 2, [6], 0), none, some (.iload 5, 2, [5], 0), none, some (.ifCond .eq 13, 3, [95], 0), none, none, some (.aload_n 1, 1, [1], 0), some (.iload_n 3, 1, [3], 0), some (.iload 4, 2, [4], 0), none, some (.invokestatic 156, 3, [112, 3, 0, 1, 54, 600086, 7301442, 89, 5], 0), none, none, some (.goto 18, 3, [110], 0), none, none, some (.aload_n 1, 1, [1], 0), some (.iload_n 3, 1, [3], 0), some (.iload 4, 2, [4], 0), none, some (.invokestatic 160, 3, [110, 3, 0, 0, 0, 600086, 7301442, 47, 5], 0), none, none, some (.ifCond .lt 7, 3, [109], 0), none, none, some (.iconst 1, 1, [], 1), some (.goto 4, 3, [110], 0), none, none, some (.iconst 0, 1, [], 0), some (.istore 8, 2, [8], 0), none, some (.aload_n 1, 1, [1], 0), some (.invokestatic 153, 3, [107, 1, 0, 0, 0, 600086, 7301442, 22, 5], 0), none, none, some (.lstore 9, 2, [9], 0), none, some (.aload_n 1, 1, [1], 0), some (.invokevirtual 134, 3, [85, 1, 2, 0, 0, 600086, 7301442, 20, 4], 0), none, none, some (.iconst 1, 1, [], 1), some (.isub, 1, [], 0), some (.istore 11, 2, [11], 0), none, some (.iload 8, 2, [8], 0), none],
  [some (.ifCond .eq 76, 3, [204], 0), none, none, some (.iload_n 3, 1, [3], 0), some (.bipush 11, 2, [], 11), none, some (.ishr, 1, [], 0), some (.iconst 3, 1, [], 3), some (.iand, 1, [], 0), some (.ifCond .ne 67, 3, [204], 0), none, none, some (.aload_n 1, 1, [1], 0), some (.invokevirtual 163, 3, [58, 1, 2, 0, 0, 600086, 7301442, 10, 4], 0), none, none, some (.iload 11, 2, [11], 0), none, some (.if_icmp .ne 55, 3, [201], 0), none, none, some (.aload_n 1, 1, [1], 0), some (.invokestatic 153, 3, [107, 1, 0, 0, 0, 600086, 7301442, 22, 5], 0), none, none, some (.lload 6, 2, [6], 0), none, some (.lcmp, 1, [], 0), some (.ifCond .ne 45, 3, [201], 0), none, none, some (.iload 5, 2, [5], 0), none, some (.ifCond .eq 16, 3, [177], 0), none, none, some (.aload_n 1, 1, [1], 0), some (.iload_n 3, 1, [3], 0), some (.iload 4, 2, [4], 0), none, some (.invokestatic 156, 3, [112, 3, 0, 1, 54, 600086, 7301442, 89, 5], 0), none, none, some (.ifCond .eq 30, 3, [201], 0), none, none, some (.goto 13, 3, [187], 0), none, none, some (.aload_n 1, 1, [1], 0), some (.iload_n 3, 1, [3], 0), some (.iload 4, 2, [4], 0), none, some (.invokestatic 160, 3, [110, 3, 0, 0, 0, 600086, 7301442, 47, 5], 0), none, none, some (.ifCond .lt 17, 3, [201], 0), none, none, some (.aload_n 1, 1, [1], 0), some (.invokestatic 153, 3, [107, 1, 0, 0, 0, 600086, 7301442, 22, 5], 0), none, none, some (.lload 9, 2, [9], 0)],
  [none, some (.lcmp, 1, [], 0), some (.ifCond .ne 7, 3, [201], 0), none, none, some (.iconst 1, 1, [], 1), some (.goto 4, 3, [202], 0), none, none, some (.iconst 0, 1, [], 0), some (.istore 8, 2, [8], 0), none, some (.iload 8, 2, [8], 0), none, some (.ifCond .eq 41, 3, [247], 0), none, none, some (.iload_n 2, 1, [2], 0), some (.iconst 3, 1, [], 3), some (.irem, 1, [], 0), some (.ifCond .gt 10, 3, [222], 0), none, none, some (.aload_n 1, 1, [1], 0), some (.invokestatic 145, 3, [111, 1, 0, 1, 4, 600086, 7301442, 66, 5], 0), none, none, some (.ifCond .eq 28, 3, [247], 0), none, none, some (.iload_n 2, 1, [2], 0), some (.bipush 13, 2, [], 13), none, some (.irem, 1, [], 0), some (.bipush 8, 2, [], 8), none, some (.if_icmp .ne 15, 3, [243], 0), none, none, some (.aload_n 1, 1, [1], 0), some (.iconst 0, 1, [], 0), some (.invokevirtual 142, 3, [59, 2, 2, 0, 0, 600086, 7301442, 17, 4], 0), none, none, some (.aload_n 1, 1, [1], 0), some (.invokevirtual 11, 3, [78, 1, 2, 0, 0, 600086, 7301442, 19, 4], 0), none, none, some (.if_icmp .ne 7, 3, [247], 0), none, none, some (.iconst 1, 1, [], 1), some (.goto 4, 3, [248], 0), none, none, some (.iconst 0, 1, [], 0), some (.istore 8, 2, [8], 0), none, some (.iload 8, 2, [8], 0), none, some (.ifCond .ne 5, 3, [257], 0), none, none, some (.iconst 0, 1, [], 0)],
  [some (.ireturn, 1, [600086, 7301442, 2], 0), some (.iinc 2 1, 3, [2], 1), none, none, some (.goto (-233), 3, [27], 0), none, none, some (.aload_n 1, 1, [1], 0), some (.invokestatic 145, 3, [111, 1, 0, 1, 4, 600086, 7301442, 66, 5], 0), none, none, some (.ireturn, 1, [600086, 7301442, 2], 0)]]
def cdT (k : Nat) : List (List (Option IcM)) := (bif Nat.ble k 56 then (bif Nat.ble k 28 then (bif Nat.ble k 14 then (bif Nat.ble k 7 then (bif Nat.ble k 3 then (bif Nat.ble k 1 then (bif Nat.ble k 0 then cd_0 else cd_1) else (bif Nat.ble k 2 then cd_2 else cd_3)) else (bif Nat.ble k 5 then (bif Nat.ble k 4 then cd_4 else cd_5) else (bif Nat.ble k 6 then cd_6 else cd_7))) else (bif Nat.ble k 11 then (bif Nat.ble k 9 then (bif Nat.ble k 8 then cd_8 else cd_9) else (bif Nat.ble k 10 then cd_10 else cd_11)) else (bif Nat.ble k 13 then (bif Nat.ble k 12 then cd_12 else cd_13) else cd_14))) else (bif Nat.ble k 21 then (bif Nat.ble k 18 then (bif Nat.ble k 16 then (bif Nat.ble k 15 then cd_15 else cd_16) else (bif Nat.ble k 17 then cd_17 else cd_18)) else (bif Nat.ble k 20 then (bif Nat.ble k 19 then cd_19 else cd_20) else cd_21)) else (bif Nat.ble k 25 then (bif Nat.ble k 23 then (bif Nat.ble k 22 then cd_22 else cd_23) else (bif Nat.ble k 24 then cd_24 else cd_25)) else (bif Nat.ble k 27 then (bif Nat.ble k 26 then cd_26 else cd_27) else cd_28)))) else (bif Nat.ble k 42 then (bif Nat.ble k 35 then (bif Nat.ble k 32 then (bif Nat.ble k 30 then (bif Nat.ble k 29 then cd_29 else cd_30) else (bif Nat.ble k 31 then cd_31 else cd_32)) else (bif Nat.ble k 34 then (bif Nat.ble k 33 then cd_33 else cd_34) else cd_35)) else (bif Nat.ble k 39 then (bif Nat.ble k 37 then (bif Nat.ble k 36 then cd_36 else []) else (bif Nat.ble k 38 then [] else [])) else (bif Nat.ble k 41 then (bif Nat.ble k 40 then [] else []) else []))) else (bif Nat.ble k 49 then (bif Nat.ble k 46 then (bif Nat.ble k 44 then (bif Nat.ble k 43 then [] else cd_44) else (bif Nat.ble k 45 then cd_45 else cd_46)) else (bif Nat.ble k 48 then (bif Nat.ble k 47 then cd_47 else cd_48) else cd_49)) else (bif Nat.ble k 53 then (bif Nat.ble k 51 then (bif Nat.ble k 50 then cd_50 else cd_51) else (bif Nat.ble k 52 then cd_52 else cd_53)) else (bif Nat.ble k 55 then (bif Nat.ble k 54 then [] else []) else []))))) else (bif Nat.ble k 85 then (bif Nat.ble k 71 then (bif Nat.ble k 64 then (bif Nat.ble k 60 then (bif Nat.ble k 58 then (bif Nat.ble k 57 then [] else cd_58) else (bif Nat.ble k 59 then cd_59 else cd_60)) else (bif Nat.ble k 62 then (bif Nat.ble k 61 then cd_61 else cd_62) else (bif Nat.ble k 63 then cd_63 else cd_64))) else (bif Nat.ble k 68 then (bif Nat.ble k 66 then (bif Nat.ble k 65 then cd_65 else cd_66) else (bif Nat.ble k 67 then cd_67 else cd_68)) else (bif Nat.ble k 70 then (bif Nat.ble k 69 then cd_69 else cd_70) else cd_71))) else (bif Nat.ble k 78 then (bif Nat.ble k 75 then (bif Nat.ble k 73 then (bif Nat.ble k 72 then cd_72 else cd_73) else (bif Nat.ble k 74 then cd_74 else cd_75)) else (bif Nat.ble k 77 then (bif Nat.ble k 76 then cd_76 else []) else cd_78)) else (bif Nat.ble k 82 then (bif Nat.ble k 80 then (bif Nat.ble k 79 then cd_79 else cd_80) else (bif Nat.ble k 81 then cd_81 else cd_82)) else (bif Nat.ble k 84 then (bif Nat.ble k 83 then cd_83 else cd_84) else cd_85)))) else (bif Nat.ble k 99 then (bif Nat.ble k 92 then (bif Nat.ble k 89 then (bif Nat.ble k 87 then (bif Nat.ble k 86 then [] else cd_87) else (bif Nat.ble k 88 then cd_88 else cd_89)) else (bif Nat.ble k 91 then (bif Nat.ble k 90 then cd_90 else cd_91) else cd_92)) else (bif Nat.ble k 96 then (bif Nat.ble k 94 then (bif Nat.ble k 93 then cd_93 else cd_94) else (bif Nat.ble k 95 then cd_95 else cd_96)) else (bif Nat.ble k 98 then (bif Nat.ble k 97 then cd_97 else cd_98) else cd_99))) else (bif Nat.ble k 106 then (bif Nat.ble k 103 then (bif Nat.ble k 101 then (bif Nat.ble k 100 then cd_100 else cd_101) else (bif Nat.ble k 102 then [] else cd_103)) else (bif Nat.ble k 105 then (bif Nat.ble k 104 then cd_104 else cd_105) else cd_106)) else (bif Nat.ble k 110 then (bif Nat.ble k 108 then (bif Nat.ble k 107 then cd_107 else cd_108) else (bif Nat.ble k 109 then cd_109 else cd_110)) else (bif Nat.ble k 112 then (bif Nat.ble k 111 then cd_111 else cd_112) else cd_113))))))
def in_0 : MethodName × ByteArray × Nat × Option FieldType × List (Nat × Nat × Nat × Nat) × List Nat := (yX0_init, cX0_init, 1, none, [], [1, 40, 3, 36, 100, 40, 99, 0, 2, 0, 0])
def in_1 : MethodName × ByteArray × Nat × Option FieldType × List (Nat × Nat × Nat × Nat) × List Nat := (yX0_copyEvents, cX0_copyEvents, 2, none, [], [1, 40, 0, 0, 296, 40, 295, 3, 1, 0, 1])
def in_2 : MethodName × ByteArray × Nat × Option FieldType × List (Nat × Nat × Nat × Nat) × List Nat := (yX0_add, cX0_add, 4, none, [], [0, 0, 0, 0, 499, 40, 498, 13, 1, 0, 3])
def in_3 : MethodName × ByteArray × Nat × Option FieldType × List (Nat × Nat × Nat × Nat) × List Nat := (yX0_partOf, cX0_partOf, 4, (some .int), [], [0, 0, 0, 0, 442, 40, 441, 5, 1, 0, 2])
def in_4 : MethodName × ByteArray × Nat × Option FieldType × List (Nat × Nat × Nat × Nat) × List Nat := (yX1_init, cX1_init, 1, none, [], [1, 40, 4, 240, 68, 39, 67, 0, 2, 1, 0])
def in_5 : MethodName × ByteArray × Nat × Option FieldType × List (Nat × Nat × Nat × Nat) × List Nat := (yX1_copyRows, cX1_copyRows, 2, none, [], [1, 40, 0, 0, 291, 39, 290, 2, 1, 1, 1])
def in_6 : MethodName × ByteArray × Nat × Option FieldType × List (Nat × Nat × Nat × Nat) × List Nat := (yX1_find, cX1_find, 3, (some .int), [], [0, 0, 0, 0, 389, 39, 388, 4, 1, 1, 1])
def in_7 : MethodName × ByteArray × Nat × Option FieldType × List (Nat × Nat × Nat × Nat) × List Nat := (yX1_add, cX1_add, 5, none, [], [0, 0, 0, 0, 657, 39, 656, 27, 1, 1, 4])
def in_8 : MethodName × ByteArray × Nat × Option FieldType × List (Nat × Nat × Nat × Nat) × List Nat := (yX1_remove, cX1_remove, 3, none, [], [0, 0, 0, 0, 683, 39, 682, 32, 1, 1, 1])
def in_9 : MethodName × ByteArray × Nat × Option FieldType × List (Nat × Nat × Nat × Nat) × List Nat := (yX1_isCharged, cX1_isCharged, 3, (some .boolean), [], [1, 20, 0, 0, 547, 39, 546, 16, 1, 1, 2])
def in_10 : MethodName × ByteArray × Nat × Option FieldType × List (Nat × Nat × Nat × Nat) × List Nat := (yX1_scan, cX1_scan, 5, (some .int), [], [2, 42, 0, 0, 543, 39, 542, 15, 1, 1, 2])
def in_11 : MethodName × ByteArray × Nat × Option FieldType × List (Nat × Nat × Nat × Nat) × List Nat := (yX1_listSizes, cX1_listSizes, 5, (some .int), [], [2, 42, 0, 0, 575, 39, 574, 19, 1, 1, 2])
def in_12 : MethodName × ByteArray × Nat × Option FieldType × List (Nat × Nat × Nat × Nat) × List Nat := (yX1_sumDirectory, cX1_sumDirectory, 4, (some .int), [], [0, 0, 0, 0, 594, 39, 593, 21, 1, 1, 1])
def in_13 : MethodName × ByteArray × Nat × Option FieldType × List (Nat × Nat × Nat × Nat) × List Nat := (yX1_findLargest, cX1_findLargest, 6, (some .int), [], [2, 42, 0, 0, 586, 39, 585, 20, 1, 1, 1])
def in_14 : MethodName × ByteArray × Nat × Option FieldType × List (Nat × Nat × Nat × Nat) × List Nat := (yX2_init, cX2_init, 2, none, [], [2, 60, 16, 375, 62, 38, 61, 0, 2, 2, 0])
def in_15 : MethodName × ByteArray × Nat × Option FieldType × List (Nat × Nat × Nat × Nat) × List Nat := (yX2_copyFrom, cX2_copyFrom, 3, none, [], [2, 61, 0, 0, 284, 38, 283, 1, 1, 2, 1])
def in_16 : MethodName × ByteArray × Nat × Option FieldType × List (Nat × Nat × Nat × Nat) × List Nat := (yX2_canAdd, cX2_canAdd, 2, (some .boolean), [], [1, 22, 0, 0, 642, 38, 641, 24, 1, 2, 1])
def in_17 : MethodName × ByteArray × Nat × Option FieldType × List (Nat × Nat × Nat × Nat) × List Nat := (yX2_addFile, cX2_addFile, 6, (some .int), [], [3, 72, 0, 0, 648, 38, 647, 25, 1, 2, 4])
def in_18 : MethodName × ByteArray × Nat × Option FieldType × List (Nat × Nat × Nat × Nat) × List Nat := (yX2_resizeFile, cX2_resizeFile, 5, (some .int), [], [4, 96, 0, 0, 699, 38, 698, 34, 1, 2, 2])
def in_19 : MethodName × ByteArray × Nat × Option FieldType × List (Nat × Nat × Nat × Nat) × List Nat := (yX2_changeBlocks, cX2_changeBlocks, 5, (some .int), [], [3, 72, 0, 0, 703, 38, 702, 35, 1, 2, 3])
def in_20 : MethodName × ByteArray × Nat × Option FieldType × List (Nat × Nat × Nat × Nat) × List Nat := (yX2_removeFile, cX2_removeFile, 3, (some .int), [], [3, 66, 0, 0, 679, 38, 678, 31, 1, 2, 1])
def in_21 : MethodName × ByteArray × Nat × Option FieldType × List (Nat × Nat × Nat × Nat) × List Nat := (yX2_moveFile, cX2_moveFile, 10, (some .int), [], [3, 72, 0, 0, 691, 38, 690, 33, 1, 2, 3])
def in_22 : MethodName × ByteArray × Nat × Option FieldType × List (Nat × Nat × Nat × Nat) × List Nat := (yX2_charge, cX2_charge, 4, none, [], [1, 21, 0, 0, 661, 38, 660, 28, 1, 2, 3])
def in_23 : MethodName × ByteArray × Nat × Option FieldType × List (Nat × Nat × Nat × Nat) × List Nat := (yX2_firstRefusal, cX2_firstRefusal, 9, (some .int), [], [2, 44, 0, 0, 622, 38, 621, 22, 1, 2, 6])
def in_24 : MethodName × ByteArray × Nat × Option FieldType × List (Nat × Nat × Nat × Nat) × List Nat := (yX2_causeOf, cX2_causeOf, 4, (some .int), [], [1, 21, 0, 0, 628, 38, 627, 23, 1, 2, 2])
def in_25 : MethodName × ByteArray × Nat × Option FieldType × List (Nat × Nat × Nat × Nat) × List Nat := (yX2_greatestIncrease, cX2_greatestIncrease, 4, (some .int), [], [1, 40, 0, 0, 558, 38, 557, 17, 1, 2, 1])
def in_26 : MethodName × ByteArray × Nat × Option FieldType × List (Nat × Nat × Nat × Nat) × List Nat := (yX2_noteRefusal, cX2_noteRefusal, 6, none, [], [1, 23, 0, 0, 653, 38, 652, 26, 1, 2, 3])
def in_27 : MethodName × ByteArray × Nat × Option FieldType × List (Nat × Nat × Nat × Nat) × List Nat := (yX2_reviewAll, cX2_reviewAll, 2, none, [], [2, 45, 0, 0, 665, 38, 664, 29, 1, 2, 0])
def in_28 : MethodName × ByteArray × Nat × Option FieldType × List (Nat × Nat × Nat × Nat) × List Nat := (yX2_review, cX2_review, 3, none, [], [1, 23, 0, 0, 524, 38, 523, 14, 1, 2, 1])
def in_29 : MethodName × ByteArray × Nat × Option FieldType × List (Nat × Nat × Nat × Nat) × List Nat := (yX2_isRunning, cX2_isRunning, 2, (some .boolean), [], [0, 0, 0, 0, 491, 38, 490, 11, 1, 2, 1])
def in_30 : MethodName × ByteArray × Nat × Option FieldType × List (Nat × Nat × Nat × Nat) × List Nat := (yX2_daysRunning, cX2_daysRunning, 2, (some .int), [], [0, 0, 0, 0, 495, 38, 494, 12, 1, 2, 1])
def in_31 : MethodName × ByteArray × Nat × Option FieldType × List (Nat × Nat × Nat × Nat) × List Nat := (yX2_isOver, cX2_isOver, 2, (some .boolean), [], [0, 0, 0, 0, 562, 38, 561, 18, 1, 2, 1])
def in_32 : MethodName × ByteArray × Nat × Option FieldType × List (Nat × Nat × Nat × Nat) × List Nat := (yX2_canPass, cX2_canPass, 2, (some .boolean), [], [0, 0, 0, 0, 478, 38, 477, 8, 1, 2, 1])
def in_33 : MethodName × ByteArray × Nat × Option FieldType × List (Nat × Nat × Nat × Nat) × List Nat := (yX2_passDays, cX2_passDays, 4, (some .int), [], [2, 45, 0, 0, 483, 38, 482, 9, 1, 2, 1])
def in_34 : MethodName × ByteArray × Nat × Option FieldType × List (Nat × Nat × Nat × Nat) × List Nat := (yX2_beginDay, cX2_beginDay, 3, (some .int), [], [1, 23, 0, 0, 487, 38, 486, 10, 1, 2, 0])
def in_35 : MethodName × ByteArray × Nat × Option FieldType × List (Nat × Nat × Nat × Nat) × List Nat := (yX2_countExempted, cX2_countExempted, 3, (some .int), [], [0, 0, 0, 0, 470, 38, 469, 7, 1, 2, 0])
def in_36 : MethodName × ByteArray × Nat × Option FieldType × List (Nat × Nat × Nat × Nat) × List Nat := (yX3_init, cX3_init, 1, none, [], [1, 40, 2, 105, 165, 41, 164, 0, 2, 3, 0])
def in_44 : MethodName × ByteArray × Nat × Option FieldType × List (Nat × Nat × Nat × Nat) × List Nat := (yX4_init, cX4_init, 2, none, [], [3, 81, 177, 4030, 54, 37, 53, 0, 2, 4, 0])
def in_45 : MethodName × ByteArray × Nat × Option FieldType × List (Nat × Nat × Nat × Nat) × List Nat := (yX4_create, cX4_create, 7, (some .int), [], [4, 105, 0, 0, 638, 37, 636, 637, 1, 4, 5])
def in_46 : MethodName × ByteArray × Nat × Option FieldType × List (Nat × Nat × Nat × Nat) × List Nat := (yX4_resize, cX4_resize, 6, (some .int), [], [5, 120, 0, 0, 695, 37, 693, 694, 1, 4, 3])
def in_47 : MethodName × ByteArray × Nat × Option FieldType × List (Nat × Nat × Nat × Nat) × List Nat := (yX4_delete, cX4_delete, 5, (some .int), [], [4, 105, 0, 0, 670, 37, 668, 669, 1, 4, 2])
def in_48 : MethodName × ByteArray × Nat × Option FieldType × List (Nat × Nat × Nat × Nat) × List Nat := (yX4_move, cX4_move, 7, (some .int), [], [4, 105, 0, 0, 687, 37, 685, 686, 1, 4, 4])
def in_49 : MethodName × ByteArray × Nat × Option FieldType × List (Nat × Nat × Nat × Nat) × List Nat := (yX4_setLimits, cX4_setLimits, 6, (some .int), [], [4, 105, 0, 0, 514, 37, 512, 513, 1, 4, 4])
def in_50 : MethodName × ByteArray × Nat × Option FieldType × List (Nat × Nat × Nat × Nat) × List Nat := (yX4_setGrace, cX4_setGrace, 4, (some .int), [], [4, 105, 0, 0, 457, 37, 455, 456, 1, 4, 2])
def in_51 : MethodName × ByteArray × Nat × Option FieldType × List (Nat × Nat × Nat × Nat) × List Nat := (yX4_restartGrace, cX4_restartGrace, 5, (some .int), [], [4, 105, 0, 0, 503, 37, 501, 502, 1, 4, 2])
def in_52 : MethodName × ByteArray × Nat × Option FieldType × List (Nat × Nat × Nat × Nat) × List Nat := (yX4_setExempt, cX4_setExempt, 3, (some .int), [], [4, 105, 0, 0, 466, 37, 464, 465, 1, 4, 2])
def in_53 : MethodName × ByteArray × Nat × Option FieldType × List (Nat × Nat × Nat × Nat) × List Nat := (yX4_nextDays, cX4_nextDays, 2, (some .int), [], [4, 105, 0, 0, 474, 37, 472, 473, 1, 4, 1])
def in_58 : MethodName × ByteArray × Nat × Option FieldType × List (Nat × Nat × Nat × Nat) × List Nat := (yX4_undo, cX4_undo, 1, (some .int), [], [3, 83, 0, 0, 212, 37, 210, 211, 1, 4, 0])
def in_59 : MethodName × ByteArray × Nat × Option FieldType × List (Nat × Nat × Nat × Nat) × List Nat := (yX4_save, cX4_save, 2, (some .int), [], [3, 83, 0, 0, 301, 37, 299, 300, 1, 4, 1])
def in_60 : MethodName × ByteArray × Nat × Option FieldType × List (Nat × Nat × Nat × Nat) × List Nat := (yX4_restore, cX4_restore, 2, (some .int), [], [4, 105, 0, 0, 509, 37, 507, 508, 1, 4, 1])
def in_61 : MethodName × ByteArray × Nat × Option FieldType × List (Nat × Nat × Nat × Nat) × List Nat := (yX4_usage, cX4_usage, 3, (some .int), [], [2, 42, 0, 0, 344, 37, 342, 343, 1, 4, 2])
def in_62 : MethodName × ByteArray × Nat × Option FieldType × List (Nat × Nat × Nat × Nat) × List Nat := (yX4_scannedUsage, cX4_scannedUsage, 3, (some .int), [], [3, 66, 0, 0, 539, 37, 537, 538, 1, 4, 2])
def in_63 : MethodName × ByteArray × Nat × Option FieldType × List (Nat × Nat × Nat × Nat) × List Nat := (yX4_softLimit, cX4_softLimit, 3, (some .int), [], [2, 42, 0, 0, 366, 37, 364, 365, 1, 4, 2])
def in_64 : MethodName × ByteArray × Nat × Option FieldType × List (Nat × Nat × Nat × Nat) × List Nat := (yX4_hardLimit, cX4_hardLimit, 3, (some .int), [], [2, 42, 0, 0, 370, 37, 368, 369, 1, 4, 2])
def in_65 : MethodName × ByteArray × Nat × Option FieldType × List (Nat × Nat × Nat × Nat) × List Nat := (yX4_graceStart, cX4_graceStart, 3, (some .int), [], [2, 42, 0, 0, 362, 37, 360, 361, 1, 4, 2])
def in_66 : MethodName × ByteArray × Nat × Option FieldType × List (Nat × Nat × Nat × Nat) × List Nat := (yX4_graceLeft, cX4_graceLeft, 4, (some .int), [], [2, 42, 0, 0, 531, 37, 529, 530, 1, 4, 2])
def in_67 : MethodName × ByteArray × Nat × Option FieldType × List (Nat × Nat × Nat × Nat) × List Nat := (yX4_available, cX4_available, 3, (some .int), [], [2, 63, 0, 0, 554, 37, 552, 553, 1, 4, 2])
def in_68 : MethodName × ByteArray × Nat × Option FieldType × List (Nat × Nat × Nat × Nat) × List Nat := (yX4_refusals, cX4_refusals, 2, (some .int), [], [1, 20, 0, 0, 446, 37, 444, 445, 1, 4, 1])
def in_69 : MethodName × ByteArray × Nat × Option FieldType × List (Nat × Nat × Nat × Nat) × List Nat := (yX4_fewestDeletions, cX4_fewestDeletions, 7, (some .int), [], [3, 66, 0, 0, 571, 37, 569, 570, 1, 4, 1])
def in_70 : MethodName × ByteArray × Nat × Option FieldType × List (Nat × Nat × Nat × Nat) × List Nat := (yX4_sizeOf, cX4_sizeOf, 4, (some .int), [], [2, 42, 0, 0, 374, 37, 372, 373, 1, 4, 2])
def in_71 : MethodName × ByteArray × Nat × Option FieldType × List (Nat × Nat × Nat × Nat) × List Nat := (yX4_ownerOf, cX4_ownerOf, 4, (some .int), [], [2, 42, 0, 0, 393, 37, 391, 392, 1, 4, 2])
def in_72 : MethodName × ByteArray × Nat × Option FieldType × List (Nat × Nat × Nat × Nat) × List Nat := (yX4_groupOf, cX4_groupOf, 4, (some .int), [], [2, 42, 0, 0, 397, 37, 395, 396, 1, 4, 2])
def in_73 : MethodName × ByteArray × Nat × Option FieldType × List (Nat × Nat × Nat × Nat) × List Nat := (yX4_fileCount, cX4_fileCount, 1, (some .int), [], [0, 0, 0, 0, 409, 37, 407, 408, 1, 4, 0])
def in_74 : MethodName × ByteArray × Nat × Option FieldType × List (Nat × Nat × Nat × Nat) × List Nat := (yX4_directorySize, cX4_directorySize, 2, (some .int), [], [1, 23, 0, 0, 590, 37, 588, 589, 1, 4, 1])
def in_75 : MethodName × ByteArray × Nat × Option FieldType × List (Nat × Nat × Nat × Nat) × List Nat := (yX4_largestFile, cX4_largestFile, 2, (some .int), [], [3, 67, 0, 0, 582, 37, 580, 581, 1, 4, 1])
def in_76 : MethodName × ByteArray × Nat × Option FieldType × List (Nat × Nat × Nat × Nat) × List Nat := (yX4_ifCreated, cX4_ifCreated, 4, (some .int), [], [3, 72, 0, 0, 610, 37, 608, 609, 1, 4, 3])
def in_78 : MethodName × ByteArray × Nat × Option FieldType × List (Nat × Nat × Nat × Nat) × List Nat := (yX4_day, cX4_day, 1, (some .int), [], [0, 0, 0, 0, 324, 37, 322, 323, 1, 4, 0])
def in_79 : MethodName × ByteArray × Nat × Option FieldType × List (Nat × Nat × Nat × Nat) × List Nat := (yX4_graceLength, cX4_graceLength, 2, (some .int), [], [1, 20, 0, 0, 413, 37, 411, 412, 1, 4, 1])
def in_80 : MethodName × ByteArray × Nat × Option FieldType × List (Nat × Nat × Nat × Nat) × List Nat := (yX4_isExempt, cX4_isExempt, 2, (some .boolean), [], [1, 20, 0, 0, 401, 37, 399, 400, 1, 4, 1])
def in_81 : MethodName × ByteArray × Nat × Option FieldType × List (Nat × Nat × Nat × Nat) × List Nat := (yX4_runningGraces, cX4_runningGraces, 3, (some .int), [], [1, 21, 0, 0, 598, 37, 596, 597, 1, 4, 0])
def in_82 : MethodName × ByteArray × Nat × Option FieldType × List (Nat × Nat × Nat × Nat) × List Nat := (yX4_overGraces, cX4_overGraces, 3, (some .int), [], [1, 21, 0, 0, 602, 37, 600, 601, 1, 4, 0])
def in_83 : MethodName × ByteArray × Nat × Option FieldType × List (Nat × Nat × Nat × Nat) × List Nat := (yX4_event, cX4_event, 3, (some .int), [], [1, 23, 0, 0, 421, 37, 419, 420, 1, 4, 2])
def in_84 : MethodName × ByteArray × Nat × Option FieldType × List (Nat × Nat × Nat × Nat) × List Nat := (yX4_eventCount, cX4_eventCount, 1, (some .int), [], [0, 0, 0, 0, 417, 37, 415, 416, 1, 4, 0])
def in_85 : MethodName × ByteArray × Nat × Option FieldType × List (Nat × Nat × Nat × Nat) × List Nat := (yX4_savedStates, cX4_savedStates, 1, (some .int), [], [0, 0, 0, 0, 328, 37, 326, 327, 1, 4, 0])
def in_87 : MethodName × ByteArray × Nat × Option FieldType × List (Nat × Nat × Nat × Nat) × List Nat := (yX4_requireUser, cX4_requireUser, 1, none, [], [0, 0, 0, 0, 404, 37, 403, 0, 0, 4, 1])
def in_88 : MethodName × ByteArray × Nat × Option FieldType × List (Nat × Nat × Nat × Nat) × List Nat := (yX4_requireGroup, cX4_requireGroup, 1, none, [], [0, 0, 0, 0, 613, 37, 612, 0, 0, 4, 1])
def in_89 : MethodName × ByteArray × Nat × Option FieldType × List (Nat × Nat × Nat × Nat) × List Nat := (yX4_requireAccount, cX4_requireAccount, 1, none, [], [0, 0, 0, 0, 350, 37, 349, 0, 0, 4, 1])
def in_90 : MethodName × ByteArray × Nat × Option FieldType × List (Nat × Nat × Nat × Nat) × List Nat := (yX4_requireResource, cX4_requireResource, 1, none, [], [0, 0, 0, 0, 354, 37, 353, 0, 0, 4, 1])
def in_91 : MethodName × ByteArray × Nat × Option FieldType × List (Nat × Nat × Nat × Nat) × List Nat := (yX4_requirePair, cX4_requirePair, 2, (some .int), [], [1, 21, 0, 0, 347, 37, 346, 0, 0, 4, 2])
def in_92 : MethodName × ByteArray × Nat × Option FieldType × List (Nat × Nat × Nat × Nat) × List Nat := (yX4_requireDirectory, cX4_requireDirectory, 1, none, [], [0, 0, 0, 0, 380, 37, 379, 0, 0, 4, 1])
def in_93 : MethodName × ByteArray × Nat × Option FieldType × List (Nat × Nat × Nat × Nat) × List Nat := (yX4_requireKey, cX4_requireKey, 2, (some .int), [], [1, 21, 0, 0, 377, 37, 376, 0, 0, 4, 2])
def in_94 : MethodName × ByteArray × Nat × Option FieldType × List (Nat × Nat × Nat × Nat) × List Nat := (yX4_requireSize, cX4_requireSize, 1, none, [], [0, 0, 0, 0, 617, 37, 616, 0, 0, 4, 1])
def in_95 : MethodName × ByteArray × Nat × Option FieldType × List (Nat × Nat × Nat × Nat) × List Nat := (yX4_requireLimits, cX4_requireLimits, 2, none, [], [0, 0, 0, 0, 517, 37, 516, 0, 0, 4, 2])
def in_96 : MethodName × ByteArray × Nat × Option FieldType × List (Nat × Nat × Nat × Nat) × List Nat := (yX4_requireSlot, cX4_requireSlot, 1, none, [], [0, 0, 0, 0, 304, 37, 303, 0, 0, 4, 1])
def in_97 : MethodName × ByteArray × Nat × Option FieldType × List (Nat × Nat × Nat × Nat) × List Nat := (yX4_requireFile, cX4_requireFile, 3, (some .int), [], [1, 22, 0, 0, 674, 37, 673, 30, 1, 4, 1])
def in_98 : MethodName × ByteArray × Nat × Option FieldType × List (Nat × Nat × Nat × Nat) × List Nat := (yX4_pairOf, cX4_pairOf, 2, (some .int), [], [0, 0, 0, 0, 358, 37, 357, 0, 0, 4, 2])
def in_99 : MethodName × ByteArray × Nat × Option FieldType × List (Nat × Nat × Nat × Nat) × List Nat := (yX4_groupAccount, cX4_groupAccount, 1, (some .int), [], [0, 0, 0, 0, 550, 37, 549, 0, 0, 4, 1])
def in_100 : MethodName × ByteArray × Nat × Option FieldType × List (Nat × Nat × Nat × Nat) × List Nat := (yX4_keyOf, cX4_keyOf, 2, (some .int), [], [0, 0, 0, 0, 385, 37, 384, 0, 0, 4, 2])
def in_101 : MethodName × ByteArray × Nat × Option FieldType × List (Nat × Nat × Nat × Nat) × List Nat := (yX4_keepState, cX4_keepState, 3, none, [], [3, 83, 0, 0, 462, 37, 461, 6, 1, 4, 0])
def in_103 : MethodName × ByteArray × Nat × Option FieldType × List (Nat × Nat × Nat × Nat) × List Nat := (yX4_takeLargest, cX4_takeLargest, 4, (some .int), [], [0, 0, 0, 0, 578, 37, 577, 0, 0, 4, 2])
def in_104 : MethodName × ByteArray × Nat × Option FieldType × List (Nat × Nat × Nat × Nat) × List Nat := (yL_cell, cL_cell, 2, (some .int), [], [0, 0, 0, 0, 331, 36, 330, 0, 0, 5, 2])
def in_105 : MethodName × ByteArray × Nat × Option FieldType × List (Nat × Nat × Nat × Nat) × List Nat := (yL_up, cL_up, 2, (some .int), [], [0, 0, 0, 0, 452, 36, 451, 0, 0, 5, 2])
def in_106 : MethodName × ByteArray × Nat × Option FieldType × List (Nat × Nat × Nat × Nat) × List Nat := (yL_quiet, cL_quiet, 4, (some .long), [], [3, 65, 0, 0, 339, 36, 338, 0, 0, 5, 1])
def in_107 : MethodName × ByteArray × Nat × Option FieldType × List (Nat × Nat × Nat × Nat) × List Nat := (yL_told, cL_told, 4, (some .long), [], [4, 88, 0, 0, 335, 36, 334, 0, 0, 5, 1])
def in_108 : MethodName × ByteArray × Nat × Option FieldType × List (Nat × Nat × Nat × Nat) × List Nat := (yL_refusals, cL_refusals, 3, (some .int), [], [2, 41, 0, 0, 631, 36, 630, 0, 0, 5, 1])
def in_109 : MethodName × ByteArray × Nat × Option FieldType × List (Nat × Nat × Nat × Nat) × List Nat := (yL_operate, cL_operate, 6, (some .int), [], [6, 145, 0, 0, 634, 36, 633, 0, 0, 5, 3])
def in_110 : MethodName × ByteArray × Nat × Option FieldType × List (Nat × Nat × Nat × Nat) × List Nat := (yL_administer, cL_administer, 6, (some .int), [], [5, 130, 0, 0, 449, 36, 448, 0, 0, 5, 3])
def in_111 : MethodName × ByteArray × Nat × Option FieldType × List (Nat × Nat × Nat × Nat) × List Nat := (yL_holds, cL_holds, 13, (some .boolean), [], [4, 92, 1, 4, 527, 36, 526, 0, 0, 5, 1])
def in_112 : MethodName × ByteArray × Nat × Option FieldType × List (Nat × Nat × Nat × Nat) × List Nat := (yL_isChecked, cL_isChecked, 21, (some .boolean), [], [7, 170, 1, 54, 606, 36, 605, 0, 0, 5, 3])
def in_113 : MethodName × ByteArray × Nat × Option FieldType × List (Nat × Nat × Nat × Nat) × List Nat := (x, code, 12, (some .boolean), [], [13, 514, 600086, 7301442, 0, 36, 0, 0, 0, 5, 1])
def inM (k : Nat) : MethodName × ByteArray × Nat × Option FieldType × List (Nat × Nat × Nat × Nat) × List Nat := (bif Nat.ble k 56 then (bif Nat.ble k 28 then (bif Nat.ble k 14 then (bif Nat.ble k 7 then (bif Nat.ble k 3 then (bif Nat.ble k 1 then (bif Nat.ble k 0 then in_0 else in_1) else (bif Nat.ble k 2 then in_2 else in_3)) else (bif Nat.ble k 5 then (bif Nat.ble k 4 then in_4 else in_5) else (bif Nat.ble k 6 then in_6 else in_7))) else (bif Nat.ble k 11 then (bif Nat.ble k 9 then (bif Nat.ble k 8 then in_8 else in_9) else (bif Nat.ble k 10 then in_10 else in_11)) else (bif Nat.ble k 13 then (bif Nat.ble k 12 then in_12 else in_13) else in_14))) else (bif Nat.ble k 21 then (bif Nat.ble k 18 then (bif Nat.ble k 16 then (bif Nat.ble k 15 then in_15 else in_16) else (bif Nat.ble k 17 then in_17 else in_18)) else (bif Nat.ble k 20 then (bif Nat.ble k 19 then in_19 else in_20) else in_21)) else (bif Nat.ble k 25 then (bif Nat.ble k 23 then (bif Nat.ble k 22 then in_22 else in_23) else (bif Nat.ble k 24 then in_24 else in_25)) else (bif Nat.ble k 27 then (bif Nat.ble k 26 then in_26 else in_27) else in_28)))) else (bif Nat.ble k 42 then (bif Nat.ble k 35 then (bif Nat.ble k 32 then (bif Nat.ble k 30 then (bif Nat.ble k 29 then in_29 else in_30) else (bif Nat.ble k 31 then in_31 else in_32)) else (bif Nat.ble k 34 then (bif Nat.ble k 33 then in_33 else in_34) else in_35)) else (bif Nat.ble k 39 then (bif Nat.ble k 37 then (bif Nat.ble k 36 then in_36 else in_0) else (bif Nat.ble k 38 then in_0 else in_0)) else (bif Nat.ble k 41 then (bif Nat.ble k 40 then in_0 else in_0) else in_0))) else (bif Nat.ble k 49 then (bif Nat.ble k 46 then (bif Nat.ble k 44 then (bif Nat.ble k 43 then in_0 else in_44) else (bif Nat.ble k 45 then in_45 else in_46)) else (bif Nat.ble k 48 then (bif Nat.ble k 47 then in_47 else in_48) else in_49)) else (bif Nat.ble k 53 then (bif Nat.ble k 51 then (bif Nat.ble k 50 then in_50 else in_51) else (bif Nat.ble k 52 then in_52 else in_53)) else (bif Nat.ble k 55 then (bif Nat.ble k 54 then in_0 else in_0) else in_0))))) else (bif Nat.ble k 85 then (bif Nat.ble k 71 then (bif Nat.ble k 64 then (bif Nat.ble k 60 then (bif Nat.ble k 58 then (bif Nat.ble k 57 then in_0 else in_58) else (bif Nat.ble k 59 then in_59 else in_60)) else (bif Nat.ble k 62 then (bif Nat.ble k 61 then in_61 else in_62) else (bif Nat.ble k 63 then in_63 else in_64))) else (bif Nat.ble k 68 then (bif Nat.ble k 66 then (bif Nat.ble k 65 then in_65 else in_66) else (bif Nat.ble k 67 then in_67 else in_68)) else (bif Nat.ble k 70 then (bif Nat.ble k 69 then in_69 else in_70) else in_71))) else (bif Nat.ble k 78 then (bif Nat.ble k 75 then (bif Nat.ble k 73 then (bif Nat.ble k 72 then in_72 else in_73) else (bif Nat.ble k 74 then in_74 else in_75)) else (bif Nat.ble k 77 then (bif Nat.ble k 76 then in_76 else in_0) else in_78)) else (bif Nat.ble k 82 then (bif Nat.ble k 80 then (bif Nat.ble k 79 then in_79 else in_80) else (bif Nat.ble k 81 then in_81 else in_82)) else (bif Nat.ble k 84 then (bif Nat.ble k 83 then in_83 else in_84) else in_85)))) else (bif Nat.ble k 99 then (bif Nat.ble k 92 then (bif Nat.ble k 89 then (bif Nat.ble k 87 then (bif Nat.ble k 86 then in_0 else in_87) else (bif Nat.ble k 88 then in_88 else in_89)) else (bif Nat.ble k 91 then (bif Nat.ble k 90 then in_90 else in_91) else in_92)) else (bif Nat.ble k 96 then (bif Nat.ble k 94 then (bif Nat.ble k 93 then in_93 else in_94) else (bif Nat.ble k 95 then in_95 else in_96)) else (bif Nat.ble k 98 then (bif Nat.ble k 97 then in_97 else in_98) else in_99))) else (bif Nat.ble k 106 then (bif Nat.ble k 103 then (bif Nat.ble k 101 then (bif Nat.ble k 100 then in_100 else in_101) else (bif Nat.ble k 102 then in_0 else in_103)) else (bif Nat.ble k 105 then (bif Nat.ble k 104 then in_104 else in_105) else in_106)) else (bif Nat.ble k 110 then (bif Nat.ble k 108 then (bif Nat.ble k 107 then in_107 else in_108) else (bif Nat.ble k 109 then in_109 else in_110)) else (bif Nat.ble k 112 then (bif Nat.ble k 111 then in_111 else in_112) else in_113))))))
end
section
def cdM (k pc : Nat) : Option IcM := ((cdT k).getD (pc / 64) []).getD (pc % 64) none
def yM (k : Nat) : MethodName := (inM k).1
def byM (k : Nat) : ByteArray := (inM k).2.1
def mxM (k : Nat) : Nat := (inM k).2.2.1
def rtM (k : Nat) : Option FieldType := (inM k).2.2.2.1
def nfM (k : Nat) : Nat := gaM (inM k).2.2.2.2.2 0
def nlM (k : Nat) : Nat := gaM (inM k).2.2.2.2.2 1
def ncM (k : Nat) : Nat := gaM (inM k).2.2.2.2.2 2
def nsM (k : Nat) : Nat := gaM (inM k).2.2.2.2.2 3
def fvM (σ : Mem) (v k κ : Nat) : Value := bif Nat.beq κ 1 then .ref (prM σ v k) else .int (rdM σ v k)
/-- what a call does with its answer: Φ is the callee -/
def caM (Φ : Nat → List Value → Mem → Option OutM) (K : FrM → Mem → Option OutM) (k : Nat) (a : List Nat) (fr : FrM) (σ : Mem) : Option OutM :=
  match fr with
  | (pc, ls, st, kc, ks) =>
    if (gaM a 1 ≤ st.length ∧ (st.take (gaM a 1)).all isOne = true) ∧ catM (st.drop (gaM a 1)) ≤ 8 ∧ kc + gaM a 3 ≤ gaM a 5 ∧ ks + gaM a 4 ≤ gaM a 6 then
      match Φ (gaM a 0) (st.take (gaM a 1)).reverse σ with
      | some (.inl v, σ') => K (pc + 3, ls, v.toList ++ st.drop (gaM a 1), kc + gaM a 3, ks + gaM a 4) σ'
      | some (.inr _, _) => none
      | none => none
    else none
/-- the receiver of a call -/
def rcM_ (n : Nat) (f : Nat → Option OutM) (st : List Value) : Option OutM :=
  match st.drop (n - 1) with
  | .ref b :: _ => f b
  | _ => none
def stM (Φ : Nat → List Value → Mem → Option OutM) (K : FrM → Mem → Option OutM) (k : Nat) (ic : IcM) (fr : FrM) (σ : Mem) : Option OutM :=
  match fr with
  | (pc, ls, st, kc, ks) =>
  match ic with
  | (i, len, a, c) =>
  match i with
  | .iconst _ | .bipush _ | .sipush _ | .ldc _ | .ldc_w _ => K (pc + len, ls, .int c :: st, kc, ks) σ
  | .ldc2_w _ => K (pc + len, ls, .long c.toInt64 :: st, kc, ks) σ
  | .lconst _ => K (pc + len, ls, .long c.toInt64 :: st, kc, ks) σ
  | .iload _ | .iload_n _ => oI (fun x => K (pc + len, ls, .int x :: st, kc, ks) σ) (ls.getD (gaM a 0) none)
  | .lload _ | .lload_n _ => oL (fun x => K (pc + len, ls, .long x :: st, kc, ks) σ) (ls.getD (gaM a 0) none)
  | .lstore _ | .lstore_n _ => sL1 (fun x r => K (pc + len, (ls.set (gaM a 0) (some (.long x))).set (gaM a 0 + 1) none, r, kc, ks) σ) st
  | .ladd => sL2 (fun x y r => K (pc + len, ls, .long (x + y) :: r, kc, ks) σ) st
  | .lmul => sL2 (fun x y r => K (pc + len, ls, .long (x * y) :: r, kc, ks) σ) st
  | .lreturn => match st with
    | [.long x] => if kc ≤ gaM a 0 ∧ ks ≤ gaM a 1 then some (.inl (some (.long x)), σ) else none
    | _ => none
  | .aload _ | .aload_n _ => oR (fun x => K (pc + len, ls, .ref x :: st, kc, ks) σ) (ls.getD (gaM a 0) none)
  | .istore _ | .istore_n _ => sI1 (fun x r => K (pc + len, ls.set (gaM a 0) (some (.int x)), r, kc, ks) σ) st
  | .astore _ | .astore_n _ => sR1 (fun x r => K (pc + len, ls.set (gaM a 0) (some (.ref x)), r, kc, ks) σ) st
  | .iinc _ _ => oI (fun x => K (pc + len, ls.set (gaM a 0) (some (.int (x + c))), st, kc, ks) σ) (ls.getD (gaM a 0) none)
  | .iadd => sI2 (fun x y r => K (pc + len, ls, .int (x + y) :: r, kc, ks) σ) st
  | .isub => sI2 (fun x y r => K (pc + len, ls, .int (x - y) :: r, kc, ks) σ) st
  | .imul => sI2 (fun x y r => K (pc + len, ls, .int (x * y) :: r, kc, ks) σ) st
  | .iand => sI2 (fun x y r => K (pc + len, ls, .int (x &&& y) :: r, kc, ks) σ) st
  | .ishl => sI2 (fun x y r => K (pc + len, ls, .int (x <<< (y &&& 31)) :: r, kc, ks) σ) st
  | .ishr => sI2 (fun x y r => K (pc + len, ls, .int (x >>> (y &&& 31)) :: r, kc, ks) σ) st
  | .idiv => sI2 (fun x y r => if y = 0 then none else K (pc + len, ls, .int (x / y) :: r, kc, ks) σ) st
  | .irem => sI2 (fun x y r => if y = 0 then none else K (pc + len, ls, .int (x - x / y * y) :: r, kc, ks) σ) st
  | .ineg => sI1 (fun x r => K (pc + len, ls, .int (-x) :: r, kc, ks) σ) st
  | .i2l => sI1 (fun x r => K (pc + len, ls, .long x.toInt64 :: r, kc, ks) σ) st
  | .i2c => sI1 (fun x r => K (pc + len, ls, .int (x.toUInt32 % 65536).toInt32 :: r, kc, ks) σ) st
  | .lcmp => sL2 (fun x y r => K (pc + len, ls, .int (lg_cmp x y) :: r, kc, ks) σ) st
  | .ifCond .eq _ => sI1 (fun x r => if x = 0 then K (gaM a 0, ls, r, kc, ks) σ else K (pc + len, ls, r, kc, ks) σ) st
  | .ifCond .ne _ => sI1 (fun x r => if x = 0 then K (pc + len, ls, r, kc, ks) σ else K (gaM a 0, ls, r, kc, ks) σ) st
  | .ifCond .lt _ => sI1 (fun x r => if x < 0 then K (gaM a 0, ls, r, kc, ks) σ else K (pc + len, ls, r, kc, ks) σ) st
  | .ifCond .ge _ => sI1 (fun x r => if x < 0 then K (pc + len, ls, r, kc, ks) σ else K (gaM a 0, ls, r, kc, ks) σ) st
  | .ifCond .gt _ => sI1 (fun x r => if 0 < x then K (gaM a 0, ls, r, kc, ks) σ else K (pc + len, ls, r, kc, ks) σ) st
  | .ifCond .le _ => sI1 (fun x r => if 0 < x then K (pc + len, ls, r, kc, ks) σ else K (gaM a 0, ls, r, kc, ks) σ) st
  | .if_icmp .eq _ => sI2 (fun x y r => if x = y then K (gaM a 0, ls, r, kc, ks) σ else K (pc + len, ls, r, kc, ks) σ) st
  | .if_icmp .ne _ => sI2 (fun x y r => if x = y then K (pc + len, ls, r, kc, ks) σ else K (gaM a 0, ls, r, kc, ks) σ) st
  | .if_icmp .lt _ => sI2 (fun x y r => if x < y then K (gaM a 0, ls, r, kc, ks) σ else K (pc + len, ls, r, kc, ks) σ) st
  | .if_icmp .ge _ => sI2 (fun x y r => if x < y then K (pc + len, ls, r, kc, ks) σ else K (gaM a 0, ls, r, kc, ks) σ) st
  | .if_icmp .gt _ => sI2 (fun x y r => if y < x then K (gaM a 0, ls, r, kc, ks) σ else K (pc + len, ls, r, kc, ks) σ) st
  | .if_icmp .le _ => sI2 (fun x y r => if y < x then K (pc + len, ls, r, kc, ks) σ else K (gaM a 0, ls, r, kc, ks) σ) st
  | .goto _ => K (gaM a 0, ls, st, kc, ks) σ
  | .getfield _ => sR1 (fun v r => if tkM σ v = (1, gaM a 0) then K (pc + len, ls, fvM σ v (gaM a 1) (gaM a 2) :: r, kc, ks) σ else none) st
  | .putfield _ => bif Nat.beq (gaM a 2) 1 then sRR (fun u v r => if tkM σ v = (1, gaM a 0) then K (pc + len, ls, r, kc, ks) (wpM σ v (gaM a 1) u) else none) st
      else bif Nat.beq (gaM a 2) 2 then sIR (fun x v r => if tkM σ v = (1, gaM a 0) ∧ 0 ≤ x ∧ x < 65536 then K (pc + len, ls, r, kc, ks) (wrM σ v (gaM a 1) x) else none) st
      else sIR (fun x v r => if tkM σ v = (1, gaM a 0) then K (pc + len, ls, r, kc, ks) (wrM σ v (gaM a 1) x) else none) st
  | .iaload => sIR (fun i v r => if aOk 2 σ v i then K (pc + len, ls, .int (rdM σ v i.toNatClampNeg) :: r, kc, ks) σ else none) st
  | .baload => sIR (fun i v r => if aOk 3 σ v i then K (pc + len, ls, .int (rdM σ v i.toNatClampNeg) :: r, kc, ks) σ else none) st
  | .aaload => sIR (fun i v r => if aOk 6 σ v i then K (pc + len, ls, .ref (prM σ v i.toNatClampNeg) :: r, kc, ks) σ else none) st
  | .iastore => sIIR (fun x i v r => if aOk 2 σ v i ∧ 8 ≤ v then K (pc + len, ls, r, kc, ks) (wrM σ v i.toNatClampNeg x) else none) st
  | .bastore => sIIR (fun x i v r => if aOk 3 σ v i then K (pc + len, ls, r, kc, ks) (wrM σ v i.toNatClampNeg (x &&& 1)) else none) st
  | .aastore => sRIR (fun u i v r => if aOk 6 σ v i ∧ tkM σ u = (1, 2) then K (pc + len, ls, r, kc, ks) (wpM σ v i.toNatClampNeg u) else none) st
  | .arraylength => sR1 (fun v r => if (tkM σ v).1 = 2 then K (pc + len, ls, .int (Int32.ofNat (tkM σ v).2) :: r, kc, ks) σ else none) st
  | .dup => match st with
    | v :: r => bif isOne v then K (pc + len, ls, v :: v :: r, kc, ks) σ else none
    | _ => none
  | .dup2 => match st with
    | v :: w :: r => bif isOne v && isOne w then K (pc + len, ls, v :: w :: v :: w :: r, kc, ks) σ else none
    | _ => none
  | .pop => match st with
    | v :: r => bif isOne v then K (pc + len, ls, r, kc, ks) σ else none
    | _ => none
  | .ireturn => match st with
    | [.int x] => if kc ≤ gaM a 0 ∧ ks ≤ gaM a 1 then bif Nat.beq (gaM a 2) 2 then (if x = 0 ∨ x = 1 then some (.inl (some (.int x)), σ) else none) else some (.inl (some (.int x)), σ) else none
    | _ => none
  | .return_ => match st with
    | [] => if kc ≤ gaM a 0 ∧ ks ≤ gaM a 1 then some (.inl none, σ) else none
    | _ => none
  | .new _ => if kc + 1 ≤ gaM a 3 ∧ ks + gaM a 2 ≤ gaM a 4 then K (pc + len, ls, .ref (nxM σ) :: st, kc + 1, ks + gaM a 2) (nwM σ 1 (gaM a 1)) else none
  | .newarray _ => sI1 (fun n r => if ¬ n < 0 ∧ n.toNatClampNeg ≤ 5000 ∧ kc + 1 ≤ gaM a 1 ∧ ks + n.toNatClampNeg ≤ gaM a 2 then K (pc + len, ls, .ref (nxM σ) :: r, kc + 1, ks + n.toNatClampNeg) (nwM σ (gaM a 0) n.toNatClampNeg) else none) st
  | .anewarray _ => sI1 (fun n r => if ¬ n < 0 ∧ n.toNatClampNeg ≤ 5000 ∧ kc + 1 ≤ gaM a 1 ∧ ks + n.toNatClampNeg ≤ gaM a 2 then K (pc + len, ls, .ref (nxM σ) :: r, kc + 1, ks + n.toNatClampNeg) (nwM σ 6 n.toNatClampNeg) else none) st
  | .tableswitch _ _ _ _ => sI1 (fun x r => swM x (gaM a 0) (fun t => K (t, ls, r, kc, ks) σ) (a.drop 1)) st
  | .invokestatic _ =>
      bif Nat.beq (gaM a 2) 6 then sI2 (fun x y r => if catM r ≤ 8 ∧ kc ≤ gaM a 5 ∧ ks ≤ gaM a 6 then K (pc + 3, ls, .int (if x < y then y else x) :: r, kc, ks) σ else none) st
      else bif Nat.beq (gaM a 2) 7 then sI2 (fun x y r => if catM r ≤ 8 ∧ kc ≤ gaM a 5 ∧ ks ≤ gaM a 6 then K (pc + 3, ls, .int (if y < x then y else x) :: r, kc, ks) σ else none) st
      else bif Nat.beq (gaM a 2) 8 then sCp (fun n dp dv sp sv r => if ((tkM σ sv).1 = 2 ∧ 8 ≤ sv ∧ (tkM σ dv).1 = 2 ∧ 8 ≤ dv) ∧ (¬ sp < 0 ∧ ¬ dp < 0 ∧ ¬ n < 0) ∧ sp.toNatClampNeg + n.toNatClampNeg ≤ (tkM σ sv).2 ∧ dp.toNatClampNeg + n.toNatClampNeg ≤ (tkM σ dv).2 ∧ catM r ≤ 8 then
          K (pc + 3, ls, r, kc, ks) (cpM σ sv sp.toNatClampNeg dv dp.toNatClampNeg n.toNatClampNeg) else none) st
      else caM Φ K k a (pc, ls, st, kc, ks) σ
  | .invokevirtual _ => rcM_ (gaM a 1) (fun b => if tkM σ b = (1, gaM a 8) then caM Φ K k a (pc, ls, st, kc, ks) σ else none) st
  | .invokespecial _ =>
      bif Nat.beq (gaM a 2) 9 then sR1 (fun v r => if ¬ v = 0 ∧ catM r ≤ 8 then K (pc + 3, ls, r, kc, ks) σ else none) st
      else rcM_ (gaM a 1) (fun b => if tkM σ b = (1, gaM a 8) then caM Φ K k a (pc, ls, st, kc, ks) σ else none) st
  | _ => none
/-- a method's entry -/
def enM (k : Nat) (as : List Value) : FrM := (0, as.map some ++ List.replicate (mxM k - as.length) none, [], 0, 0)
def runM : Nat → Nat → FrM → Mem → Option OutM
  | 0, _, _, _ => none
  | n + 1, k, fr, σ => match cdM k fr.1 with
    | some ic => stM (fun k' as σ' => runM n k' (enM k' as) σ') (runM n k) k ic fr σ
    | none => none
end
section
/-- from some number of steps on -/
def EvM (F : Nat → Option OutM) (o : OutM) : Prop := ∃ n, ∀ m, n ≤ m → F m = some o
theorem ev_c {x : Option OutM} {o : OutM} (h : x = some o) : EvM (fun _ => x) o := ⟨0, fun _ _ => h⟩
theorem ev_ite {c : Prop} [Decidable c] {A B : Option OutM} {A' B' : Nat → Option OutM} {o : OutM} (h : (if c then A else B) = some o) (ha : A = some o → EvM A' o) (hb : B = some o → EvM B' o) : EvM (fun m => if c then A' m else B' m) o := by
  by_cases hc : c
  · rw [if_pos hc] at h
    obtain ⟨n, hn⟩ := ha h
    exact ⟨n, fun m hm => (if_pos hc).trans (hn m hm)⟩
  · rw [if_neg hc] at h
    obtain ⟨n, hn⟩ := hb h
    exact ⟨n, fun m hm => (if_neg hc).trans (hn m hm)⟩
theorem ev_bif {c : Bool} {A B : Option OutM} {A' B' : Nat → Option OutM} {o : OutM} (h : (bif c then A else B) = some o) (ha : A = some o → EvM A' o) (hb : B = some o → EvM B' o) : EvM (fun m => bif c then A' m else B' m) o := by
  cases c
  · exact hb h
  · exact ha h
theorem ev_no {F : Nat → Option OutM} {o : OutM} (h : (none : Option OutM) = some o) : EvM F o := by cases h
theorem ev_I1 {f : Int32 → List Value → Option OutM} {f' : Nat → Int32 → List Value → Option OutM} {st : List Value} {o : OutM} (h : sI1 f st = some o) (k : ∀ x r, f x r = some o → EvM (fun m => f' m x r) o) : EvM (fun m => sI1 (f' m) st) o := by
  unfold sI1 at h ⊢
  split at h
  · exact k _ _ h
  · cases h
theorem ev_I2 {f : Int32 → Int32 → List Value → Option OutM} {f' : Nat → Int32 → Int32 → List Value → Option OutM} {st : List Value} {o : OutM} (h : sI2 f st = some o) (k : ∀ x y r, f x y r = some o → EvM (fun m => f' m x y r) o) : EvM (fun m => sI2 (f' m) st) o := by
  unfold sI2 at h ⊢
  split at h
  · exact k _ _ _ h
  · cases h
theorem ev_L2 {f : Int64 → Int64 → List Value → Option OutM} {f' : Nat → Int64 → Int64 → List Value → Option OutM} {st : List Value} {o : OutM} (h : sL2 f st = some o) (k : ∀ x y r, f x y r = some o → EvM (fun m => f' m x y r) o) : EvM (fun m => sL2 (f' m) st) o := by
  unfold sL2 at h ⊢
  split at h
  · exact k _ _ _ h
  · cases h
theorem ev_L1 {f : Int64 → List Value → Option OutM} {f' : Nat → Int64 → List Value → Option OutM} {st : List Value} {o : OutM} (h : sL1 f st = some o) (k : ∀ x r, f x r = some o → EvM (fun m => f' m x r) o) : EvM (fun m => sL1 (f' m) st) o := by
  unfold sL1 at h ⊢
  split at h
  · exact k _ _ h
  · cases h
theorem ev_R1 {f : Nat → List Value → Option OutM} {f' : Nat → Nat → List Value → Option OutM} {st : List Value} {o : OutM} (h : sR1 f st = some o) (k : ∀ x r, f x r = some o → EvM (fun m => f' m x r) o) : EvM (fun m => sR1 (f' m) st) o := by
  unfold sR1 at h ⊢
  split at h
  · exact k _ _ h
  · cases h
theorem ev_IR {f : Int32 → Nat → List Value → Option OutM} {f' : Nat → Int32 → Nat → List Value → Option OutM} {st : List Value} {o : OutM} (h : sIR f st = some o) (k : ∀ x y r, f x y r = some o → EvM (fun m => f' m x y r) o) : EvM (fun m => sIR (f' m) st) o := by
  unfold sIR at h ⊢
  split at h
  · exact k _ _ _ h
  · cases h
theorem ev_RR {f : Nat → Nat → List Value → Option OutM} {f' : Nat → Nat → Nat → List Value → Option OutM} {st : List Value} {o : OutM} (h : sRR f st = some o) (k : ∀ x y r, f x y r = some o → EvM (fun m => f' m x y r) o) : EvM (fun m => sRR (f' m) st) o := by
  unfold sRR at h ⊢
  split at h
  · exact k _ _ _ h
  · cases h
theorem ev_IIR {f : Int32 → Int32 → Nat → List Value → Option OutM} {f' : Nat → Int32 → Int32 → Nat → List Value → Option OutM} {st : List Value} {o : OutM} (h : sIIR f st = some o) (k : ∀ x y z r, f x y z r = some o → EvM (fun m => f' m x y z r) o) : EvM (fun m => sIIR (f' m) st) o := by
  unfold sIIR at h ⊢
  split at h
  · exact k _ _ _ _ h
  · cases h
theorem ev_RIR {f : Nat → Int32 → Nat → List Value → Option OutM} {f' : Nat → Nat → Int32 → Nat → List Value → Option OutM} {st : List Value} {o : OutM} (h : sRIR f st = some o) (k : ∀ x y z r, f x y z r = some o → EvM (fun m => f' m x y z r) o) : EvM (fun m => sRIR (f' m) st) o := by
  unfold sRIR at h ⊢
  split at h
  · exact k _ _ _ _ h
  · cases h
theorem ev_Cp {f : Int32 → Int32 → Nat → Int32 → Nat → List Value → Option OutM} {f' : Nat → Int32 → Int32 → Nat → Int32 → Nat → List Value → Option OutM} {st : List Value} {o : OutM} (h : sCp f st = some o) (k : ∀ x y z u v r, f x y z u v r = some o → EvM (fun m => f' m x y z u v r) o) : EvM (fun m => sCp (f' m) st) o := by
  unfold sCp at h ⊢
  split at h
  · exact k _ _ _ _ _ _ h
  · cases h
theorem ev_oI {f : Int32 → Option OutM} {f' : Nat → Int32 → Option OutM} {v : Option Value} {o : OutM} (h : oI f v = some o) (k : ∀ x, f x = some o → EvM (fun m => f' m x) o) : EvM (fun m => oI (f' m) v) o := by
  unfold oI at h ⊢
  split at h
  · exact k _ h
  · cases h
theorem ev_oL {f : Int64 → Option OutM} {f' : Nat → Int64 → Option OutM} {v : Option Value} {o : OutM} (h : oL f v = some o) (k : ∀ x, f x = some o → EvM (fun m => f' m x) o) : EvM (fun m => oL (f' m) v) o := by
  unfold oL at h ⊢
  split at h
  · exact k _ h
  · cases h
theorem ev_oR {f : Nat → Option OutM} {f' : Nat → Nat → Option OutM} {v : Option Value} {o : OutM} (h : oR f v = some o) (k : ∀ x, f x = some o → EvM (fun m => f' m x) o) : EvM (fun m => oR (f' m) v) o := by
  unfold oR at h ⊢
  split at h
  · exact k _ h
  · cases h
theorem ev_rc {n : Nat} {f : Nat → Option OutM} {f' : Nat → Nat → Option OutM} {st : List Value} {o : OutM} (h : rcM_ n f st = some o) (k : ∀ x, f x = some o → EvM (fun m => f' m x) o) : EvM (fun m => rcM_ n (f' m) st) o := by
  unfold rcM_ at h ⊢
  split at h
  · exact k _ h
  · cases h
theorem ev_sw {x : Int32} {d : Nat} {f : Nat → Option OutM} {f' : Nat → Nat → Option OutM} {o : OutM} (k : ∀ t, f t = some o → EvM (fun m => f' m t) o) : ∀ (l : List Nat), swM x d f l = some o → EvM (fun m => swM x d (f' m) l) o
  | [], h => k _ h
  | [_], h => k _ h
  | a :: t :: r, h => by
    unfold swM at h ⊢
    exact ev_ite h (fun h => k _ h) (fun h => ev_sw k r h)
theorem ev_ca {Φ : Nat → List Value → Mem → Option OutM} {K : FrM → Mem → Option OutM} {Φ' : Nat → Nat → List Value → Mem → Option OutM} {K' : Nat → FrM → Mem → Option OutM} {k : Nat} {a : List Nat} {fr : FrM} {σ : Mem} {o : OutM}
    (hΦ : ∀ k' as σ' o', Φ k' as σ' = some o' → EvM (fun m => Φ' m k' as σ') o') (hK : ∀ fr' σ', K fr' σ' = some o → EvM (fun m => K' m fr' σ') o) (h : caM Φ K k a fr σ = some o) : EvM (fun m => caM (Φ' m) (K' m) k a fr σ) o := by
  obtain ⟨pc, ls, st, kc, ks⟩ := fr
  unfold caM at h ⊢
  dsimp only at h ⊢
  refine ev_ite h (fun h => ?_) (fun h => ev_no h)
  cases e : Φ (gaM a 0) (st.take (gaM a 1)).reverse σ with
  | none => rw [e] at h; cases h
  | some p =>
    rw [e] at h
    obtain ⟨n1, h1⟩ := hΦ _ _ _ _ e
    obtain ⟨v, σ'⟩ := p
    cases v with
    | inl v =>
      obtain ⟨n2, h2⟩ := hK _ _ h
      exact ⟨max n1 n2, fun m hm => by dsimp only; rw [show Φ' m (gaM a 0) (st.take (gaM a 1)).reverse σ = _ from h1 m (by omega)]; exact h2 m (by omega)⟩
    | inr E => cases h
set_option maxHeartbeats 4000000 in
theorem ev_st {Φ : Nat → List Value → Mem → Option OutM} {K : FrM → Mem → Option OutM} {Φ' : Nat → Nat → List Value → Mem → Option OutM} {K' : Nat → FrM → Mem → Option OutM} {k : Nat} {ic : IcM} {fr : FrM} {σ : Mem} {o : OutM}
    (hΦ : ∀ k' as σ' o', Φ k' as σ' = some o' → EvM (fun m => Φ' m k' as σ') o') (hK : ∀ fr' σ', K fr' σ' = some o → EvM (fun m => K' m fr' σ') o) (h : stM Φ K k ic fr σ = some o) : EvM (fun m => stM (Φ' m) (K' m) k ic fr σ) o := by
  obtain ⟨pc, ls, st, kc, ks⟩ := fr
  obtain ⟨i, len, a, c⟩ := ic
  cases i
  case ifCond op off => cases op <;> exact ev_I1 h (fun _ _ h => ev_ite h (fun h => hK _ _ h) (fun h => hK _ _ h))
  case if_icmp op off => cases op <;> exact ev_I2 h (fun _ _ _ h => ev_ite h (fun h => hK _ _ h) (fun h => hK _ _ h))
  case tableswitch => exact ev_I1 h (fun _ _ h => ev_sw (fun _ h => hK _ _ h) _ h)
  case invokevirtual => exact ev_rc h (fun _ h => ev_ite h (fun h => ev_ca (a := a) (fr := (pc, ls, st, kc, ks)) (Φ' := Φ') (K' := K') hΦ hK h) (fun h => ev_no h))
  case invokespecial => exact ev_bif h (fun h => ev_R1 h (fun _ _ h => ev_ite h (fun h => hK _ _ h) (fun h => ev_no h))) (fun h => ev_rc h (fun _ h => ev_ite h (fun h => ev_ca (a := a) (fr := (pc, ls, st, kc, ks)) (Φ' := Φ') (K' := K') hΦ hK h) (fun h => ev_no h)))
  case invokestatic =>
    exact ev_bif h (fun h => ev_I2 h (fun _ _ _ h => ev_ite h (fun h => hK _ _ h) (fun h => ev_no h))) (fun h =>
      ev_bif h (fun h => ev_I2 h (fun _ _ _ h => ev_ite h (fun h => hK _ _ h) (fun h => ev_no h))) (fun h =>
      ev_bif h (fun h => ev_Cp h (fun _ _ _ _ _ _ h => ev_ite h (fun h => hK _ _ h) (fun h => ev_no h))) (fun h => ev_ca (a := a) (fr := (pc, ls, st, kc, ks)) (Φ' := Φ') (K' := K') hΦ hK h)))
  case new => exact ev_ite h (fun h => hK _ _ h) (fun h => ev_no h)
  case putfield =>
    exact ev_bif h (fun h => ev_RR h (fun _ _ _ h => ev_ite h (fun h => hK _ _ h) (fun h => ev_no h))) (fun h =>
      ev_bif h (fun h => ev_IR h (fun _ _ _ h => ev_ite h (fun h => hK _ _ h) (fun h => ev_no h))) (fun h => ev_IR h (fun _ _ _ h => ev_ite h (fun h => hK _ _ h) (fun h => ev_no h))))
  case dup =>
    cases st with
    | nil => exact ev_no h
    | cons v r => exact ev_bif h (fun h => hK _ _ h) (fun h => ev_no h)
  case pop =>
    cases st with
    | nil => exact ev_no h
    | cons v r => exact ev_bif h (fun h => hK _ _ h) (fun h => ev_no h)
  case dup2 =>
    cases st with
    | nil => exact ev_no h
    | cons v r => cases r with
      | nil => exact ev_no h
      | cons w r => exact ev_bif h (fun h => hK _ _ h) (fun h => ev_no h)
  all_goals first
    | exact hK _ _ h
    | exact ev_c h
    | exact ev_I1 h (fun _ _ h => hK _ _ h)
    | exact ev_I1 h (fun _ _ h => ev_ite h (fun h => hK _ _ h) (fun h => ev_no h))
    | exact ev_I2 h (fun _ _ _ h => hK _ _ h)
    | exact ev_I2 h (fun _ _ _ h => ev_ite h (fun h => ev_no h) (fun h => hK _ _ h))
    | exact ev_L2 h (fun _ _ _ h => hK _ _ h)
    | exact ev_R1 h (fun _ _ h => hK _ _ h)
    | exact ev_oI h (fun _ h => hK _ _ h)
    | exact ev_oR h (fun _ h => hK _ _ h)
    | exact ev_R1 h (fun _ _ h => ev_ite h (fun h => hK _ _ h) (fun h => ev_no h))
    | exact ev_IR h (fun _ _ _ h => ev_ite h (fun h => hK _ _ h) (fun h => ev_no h))
    | exact ev_IIR h (fun _ _ _ _ h => ev_ite h (fun h => hK _ _ h) (fun h => ev_no h))
    | exact ev_L1 h (fun _ _ h => hK _ _ h)
    | exact ev_oL h (fun _ h => hK _ _ h)
    | exact ev_RIR h (fun _ _ _ _ h => ev_ite h (fun h => hK _ _ h) (fun h => ev_no h))
noncomputable def RuM (k : Nat) (fr : FrM) (σ : Mem) : Option OutM := @dite _ (∃ o, EvM (fun n => runM n k fr σ) o) (Classical.propDecidable _) (fun h => some (Classical.choose h)) (fun _ => none)
theorem ev_det {F : Nat → Option OutM} {o o' : OutM} (h : EvM F o) (h' : EvM F o') : o = o' := by
  obtain ⟨n, hn⟩ := h
  obtain ⟨m, hm⟩ := h'
  have h1 := hn (max n m) (by omega)
  have h2 := hm (max n m) (by omega)
  exact Option.some.inj (h1.symm.trans h2)
theorem Ru_iff {k : Nat} {fr : FrM} {σ : Mem} {o : OutM} : RuM k fr σ = some o ↔ EvM (fun n => runM n k fr σ) o := by
  unfold RuM
  constructor
  · intro h
    split at h
    · next hx => rw [← Option.some.inj h]; exact Classical.choose_spec hx
    · cases h
  · intro h
    have hx : ∃ o, EvM (fun n => runM n k fr σ) o := ⟨o, h⟩
    rw [dif_pos hx, ev_det h (Classical.choose_spec hx)]
/-- a method's run -/
noncomputable def DoM (k : Nat) (as : List Value) (σ : Mem) : Option OutM := RuM k (enM k as) σ
theorem Do_of {k : Nat} {as : List Value} {σ : Mem} {o : OutM} (h : RuM k (enM k as) σ = some o) : DoM k as σ = some o := h
theorem Ru_step {k : Nat} {fr : FrM} {σ : Mem} {o : OutM} {ic : IcM} (hc : cdM k fr.1 = some ic) (h : stM DoM (RuM k) k ic fr σ = some o) : RuM k fr σ = some o := by
  refine Ru_iff.mpr ?_
  obtain ⟨n, hn⟩ := ev_st (Φ' := fun n k' as σ' => runM n k' (enM k' as) σ') (K' := fun n => runM n k) (fun k' as σ' o' h => Ru_iff.mp h) (fun fr' σ' h => Ru_iff.mp h) h
  refine ⟨n + 1, fun m hm => ?_⟩
  obtain ⟨m, rfl⟩ : ∃ m', m = m' + 1 := ⟨m - 1, by omega⟩
  show (match cdM k fr.1 with
    | some ic => stM (fun k' as σ' => runM m k' (enM k' as) σ') (runM m k) k ic fr σ
    | none => none) = some o
  rw [hc]
  exact hn m (by omega)
/-- several steps at once, up to the places in cuts -/
def cuM (cuts : List Nat) (R S : FrM → Mem → Option OutM) : FrM → Mem → Option OutM
  | (pc, ls, st, kc, ks), σ => bif cuts.elem pc then R (pc, ls, st, kc, ks) σ else S (pc, ls, st, kc, ks) σ
def stC (D : Nat → List Value → Mem → Option OutM) (R : FrM → Mem → Option OutM) (k : Nat) (cuts : List Nat) : Nat → FrM → Mem → Option OutM
  | 0, fr, σ => R fr σ
  | j + 1, (pc, ls, st, kc, ks), σ => match cdM k pc with
    | some ic => stM D (cuM cuts R (stC D R k cuts j)) k ic (pc, ls, st, kc, ks) σ
    | none => none
theorem st_mono {Φ : Nat → List Value → Mem → Option OutM} {K K' : FrM → Mem → Option OutM} {k : Nat} {ic : IcM} {fr : FrM} {σ : Mem} {o : OutM} (hK : ∀ fr' σ', K fr' σ' = some o → K' fr' σ' = some o) (h : stM Φ K k ic fr σ = some o) : stM Φ K' k ic fr σ = some o := by
  obtain ⟨n, hn⟩ := ev_st (Φ' := fun _ => Φ) (K' := fun _ => K') (fun k' as σ' o' h => ev_c h) (fun fr' σ' h => ev_c (hK _ _ h)) h
  exact hn n (Nat.le_refl n)
theorem Ru_C {k : Nat} (cuts : List Nat) (j : Nat) {o : OutM} : ∀ {fr : FrM} {σ : Mem}, stC DoM (RuM k) k cuts j fr σ = some o → RuM k fr σ = some o := by
  induction j with
  | zero => exact fun h => h
  | succ j ih =>
    rintro ⟨pc, ls, st, kc, ks⟩ σ h
    unfold stC at h
    split at h
    · next ic hc =>
      refine Ru_step (fr := (pc, ls, st, kc, ks)) hc (st_mono (fun fr' σ' h => ?_) h)
      obtain ⟨pc', ls', st', kc', ks'⟩ := fr'
      unfold cuM at h
      dsimp only at h
      cases e : cuts.elem pc' with
      | true => rw [e] at h; exact h
      | false => rw [e] at h; exact ih h
    · cases h
end
section
/-! What the small machine's memory is in the heap. -/
def rfM (ad : Nat → Nat) (v : Nat) : Option Nat := if v = 0 then none else some (ad v)
def vaM (ad : Nat → Nat) : Value → Value
  | .ref v => va_rf (rfM ad v)
  | w => w
def tysM (c : Nat → ClassId) : List (ClassId × FieldType) := [(c 2, .int), (c 3, .boolean), (c 4, .char), (c 6, .object RX2)]
def fkN (ci k : Nat) : Nat := ([[0, 0, 1, 1, 1], [0, 1, 1, 1, 1], [0, 1, 1, 1, 1, 1, 1, 1, 1, 1], [1, 0, 0, 2, 1], [1, 1, 1, 0, 1, 1, 1, 1]].getD ci []).getD k 0
def clM (ci : Nat) : vw_C := vwCl.getD ci ("", fun _ => ("", "", "", false), 0)
def ceK (c : Nat → ClassId) (ad : Nat → Nat) (r : Nat → Int32) (pt : Nat → Nat) (κ n : Nat) : va_E :=
  bif Nat.beq κ 1 then .inr (n, (List.range (clM n).2.2).map fun k => bif Nat.beq (fkN n k) 1 then vaM ad (.ref (pt k)) else .int (r k))
  else bif Nat.beq κ 6 then .inl (c 6, n, .inr (.inr (.inr (.inr fun j => rfM ad (pt j)))))
  else .inl (c κ, n, .inl r)
def ceM (c : Nat → ClassId) (ad : Nat → Nat) (σ : Mem) (v : Nat) : va_E := ceK c ad (rdM σ v) (prM σ v) (tkM σ v).1 (tkM σ v).2
def csM (c : Nat → ClassId) (ad : Nat → Nat) (σ : Mem) : va_W := (List.range (nxM σ - 8)).map fun i => (ad (i + 8), ceM c ad σ (i + 8))
/-- what is fixed in a run: the array classes, the classes' ids and slots, where new cells begin, the static rows' lengths and values, where they lie -/
abbrev GlM : Type := (Nat → ClassId) × va_G × Nat × (Nat → Nat) × (Nat → Nat → Int32) × (Nat → Nat)
abbrev gC (G : GlM) : Nat → ClassId := G.1
abbrev gD (G : GlM) : va_G := G.2.1
abbrev gB (G : GlM) : Nat := G.2.2.1
abbrev gN (G : GlM) : Nat → Nat := G.2.2.2.1
abbrev gM (G : GlM) : Nat → Nat → Int32 := G.2.2.2.2.1
abbrev gA (G : GlM) : Nat → Nat := G.2.2.2.2.2
abbrev gU (G : GlM) : Nat → Prop := fun q => gB G ≤ q
def okT (G : GlM) (σ : Mem) : Prop := 8 ≤ nxM σ ∧ (∀ v, nxM σ ≤ v → (tkM σ v).1 = 0) ∧ tkM σ 0 = (0, 0) ∧ (∀ v j, prM σ v j < nxM σ) ∧ ∀ v, 1 ≤ v → v < 8 → tkM σ v = (2, gN G v) ∧ ∀ j, rdM σ v j = gM G v j
def RpM (G : GlM) (ad : Nat → Nat) (σ : Mem) (H : Heap) : Prop := va_P (gD G) vwCl (csM (gC G) ad σ) H ∧ va_D (gU G) (csM (gC G) ad σ) ∧ okT G σ ∧ ∀ v, 1 ≤ v → v < 8 → ad v = gA G v
def wkM : Cond → Bool
  | .fieldLinkNest .. | .methodLinkNest .. | .declares _ | .castable .. => true
  | _ => false
def EvG (G : GlM) (s : State) : Prop :=
  (∀ w ∈ lw_tbl, wkM w = true → va_Nw w s) ∧ va_K (gD G) vwCl (tysM (gC G)) s ∧
  (∀ v, 1 ≤ v → v < 8 → va_T .int (gA G v) (gN G v) (fun j => .int (gM G v j)) (gU G) s s.heap) ∧
  gB G ≤ s.heap.size ∧ va_AO RX2 s
theorem wk_warm {w : Cond} {s U : State} (hw : wkM w = true) (hW : s.WarmedH U.vm) (h : va_Nw w s) : va_Nw w U := by
  cases w <;> first | exact va_Nw.warmF hW h | exact va_Nw.warmM hW h | exact va_Nw.warmD hW h | exact va_Nw.warmC hW h | cases hw
theorem Ev_next {G : GlM} {s U : State} (h : EvG G s) (hW : s.WarmedH U.vm) (hz : s.heap.size ≤ U.heap.size) (hk : ∀ q : Nat, q < s.heap.size → ¬ gU G q → U.heap[q]? = s.heap[q]?) : EvG G U := by
  obtain ⟨h1, h2, h4, h9, h10⟩ := h
  exact ⟨fun w hw hk => wk_warm hk hW (h1 w hw hk), h2.moved hW.alike, fun v a b => ((h4 v a b).moved hW.alike).kept hk, Nat.le_trans h9 hz, h10.moved hW.alike⟩
theorem Ev_same {G : GlM} {s U : State} (h : EvG G s) (hv : U.vm = s.vm) (hh : U.heap = s.heap) : EvG G U :=
  Ev_next h (by rw [hv]; exact State.WarmedH.refl s) (by rw [hh]; exact Nat.le_refl _) (fun q _ _ => by rw [hh])
theorem cs_get (c : Nat → ClassId) (ad : Nat → Nat) (σ : Mem) (i : Nat) : (csM c ad σ)[i]? = if i < nxM σ - 8 then some (ad (i + 8), ceM c ad σ (i + 8)) else none := by
  unfold csM
  rw [List.getElem?_map]
  by_cases h : i < nxM σ - 8
  · rw [if_pos h, List.getElem?_range h]; rfl
  · rw [if_neg h, List.getElem?_eq_none (by rw [List.length_range]; omega)]; rfl
theorem cs_at {c : Nat → ClassId} {ad : Nat → Nat} {σ : Mem} {v : Nat} (h1 : 8 ≤ v) (h2 : v < nxM σ) : (csM c ad σ)[v - 8]? = some (ad v, ceM c ad σ v) := by
  rw [cs_get, if_pos (by omega), show v - 8 + 8 = v by omega]
theorem cs_len (c : Nat → ClassId) (ad : Nat → Nat) (σ : Mem) : (csM c ad σ).length = nxM σ - 8 := by unfold csM; rw [List.length_map, List.length_range]
theorem ce_congr {c : Nat → ClassId} {ad ad' : Nat → Nat} {σ σ' : Mem} {v : Nat} (ht : tkM σ' v = tkM σ v) (hr : ∀ j, rdM σ' v j = rdM σ v j) (hp : ∀ j, prM σ' v j = prM σ v j) (ha : ∀ j, ad' (prM σ v j) = ad (prM σ v j)) : ceM c ad' σ' v = ceM c ad σ v := by
  have h1 : rdM σ' v = rdM σ v := funext hr
  have h2 : prM σ' v = prM σ v := funext hp
  have h3 : ∀ j, rfM ad' (prM σ v j) = rfM ad (prM σ v j) := fun j => by unfold rfM; rw [ha j]
  have h4 : ∀ j, vaM ad' (.ref (prM σ v j)) = vaM ad (.ref (prM σ v j)) := fun j => by show va_rf _ = va_rf _; rw [h3 j]
  unfold ceM ceK
  rw [ht, h1, h2]
  simp only [h3, h4]
/-- one object has changed -/
theorem cs_set {c : Nat → ClassId} {ad : Nat → Nat} {σ σ' : Mem} {v : Nat} (h1 : 8 ≤ v) (h2 : v < nxM σ) (hn : nxM σ' = nxM σ) (ht : ∀ u, tkM σ' u = tkM σ u) (hr : ∀ u j, u ≠ v → rdM σ' u j = rdM σ u j) (hp : ∀ u j, u ≠ v → prM σ' u j = prM σ u j) :
    csM c ad σ' = (csM c ad σ).set (v - 8) (ad v, ceM c ad σ' v) := by
  refine List.ext_getElem? fun i => ?_
  by_cases e : i = v - 8
  · subst e
    rw [List.getElem?_set_self (by rw [cs_len]; omega), cs_at h1 (by rw [hn]; exact h2)]
  · rw [List.getElem?_set_ne (Ne.symm e), cs_get, cs_get, hn]
    by_cases hi : i < nxM σ - 8
    · have hne : i + 8 ≠ v := by omega
      rw [if_pos hi, if_pos hi, ce_congr (ht _) (fun j => hr _ j hne) (fun j => hp _ j hne) (fun _ => rfl)]
    · rw [if_neg hi, if_neg hi]
theorem cs_new {c : Nat → ClassId} {ad ad' : Nat → Nat} {σ σ' : Mem} (h8 : 8 ≤ nxM σ) (hn : nxM σ' = nxM σ + 1) (ht : ∀ u, u < nxM σ → tkM σ' u = tkM σ u) (hr : ∀ u j, u < nxM σ → rdM σ' u j = rdM σ u j) (hp : ∀ u j, u < nxM σ → prM σ' u j = prM σ u j) (hw : ∀ u j, prM σ u j < nxM σ) (ha : ∀ u, u < nxM σ → ad' u = ad u) :
    csM c ad' σ' = csM c ad σ ++ [(ad' (nxM σ), ceM c ad' σ' (nxM σ))] := by
  refine List.ext_getElem? fun i => ?_
  by_cases e : i < nxM σ - 8
  · rw [List.getElem?_append_left (by rw [cs_len]; exact e), cs_get, cs_get, if_pos e, if_pos (by omega), ha _ (by omega), ce_congr (ht _ (by omega)) (fun j => hr _ j (by omega)) (fun j => hp _ j (by omega)) (fun j => ha _ (hw _ j))]
  · rw [List.getElem?_append_right (by rw [cs_len]; omega), cs_len, cs_get]
    by_cases e2 : i = nxM σ - 8
    · subst e2
      rw [if_pos (by omega), Nat.sub_self, show nxM σ - 8 + 8 = nxM σ by omega]; rfl
    · rw [if_neg (by omega), List.getElem?_eq_none (by simp; omega)]
end
section
/-! That the resolved code is what the bytecode and the tables say: checked by program, place by place. -/
def atM (i : Nat) (w : Cond) : Bool := decide (lw_tbl[i]? = some w)
def owM (k : Nat) : String := (yM k).cls
def kdM (k : Nat) : Nat := gaM (inM k).2.2.2.2.2 8
def ocM (k : Nat) : Nat := gaM (inM k).2.2.2.2.2 9
def npM (k : Nat) : Nat := gaM (inM k).2.2.2.2.2 10
def rcM (c : Nat) : String := [RX0, RX1, RX2, RX3, RX4, RL].getD c ""
def cwM (k : Nat) : Cond := .code (yM k) (byM k) (mxM k) (rtM k)
/-- where a method's locals hold longs -/
def llM (k : Nat) : List Nat := bif Nat.beq k 106 || Nat.beq k 107 then [1] else bif Nat.beq k 112 then [12] else bif Nat.beq k 113 then [6, 9] else []
def lfM (k x : Nat) : Bool := !(llM k).contains x && (Nat.beq x 0 || !(llM k).contains (x - 1))
def fT (ci k : Nat) : String × String × String × Bool := (clM ci).2.1 k
def tgM (pc : Nat) (off : Int) (a : List Nat) : Bool := decide ((pc : Int) + off = ((gaM a 0 : Nat) : Int))
def swOk (pc : Nat) : List Nat → List (Int × Int) → Bool
  | k :: t :: r, (x, o) :: q => decide (k < 1000) && decide (x = (k : Int)) && decide ((pc : Int) + o = (t : Int)) && swOk pc r q
  | [], [] => true
  | _, _ => false
def clOk (k : Nat) (a : List Nat) : Bool :=
  decide (gaM a 0 < 113) && decide (gaM a 1 ≤ mxM (gaM a 0)) && decide (nfM (gaM a 0) + 1 ≤ nfM k) && decide (8 + (mxM (gaM a 0) + 11) + nlM (gaM a 0) ≤ nlM k) && decide (gaM a 3 = ncM (gaM a 0)) && decide (gaM a 4 = nsM (gaM a 0)) && decide (gaM a 5 = ncM k) && decide (gaM a 6 = nsM k) && decide (gaM a 8 = ocM (gaM a 0)) && decide (ocM (gaM a 0) < 6)
def flW (e : Nat × Nat × Nat × Nat × Nat) : Cond :=
  bif Nat.beq e.2.2.2.2 0 then .fieldLink (rcM e.1) e.2.1 (fT e.2.2.1 e.2.2.2.1).1 (fT e.2.2.1 e.2.2.2.1).2.1 (fT e.2.2.1 e.2.2.2.1).2.2.1
  else .fieldLinkNest (rcM e.1) e.2.1 (fT e.2.2.1 e.2.2.2.1).1 (fT e.2.2.1 e.2.2.2.1).2.1 (fT e.2.2.1 e.2.2.2.1).2.2.1 RX4
def myM (k : Nat) : MethodName := bif Nat.beq k 1000 then Lib.objectInit else bif Nat.beq k 1001 then Lib.Math.max.name else bif Nat.beq k 1002 then Lib.Math.min.name else bif Nat.beq k 1003 then arraycopyName else yM k
def mlW (e : Nat × Nat × Nat × Nat) : Cond := bif Nat.beq e.2.2.2 0 then .methodLink (rcM e.1) e.2.1 (myM e.2.2.1) else .methodLinkNest (rcM e.1) e.2.1 (myM e.2.2.1) RX4
def flI (i : Nat) (e : Nat × Nat × Nat × Nat × Nat) : Bool := decide (flL[i]? = some e)
def mlI (i : Nat) (e : Nat × Nat × Nat × Nat) : Bool := decide (mlL[i]? = some e)
def iaL : Instr → Bool
  | .iadd | .isub | .imul | .iand | .ishl | .ishr | .idiv | .irem | .ineg | .i2l | .i2c | .lcmp | .ladd | .lmul | .iaload | .baload | .aaload | .iastore | .bastore | .aastore | .arraylength | .dup | .dup2 | .pop => true
  | _ => false
def okM (k pc : Nat) (ic : IcM) : Bool :=
  match ic with
  | (i, len, a, c) =>
  decide (decode (byM k) pc = .ok (i, len)) &&
  match i with
  | .iconst n => decide (Int32.ofInt n = c) && Nat.beq len 1
  | .bipush n => decide ((Int8.ofInt n).toInt32 = c) && Nat.beq len 2
  | .sipush n => decide ((Int16.ofInt n).toInt32 = c) && Nat.beq len 3
  | .ldc x => atM (gaM a 0) (.constant (owM k) x c) && Nat.beq len 2
  | .ldc_w x => atM (gaM a 0) (.constant (owM k) x c) && Nat.beq len 3
  | .ldc2_w x => atM (gaM a 0) (.constantLong (owM k) x c.toInt64) && Nat.beq len 3
  | .lload x => Nat.beq (gaM a 0) x && Nat.beq len 2
  | .lload_n x => Nat.beq (gaM a 0) x && Nat.beq len 1
  | .lstore x => Nat.beq (gaM a 0) x && Nat.beq len 2 && decide (gaM a 0 + 1 < mxM k) && (llM k).contains (gaM a 0) && (Nat.beq (gaM a 0) 0 || !(llM k).contains (gaM a 0 - 1))
  | .lstore_n x => Nat.beq (gaM a 0) x && Nat.beq len 1 && decide (gaM a 0 + 1 < mxM k) && (llM k).contains (gaM a 0) && (Nat.beq (gaM a 0) 0 || !(llM k).contains (gaM a 0 - 1))
  | .lreturn => decide (gaM a 0 = ncM k) && decide (gaM a 1 = nsM k) && Nat.beq len 1 && decide (rtM k = some .long)
  | .lconst n => decide (Int64.ofNat (n : Nat) = c.toInt64) && Nat.beq len 1
  | .iload x => Nat.beq (gaM a 0) x && Nat.beq len 2
  | .iload_n x => Nat.beq (gaM a 0) x && Nat.beq len 1
  | .aload x => Nat.beq (gaM a 0) x && Nat.beq len 2
  | .aload_n x => Nat.beq (gaM a 0) x && Nat.beq len 1
  | .istore x => Nat.beq (gaM a 0) x && Nat.beq len 2 && decide (gaM a 0 < mxM k) && lfM k (gaM a 0)
  | .istore_n x => Nat.beq (gaM a 0) x && Nat.beq len 1 && decide (gaM a 0 < mxM k) && lfM k (gaM a 0)
  | .astore x => Nat.beq (gaM a 0) x && Nat.beq len 2 && decide (gaM a 0 < mxM k) && lfM k (gaM a 0)
  | .astore_n x => Nat.beq (gaM a 0) x && Nat.beq len 1 && decide (gaM a 0 < mxM k) && lfM k (gaM a 0)
  | .iinc x n => Nat.beq (gaM a 0) x && Nat.beq len 3 && decide (x < mxM k) && decide (Int32.ofInt n = c) && lfM k x
  | .ifCond _ o => tgM pc o a && Nat.beq len 3
  | .if_icmp _ o => tgM pc o a && Nat.beq len 3
  | .goto o => tgM pc o a && Nat.beq len 3
  | .getfield x => decide (gaM a 0 < 5) && decide (gaM a 1 < (clM (gaM a 0)).2.2) && decide (gaM a 2 = fkN (gaM a 0) (gaM a 1)) && Nat.beq len 3 && decide (gaM a 3 < 2) && flI (gaM a 4) (ocM k, x, gaM a 0, gaM a 1, gaM a 3)
  | .putfield x => decide (gaM a 0 < 5) && decide (gaM a 1 < (clM (gaM a 0)).2.2) && decide (gaM a 2 = fkN (gaM a 0) (gaM a 1)) && Nat.beq len 3 && decide (gaM a 3 < 2) && flI (gaM a 4) (ocM k, x, gaM a 0, gaM a 1, gaM a 3) &&
      (decide ((fT (gaM a 0) (gaM a 1)).2.2.2 = false) || (decide ((fT (gaM a 0) (gaM a 1)).2.2.2 = true) && decide (kdM k = 2) && decide (gaM a 0 = ocM k) && decide (gaM a 3 = 0)))
  | .ireturn => decide (gaM a 0 = ncM k) && decide (gaM a 1 = nsM k) && Nat.beq len 1 && ((decide (gaM a 2 = 1) && decide (rtM k = some .int)) || (decide (gaM a 2 = 2) && decide (rtM k = some .boolean)))
  | .return_ => decide (gaM a 0 = ncM k) && decide (gaM a 1 = nsM k) && Nat.beq len 1 && decide (rtM k = none)
  | .new x => Nat.beq len 3 && decide (gaM a 3 = ncM k) && decide (gaM a 4 = nsM k) && (decide (gaM a 1 < 5) && decide (gaM a 2 = (clM (gaM a 1)).2.2) && atM (gaM a 5) (.classLink (owM k) x (clM (gaM a 1)).1))
  | .newarray t => Nat.beq len 2 && decide (gaM a 1 = ncM k) && decide (gaM a 2 = nsM k) && decide (2 ≤ gaM a 0) && decide (gaM a 0 < 5) && decide (newarray.typeOf t = [FieldType.int, .int, .int, .boolean, .char].getD (gaM a 0) .int)
  | .anewarray x => Nat.beq len 3 && decide (gaM a 1 = ncM k) && decide (gaM a 2 = nsM k) && atM (gaM a 3) (.classLink (owM k) x RX2)
  | .tableswitch d lo hi os => tgM pc d a && decide (lo = 0) && decide (hi + 1 = (os.size : Int)) && swOk pc (a.drop 1) (((List.range os.size).map (fun q : Nat => (q : Int))).zip os.toList)
  | .invokestatic x => Nat.beq len 3 &&
      (bif Nat.beq (gaM a 2) 6 then mlI (gaM a 7) (ocM k, x, 1001, 0) && decide (1 ≤ nfM k) && decide (21 ≤ nlM k) && decide (gaM a 5 = ncM k) && decide (gaM a 6 = nsM k)
       else bif Nat.beq (gaM a 2) 7 then mlI (gaM a 7) (ocM k, x, 1002, 0) && decide (1 ≤ nfM k) && decide (21 ≤ nlM k) && decide (gaM a 5 = ncM k) && decide (gaM a 6 = nsM k)
       else bif Nat.beq (gaM a 2) 8 then mlI (gaM a 7) (ocM k, x, 1003, 0) && decide (1 ≤ nfM k) && decide (8 + (nativeFrameWords "java/lang/System" "arraycopy" 5 + 11) ≤ nlM k)
       else clOk k a && decide (gaM a 1 = npM (gaM a 0)) && decide (kdM (gaM a 0) = 0) &&
         (bif Nat.beq (gaM a 2) 0 then mlI (gaM a 7) (ocM k, x, gaM a 0, 0)
          else decide (gaM a 2 = 1) && mlI (gaM a 7) (ocM k, x, gaM a 0, 1)))
  | .invokevirtual x => Nat.beq len 3 && clOk k a && decide (gaM a 1 = npM (gaM a 0) + 1) && decide (kdM (gaM a 0) = 1) && decide (ocM (gaM a 0) < 5) &&
      (bif Nat.beq (gaM a 2) 2 then mlI (gaM a 7) (ocM k, x, gaM a 0, 0) else decide (gaM a 2 = 3) && mlI (gaM a 7) (ocM k, x, gaM a 0, 1))
  | .invokespecial x => Nat.beq len 3 &&
      (bif Nat.beq (gaM a 2) 9 then mlI (gaM a 7) (ocM k, x, 1000, 0) && decide (1 ≤ nfM k) && decide (20 ≤ nlM k)
       else clOk k a && decide (gaM a 1 = npM (gaM a 0) + 1) && decide (kdM (gaM a 0) = 2) && decide (ocM (gaM a 0) < 5) && decide (rtM (gaM a 0) = none) &&
         (bif Nat.beq (gaM a 2) 4 then mlI (gaM a 7) (ocM k, x, gaM a 0, 0) else decide (gaM a 2 = 5) && mlI (gaM a 7) (ocM k, x, gaM a 0, 1)))
  | j => iaL j && Nat.beq len 1
/-- a method's own row: its words stand in the tables -/
def MtP (k : Nat) : Prop := owM k = rcM (ocM k) ∧ (k = 113 ∨ cwM k ∈ lw_tbl) ∧ (kdM k = 0 → k = 113 ∨ Cond.static (yM k) ∈ lw_tbl) ∧ (kdM k = 1 → Cond.instanceMethod (yM k) ∈ lw_tbl ∧ Cond.selects (owM k) (yM k) (yM k) ∈ lw_tbl) ∧ (kdM k = 2 → Cond.instanceMethod (yM k) ∈ lw_tbl ∧ (yM k).name = "<init>") ∧ (parseMethodDescriptor (yM k).desc).map (fun d => d.parameters.length) = some (npM k)
theorem bt {P : Nat → Prop} {a m b : Nat} (h1 : ∀ k, a ≤ k → k < m → P k) (h2 : ∀ k, m ≤ k → k < b → P k) : ∀ k, a ≤ k → k < b → P k := fun k ha hb => by
  rcases Nat.lt_or_ge k m with h | h
  · exact h1 k ha h
  · exact h2 k h hb
theorem b1 {P : Nat → Prop} {a : Nat} (h : P a) : ∀ k, a ≤ k → k < a + 1 → P k := fun k h1 h2 => by
  have e : k = a := by omega
  subst e
  exact h
theorem rc_init : ∀ c, c < 6 → Cond.initialized (rcM c) ∈ lw_tbl := by
  intro c hc
  rcases (show c = 0 ∨ c = 1 ∨ c = 2 ∨ c = 3 ∨ c = 4 ∨ c = 5 by omega) with rfl | rfl | rfl | rfl | rfl | rfl <;> decide +kernel
theorem rc_plain : ∀ c, c < 6 → plainName (rcM c) = true ∧ rcM c ≠ "java/lang/invoke/MethodHandle" ∧ rcM c ≠ "java/lang/invoke/VarHandle" := by
  intro c hc
  rcases (show c = 0 ∨ c = 1 ∨ c = 2 ∨ c = 3 ∨ c = 4 ∨ c = 5 by omega) with rfl | rfl | rfl | rfl | rfl | rfl <;> decide +kernel
theorem cl_rc : ∀ c, c < 5 → (clM c).1 = rcM c := by
  intro c hc
  rcases (show c = 0 ∨ c = 1 ∨ c = 2 ∨ c = 3 ∨ c = 4 by omega) with rfl | rfl | rfl | rfl | rfl <;> rfl
theorem ma_wd : (Cond.static Lib.Math.max.name ∈ lw_tbl ∧ Cond.code Lib.Math.max.name Lib.Math.max.code 2 (some .int) ∈ lw_tbl) ∧ (Cond.static Lib.Math.min.name ∈ lw_tbl ∧ Cond.code Lib.Math.min.name Lib.Math.min.code 2 (some .int) ∈ lw_tbl) ∧ Cond.initialized "java/lang/Math" ∈ lw_tbl ∧ (Cond.native arraycopyName ∈ lw_tbl ∧ Cond.static arraycopyName ∈ lw_tbl ∧ Cond.initialized "java/lang/System" ∈ lw_tbl) ∧ (Cond.instanceMethod Lib.objectInit ∈ lw_tbl ∧ Cond.code Lib.objectInit ⟨#[0xb1]⟩ 1 none ∈ lw_tbl) :=
  ⟨⟨by decide +kernel, by decide +kernel⟩, ⟨by decide +kernel, by decide +kernel⟩, by decide +kernel, ⟨by decide +kernel, by decide +kernel, by decide +kernel⟩, ⟨by decide +kernel, by decide +kernel⟩⟩
def cdOk (k : Nat) : Bool := (List.range (64 * (cdT k).length)).all fun pc => match cdM k pc with
  | some ic => okM k pc ic
  | none => true
end
section
def kfFB : Cond → Bool
  | .fieldLink .. | .fieldLinkNest .. => true
  | _ => false
def kfF_0 : List Cond := [flW (1, 9, 1, 0, 0), flW (2, 66, 1, 0, 1), flW (4, 237, 1, 0, 1), flW (1, 15, 1, 1, 0), flW (1, 19, 1, 2, 0), flW (2, 97, 1, 2, 1), flW (4, 231, 1, 2, 1), flW (1, 22, 1, 3, 0), flW (2, 100, 1, 3, 1), flW (4, 234, 1, 3, 1), flW (1, 25, 1, 4, 0), flW (2, 94, 1, 4, 1), flW (4, 228, 1, 4, 1), flW (0, 9, 0, 0, 0), flW (4, 277, 0, 0, 1), flW (0, 15, 0, 1, 0), flW (0, 18, 0, 2, 0), flW (0, 22, 0, 3, 0), flW (0, 25, 0, 4, 0), flW (2, 9, 2, 0, 0), flW (4, 129, 2, 0, 1), flW (2, 15, 2, 1, 0), flW (4, 118, 2, 1, 1), flW (2, 19, 2, 2, 0), flW (4, 132, 2, 2, 1), flW (2, 23, 2, 3, 0), flW (4, 107, 2, 3, 1), flW (2, 26, 2, 4, 0), flW (4, 98, 2, 4, 1), flW (2, 29, 2, 5, 0), flW (4, 101, 2, 5, 1), flW (2, 32, 2, 6, 0), flW (4, 126, 2, 6, 1), flW (2, 35, 2, 7, 0), flW (4, 211, 2, 7, 1), flW (2, 41, 2, 8, 0), flW (4, 188, 2, 8, 1), flW (2, 48, 2, 9, 0), flW (4, 268, 2, 9, 1), flW (3, 9, 3, 0, 0), flW (3, 15, 3, 1, 0), flW (3, 19, 3, 2, 0), flW (3, 22, 3, 3, 0), flW (3, 26, 3, 4, 0), flW (4, 12, 4, 0, 0), flW (4, 16, 4, 1, 0), flW (4, 19, 4, 2, 0), flW (4, 23, 4, 3, 0), flW (4, 27, 4, 4, 0), flW (4, 30, 4, 5, 0), flW (4, 37, 4, 6, 0), flW (4, 41, 4, 7, 0), (Jvm.Cond.fieldLink "java/lang/Throwable" (198 : Nat) "java/lang/Throwable" "backtrace" "Ljava/lang/Object;"), (Jvm.Cond.fieldLink "java/lang/Throwable" (13 : Nat) "java/lang/Throwable" "UNASSIGNED_STACK" "[Ljava/lang/StackTraceElement;"), (Jvm.Cond.fieldLink "java/lang/Throwable" (20 : Nat) "java/lang/Throwable" "SUPPRESSED_SENTINEL" "Ljava/util/List;"), (Jvm.Cond.fieldLink "java/lang/Throwable" (198 : Nat) "java/lang/Throwable" "backtrace" "Ljava/lang/Object;"), (Jvm.Cond.fieldLink "java/lang/Throwable" (31 : Nat) "java/lang/Throwable" "detailMessage" "Ljava/lang/String;"), (Jvm.Cond.fieldLink "java/lang/Throwable" (7 : Nat) "java/lang/Throwable" "cause" "Ljava/lang/Throwable;"), (Jvm.Cond.fieldLink "java/lang/Throwable" (17 : Nat) "java/lang/Throwable" "stackTrace" "[Ljava/lang/StackTraceElement;"), (Jvm.Cond.fieldLink "java/lang/Throwable" (24 : Nat) "java/lang/Throwable" "suppressedExceptions" "Ljava/util/List;")]
set_option maxRecDepth 1000000 in
theorem kfF_eq : lw_tbl.filter kfFB = kfF_0 := rfl
theorem kfF_0_in : ∀ w ∈ kfF_0, w ∈ lw_tbl := fun w h => (List.mem_filter.mp (by rw [kfF_eq]; exact h)).1
def kmLB : Cond → Bool
  | .methodLink .. | .methodLinkNest .. => true
  | _ => false
def kmL_0 : List Cond := [mlW (5, 141, 44, 0), mlW (4, 3, 1000, 0), mlW (4, 11, 14, 1), mlW (2, 3, 1000, 0), mlW (2, 40, 4, 1), mlW (1, 3, 1000, 0), mlW (2, 47, 0, 1), mlW (0, 3, 1000, 0), mlW (4, 36, 36, 1), mlW (3, 3, 1000, 0), mlW (5, 163, 58, 0), (Jvm.Cond.methodLink "java/lang/Throwable" (1 : Nat) ({ cls := "java/lang/Object", name := "<init>", desc := "()V" } : Jvm.MethodName)), (Jvm.Cond.methodLink "java/lang/Throwable" (27 : Nat) ({ cls := "java/lang/Throwable", name := "fillInStackTrace", desc := "()Ljava/lang/Throwable;" } : Jvm.MethodName)), (Jvm.Cond.methodLink "java/lang/Throwable" (202 : Nat) ({ cls := "java/lang/Throwable", name := "fillInStackTrace", desc := "(I)Ljava/lang/Throwable;" } : Jvm.MethodName)), (Jvm.Cond.methodLink "StorageQuotas" (67 : Nat) ({ cls := "java/lang/IllegalStateException", name := "<init>", desc := "(Ljava/lang/String;)V" } : Jvm.MethodName)), (Jvm.Cond.methodLink "java/lang/IllegalStateException" (7 : Nat) ({ cls := "java/lang/RuntimeException", name := "<init>", desc := "(Ljava/lang/String;)V" } : Jvm.MethodName)), (Jvm.Cond.methodLink "java/lang/RuntimeException" (7 : Nat) ({ cls := "java/lang/Exception", name := "<init>", desc := "(Ljava/lang/String;)V" } : Jvm.MethodName)), (Jvm.Cond.methodLink "java/lang/Exception" (7 : Nat) ({ cls := "java/lang/Throwable", name := "<init>", desc := "(Ljava/lang/String;)V" } : Jvm.MethodName)), mlW (4, 179, 15, 1), mlW (2, 52, 1003, 0), mlW (2, 58, 5, 1), mlW (1, 28, 1003, 0), mlW (2, 62, 1, 1), mlW (0, 28, 1003, 0), mlW (5, 142, 59, 0), mlW (4, 183, 96, 0), (Jvm.Cond.methodLink "StorageQuotas" (265 : Nat) ({ cls := "java/lang/IndexOutOfBoundsException", name := "<init>", desc := "(Ljava/lang/String;)V" } : Jvm.MethodName)), (Jvm.Cond.methodLink "java/lang/IndexOutOfBoundsException" (7 : Nat) ({ cls := "java/lang/RuntimeException", name := "<init>", desc := "(Ljava/lang/String;)V" } : Jvm.MethodName)), mlW (5, 11, 78, 0), mlW (5, 134, 85, 0), mlW (5, 149, 104, 0), mlW (5, 153, 107, 0), mlW (5, 52, 106, 0), mlW (5, 19, 61, 0), mlW (4, 91, 91, 0), mlW (4, 208, 89, 0), mlW (4, 110, 90, 0), mlW (4, 214, 98, 0), mlW (5, 23, 65, 0), mlW (5, 26, 63, 0), mlW (5, 29, 64, 0), mlW (5, 32, 70, 0), mlW (4, 52, 93, 0), mlW (4, 240, 92, 0), mlW (4, 290, 100, 0), mlW (4, 225, 6, 1), mlW (5, 35, 71, 0), mlW (5, 38, 72, 0), mlW (5, 41, 80, 0), mlW (4, 45, 87, 0), mlW (5, 45, 73, 0), mlW (5, 48, 79, 0), mlW (5, 58, 84, 0), mlW (5, 61, 83, 0), (Jvm.Cond.methodLink "StorageQuotas" (117 : Nat) ({ cls := "java/lang/IllegalArgumentException", name := "<init>", desc := "(Ljava/lang/String;)V" } : Jvm.MethodName)), (Jvm.Cond.methodLink "java/lang/IllegalArgumentException" (7 : Nat) ({ cls := "java/lang/RuntimeException", name := "<init>", desc := "(Ljava/lang/String;)V" } : Jvm.MethodName)), mlW (4, 272, 3, 1), mlW (5, 64, 68, 0), mlW (5, 160, 110, 0), mlW (5, 67, 105, 0)]
def kmL_60 : List Cond := [mlW (5, 85, 50, 0), mlW (4, 70, 101, 0), mlW (5, 88, 52, 0), mlW (4, 135, 35, 1), mlW (5, 92, 53, 0), mlW (4, 139, 32, 1), mlW (4, 144, 33, 1), mlW (2, 139, 34, 0), mlW (2, 136, 29, 0), mlW (2, 143, 30, 0), mlW (2, 131, 2, 1), mlW (5, 95, 51, 0), mlW (4, 121, 29, 1), mlW (5, 98, 60, 0), mlW (5, 101, 49, 0), mlW (4, 94, 95, 0), mlW (4, 104, 28, 1), mlW (5, 145, 111, 0), mlW (5, 104, 66, 0), mlW (4, 197, 30, 1), mlW (4, 200, 1001, 0), mlW (5, 107, 62, 0), mlW (4, 192, 10, 1), mlW (1, 38, 9, 0), mlW (1, 34, 99, 1), mlW (5, 110, 67, 0), mlW (4, 205, 25, 1), mlW (2, 118, 31, 0), mlW (2, 123, 1002, 0), mlW (2, 128, 1001, 0), mlW (5, 113, 69, 0), mlW (4, 217, 11, 1), mlW (4, 221, 103, 0), mlW (5, 116, 75, 0), mlW (4, 246, 13, 1), mlW (5, 119, 74, 0), mlW (4, 243, 12, 1), mlW (5, 122, 81, 0), mlW (5, 125, 82, 0), mlW (4, 258, 31, 1), mlW (5, 156, 112, 0), mlW (5, 128, 76, 0), mlW (4, 49, 88, 0), mlW (4, 56, 94, 0), mlW (4, 249, 23, 1), mlW (2, 88, 99, 1), mlW (2, 111, 98, 1), mlW (2, 115, 24, 0), mlW (5, 131, 108, 0), mlW (5, 137, 109, 0), mlW (5, 70, 45, 0), mlW (4, 59, 16, 1), mlW (2, 69, 6, 1), mlW (4, 73, 17, 1), mlW (2, 73, 23, 0), mlW (2, 77, 26, 0), mlW (2, 81, 7, 1), mlW (2, 85, 22, 0), mlW (2, 91, 27, 0), mlW (2, 133, 28, 0)]
def kmL_120 : List Cond := [mlW (5, 74, 47, 0), mlW (4, 77, 97, 0), mlW (4, 84, 20, 1), mlW (2, 107, 8, 1), mlW (5, 77, 48, 0), mlW (4, 87, 21, 1), mlW (5, 81, 46, 0), mlW (4, 81, 18, 1), mlW (2, 103, 19, 0)]
set_option maxRecDepth 1000000 in
theorem kmL_eq : lw_tbl.filter kmLB = kmL_0 ++ (kmL_60 ++ (kmL_120)) := rfl
theorem kmL_0_in : ∀ w ∈ kmL_0, w ∈ lw_tbl := fun w h => (List.mem_filter.mp (by rw [kmL_eq]; exact List.mem_append_left _ h)).1
theorem kmL_60_in : ∀ w ∈ kmL_60, w ∈ lw_tbl := fun w h => (List.mem_filter.mp (by rw [kmL_eq]; exact List.mem_append_right _ (List.mem_append_left _ h))).1
theorem kmL_120_in : ∀ w ∈ kmL_120, w ∈ lw_tbl := fun w h => (List.mem_filter.mp (by rw [kmL_eq]; exact List.mem_append_right _ (List.mem_append_right _ (h)))).1
def kcDB : Cond → Bool
  | .code .. | .codeWith .. => true
  | _ => false
def kcD_0 : List Cond := [cwM 44, (Jvm.Cond.code ({ cls := "java/lang/Object", name := "<init>", desc := "()V" } : Jvm.MethodName) object_method_1_code (1 : Nat) (Option.none : Option Jvm.ClassFile.FieldType)), cwM 14, cwM 4, cwM 0, cwM 36, cwM 58, (Jvm.Cond.code ({ cls := "java/lang/Throwable", name := "<init>", desc := "()V" } : Jvm.MethodName) prog_16_method_1_code (1 : Nat) (Option.none : Option Jvm.ClassFile.FieldType)), (Jvm.Cond.code ({ cls := "java/lang/IllegalStateException", name := "<init>", desc := "(Ljava/lang/String;)V" } : Jvm.MethodName) prog_10_method_2_code (2 : Nat) (Option.none : Option Jvm.ClassFile.FieldType)), (Jvm.Cond.code ({ cls := "java/lang/RuntimeException", name := "<init>", desc := "(Ljava/lang/String;)V" } : Jvm.MethodName) prog_13_method_2_code (2 : Nat) (Option.none : Option Jvm.ClassFile.FieldType)), (Jvm.Cond.code ({ cls := "java/lang/Exception", name := "<init>", desc := "(Ljava/lang/String;)V" } : Jvm.MethodName) prog_8_method_2_code (2 : Nat) (Option.none : Option Jvm.ClassFile.FieldType)), (Jvm.Cond.code ({ cls := "java/lang/Throwable", name := "<init>", desc := "(Ljava/lang/String;)V" } : Jvm.MethodName) prog_16_method_2_code (2 : Nat) (Option.none : Option Jvm.ClassFile.FieldType)), cwM 15, cwM 5, cwM 1, cwM 59, cwM 96, (Jvm.Cond.code ({ cls := "java/lang/IndexOutOfBoundsException", name := "<init>", desc := "(Ljava/lang/String;)V" } : Jvm.MethodName) prog_11_method_2_code (2 : Nat) (Option.none : Option Jvm.ClassFile.FieldType)), cwM 78, cwM 85, cwM 104, cwM 107, cwM 106, cwM 61, cwM 91, cwM 89, cwM 90, cwM 98, cwM 65, cwM 63, cwM 64, cwM 70, cwM 93, cwM 92, cwM 100, cwM 6, cwM 71, cwM 72, cwM 80, cwM 87, cwM 73, cwM 79, cwM 84, cwM 83, (Jvm.Cond.code ({ cls := "java/lang/IllegalArgumentException", name := "<init>", desc := "(Ljava/lang/String;)V" } : Jvm.MethodName) prog_9_method_2_code (2 : Nat) (Option.none : Option Jvm.ClassFile.FieldType)), cwM 3, cwM 68, cwM 110, cwM 105, cwM 50, cwM 101, cwM 52, cwM 35, cwM 53, cwM 32, cwM 33, cwM 34, cwM 29, cwM 30, cwM 2]
def kcD_60 : List Cond := [cwM 51, cwM 60, cwM 49, cwM 95, cwM 28, cwM 111, cwM 66, (Jvm.Cond.code ({ cls := "java/lang/Math", name := "max", desc := "(II)I" } : Jvm.MethodName) prog_12_method_65_code (2 : Nat) (Option.some Jvm.ClassFile.FieldType.int)), cwM 62, cwM 10, cwM 9, cwM 99, cwM 67, cwM 25, cwM 31, (Jvm.Cond.code ({ cls := "java/lang/Math", name := "min", desc := "(II)I" } : Jvm.MethodName) prog_12_method_69_code (2 : Nat) (Option.some Jvm.ClassFile.FieldType.int)), cwM 69, cwM 11, cwM 103, cwM 75, cwM 13, cwM 74, cwM 12, cwM 81, cwM 82, cwM 112, cwM 76, cwM 88, cwM 94, cwM 23, cwM 24, cwM 108, cwM 109, cwM 45, cwM 16, cwM 17, cwM 26, cwM 7, cwM 22, cwM 27, cwM 47, cwM 97, cwM 20, cwM 8, cwM 48, cwM 21, cwM 46, cwM 18, cwM 19]
set_option maxRecDepth 1000000 in
theorem kcD_eq : lw_tbl.filter kcDB = kcD_0 ++ (kcD_60) := rfl
theorem kcD_0_in : ∀ w ∈ kcD_0, w ∈ lw_tbl := fun w h => (List.mem_filter.mp (by rw [kcD_eq]; exact List.mem_append_left _ h)).1
theorem kcD_60_in : ∀ w ∈ kcD_60, w ∈ lw_tbl := fun w h => (List.mem_filter.mp (by rw [kcD_eq]; exact List.mem_append_right _ (h))).1
def ksTB : Cond → Bool
  | .static _ => true
  | _ => false
def ksT_0 : List Cond := [(Jvm.Cond.static ({ cls := "java/lang/System", name := "arraycopy", desc := "(Ljava/lang/Object;ILjava/lang/Object;II)V" } : Jvm.MethodName)), .static (yM 96), .static (yM 104), .static (yM 107), .static (yM 106), .static (yM 91), .static (yM 89), .static (yM 90), .static (yM 98), .static (yM 93), .static (yM 92), .static (yM 100), .static (yM 87), .static (yM 110), .static (yM 105), .static (yM 95), .static (yM 111), (Jvm.Cond.static ({ cls := "java/lang/Math", name := "max", desc := "(II)I" } : Jvm.MethodName)), .static (yM 99), (Jvm.Cond.static ({ cls := "java/lang/Math", name := "min", desc := "(II)I" } : Jvm.MethodName)), .static (yM 103), .static (yM 112), .static (yM 88), .static (yM 94), .static (yM 108), .static (yM 109)]
set_option maxRecDepth 1000000 in
theorem ksT_eq : lw_tbl.filter ksTB = ksT_0 := rfl
theorem ksT_0_in : ∀ w ∈ ksT_0, w ∈ lw_tbl := fun w h => (List.mem_filter.mp (by rw [ksT_eq]; exact h)).1
def kiNB : Cond → Bool
  | .instanceMethod _ => true
  | _ => false
def kiN_0 : List Cond := [.instanceMethod (yM 44), (Jvm.Cond.instanceMethod ({ cls := "java/lang/Object", name := "<init>", desc := "()V" } : Jvm.MethodName)), .instanceMethod (yM 14), .instanceMethod (yM 4), .instanceMethod (yM 0), .instanceMethod (yM 36), .instanceMethod (yM 58), (Jvm.Cond.instanceMethod ({ cls := "java/lang/Throwable", name := "<init>", desc := "()V" } : Jvm.MethodName)), (Jvm.Cond.instanceMethod ({ cls := "java/lang/Throwable", name := "fillInStackTrace", desc := "()Ljava/lang/Throwable;" } : Jvm.MethodName)), (Jvm.Cond.instanceMethod ({ cls := "java/lang/Throwable", name := "fillInStackTrace", desc := "(I)Ljava/lang/Throwable;" } : Jvm.MethodName)), (Jvm.Cond.instanceMethod ({ cls := "java/lang/IllegalStateException", name := "<init>", desc := "(Ljava/lang/String;)V" } : Jvm.MethodName)), (Jvm.Cond.instanceMethod ({ cls := "java/lang/RuntimeException", name := "<init>", desc := "(Ljava/lang/String;)V" } : Jvm.MethodName)), (Jvm.Cond.instanceMethod ({ cls := "java/lang/Exception", name := "<init>", desc := "(Ljava/lang/String;)V" } : Jvm.MethodName)), (Jvm.Cond.instanceMethod ({ cls := "java/lang/Throwable", name := "<init>", desc := "(Ljava/lang/String;)V" } : Jvm.MethodName)), .instanceMethod (yM 15), .instanceMethod (yM 5), .instanceMethod (yM 1), .instanceMethod (yM 59), (Jvm.Cond.instanceMethod ({ cls := "java/lang/IndexOutOfBoundsException", name := "<init>", desc := "(Ljava/lang/String;)V" } : Jvm.MethodName)), .instanceMethod (yM 78), .instanceMethod (yM 85), .instanceMethod (yM 61), .instanceMethod (yM 65), .instanceMethod (yM 63), .instanceMethod (yM 64), .instanceMethod (yM 70), .instanceMethod (yM 6), .instanceMethod (yM 71), .instanceMethod (yM 72), .instanceMethod (yM 80), .instanceMethod (yM 73), .instanceMethod (yM 79), .instanceMethod (yM 84), .instanceMethod (yM 83), (Jvm.Cond.instanceMethod ({ cls := "java/lang/IllegalArgumentException", name := "<init>", desc := "(Ljava/lang/String;)V" } : Jvm.MethodName)), .instanceMethod (yM 3), .instanceMethod (yM 68), .instanceMethod (yM 50), .instanceMethod (yM 101), .instanceMethod (yM 52), .instanceMethod (yM 35), .instanceMethod (yM 53), .instanceMethod (yM 32), .instanceMethod (yM 33), .instanceMethod (yM 34), .instanceMethod (yM 29), .instanceMethod (yM 30), .instanceMethod (yM 2), .instanceMethod (yM 51), .instanceMethod (yM 60), .instanceMethod (yM 49), .instanceMethod (yM 28), .instanceMethod (yM 66), .instanceMethod (yM 62), .instanceMethod (yM 10), .instanceMethod (yM 9), .instanceMethod (yM 67), .instanceMethod (yM 25), .instanceMethod (yM 31), .instanceMethod (yM 69)]
def kiN_60 : List Cond := [.instanceMethod (yM 11), .instanceMethod (yM 75), .instanceMethod (yM 13), .instanceMethod (yM 74), .instanceMethod (yM 12), .instanceMethod (yM 81), .instanceMethod (yM 82), .instanceMethod (yM 76), .instanceMethod (yM 23), .instanceMethod (yM 24), .instanceMethod (yM 45), .instanceMethod (yM 16), .instanceMethod (yM 17), .instanceMethod (yM 26), .instanceMethod (yM 7), .instanceMethod (yM 22), .instanceMethod (yM 27), .instanceMethod (yM 47), .instanceMethod (yM 97), .instanceMethod (yM 20), .instanceMethod (yM 8), .instanceMethod (yM 48), .instanceMethod (yM 21), .instanceMethod (yM 46), .instanceMethod (yM 18), .instanceMethod (yM 19)]
set_option maxRecDepth 1000000 in
theorem kiN_eq : lw_tbl.filter kiNB = kiN_0 ++ (kiN_60) := rfl
theorem kiN_0_in : ∀ w ∈ kiN_0, w ∈ lw_tbl := fun w h => (List.mem_filter.mp (by rw [kiN_eq]; exact List.mem_append_left _ h)).1
theorem kiN_60_in : ∀ w ∈ kiN_60, w ∈ lw_tbl := fun w h => (List.mem_filter.mp (by rw [kiN_eq]; exact List.mem_append_right _ (h))).1
def kxLB : Cond → Bool
  | .selects .. => true
  | _ => false
def kxL_0 : List Cond := [.selects "java/lang/Throwable" ⟨"java/lang/Throwable", "fillInStackTrace", "(I)Ljava/lang/Throwable;"⟩ ⟨"java/lang/Throwable", "fillInStackTrace", "(I)Ljava/lang/Throwable;"⟩, .selects (owM 15) (yM 15) (yM 15), .selects (owM 5) (yM 5) (yM 5), .selects (owM 1) (yM 1) (yM 1), .selects (owM 6) (yM 6) (yM 6), .selects (owM 3) (yM 3) (yM 3), .selects (owM 101) (yM 101) (yM 101), .selects (owM 35) (yM 35) (yM 35), .selects (owM 32) (yM 32) (yM 32), .selects (owM 33) (yM 33) (yM 33), .selects (owM 34) (yM 34) (yM 34), .selects (owM 29) (yM 29) (yM 29), .selects (owM 30) (yM 30) (yM 30), .selects (owM 2) (yM 2) (yM 2), .selects (owM 28) (yM 28) (yM 28), .selects (owM 10) (yM 10) (yM 10), .selects (owM 9) (yM 9) (yM 9), .selects (owM 25) (yM 25) (yM 25), .selects (owM 31) (yM 31) (yM 31), .selects (owM 11) (yM 11) (yM 11), .selects (owM 13) (yM 13) (yM 13), .selects (owM 12) (yM 12) (yM 12), .selects (owM 23) (yM 23) (yM 23), .selects (owM 24) (yM 24) (yM 24), .selects (owM 16) (yM 16) (yM 16), .selects (owM 17) (yM 17) (yM 17), .selects (owM 26) (yM 26) (yM 26), .selects (owM 7) (yM 7) (yM 7), .selects (owM 22) (yM 22) (yM 22), .selects (owM 27) (yM 27) (yM 27), .selects (owM 97) (yM 97) (yM 97), .selects (owM 20) (yM 20) (yM 20), .selects (owM 8) (yM 8) (yM 8), .selects (owM 21) (yM 21) (yM 21), .selects (owM 18) (yM 18) (yM 18), .selects (owM 19) (yM 19) (yM 19), .selects (owM 58) (yM 58) (yM 58), (Jvm.Cond.selects "java/lang/IllegalStateException" ({ cls := "java/lang/Throwable", name := "fillInStackTrace", desc := "(I)Ljava/lang/Throwable;" } : Jvm.MethodName) ({ cls := "java/lang/Throwable", name := "fillInStackTrace", desc := "(I)Ljava/lang/Throwable;" } : Jvm.MethodName)), (Jvm.Cond.selects "java/lang/IllegalStateException" ({ cls := "java/lang/Throwable", name := "fillInStackTrace", desc := "()Ljava/lang/Throwable;" } : Jvm.MethodName) ({ cls := "java/lang/Throwable", name := "fillInStackTrace", desc := "()Ljava/lang/Throwable;" } : Jvm.MethodName)), (Jvm.Cond.selects "java/lang/IllegalArgumentException" ({ cls := "java/lang/Throwable", name := "fillInStackTrace", desc := "()Ljava/lang/Throwable;" } : Jvm.MethodName) ({ cls := "java/lang/Throwable", name := "fillInStackTrace", desc := "()Ljava/lang/Throwable;" } : Jvm.MethodName)), (Jvm.Cond.selects "java/lang/IndexOutOfBoundsException" ({ cls := "java/lang/Throwable", name := "fillInStackTrace", desc := "()Ljava/lang/Throwable;" } : Jvm.MethodName) ({ cls := "java/lang/Throwable", name := "fillInStackTrace", desc := "()Ljava/lang/Throwable;" } : Jvm.MethodName)), .selects (owM 59) (yM 59) (yM 59), (Jvm.Cond.selects "java/lang/IndexOutOfBoundsException" ({ cls := "java/lang/Throwable", name := "fillInStackTrace", desc := "(I)Ljava/lang/Throwable;" } : Jvm.MethodName) ({ cls := "java/lang/Throwable", name := "fillInStackTrace", desc := "(I)Ljava/lang/Throwable;" } : Jvm.MethodName)), .selects (owM 78) (yM 78) (yM 78), .selects (owM 85) (yM 85) (yM 85), .selects (owM 61) (yM 61) (yM 61), .selects (owM 65) (yM 65) (yM 65), .selects (owM 63) (yM 63) (yM 63), .selects (owM 64) (yM 64) (yM 64), .selects (owM 70) (yM 70) (yM 70), .selects (owM 71) (yM 71) (yM 71), .selects (owM 72) (yM 72) (yM 72), .selects (owM 80) (yM 80) (yM 80), .selects (owM 73) (yM 73) (yM 73), .selects (owM 79) (yM 79) (yM 79), .selects (owM 84) (yM 84) (yM 84), .selects (owM 83) (yM 83) (yM 83), (Jvm.Cond.selects "java/lang/IllegalArgumentException" ({ cls := "java/lang/Throwable", name := "fillInStackTrace", desc := "(I)Ljava/lang/Throwable;" } : Jvm.MethodName) ({ cls := "java/lang/Throwable", name := "fillInStackTrace", desc := "(I)Ljava/lang/Throwable;" } : Jvm.MethodName)), .selects (owM 68) (yM 68) (yM 68), .selects (owM 50) (yM 50) (yM 50)]
def kxL_60 : List Cond := [.selects (owM 52) (yM 52) (yM 52), .selects (owM 53) (yM 53) (yM 53), .selects (owM 51) (yM 51) (yM 51), .selects (owM 60) (yM 60) (yM 60), .selects (owM 49) (yM 49) (yM 49), .selects (owM 66) (yM 66) (yM 66), .selects (owM 62) (yM 62) (yM 62), .selects (owM 67) (yM 67) (yM 67), .selects (owM 69) (yM 69) (yM 69), .selects (owM 75) (yM 75) (yM 75), .selects (owM 74) (yM 74) (yM 74), .selects (owM 81) (yM 81) (yM 81), .selects (owM 82) (yM 82) (yM 82), .selects (owM 76) (yM 76) (yM 76), .selects (owM 45) (yM 45) (yM 45), .selects (owM 47) (yM 47) (yM 47), .selects (owM 48) (yM 48) (yM 48), .selects (owM 46) (yM 46) (yM 46)]
set_option maxRecDepth 1000000 in
theorem kxL_eq : lw_tbl.filter kxLB = kxL_0 ++ (kxL_60) := rfl
theorem kxL_0_in : ∀ w ∈ kxL_0, w ∈ lw_tbl := fun w h => (List.mem_filter.mp (by rw [kxL_eq]; exact List.mem_append_left _ h)).1
theorem kxL_60_in : ∀ w ∈ kxL_60, w ∈ lw_tbl := fun w h => (List.mem_filter.mp (by rw [kxL_eq]; exact List.mem_append_right _ (h))).1
set_option maxRecDepth 1000000 in
theorem fw_0 : flW (1, 9, 1, 0, 0) ∈ lw_tbl := kfF_0_in _ (List.mem_of_getElem? (i := 0) rfl)
set_option maxRecDepth 1000000 in
theorem fw_1 : flW (2, 66, 1, 0, 1) ∈ lw_tbl := kfF_0_in _ (List.mem_of_getElem? (i := 1) rfl)
set_option maxRecDepth 1000000 in
theorem fw_2 : flW (4, 237, 1, 0, 1) ∈ lw_tbl := kfF_0_in _ (List.mem_of_getElem? (i := 2) rfl)
set_option maxRecDepth 1000000 in
theorem fw_3 : flW (1, 15, 1, 1, 0) ∈ lw_tbl := kfF_0_in _ (List.mem_of_getElem? (i := 3) rfl)
set_option maxRecDepth 1000000 in
theorem fw_4 : flW (1, 19, 1, 2, 0) ∈ lw_tbl := kfF_0_in _ (List.mem_of_getElem? (i := 4) rfl)
set_option maxRecDepth 1000000 in
theorem fw_5 : flW (2, 97, 1, 2, 1) ∈ lw_tbl := kfF_0_in _ (List.mem_of_getElem? (i := 5) rfl)
set_option maxRecDepth 1000000 in
theorem fw_6 : flW (4, 231, 1, 2, 1) ∈ lw_tbl := kfF_0_in _ (List.mem_of_getElem? (i := 6) rfl)
set_option maxRecDepth 1000000 in
theorem fw_7 : flW (1, 22, 1, 3, 0) ∈ lw_tbl := kfF_0_in _ (List.mem_of_getElem? (i := 7) rfl)
set_option maxRecDepth 1000000 in
theorem fw_8 : flW (2, 100, 1, 3, 1) ∈ lw_tbl := kfF_0_in _ (List.mem_of_getElem? (i := 8) rfl)
set_option maxRecDepth 1000000 in
theorem fw_9 : flW (4, 234, 1, 3, 1) ∈ lw_tbl := kfF_0_in _ (List.mem_of_getElem? (i := 9) rfl)
set_option maxRecDepth 1000000 in
theorem fw_10 : flW (1, 25, 1, 4, 0) ∈ lw_tbl := kfF_0_in _ (List.mem_of_getElem? (i := 10) rfl)
set_option maxRecDepth 1000000 in
theorem fw_11 : flW (2, 94, 1, 4, 1) ∈ lw_tbl := kfF_0_in _ (List.mem_of_getElem? (i := 11) rfl)
set_option maxRecDepth 1000000 in
theorem fw_12 : flW (4, 228, 1, 4, 1) ∈ lw_tbl := kfF_0_in _ (List.mem_of_getElem? (i := 12) rfl)
set_option maxRecDepth 1000000 in
theorem fw_13 : flW (0, 9, 0, 0, 0) ∈ lw_tbl := kfF_0_in _ (List.mem_of_getElem? (i := 13) rfl)
set_option maxRecDepth 1000000 in
theorem fw_14 : flW (4, 277, 0, 0, 1) ∈ lw_tbl := kfF_0_in _ (List.mem_of_getElem? (i := 14) rfl)
set_option maxRecDepth 1000000 in
theorem fw_15 : flW (0, 15, 0, 1, 0) ∈ lw_tbl := kfF_0_in _ (List.mem_of_getElem? (i := 15) rfl)
set_option maxRecDepth 1000000 in
theorem fw_16 : flW (0, 18, 0, 2, 0) ∈ lw_tbl := kfF_0_in _ (List.mem_of_getElem? (i := 16) rfl)
set_option maxRecDepth 1000000 in
theorem fw_17 : flW (0, 22, 0, 3, 0) ∈ lw_tbl := kfF_0_in _ (List.mem_of_getElem? (i := 17) rfl)
set_option maxRecDepth 1000000 in
theorem fw_18 : flW (0, 25, 0, 4, 0) ∈ lw_tbl := kfF_0_in _ (List.mem_of_getElem? (i := 18) rfl)
set_option maxRecDepth 1000000 in
theorem fw_19 : flW (2, 9, 2, 0, 0) ∈ lw_tbl := kfF_0_in _ (List.mem_of_getElem? (i := 19) rfl)
set_option maxRecDepth 1000000 in
theorem fw_20 : flW (4, 129, 2, 0, 1) ∈ lw_tbl := kfF_0_in _ (List.mem_of_getElem? (i := 20) rfl)
set_option maxRecDepth 1000000 in
theorem fw_21 : flW (2, 15, 2, 1, 0) ∈ lw_tbl := kfF_0_in _ (List.mem_of_getElem? (i := 21) rfl)
set_option maxRecDepth 1000000 in
theorem fw_22 : flW (4, 118, 2, 1, 1) ∈ lw_tbl := kfF_0_in _ (List.mem_of_getElem? (i := 22) rfl)
set_option maxRecDepth 1000000 in
theorem fw_23 : flW (2, 19, 2, 2, 0) ∈ lw_tbl := kfF_0_in _ (List.mem_of_getElem? (i := 23) rfl)
set_option maxRecDepth 1000000 in
theorem fw_24 : flW (4, 132, 2, 2, 1) ∈ lw_tbl := kfF_0_in _ (List.mem_of_getElem? (i := 24) rfl)
set_option maxRecDepth 1000000 in
theorem fw_25 : flW (2, 23, 2, 3, 0) ∈ lw_tbl := kfF_0_in _ (List.mem_of_getElem? (i := 25) rfl)
set_option maxRecDepth 1000000 in
theorem fw_26 : flW (4, 107, 2, 3, 1) ∈ lw_tbl := kfF_0_in _ (List.mem_of_getElem? (i := 26) rfl)
set_option maxRecDepth 1000000 in
theorem fw_27 : flW (2, 26, 2, 4, 0) ∈ lw_tbl := kfF_0_in _ (List.mem_of_getElem? (i := 27) rfl)
set_option maxRecDepth 1000000 in
theorem fw_28 : flW (4, 98, 2, 4, 1) ∈ lw_tbl := kfF_0_in _ (List.mem_of_getElem? (i := 28) rfl)
set_option maxRecDepth 1000000 in
theorem fw_29 : flW (2, 29, 2, 5, 0) ∈ lw_tbl := kfF_0_in _ (List.mem_of_getElem? (i := 29) rfl)
set_option maxRecDepth 1000000 in
theorem fw_30 : flW (4, 101, 2, 5, 1) ∈ lw_tbl := kfF_0_in _ (List.mem_of_getElem? (i := 30) rfl)
set_option maxRecDepth 1000000 in
theorem fw_31 : flW (2, 32, 2, 6, 0) ∈ lw_tbl := kfF_0_in _ (List.mem_of_getElem? (i := 31) rfl)
set_option maxRecDepth 1000000 in
theorem fw_32 : flW (4, 126, 2, 6, 1) ∈ lw_tbl := kfF_0_in _ (List.mem_of_getElem? (i := 32) rfl)
set_option maxRecDepth 1000000 in
theorem fw_33 : flW (2, 35, 2, 7, 0) ∈ lw_tbl := kfF_0_in _ (List.mem_of_getElem? (i := 33) rfl)
set_option maxRecDepth 1000000 in
theorem fw_34 : flW (4, 211, 2, 7, 1) ∈ lw_tbl := kfF_0_in _ (List.mem_of_getElem? (i := 34) rfl)
set_option maxRecDepth 1000000 in
theorem fw_35 : flW (2, 41, 2, 8, 0) ∈ lw_tbl := kfF_0_in _ (List.mem_of_getElem? (i := 35) rfl)
set_option maxRecDepth 1000000 in
theorem fw_36 : flW (4, 188, 2, 8, 1) ∈ lw_tbl := kfF_0_in _ (List.mem_of_getElem? (i := 36) rfl)
set_option maxRecDepth 1000000 in
theorem fw_37 : flW (2, 48, 2, 9, 0) ∈ lw_tbl := kfF_0_in _ (List.mem_of_getElem? (i := 37) rfl)
set_option maxRecDepth 1000000 in
theorem fw_38 : flW (4, 268, 2, 9, 1) ∈ lw_tbl := kfF_0_in _ (List.mem_of_getElem? (i := 38) rfl)
set_option maxRecDepth 1000000 in
theorem fw_39 : flW (3, 9, 3, 0, 0) ∈ lw_tbl := kfF_0_in _ (List.mem_of_getElem? (i := 39) rfl)
set_option maxRecDepth 1000000 in
theorem fw_40 : flW (3, 15, 3, 1, 0) ∈ lw_tbl := kfF_0_in _ (List.mem_of_getElem? (i := 40) rfl)
set_option maxRecDepth 1000000 in
theorem fw_41 : flW (3, 19, 3, 2, 0) ∈ lw_tbl := kfF_0_in _ (List.mem_of_getElem? (i := 41) rfl)
set_option maxRecDepth 1000000 in
theorem fw_42 : flW (3, 22, 3, 3, 0) ∈ lw_tbl := kfF_0_in _ (List.mem_of_getElem? (i := 42) rfl)
set_option maxRecDepth 1000000 in
theorem fw_43 : flW (3, 26, 3, 4, 0) ∈ lw_tbl := kfF_0_in _ (List.mem_of_getElem? (i := 43) rfl)
set_option maxRecDepth 1000000 in
theorem fw_44 : flW (4, 12, 4, 0, 0) ∈ lw_tbl := kfF_0_in _ (List.mem_of_getElem? (i := 44) rfl)
set_option maxRecDepth 1000000 in
theorem fw_45 : flW (4, 16, 4, 1, 0) ∈ lw_tbl := kfF_0_in _ (List.mem_of_getElem? (i := 45) rfl)
set_option maxRecDepth 1000000 in
theorem fw_46 : flW (4, 19, 4, 2, 0) ∈ lw_tbl := kfF_0_in _ (List.mem_of_getElem? (i := 46) rfl)
set_option maxRecDepth 1000000 in
theorem fw_47 : flW (4, 23, 4, 3, 0) ∈ lw_tbl := kfF_0_in _ (List.mem_of_getElem? (i := 47) rfl)
set_option maxRecDepth 1000000 in
theorem fw_48 : flW (4, 27, 4, 4, 0) ∈ lw_tbl := kfF_0_in _ (List.mem_of_getElem? (i := 48) rfl)
set_option maxRecDepth 1000000 in
theorem fw_49 : flW (4, 30, 4, 5, 0) ∈ lw_tbl := kfF_0_in _ (List.mem_of_getElem? (i := 49) rfl)
set_option maxRecDepth 1000000 in
theorem fw_50 : flW (4, 37, 4, 6, 0) ∈ lw_tbl := kfF_0_in _ (List.mem_of_getElem? (i := 50) rfl)
set_option maxRecDepth 1000000 in
theorem fw_51 : flW (4, 41, 4, 7, 0) ∈ lw_tbl := kfF_0_in _ (List.mem_of_getElem? (i := 51) rfl)
set_option maxRecDepth 1000000 in
theorem mw_0 : mlW (5, 141, 44, 0) ∈ lw_tbl := kmL_0_in _ (List.mem_of_getElem? (i := 0) rfl)
set_option maxRecDepth 1000000 in
theorem mw_1 : mlW (4, 3, 1000, 0) ∈ lw_tbl := kmL_0_in _ (List.mem_of_getElem? (i := 1) rfl)
set_option maxRecDepth 1000000 in
theorem mw_2 : mlW (4, 11, 14, 1) ∈ lw_tbl := kmL_0_in _ (List.mem_of_getElem? (i := 2) rfl)
set_option maxRecDepth 1000000 in
theorem mw_3 : mlW (2, 3, 1000, 0) ∈ lw_tbl := kmL_0_in _ (List.mem_of_getElem? (i := 3) rfl)
set_option maxRecDepth 1000000 in
theorem mw_4 : mlW (2, 40, 4, 1) ∈ lw_tbl := kmL_0_in _ (List.mem_of_getElem? (i := 4) rfl)
set_option maxRecDepth 1000000 in
theorem mw_5 : mlW (1, 3, 1000, 0) ∈ lw_tbl := kmL_0_in _ (List.mem_of_getElem? (i := 5) rfl)
set_option maxRecDepth 1000000 in
theorem mw_6 : mlW (2, 47, 0, 1) ∈ lw_tbl := kmL_0_in _ (List.mem_of_getElem? (i := 6) rfl)
set_option maxRecDepth 1000000 in
theorem mw_7 : mlW (0, 3, 1000, 0) ∈ lw_tbl := kmL_0_in _ (List.mem_of_getElem? (i := 7) rfl)
set_option maxRecDepth 1000000 in
theorem mw_8 : mlW (4, 36, 36, 1) ∈ lw_tbl := kmL_0_in _ (List.mem_of_getElem? (i := 8) rfl)
set_option maxRecDepth 1000000 in
theorem mw_9 : mlW (3, 3, 1000, 0) ∈ lw_tbl := kmL_0_in _ (List.mem_of_getElem? (i := 9) rfl)
set_option maxRecDepth 1000000 in
theorem mw_10 : mlW (5, 163, 58, 0) ∈ lw_tbl := kmL_0_in _ (List.mem_of_getElem? (i := 10) rfl)
set_option maxRecDepth 1000000 in
theorem mw_11 : mlW (4, 179, 15, 1) ∈ lw_tbl := kmL_0_in _ (List.mem_of_getElem? (i := 18) rfl)
set_option maxRecDepth 1000000 in
theorem mw_12 : mlW (2, 52, 1003, 0) ∈ lw_tbl := kmL_0_in _ (List.mem_of_getElem? (i := 19) rfl)
set_option maxRecDepth 1000000 in
theorem mw_13 : mlW (2, 58, 5, 1) ∈ lw_tbl := kmL_0_in _ (List.mem_of_getElem? (i := 20) rfl)
set_option maxRecDepth 1000000 in
theorem mw_14 : mlW (1, 28, 1003, 0) ∈ lw_tbl := kmL_0_in _ (List.mem_of_getElem? (i := 21) rfl)
set_option maxRecDepth 1000000 in
theorem mw_15 : mlW (2, 62, 1, 1) ∈ lw_tbl := kmL_0_in _ (List.mem_of_getElem? (i := 22) rfl)
set_option maxRecDepth 1000000 in
theorem mw_16 : mlW (0, 28, 1003, 0) ∈ lw_tbl := kmL_0_in _ (List.mem_of_getElem? (i := 23) rfl)
set_option maxRecDepth 1000000 in
theorem mw_17 : mlW (5, 142, 59, 0) ∈ lw_tbl := kmL_0_in _ (List.mem_of_getElem? (i := 24) rfl)
set_option maxRecDepth 1000000 in
theorem mw_18 : mlW (4, 183, 96, 0) ∈ lw_tbl := kmL_0_in _ (List.mem_of_getElem? (i := 25) rfl)
set_option maxRecDepth 1000000 in
theorem mw_19 : mlW (5, 11, 78, 0) ∈ lw_tbl := kmL_0_in _ (List.mem_of_getElem? (i := 28) rfl)
set_option maxRecDepth 1000000 in
theorem mw_20 : mlW (5, 134, 85, 0) ∈ lw_tbl := kmL_0_in _ (List.mem_of_getElem? (i := 29) rfl)
set_option maxRecDepth 1000000 in
theorem mw_21 : mlW (5, 149, 104, 0) ∈ lw_tbl := kmL_0_in _ (List.mem_of_getElem? (i := 30) rfl)
set_option maxRecDepth 1000000 in
theorem mw_22 : mlW (5, 153, 107, 0) ∈ lw_tbl := kmL_0_in _ (List.mem_of_getElem? (i := 31) rfl)
set_option maxRecDepth 1000000 in
theorem mw_23 : mlW (5, 52, 106, 0) ∈ lw_tbl := kmL_0_in _ (List.mem_of_getElem? (i := 32) rfl)
set_option maxRecDepth 1000000 in
theorem mw_24 : mlW (5, 19, 61, 0) ∈ lw_tbl := kmL_0_in _ (List.mem_of_getElem? (i := 33) rfl)
set_option maxRecDepth 1000000 in
theorem mw_25 : mlW (4, 91, 91, 0) ∈ lw_tbl := kmL_0_in _ (List.mem_of_getElem? (i := 34) rfl)
set_option maxRecDepth 1000000 in
theorem mw_26 : mlW (4, 208, 89, 0) ∈ lw_tbl := kmL_0_in _ (List.mem_of_getElem? (i := 35) rfl)
set_option maxRecDepth 1000000 in
theorem mw_27 : mlW (4, 110, 90, 0) ∈ lw_tbl := kmL_0_in _ (List.mem_of_getElem? (i := 36) rfl)
set_option maxRecDepth 1000000 in
theorem mw_28 : mlW (4, 214, 98, 0) ∈ lw_tbl := kmL_0_in _ (List.mem_of_getElem? (i := 37) rfl)
set_option maxRecDepth 1000000 in
theorem mw_29 : mlW (5, 23, 65, 0) ∈ lw_tbl := kmL_0_in _ (List.mem_of_getElem? (i := 38) rfl)
set_option maxRecDepth 1000000 in
theorem mw_30 : mlW (5, 26, 63, 0) ∈ lw_tbl := kmL_0_in _ (List.mem_of_getElem? (i := 39) rfl)
set_option maxRecDepth 1000000 in
theorem mw_31 : mlW (5, 29, 64, 0) ∈ lw_tbl := kmL_0_in _ (List.mem_of_getElem? (i := 40) rfl)
set_option maxRecDepth 1000000 in
theorem mw_32 : mlW (5, 32, 70, 0) ∈ lw_tbl := kmL_0_in _ (List.mem_of_getElem? (i := 41) rfl)
set_option maxRecDepth 1000000 in
theorem mw_33 : mlW (4, 52, 93, 0) ∈ lw_tbl := kmL_0_in _ (List.mem_of_getElem? (i := 42) rfl)
set_option maxRecDepth 1000000 in
theorem mw_34 : mlW (4, 240, 92, 0) ∈ lw_tbl := kmL_0_in _ (List.mem_of_getElem? (i := 43) rfl)
set_option maxRecDepth 1000000 in
theorem mw_35 : mlW (4, 290, 100, 0) ∈ lw_tbl := kmL_0_in _ (List.mem_of_getElem? (i := 44) rfl)
set_option maxRecDepth 1000000 in
theorem mw_36 : mlW (4, 225, 6, 1) ∈ lw_tbl := kmL_0_in _ (List.mem_of_getElem? (i := 45) rfl)
set_option maxRecDepth 1000000 in
theorem mw_37 : mlW (5, 35, 71, 0) ∈ lw_tbl := kmL_0_in _ (List.mem_of_getElem? (i := 46) rfl)
set_option maxRecDepth 1000000 in
theorem mw_38 : mlW (5, 38, 72, 0) ∈ lw_tbl := kmL_0_in _ (List.mem_of_getElem? (i := 47) rfl)
set_option maxRecDepth 1000000 in
theorem mw_39 : mlW (5, 41, 80, 0) ∈ lw_tbl := kmL_0_in _ (List.mem_of_getElem? (i := 48) rfl)
set_option maxRecDepth 1000000 in
theorem mw_40 : mlW (4, 45, 87, 0) ∈ lw_tbl := kmL_0_in _ (List.mem_of_getElem? (i := 49) rfl)
set_option maxRecDepth 1000000 in
theorem mw_41 : mlW (5, 45, 73, 0) ∈ lw_tbl := kmL_0_in _ (List.mem_of_getElem? (i := 50) rfl)
set_option maxRecDepth 1000000 in
theorem mw_42 : mlW (5, 48, 79, 0) ∈ lw_tbl := kmL_0_in _ (List.mem_of_getElem? (i := 51) rfl)
set_option maxRecDepth 1000000 in
theorem mw_43 : mlW (5, 58, 84, 0) ∈ lw_tbl := kmL_0_in _ (List.mem_of_getElem? (i := 52) rfl)
set_option maxRecDepth 1000000 in
theorem mw_44 : mlW (5, 61, 83, 0) ∈ lw_tbl := kmL_0_in _ (List.mem_of_getElem? (i := 53) rfl)
set_option maxRecDepth 1000000 in
theorem mw_45 : mlW (4, 272, 3, 1) ∈ lw_tbl := kmL_0_in _ (List.mem_of_getElem? (i := 56) rfl)
set_option maxRecDepth 1000000 in
theorem mw_46 : mlW (5, 64, 68, 0) ∈ lw_tbl := kmL_0_in _ (List.mem_of_getElem? (i := 57) rfl)
set_option maxRecDepth 1000000 in
theorem mw_47 : mlW (5, 160, 110, 0) ∈ lw_tbl := kmL_0_in _ (List.mem_of_getElem? (i := 58) rfl)
set_option maxRecDepth 1000000 in
theorem mw_48 : mlW (5, 67, 105, 0) ∈ lw_tbl := kmL_0_in _ (List.mem_of_getElem? (i := 59) rfl)
set_option maxRecDepth 1000000 in
theorem mw_49 : mlW (5, 85, 50, 0) ∈ lw_tbl := kmL_60_in _ (List.mem_of_getElem? (i := 0) rfl)
set_option maxRecDepth 1000000 in
theorem mw_50 : mlW (4, 70, 101, 0) ∈ lw_tbl := kmL_60_in _ (List.mem_of_getElem? (i := 1) rfl)
set_option maxRecDepth 1000000 in
theorem mw_51 : mlW (5, 88, 52, 0) ∈ lw_tbl := kmL_60_in _ (List.mem_of_getElem? (i := 2) rfl)
set_option maxRecDepth 1000000 in
theorem mw_52 : mlW (4, 135, 35, 1) ∈ lw_tbl := kmL_60_in _ (List.mem_of_getElem? (i := 3) rfl)
set_option maxRecDepth 1000000 in
theorem mw_53 : mlW (5, 92, 53, 0) ∈ lw_tbl := kmL_60_in _ (List.mem_of_getElem? (i := 4) rfl)
set_option maxRecDepth 1000000 in
theorem mw_54 : mlW (4, 139, 32, 1) ∈ lw_tbl := kmL_60_in _ (List.mem_of_getElem? (i := 5) rfl)
set_option maxRecDepth 1000000 in
theorem mw_55 : mlW (4, 144, 33, 1) ∈ lw_tbl := kmL_60_in _ (List.mem_of_getElem? (i := 6) rfl)
set_option maxRecDepth 1000000 in
theorem mw_56 : mlW (2, 139, 34, 0) ∈ lw_tbl := kmL_60_in _ (List.mem_of_getElem? (i := 7) rfl)
set_option maxRecDepth 1000000 in
theorem mw_57 : mlW (2, 136, 29, 0) ∈ lw_tbl := kmL_60_in _ (List.mem_of_getElem? (i := 8) rfl)
set_option maxRecDepth 1000000 in
theorem mw_58 : mlW (2, 143, 30, 0) ∈ lw_tbl := kmL_60_in _ (List.mem_of_getElem? (i := 9) rfl)
set_option maxRecDepth 1000000 in
theorem mw_59 : mlW (2, 131, 2, 1) ∈ lw_tbl := kmL_60_in _ (List.mem_of_getElem? (i := 10) rfl)
set_option maxRecDepth 1000000 in
theorem mw_60 : mlW (5, 95, 51, 0) ∈ lw_tbl := kmL_60_in _ (List.mem_of_getElem? (i := 11) rfl)
set_option maxRecDepth 1000000 in
theorem mw_61 : mlW (4, 121, 29, 1) ∈ lw_tbl := kmL_60_in _ (List.mem_of_getElem? (i := 12) rfl)
set_option maxRecDepth 1000000 in
theorem mw_62 : mlW (5, 98, 60, 0) ∈ lw_tbl := kmL_60_in _ (List.mem_of_getElem? (i := 13) rfl)
set_option maxRecDepth 1000000 in
theorem mw_63 : mlW (5, 101, 49, 0) ∈ lw_tbl := kmL_60_in _ (List.mem_of_getElem? (i := 14) rfl)
set_option maxRecDepth 1000000 in
theorem mw_64 : mlW (4, 94, 95, 0) ∈ lw_tbl := kmL_60_in _ (List.mem_of_getElem? (i := 15) rfl)
set_option maxRecDepth 1000000 in
theorem mw_65 : mlW (4, 104, 28, 1) ∈ lw_tbl := kmL_60_in _ (List.mem_of_getElem? (i := 16) rfl)
set_option maxRecDepth 1000000 in
theorem mw_66 : mlW (5, 145, 111, 0) ∈ lw_tbl := kmL_60_in _ (List.mem_of_getElem? (i := 17) rfl)
set_option maxRecDepth 1000000 in
theorem mw_67 : mlW (5, 104, 66, 0) ∈ lw_tbl := kmL_60_in _ (List.mem_of_getElem? (i := 18) rfl)
set_option maxRecDepth 1000000 in
theorem mw_68 : mlW (4, 197, 30, 1) ∈ lw_tbl := kmL_60_in _ (List.mem_of_getElem? (i := 19) rfl)
set_option maxRecDepth 1000000 in
theorem mw_69 : mlW (4, 200, 1001, 0) ∈ lw_tbl := kmL_60_in _ (List.mem_of_getElem? (i := 20) rfl)
set_option maxRecDepth 1000000 in
theorem mw_70 : mlW (5, 107, 62, 0) ∈ lw_tbl := kmL_60_in _ (List.mem_of_getElem? (i := 21) rfl)
set_option maxRecDepth 1000000 in
theorem mw_71 : mlW (4, 192, 10, 1) ∈ lw_tbl := kmL_60_in _ (List.mem_of_getElem? (i := 22) rfl)
set_option maxRecDepth 1000000 in
theorem mw_72 : mlW (1, 38, 9, 0) ∈ lw_tbl := kmL_60_in _ (List.mem_of_getElem? (i := 23) rfl)
set_option maxRecDepth 1000000 in
theorem mw_73 : mlW (1, 34, 99, 1) ∈ lw_tbl := kmL_60_in _ (List.mem_of_getElem? (i := 24) rfl)
set_option maxRecDepth 1000000 in
theorem mw_74 : mlW (5, 110, 67, 0) ∈ lw_tbl := kmL_60_in _ (List.mem_of_getElem? (i := 25) rfl)
set_option maxRecDepth 1000000 in
theorem mw_75 : mlW (4, 205, 25, 1) ∈ lw_tbl := kmL_60_in _ (List.mem_of_getElem? (i := 26) rfl)
set_option maxRecDepth 1000000 in
theorem mw_76 : mlW (2, 118, 31, 0) ∈ lw_tbl := kmL_60_in _ (List.mem_of_getElem? (i := 27) rfl)
set_option maxRecDepth 1000000 in
theorem mw_77 : mlW (2, 123, 1002, 0) ∈ lw_tbl := kmL_60_in _ (List.mem_of_getElem? (i := 28) rfl)
set_option maxRecDepth 1000000 in
theorem mw_78 : mlW (2, 128, 1001, 0) ∈ lw_tbl := kmL_60_in _ (List.mem_of_getElem? (i := 29) rfl)
set_option maxRecDepth 1000000 in
theorem mw_79 : mlW (5, 113, 69, 0) ∈ lw_tbl := kmL_60_in _ (List.mem_of_getElem? (i := 30) rfl)
set_option maxRecDepth 1000000 in
theorem mw_80 : mlW (4, 217, 11, 1) ∈ lw_tbl := kmL_60_in _ (List.mem_of_getElem? (i := 31) rfl)
set_option maxRecDepth 1000000 in
theorem mw_81 : mlW (4, 221, 103, 0) ∈ lw_tbl := kmL_60_in _ (List.mem_of_getElem? (i := 32) rfl)
set_option maxRecDepth 1000000 in
theorem mw_82 : mlW (5, 116, 75, 0) ∈ lw_tbl := kmL_60_in _ (List.mem_of_getElem? (i := 33) rfl)
set_option maxRecDepth 1000000 in
theorem mw_83 : mlW (4, 246, 13, 1) ∈ lw_tbl := kmL_60_in _ (List.mem_of_getElem? (i := 34) rfl)
set_option maxRecDepth 1000000 in
theorem mw_84 : mlW (5, 119, 74, 0) ∈ lw_tbl := kmL_60_in _ (List.mem_of_getElem? (i := 35) rfl)
set_option maxRecDepth 1000000 in
theorem mw_85 : mlW (4, 243, 12, 1) ∈ lw_tbl := kmL_60_in _ (List.mem_of_getElem? (i := 36) rfl)
set_option maxRecDepth 1000000 in
theorem mw_86 : mlW (5, 122, 81, 0) ∈ lw_tbl := kmL_60_in _ (List.mem_of_getElem? (i := 37) rfl)
set_option maxRecDepth 1000000 in
theorem mw_87 : mlW (5, 125, 82, 0) ∈ lw_tbl := kmL_60_in _ (List.mem_of_getElem? (i := 38) rfl)
set_option maxRecDepth 1000000 in
theorem mw_88 : mlW (4, 258, 31, 1) ∈ lw_tbl := kmL_60_in _ (List.mem_of_getElem? (i := 39) rfl)
set_option maxRecDepth 1000000 in
theorem mw_89 : mlW (5, 156, 112, 0) ∈ lw_tbl := kmL_60_in _ (List.mem_of_getElem? (i := 40) rfl)
set_option maxRecDepth 1000000 in
theorem mw_90 : mlW (5, 128, 76, 0) ∈ lw_tbl := kmL_60_in _ (List.mem_of_getElem? (i := 41) rfl)
set_option maxRecDepth 1000000 in
theorem mw_91 : mlW (4, 49, 88, 0) ∈ lw_tbl := kmL_60_in _ (List.mem_of_getElem? (i := 42) rfl)
set_option maxRecDepth 1000000 in
theorem mw_92 : mlW (4, 56, 94, 0) ∈ lw_tbl := kmL_60_in _ (List.mem_of_getElem? (i := 43) rfl)
set_option maxRecDepth 1000000 in
theorem mw_93 : mlW (4, 249, 23, 1) ∈ lw_tbl := kmL_60_in _ (List.mem_of_getElem? (i := 44) rfl)
set_option maxRecDepth 1000000 in
theorem mw_94 : mlW (2, 88, 99, 1) ∈ lw_tbl := kmL_60_in _ (List.mem_of_getElem? (i := 45) rfl)
set_option maxRecDepth 1000000 in
theorem mw_95 : mlW (2, 111, 98, 1) ∈ lw_tbl := kmL_60_in _ (List.mem_of_getElem? (i := 46) rfl)
set_option maxRecDepth 1000000 in
theorem mw_96 : mlW (2, 115, 24, 0) ∈ lw_tbl := kmL_60_in _ (List.mem_of_getElem? (i := 47) rfl)
set_option maxRecDepth 1000000 in
theorem mw_97 : mlW (5, 131, 108, 0) ∈ lw_tbl := kmL_60_in _ (List.mem_of_getElem? (i := 48) rfl)
set_option maxRecDepth 1000000 in
theorem mw_98 : mlW (5, 137, 109, 0) ∈ lw_tbl := kmL_60_in _ (List.mem_of_getElem? (i := 49) rfl)
set_option maxRecDepth 1000000 in
theorem mw_99 : mlW (5, 70, 45, 0) ∈ lw_tbl := kmL_60_in _ (List.mem_of_getElem? (i := 50) rfl)
set_option maxRecDepth 1000000 in
theorem mw_100 : mlW (4, 59, 16, 1) ∈ lw_tbl := kmL_60_in _ (List.mem_of_getElem? (i := 51) rfl)
set_option maxRecDepth 1000000 in
theorem mw_101 : mlW (2, 69, 6, 1) ∈ lw_tbl := kmL_60_in _ (List.mem_of_getElem? (i := 52) rfl)
set_option maxRecDepth 1000000 in
theorem mw_102 : mlW (4, 73, 17, 1) ∈ lw_tbl := kmL_60_in _ (List.mem_of_getElem? (i := 53) rfl)
set_option maxRecDepth 1000000 in
theorem mw_103 : mlW (2, 73, 23, 0) ∈ lw_tbl := kmL_60_in _ (List.mem_of_getElem? (i := 54) rfl)
set_option maxRecDepth 1000000 in
theorem mw_104 : mlW (2, 77, 26, 0) ∈ lw_tbl := kmL_60_in _ (List.mem_of_getElem? (i := 55) rfl)
set_option maxRecDepth 1000000 in
theorem mw_105 : mlW (2, 81, 7, 1) ∈ lw_tbl := kmL_60_in _ (List.mem_of_getElem? (i := 56) rfl)
set_option maxRecDepth 1000000 in
theorem mw_106 : mlW (2, 85, 22, 0) ∈ lw_tbl := kmL_60_in _ (List.mem_of_getElem? (i := 57) rfl)
set_option maxRecDepth 1000000 in
theorem mw_107 : mlW (2, 91, 27, 0) ∈ lw_tbl := kmL_60_in _ (List.mem_of_getElem? (i := 58) rfl)
set_option maxRecDepth 1000000 in
theorem mw_108 : mlW (2, 133, 28, 0) ∈ lw_tbl := kmL_60_in _ (List.mem_of_getElem? (i := 59) rfl)
set_option maxRecDepth 1000000 in
theorem mw_109 : mlW (5, 74, 47, 0) ∈ lw_tbl := kmL_120_in _ (List.mem_of_getElem? (i := 0) rfl)
set_option maxRecDepth 1000000 in
theorem mw_110 : mlW (4, 77, 97, 0) ∈ lw_tbl := kmL_120_in _ (List.mem_of_getElem? (i := 1) rfl)
set_option maxRecDepth 1000000 in
theorem mw_111 : mlW (4, 84, 20, 1) ∈ lw_tbl := kmL_120_in _ (List.mem_of_getElem? (i := 2) rfl)
set_option maxRecDepth 1000000 in
theorem mw_112 : mlW (2, 107, 8, 1) ∈ lw_tbl := kmL_120_in _ (List.mem_of_getElem? (i := 3) rfl)
set_option maxRecDepth 1000000 in
theorem mw_113 : mlW (5, 77, 48, 0) ∈ lw_tbl := kmL_120_in _ (List.mem_of_getElem? (i := 4) rfl)
set_option maxRecDepth 1000000 in
theorem mw_114 : mlW (4, 87, 21, 1) ∈ lw_tbl := kmL_120_in _ (List.mem_of_getElem? (i := 5) rfl)
set_option maxRecDepth 1000000 in
theorem mw_115 : mlW (5, 81, 46, 0) ∈ lw_tbl := kmL_120_in _ (List.mem_of_getElem? (i := 6) rfl)
set_option maxRecDepth 1000000 in
theorem mw_116 : mlW (4, 81, 18, 1) ∈ lw_tbl := kmL_120_in _ (List.mem_of_getElem? (i := 7) rfl)
set_option maxRecDepth 1000000 in
theorem mw_117 : mlW (2, 103, 19, 0) ∈ lw_tbl := kmL_120_in _ (List.mem_of_getElem? (i := 8) rfl)
def flL_0 : List (Nat × Nat × Nat × Nat × Nat) := [(1, 9, 1, 0, 0), (2, 66, 1, 0, 1), (4, 237, 1, 0, 1), (1, 15, 1, 1, 0), (1, 19, 1, 2, 0), (2, 97, 1, 2, 1), (4, 231, 1, 2, 1), (1, 22, 1, 3, 0), (2, 100, 1, 3, 1), (4, 234, 1, 3, 1), (1, 25, 1, 4, 0), (2, 94, 1, 4, 1), (4, 228, 1, 4, 1), (0, 9, 0, 0, 0), (4, 277, 0, 0, 1), (0, 15, 0, 1, 0), (0, 18, 0, 2, 0), (0, 22, 0, 3, 0), (0, 25, 0, 4, 0), (2, 9, 2, 0, 0), (4, 129, 2, 0, 1), (2, 15, 2, 1, 0), (4, 118, 2, 1, 1), (2, 19, 2, 2, 0), (4, 132, 2, 2, 1), (2, 23, 2, 3, 0), (4, 107, 2, 3, 1), (2, 26, 2, 4, 0), (4, 98, 2, 4, 1), (2, 29, 2, 5, 0), (4, 101, 2, 5, 1), (2, 32, 2, 6, 0), (4, 126, 2, 6, 1), (2, 35, 2, 7, 0), (4, 211, 2, 7, 1), (2, 41, 2, 8, 0), (4, 188, 2, 8, 1), (2, 48, 2, 9, 0), (4, 268, 2, 9, 1), (3, 9, 3, 0, 0)]
set_option maxRecDepth 1000000 in
theorem flL_0_ok : ∀ e ∈ flL_0, flW e ∈ lw_tbl := List.forall_mem_cons.mpr ⟨fw_0, List.forall_mem_cons.mpr ⟨fw_1, List.forall_mem_cons.mpr ⟨fw_2, List.forall_mem_cons.mpr ⟨fw_3, List.forall_mem_cons.mpr ⟨fw_4, List.forall_mem_cons.mpr ⟨fw_5, List.forall_mem_cons.mpr ⟨fw_6, List.forall_mem_cons.mpr ⟨fw_7, List.forall_mem_cons.mpr ⟨fw_8, List.forall_mem_cons.mpr ⟨fw_9, List.forall_mem_cons.mpr ⟨fw_10, List.forall_mem_cons.mpr ⟨fw_11, List.forall_mem_cons.mpr ⟨fw_12, List.forall_mem_cons.mpr ⟨fw_13, List.forall_mem_cons.mpr ⟨fw_14, List.forall_mem_cons.mpr ⟨fw_15, List.forall_mem_cons.mpr ⟨fw_16, List.forall_mem_cons.mpr ⟨fw_17, List.forall_mem_cons.mpr ⟨fw_18, List.forall_mem_cons.mpr ⟨fw_19, List.forall_mem_cons.mpr ⟨fw_20, List.forall_mem_cons.mpr ⟨fw_21, List.forall_mem_cons.mpr ⟨fw_22, List.forall_mem_cons.mpr ⟨fw_23, List.forall_mem_cons.mpr ⟨fw_24, List.forall_mem_cons.mpr ⟨fw_25, List.forall_mem_cons.mpr ⟨fw_26, List.forall_mem_cons.mpr ⟨fw_27, List.forall_mem_cons.mpr ⟨fw_28, List.forall_mem_cons.mpr ⟨fw_29, List.forall_mem_cons.mpr ⟨fw_30, List.forall_mem_cons.mpr ⟨fw_31, List.forall_mem_cons.mpr ⟨fw_32, List.forall_mem_cons.mpr ⟨fw_33, List.forall_mem_cons.mpr ⟨fw_34, List.forall_mem_cons.mpr ⟨fw_35, List.forall_mem_cons.mpr ⟨fw_36, List.forall_mem_cons.mpr ⟨fw_37, List.forall_mem_cons.mpr ⟨fw_38, List.forall_mem_cons.mpr ⟨fw_39, fun _ h => absurd h List.not_mem_nil⟩⟩⟩⟩⟩⟩⟩⟩⟩⟩⟩⟩⟩⟩⟩⟩⟩⟩⟩⟩⟩⟩⟩⟩⟩⟩⟩⟩⟩⟩⟩⟩⟩⟩⟩⟩⟩⟩⟩⟩
def flL_40 : List (Nat × Nat × Nat × Nat × Nat) := [(3, 15, 3, 1, 0), (3, 19, 3, 2, 0), (3, 22, 3, 3, 0), (3, 26, 3, 4, 0), (4, 12, 4, 0, 0), (4, 16, 4, 1, 0), (4, 19, 4, 2, 0), (4, 23, 4, 3, 0), (4, 27, 4, 4, 0), (4, 30, 4, 5, 0), (4, 37, 4, 6, 0), (4, 41, 4, 7, 0)]
set_option maxRecDepth 1000000 in
theorem flL_40_ok : ∀ e ∈ flL_40, flW e ∈ lw_tbl := List.forall_mem_cons.mpr ⟨fw_40, List.forall_mem_cons.mpr ⟨fw_41, List.forall_mem_cons.mpr ⟨fw_42, List.forall_mem_cons.mpr ⟨fw_43, List.forall_mem_cons.mpr ⟨fw_44, List.forall_mem_cons.mpr ⟨fw_45, List.forall_mem_cons.mpr ⟨fw_46, List.forall_mem_cons.mpr ⟨fw_47, List.forall_mem_cons.mpr ⟨fw_48, List.forall_mem_cons.mpr ⟨fw_49, List.forall_mem_cons.mpr ⟨fw_50, List.forall_mem_cons.mpr ⟨fw_51, fun _ h => absurd h List.not_mem_nil⟩⟩⟩⟩⟩⟩⟩⟩⟩⟩⟩⟩
set_option maxRecDepth 1000000 in
theorem flL_eq : flL = flL_0 ++ flL_40 := by decide +kernel
theorem flL_ok : ∀ e ∈ flL, flW e ∈ lw_tbl := fun e h => by rw [flL_eq] at h; simp only [List.mem_append] at h; rcases h with (h | h) <;> first | exact flL_0_ok e h | exact flL_40_ok e h
def mlL_0 : List (Nat × Nat × Nat × Nat) := [(5, 141, 44, 0), (4, 3, 1000, 0), (4, 11, 14, 1), (2, 3, 1000, 0), (2, 40, 4, 1), (1, 3, 1000, 0), (2, 47, 0, 1), (0, 3, 1000, 0), (4, 36, 36, 1), (3, 3, 1000, 0), (5, 163, 58, 0), (4, 179, 15, 1), (2, 52, 1003, 0), (2, 58, 5, 1), (1, 28, 1003, 0), (2, 62, 1, 1), (0, 28, 1003, 0), (5, 142, 59, 0), (4, 183, 96, 0), (5, 11, 78, 0), (5, 134, 85, 0), (5, 149, 104, 0), (5, 153, 107, 0), (5, 52, 106, 0), (5, 19, 61, 0), (4, 91, 91, 0), (4, 208, 89, 0), (4, 110, 90, 0), (4, 214, 98, 0), (5, 23, 65, 0), (5, 26, 63, 0), (5, 29, 64, 0), (5, 32, 70, 0), (4, 52, 93, 0), (4, 240, 92, 0), (4, 290, 100, 0), (4, 225, 6, 1), (5, 35, 71, 0), (5, 38, 72, 0), (5, 41, 80, 0)]
set_option maxRecDepth 1000000 in
theorem mlL_0_ok : ∀ e ∈ mlL_0, mlW e ∈ lw_tbl := List.forall_mem_cons.mpr ⟨mw_0, List.forall_mem_cons.mpr ⟨mw_1, List.forall_mem_cons.mpr ⟨mw_2, List.forall_mem_cons.mpr ⟨mw_3, List.forall_mem_cons.mpr ⟨mw_4, List.forall_mem_cons.mpr ⟨mw_5, List.forall_mem_cons.mpr ⟨mw_6, List.forall_mem_cons.mpr ⟨mw_7, List.forall_mem_cons.mpr ⟨mw_8, List.forall_mem_cons.mpr ⟨mw_9, List.forall_mem_cons.mpr ⟨mw_10, List.forall_mem_cons.mpr ⟨mw_11, List.forall_mem_cons.mpr ⟨mw_12, List.forall_mem_cons.mpr ⟨mw_13, List.forall_mem_cons.mpr ⟨mw_14, List.forall_mem_cons.mpr ⟨mw_15, List.forall_mem_cons.mpr ⟨mw_16, List.forall_mem_cons.mpr ⟨mw_17, List.forall_mem_cons.mpr ⟨mw_18, List.forall_mem_cons.mpr ⟨mw_19, List.forall_mem_cons.mpr ⟨mw_20, List.forall_mem_cons.mpr ⟨mw_21, List.forall_mem_cons.mpr ⟨mw_22, List.forall_mem_cons.mpr ⟨mw_23, List.forall_mem_cons.mpr ⟨mw_24, List.forall_mem_cons.mpr ⟨mw_25, List.forall_mem_cons.mpr ⟨mw_26, List.forall_mem_cons.mpr ⟨mw_27, List.forall_mem_cons.mpr ⟨mw_28, List.forall_mem_cons.mpr ⟨mw_29, List.forall_mem_cons.mpr ⟨mw_30, List.forall_mem_cons.mpr ⟨mw_31, List.forall_mem_cons.mpr ⟨mw_32, List.forall_mem_cons.mpr ⟨mw_33, List.forall_mem_cons.mpr ⟨mw_34, List.forall_mem_cons.mpr ⟨mw_35, List.forall_mem_cons.mpr ⟨mw_36, List.forall_mem_cons.mpr ⟨mw_37, List.forall_mem_cons.mpr ⟨mw_38, List.forall_mem_cons.mpr ⟨mw_39, fun _ h => absurd h List.not_mem_nil⟩⟩⟩⟩⟩⟩⟩⟩⟩⟩⟩⟩⟩⟩⟩⟩⟩⟩⟩⟩⟩⟩⟩⟩⟩⟩⟩⟩⟩⟩⟩⟩⟩⟩⟩⟩⟩⟩⟩⟩
def mlL_40 : List (Nat × Nat × Nat × Nat) := [(4, 45, 87, 0), (5, 45, 73, 0), (5, 48, 79, 0), (5, 58, 84, 0), (5, 61, 83, 0), (4, 272, 3, 1), (5, 64, 68, 0), (5, 160, 110, 0), (5, 67, 105, 0), (5, 85, 50, 0), (4, 70, 101, 0), (5, 88, 52, 0), (4, 135, 35, 1), (5, 92, 53, 0), (4, 139, 32, 1), (4, 144, 33, 1), (2, 139, 34, 0), (2, 136, 29, 0), (2, 143, 30, 0), (2, 131, 2, 1), (5, 95, 51, 0), (4, 121, 29, 1), (5, 98, 60, 0), (5, 101, 49, 0), (4, 94, 95, 0), (4, 104, 28, 1), (5, 145, 111, 0), (5, 104, 66, 0), (4, 197, 30, 1), (4, 200, 1001, 0), (5, 107, 62, 0), (4, 192, 10, 1), (1, 38, 9, 0), (1, 34, 99, 1), (5, 110, 67, 0), (4, 205, 25, 1), (2, 118, 31, 0), (2, 123, 1002, 0), (2, 128, 1001, 0), (5, 113, 69, 0)]
set_option maxRecDepth 1000000 in
theorem mlL_40_ok : ∀ e ∈ mlL_40, mlW e ∈ lw_tbl := List.forall_mem_cons.mpr ⟨mw_40, List.forall_mem_cons.mpr ⟨mw_41, List.forall_mem_cons.mpr ⟨mw_42, List.forall_mem_cons.mpr ⟨mw_43, List.forall_mem_cons.mpr ⟨mw_44, List.forall_mem_cons.mpr ⟨mw_45, List.forall_mem_cons.mpr ⟨mw_46, List.forall_mem_cons.mpr ⟨mw_47, List.forall_mem_cons.mpr ⟨mw_48, List.forall_mem_cons.mpr ⟨mw_49, List.forall_mem_cons.mpr ⟨mw_50, List.forall_mem_cons.mpr ⟨mw_51, List.forall_mem_cons.mpr ⟨mw_52, List.forall_mem_cons.mpr ⟨mw_53, List.forall_mem_cons.mpr ⟨mw_54, List.forall_mem_cons.mpr ⟨mw_55, List.forall_mem_cons.mpr ⟨mw_56, List.forall_mem_cons.mpr ⟨mw_57, List.forall_mem_cons.mpr ⟨mw_58, List.forall_mem_cons.mpr ⟨mw_59, List.forall_mem_cons.mpr ⟨mw_60, List.forall_mem_cons.mpr ⟨mw_61, List.forall_mem_cons.mpr ⟨mw_62, List.forall_mem_cons.mpr ⟨mw_63, List.forall_mem_cons.mpr ⟨mw_64, List.forall_mem_cons.mpr ⟨mw_65, List.forall_mem_cons.mpr ⟨mw_66, List.forall_mem_cons.mpr ⟨mw_67, List.forall_mem_cons.mpr ⟨mw_68, List.forall_mem_cons.mpr ⟨mw_69, List.forall_mem_cons.mpr ⟨mw_70, List.forall_mem_cons.mpr ⟨mw_71, List.forall_mem_cons.mpr ⟨mw_72, List.forall_mem_cons.mpr ⟨mw_73, List.forall_mem_cons.mpr ⟨mw_74, List.forall_mem_cons.mpr ⟨mw_75, List.forall_mem_cons.mpr ⟨mw_76, List.forall_mem_cons.mpr ⟨mw_77, List.forall_mem_cons.mpr ⟨mw_78, List.forall_mem_cons.mpr ⟨mw_79, fun _ h => absurd h List.not_mem_nil⟩⟩⟩⟩⟩⟩⟩⟩⟩⟩⟩⟩⟩⟩⟩⟩⟩⟩⟩⟩⟩⟩⟩⟩⟩⟩⟩⟩⟩⟩⟩⟩⟩⟩⟩⟩⟩⟩⟩⟩
def mlL_80 : List (Nat × Nat × Nat × Nat) := [(4, 217, 11, 1), (4, 221, 103, 0), (5, 116, 75, 0), (4, 246, 13, 1), (5, 119, 74, 0), (4, 243, 12, 1), (5, 122, 81, 0), (5, 125, 82, 0), (4, 258, 31, 1), (5, 156, 112, 0), (5, 128, 76, 0), (4, 49, 88, 0), (4, 56, 94, 0), (4, 249, 23, 1), (2, 88, 99, 1), (2, 111, 98, 1), (2, 115, 24, 0), (5, 131, 108, 0), (5, 137, 109, 0), (5, 70, 45, 0), (4, 59, 16, 1), (2, 69, 6, 1), (4, 73, 17, 1), (2, 73, 23, 0), (2, 77, 26, 0), (2, 81, 7, 1), (2, 85, 22, 0), (2, 91, 27, 0), (2, 133, 28, 0), (5, 74, 47, 0), (4, 77, 97, 0), (4, 84, 20, 1), (2, 107, 8, 1), (5, 77, 48, 0), (4, 87, 21, 1), (5, 81, 46, 0), (4, 81, 18, 1), (2, 103, 19, 0)]
set_option maxRecDepth 1000000 in
theorem mlL_80_ok : ∀ e ∈ mlL_80, mlW e ∈ lw_tbl := List.forall_mem_cons.mpr ⟨mw_80, List.forall_mem_cons.mpr ⟨mw_81, List.forall_mem_cons.mpr ⟨mw_82, List.forall_mem_cons.mpr ⟨mw_83, List.forall_mem_cons.mpr ⟨mw_84, List.forall_mem_cons.mpr ⟨mw_85, List.forall_mem_cons.mpr ⟨mw_86, List.forall_mem_cons.mpr ⟨mw_87, List.forall_mem_cons.mpr ⟨mw_88, List.forall_mem_cons.mpr ⟨mw_89, List.forall_mem_cons.mpr ⟨mw_90, List.forall_mem_cons.mpr ⟨mw_91, List.forall_mem_cons.mpr ⟨mw_92, List.forall_mem_cons.mpr ⟨mw_93, List.forall_mem_cons.mpr ⟨mw_94, List.forall_mem_cons.mpr ⟨mw_95, List.forall_mem_cons.mpr ⟨mw_96, List.forall_mem_cons.mpr ⟨mw_97, List.forall_mem_cons.mpr ⟨mw_98, List.forall_mem_cons.mpr ⟨mw_99, List.forall_mem_cons.mpr ⟨mw_100, List.forall_mem_cons.mpr ⟨mw_101, List.forall_mem_cons.mpr ⟨mw_102, List.forall_mem_cons.mpr ⟨mw_103, List.forall_mem_cons.mpr ⟨mw_104, List.forall_mem_cons.mpr ⟨mw_105, List.forall_mem_cons.mpr ⟨mw_106, List.forall_mem_cons.mpr ⟨mw_107, List.forall_mem_cons.mpr ⟨mw_108, List.forall_mem_cons.mpr ⟨mw_109, List.forall_mem_cons.mpr ⟨mw_110, List.forall_mem_cons.mpr ⟨mw_111, List.forall_mem_cons.mpr ⟨mw_112, List.forall_mem_cons.mpr ⟨mw_113, List.forall_mem_cons.mpr ⟨mw_114, List.forall_mem_cons.mpr ⟨mw_115, List.forall_mem_cons.mpr ⟨mw_116, List.forall_mem_cons.mpr ⟨mw_117, fun _ h => absurd h List.not_mem_nil⟩⟩⟩⟩⟩⟩⟩⟩⟩⟩⟩⟩⟩⟩⟩⟩⟩⟩⟩⟩⟩⟩⟩⟩⟩⟩⟩⟩⟩⟩⟩⟩⟩⟩⟩⟩⟩⟩
set_option maxRecDepth 1000000 in
theorem mlL_eq : mlL = mlL_0 ++ mlL_40 ++ mlL_80 := by decide +kernel
theorem mlL_ok : ∀ e ∈ mlL, mlW e ∈ lw_tbl := fun e h => by rw [mlL_eq] at h; simp only [List.mem_append] at h; rcases h with ((h | h) | h) <;> first | exact mlL_0_ok e h | exact mlL_40_ok e h | exact mlL_80_ok e h
set_option maxRecDepth 1000000 in
theorem pd_0 : (parseMethodDescriptor "()V").map (fun d => d.parameters.length) = some 0 := by decide +kernel
set_option maxRecDepth 1000000 in
theorem pd_1 : (parseMethodDescriptor "(LStorageQuotas$EventLog;)V").map (fun d => d.parameters.length) = some 1 := by decide +kernel
set_option maxRecDepth 1000000 in
theorem pd_2 : (parseMethodDescriptor "(III)V").map (fun d => d.parameters.length) = some 3 := by decide +kernel
set_option maxRecDepth 1000000 in
theorem pd_3 : (parseMethodDescriptor "(II)I").map (fun d => d.parameters.length) = some 2 := by decide +kernel
set_option maxRecDepth 1000000 in
theorem pd_4 : (parseMethodDescriptor "(LStorageQuotas$FileTable;)V").map (fun d => d.parameters.length) = some 1 := by decide +kernel
set_option maxRecDepth 1000000 in
theorem pd_5 : (parseMethodDescriptor "(I)I").map (fun d => d.parameters.length) = some 1 := by decide +kernel
set_option maxRecDepth 1000000 in
theorem pd_6 : (parseMethodDescriptor "(IIII)V").map (fun d => d.parameters.length) = some 4 := by decide +kernel
set_option maxRecDepth 1000000 in
theorem pd_7 : (parseMethodDescriptor "(I)V").map (fun d => d.parameters.length) = some 1 := by decide +kernel
set_option maxRecDepth 1000000 in
theorem pd_8 : (parseMethodDescriptor "(II)Z").map (fun d => d.parameters.length) = some 2 := by decide +kernel
set_option maxRecDepth 1000000 in
theorem pd_9 : (parseMethodDescriptor "(I[I)I").map (fun d => d.parameters.length) = some 2 := by decide +kernel
set_option maxRecDepth 1000000 in
theorem pd_10 : (parseMethodDescriptor "(LStorageQuotas$State;)V").map (fun d => d.parameters.length) = some 1 := by decide +kernel
set_option maxRecDepth 1000000 in
theorem pd_11 : (parseMethodDescriptor "(I)Z").map (fun d => d.parameters.length) = some 1 := by decide +kernel
set_option maxRecDepth 1000000 in
theorem pd_12 : (parseMethodDescriptor "(IIII)I").map (fun d => d.parameters.length) = some 4 := by decide +kernel
set_option maxRecDepth 1000000 in
theorem pd_13 : (parseMethodDescriptor "(III)I").map (fun d => d.parameters.length) = some 3 := by decide +kernel
set_option maxRecDepth 1000000 in
theorem pd_14 : (parseMethodDescriptor "(IIIIII)I").map (fun d => d.parameters.length) = some 6 := by decide +kernel
set_option maxRecDepth 1000000 in
theorem pd_15 : (parseMethodDescriptor "()I").map (fun d => d.parameters.length) = some 0 := by decide +kernel
set_option maxRecDepth 1000000 in
theorem pd_16 : (parseMethodDescriptor "(IIIII)I").map (fun d => d.parameters.length) = some 5 := by decide +kernel
set_option maxRecDepth 1000000 in
theorem pd_17 : (parseMethodDescriptor "(IZ)I").map (fun d => d.parameters.length) = some 2 := by decide +kernel
set_option maxRecDepth 1000000 in
theorem pd_18 : (parseMethodDescriptor "(II)V").map (fun d => d.parameters.length) = some 2 := by decide +kernel
set_option maxRecDepth 1000000 in
theorem pd_19 : (parseMethodDescriptor "([II)I").map (fun d => d.parameters.length) = some 2 := by decide +kernel
set_option maxRecDepth 1000000 in
theorem pd_20 : (parseMethodDescriptor "(LStorageQuotas;)J").map (fun d => d.parameters.length) = some 1 := by decide +kernel
set_option maxRecDepth 1000000 in
theorem pd_21 : (parseMethodDescriptor "(LStorageQuotas;)I").map (fun d => d.parameters.length) = some 1 := by decide +kernel
set_option maxRecDepth 1000000 in
theorem pd_22 : (parseMethodDescriptor "(LStorageQuotas;II)I").map (fun d => d.parameters.length) = some 3 := by decide +kernel
set_option maxRecDepth 1000000 in
theorem pd_23 : (parseMethodDescriptor "(LStorageQuotas;)Z").map (fun d => d.parameters.length) = some 1 := by decide +kernel
set_option maxRecDepth 1000000 in
theorem pd_24 : (parseMethodDescriptor "(LStorageQuotas;II)Z").map (fun d => d.parameters.length) = some 3 := by decide +kernel
set_option maxRecDepth 1000000 in
theorem pd_25 : (parseMethodDescriptor "([I)Z").map (fun d => d.parameters.length) = some 1 := by decide +kernel
set_option maxRecDepth 1000000 in
theorem ma_0 : cwM 0 ∈ lw_tbl := kcD_0_in _ (List.mem_of_getElem? (i := 4) rfl)
set_option maxRecDepth 1000000 in
theorem mb_0 : Cond.instanceMethod (yM 0) ∈ lw_tbl := kiN_0_in _ (List.mem_of_getElem? (i := 4) rfl)
set_option maxRecDepth 1000000 in
theorem me_0 : (parseMethodDescriptor (yM 0).desc).map (fun d => d.parameters.length) = some (npM 0) := pd_0
theorem mt_0 : MtP 0 := ⟨rfl, Or.inr ma_0, fun h => absurd h (by decide), fun h => absurd h (by decide), fun _ => ⟨mb_0, rfl⟩, me_0⟩
set_option maxRecDepth 1000000 in
theorem ma_1 : cwM 1 ∈ lw_tbl := kcD_0_in _ (List.mem_of_getElem? (i := 14) rfl)
set_option maxRecDepth 1000000 in
theorem mb_1 : Cond.instanceMethod (yM 1) ∈ lw_tbl := kiN_0_in _ (List.mem_of_getElem? (i := 16) rfl)
set_option maxRecDepth 1000000 in
theorem md_1 : Cond.selects (owM 1) (yM 1) (yM 1) ∈ lw_tbl := kxL_0_in _ (List.mem_of_getElem? (i := 3) rfl)
set_option maxRecDepth 1000000 in
theorem me_1 : (parseMethodDescriptor (yM 1).desc).map (fun d => d.parameters.length) = some (npM 1) := pd_1
theorem mt_1 : MtP 1 := ⟨rfl, Or.inr ma_1, fun h => absurd h (by decide), fun _ => ⟨mb_1, md_1⟩, fun h => absurd h (by decide), me_1⟩
set_option maxRecDepth 1000000 in
theorem ma_2 : cwM 2 ∈ lw_tbl := kcD_0_in _ (List.mem_of_getElem? (i := 59) rfl)
set_option maxRecDepth 1000000 in
theorem mb_2 : Cond.instanceMethod (yM 2) ∈ lw_tbl := kiN_0_in _ (List.mem_of_getElem? (i := 47) rfl)
set_option maxRecDepth 1000000 in
theorem md_2 : Cond.selects (owM 2) (yM 2) (yM 2) ∈ lw_tbl := kxL_0_in _ (List.mem_of_getElem? (i := 13) rfl)
set_option maxRecDepth 1000000 in
theorem me_2 : (parseMethodDescriptor (yM 2).desc).map (fun d => d.parameters.length) = some (npM 2) := pd_2
theorem mt_2 : MtP 2 := ⟨rfl, Or.inr ma_2, fun h => absurd h (by decide), fun _ => ⟨mb_2, md_2⟩, fun h => absurd h (by decide), me_2⟩
set_option maxRecDepth 1000000 in
theorem ma_3 : cwM 3 ∈ lw_tbl := kcD_0_in _ (List.mem_of_getElem? (i := 45) rfl)
set_option maxRecDepth 1000000 in
theorem mb_3 : Cond.instanceMethod (yM 3) ∈ lw_tbl := kiN_0_in _ (List.mem_of_getElem? (i := 35) rfl)
set_option maxRecDepth 1000000 in
theorem md_3 : Cond.selects (owM 3) (yM 3) (yM 3) ∈ lw_tbl := kxL_0_in _ (List.mem_of_getElem? (i := 5) rfl)
set_option maxRecDepth 1000000 in
theorem me_3 : (parseMethodDescriptor (yM 3).desc).map (fun d => d.parameters.length) = some (npM 3) := pd_3
theorem mt_3 : MtP 3 := ⟨rfl, Or.inr ma_3, fun h => absurd h (by decide), fun _ => ⟨mb_3, md_3⟩, fun h => absurd h (by decide), me_3⟩
set_option maxRecDepth 1000000 in
theorem ma_4 : cwM 4 ∈ lw_tbl := kcD_0_in _ (List.mem_of_getElem? (i := 3) rfl)
set_option maxRecDepth 1000000 in
theorem mb_4 : Cond.instanceMethod (yM 4) ∈ lw_tbl := kiN_0_in _ (List.mem_of_getElem? (i := 3) rfl)
set_option maxRecDepth 1000000 in
theorem me_4 : (parseMethodDescriptor (yM 4).desc).map (fun d => d.parameters.length) = some (npM 4) := pd_0
theorem mt_4 : MtP 4 := ⟨rfl, Or.inr ma_4, fun h => absurd h (by decide), fun h => absurd h (by decide), fun _ => ⟨mb_4, rfl⟩, me_4⟩
set_option maxRecDepth 1000000 in
theorem ma_5 : cwM 5 ∈ lw_tbl := kcD_0_in _ (List.mem_of_getElem? (i := 13) rfl)
set_option maxRecDepth 1000000 in
theorem mb_5 : Cond.instanceMethod (yM 5) ∈ lw_tbl := kiN_0_in _ (List.mem_of_getElem? (i := 15) rfl)
set_option maxRecDepth 1000000 in
theorem md_5 : Cond.selects (owM 5) (yM 5) (yM 5) ∈ lw_tbl := kxL_0_in _ (List.mem_of_getElem? (i := 2) rfl)
set_option maxRecDepth 1000000 in
theorem me_5 : (parseMethodDescriptor (yM 5).desc).map (fun d => d.parameters.length) = some (npM 5) := pd_4
theorem mt_5 : MtP 5 := ⟨rfl, Or.inr ma_5, fun h => absurd h (by decide), fun _ => ⟨mb_5, md_5⟩, fun h => absurd h (by decide), me_5⟩
set_option maxRecDepth 1000000 in
theorem ma_6 : cwM 6 ∈ lw_tbl := kcD_0_in _ (List.mem_of_getElem? (i := 35) rfl)
set_option maxRecDepth 1000000 in
theorem mb_6 : Cond.instanceMethod (yM 6) ∈ lw_tbl := kiN_0_in _ (List.mem_of_getElem? (i := 26) rfl)
set_option maxRecDepth 1000000 in
theorem md_6 : Cond.selects (owM 6) (yM 6) (yM 6) ∈ lw_tbl := kxL_0_in _ (List.mem_of_getElem? (i := 4) rfl)
set_option maxRecDepth 1000000 in
theorem me_6 : (parseMethodDescriptor (yM 6).desc).map (fun d => d.parameters.length) = some (npM 6) := pd_5
theorem mt_6 : MtP 6 := ⟨rfl, Or.inr ma_6, fun h => absurd h (by decide), fun _ => ⟨mb_6, md_6⟩, fun h => absurd h (by decide), me_6⟩
set_option maxRecDepth 1000000 in
theorem ma_7 : cwM 7 ∈ lw_tbl := kcD_60_in _ (List.mem_of_getElem? (i := 37) rfl)
set_option maxRecDepth 1000000 in
theorem mb_7 : Cond.instanceMethod (yM 7) ∈ lw_tbl := kiN_60_in _ (List.mem_of_getElem? (i := 14) rfl)
set_option maxRecDepth 1000000 in
theorem md_7 : Cond.selects (owM 7) (yM 7) (yM 7) ∈ lw_tbl := kxL_0_in _ (List.mem_of_getElem? (i := 27) rfl)
set_option maxRecDepth 1000000 in
theorem me_7 : (parseMethodDescriptor (yM 7).desc).map (fun d => d.parameters.length) = some (npM 7) := pd_6
theorem mt_7 : MtP 7 := ⟨rfl, Or.inr ma_7, fun h => absurd h (by decide), fun _ => ⟨mb_7, md_7⟩, fun h => absurd h (by decide), me_7⟩
set_option maxRecDepth 1000000 in
theorem ma_8 : cwM 8 ∈ lw_tbl := kcD_60_in _ (List.mem_of_getElem? (i := 43) rfl)
set_option maxRecDepth 1000000 in
theorem mb_8 : Cond.instanceMethod (yM 8) ∈ lw_tbl := kiN_60_in _ (List.mem_of_getElem? (i := 20) rfl)
set_option maxRecDepth 1000000 in
theorem md_8 : Cond.selects (owM 8) (yM 8) (yM 8) ∈ lw_tbl := kxL_0_in _ (List.mem_of_getElem? (i := 32) rfl)
set_option maxRecDepth 1000000 in
theorem me_8 : (parseMethodDescriptor (yM 8).desc).map (fun d => d.parameters.length) = some (npM 8) := pd_7
theorem mt_8 : MtP 8 := ⟨rfl, Or.inr ma_8, fun h => absurd h (by decide), fun _ => ⟨mb_8, md_8⟩, fun h => absurd h (by decide), me_8⟩
set_option maxRecDepth 1000000 in
theorem ma_9 : cwM 9 ∈ lw_tbl := kcD_60_in _ (List.mem_of_getElem? (i := 10) rfl)
set_option maxRecDepth 1000000 in
theorem mb_9 : Cond.instanceMethod (yM 9) ∈ lw_tbl := kiN_0_in _ (List.mem_of_getElem? (i := 55) rfl)
set_option maxRecDepth 1000000 in
theorem md_9 : Cond.selects (owM 9) (yM 9) (yM 9) ∈ lw_tbl := kxL_0_in _ (List.mem_of_getElem? (i := 16) rfl)
set_option maxRecDepth 1000000 in
theorem me_9 : (parseMethodDescriptor (yM 9).desc).map (fun d => d.parameters.length) = some (npM 9) := pd_8
theorem mt_9 : MtP 9 := ⟨rfl, Or.inr ma_9, fun h => absurd h (by decide), fun _ => ⟨mb_9, md_9⟩, fun h => absurd h (by decide), me_9⟩
set_option maxRecDepth 1000000 in
theorem ma_10 : cwM 10 ∈ lw_tbl := kcD_60_in _ (List.mem_of_getElem? (i := 9) rfl)
set_option maxRecDepth 1000000 in
theorem mb_10 : Cond.instanceMethod (yM 10) ∈ lw_tbl := kiN_0_in _ (List.mem_of_getElem? (i := 54) rfl)
set_option maxRecDepth 1000000 in
theorem md_10 : Cond.selects (owM 10) (yM 10) (yM 10) ∈ lw_tbl := kxL_0_in _ (List.mem_of_getElem? (i := 15) rfl)
set_option maxRecDepth 1000000 in
theorem me_10 : (parseMethodDescriptor (yM 10).desc).map (fun d => d.parameters.length) = some (npM 10) := pd_3
theorem mt_10 : MtP 10 := ⟨rfl, Or.inr ma_10, fun h => absurd h (by decide), fun _ => ⟨mb_10, md_10⟩, fun h => absurd h (by decide), me_10⟩
set_option maxRecDepth 1000000 in
theorem ma_11 : cwM 11 ∈ lw_tbl := kcD_60_in _ (List.mem_of_getElem? (i := 17) rfl)
set_option maxRecDepth 1000000 in
theorem mb_11 : Cond.instanceMethod (yM 11) ∈ lw_tbl := kiN_60_in _ (List.mem_of_getElem? (i := 0) rfl)
set_option maxRecDepth 1000000 in
theorem md_11 : Cond.selects (owM 11) (yM 11) (yM 11) ∈ lw_tbl := kxL_0_in _ (List.mem_of_getElem? (i := 19) rfl)
set_option maxRecDepth 1000000 in
theorem me_11 : (parseMethodDescriptor (yM 11).desc).map (fun d => d.parameters.length) = some (npM 11) := pd_9
theorem mt_11 : MtP 11 := ⟨rfl, Or.inr ma_11, fun h => absurd h (by decide), fun _ => ⟨mb_11, md_11⟩, fun h => absurd h (by decide), me_11⟩
set_option maxRecDepth 1000000 in
theorem ma_12 : cwM 12 ∈ lw_tbl := kcD_60_in _ (List.mem_of_getElem? (i := 22) rfl)
set_option maxRecDepth 1000000 in
theorem mb_12 : Cond.instanceMethod (yM 12) ∈ lw_tbl := kiN_60_in _ (List.mem_of_getElem? (i := 4) rfl)
set_option maxRecDepth 1000000 in
theorem md_12 : Cond.selects (owM 12) (yM 12) (yM 12) ∈ lw_tbl := kxL_0_in _ (List.mem_of_getElem? (i := 21) rfl)
set_option maxRecDepth 1000000 in
theorem me_12 : (parseMethodDescriptor (yM 12).desc).map (fun d => d.parameters.length) = some (npM 12) := pd_5
theorem mt_12 : MtP 12 := ⟨rfl, Or.inr ma_12, fun h => absurd h (by decide), fun _ => ⟨mb_12, md_12⟩, fun h => absurd h (by decide), me_12⟩
set_option maxRecDepth 1000000 in
theorem ma_13 : cwM 13 ∈ lw_tbl := kcD_60_in _ (List.mem_of_getElem? (i := 20) rfl)
set_option maxRecDepth 1000000 in
theorem mb_13 : Cond.instanceMethod (yM 13) ∈ lw_tbl := kiN_60_in _ (List.mem_of_getElem? (i := 2) rfl)
set_option maxRecDepth 1000000 in
theorem md_13 : Cond.selects (owM 13) (yM 13) (yM 13) ∈ lw_tbl := kxL_0_in _ (List.mem_of_getElem? (i := 20) rfl)
set_option maxRecDepth 1000000 in
theorem me_13 : (parseMethodDescriptor (yM 13).desc).map (fun d => d.parameters.length) = some (npM 13) := pd_5
theorem mt_13 : MtP 13 := ⟨rfl, Or.inr ma_13, fun h => absurd h (by decide), fun _ => ⟨mb_13, md_13⟩, fun h => absurd h (by decide), me_13⟩
set_option maxRecDepth 1000000 in
theorem ma_14 : cwM 14 ∈ lw_tbl := kcD_0_in _ (List.mem_of_getElem? (i := 2) rfl)
set_option maxRecDepth 1000000 in
theorem mb_14 : Cond.instanceMethod (yM 14) ∈ lw_tbl := kiN_0_in _ (List.mem_of_getElem? (i := 2) rfl)
set_option maxRecDepth 1000000 in
theorem me_14 : (parseMethodDescriptor (yM 14).desc).map (fun d => d.parameters.length) = some (npM 14) := pd_0
theorem mt_14 : MtP 14 := ⟨rfl, Or.inr ma_14, fun h => absurd h (by decide), fun h => absurd h (by decide), fun _ => ⟨mb_14, rfl⟩, me_14⟩
set_option maxRecDepth 1000000 in
theorem ma_15 : cwM 15 ∈ lw_tbl := kcD_0_in _ (List.mem_of_getElem? (i := 12) rfl)
set_option maxRecDepth 1000000 in
theorem mb_15 : Cond.instanceMethod (yM 15) ∈ lw_tbl := kiN_0_in _ (List.mem_of_getElem? (i := 14) rfl)
set_option maxRecDepth 1000000 in
theorem md_15 : Cond.selects (owM 15) (yM 15) (yM 15) ∈ lw_tbl := kxL_0_in _ (List.mem_of_getElem? (i := 1) rfl)
set_option maxRecDepth 1000000 in
theorem me_15 : (parseMethodDescriptor (yM 15).desc).map (fun d => d.parameters.length) = some (npM 15) := pd_10
theorem mt_15 : MtP 15 := ⟨rfl, Or.inr ma_15, fun h => absurd h (by decide), fun _ => ⟨mb_15, md_15⟩, fun h => absurd h (by decide), me_15⟩
set_option maxRecDepth 1000000 in
theorem ma_16 : cwM 16 ∈ lw_tbl := kcD_60_in _ (List.mem_of_getElem? (i := 34) rfl)
set_option maxRecDepth 1000000 in
theorem mb_16 : Cond.instanceMethod (yM 16) ∈ lw_tbl := kiN_60_in _ (List.mem_of_getElem? (i := 11) rfl)
set_option maxRecDepth 1000000 in
theorem md_16 : Cond.selects (owM 16) (yM 16) (yM 16) ∈ lw_tbl := kxL_0_in _ (List.mem_of_getElem? (i := 24) rfl)
set_option maxRecDepth 1000000 in
theorem me_16 : (parseMethodDescriptor (yM 16).desc).map (fun d => d.parameters.length) = some (npM 16) := pd_11
theorem mt_16 : MtP 16 := ⟨rfl, Or.inr ma_16, fun h => absurd h (by decide), fun _ => ⟨mb_16, md_16⟩, fun h => absurd h (by decide), me_16⟩
set_option maxRecDepth 1000000 in
theorem ma_17 : cwM 17 ∈ lw_tbl := kcD_60_in _ (List.mem_of_getElem? (i := 35) rfl)
set_option maxRecDepth 1000000 in
theorem mb_17 : Cond.instanceMethod (yM 17) ∈ lw_tbl := kiN_60_in _ (List.mem_of_getElem? (i := 12) rfl)
set_option maxRecDepth 1000000 in
theorem md_17 : Cond.selects (owM 17) (yM 17) (yM 17) ∈ lw_tbl := kxL_0_in _ (List.mem_of_getElem? (i := 25) rfl)
set_option maxRecDepth 1000000 in
theorem me_17 : (parseMethodDescriptor (yM 17).desc).map (fun d => d.parameters.length) = some (npM 17) := pd_12
theorem mt_17 : MtP 17 := ⟨rfl, Or.inr ma_17, fun h => absurd h (by decide), fun _ => ⟨mb_17, md_17⟩, fun h => absurd h (by decide), me_17⟩
set_option maxRecDepth 1000000 in
theorem ma_18 : cwM 18 ∈ lw_tbl := kcD_60_in _ (List.mem_of_getElem? (i := 47) rfl)
set_option maxRecDepth 1000000 in
theorem mb_18 : Cond.instanceMethod (yM 18) ∈ lw_tbl := kiN_60_in _ (List.mem_of_getElem? (i := 24) rfl)
set_option maxRecDepth 1000000 in
theorem md_18 : Cond.selects (owM 18) (yM 18) (yM 18) ∈ lw_tbl := kxL_0_in _ (List.mem_of_getElem? (i := 34) rfl)
set_option maxRecDepth 1000000 in
theorem me_18 : (parseMethodDescriptor (yM 18).desc).map (fun d => d.parameters.length) = some (npM 18) := pd_3
theorem mt_18 : MtP 18 := ⟨rfl, Or.inr ma_18, fun h => absurd h (by decide), fun _ => ⟨mb_18, md_18⟩, fun h => absurd h (by decide), me_18⟩
set_option maxRecDepth 1000000 in
theorem ma_19 : cwM 19 ∈ lw_tbl := kcD_60_in _ (List.mem_of_getElem? (i := 48) rfl)
set_option maxRecDepth 1000000 in
theorem mb_19 : Cond.instanceMethod (yM 19) ∈ lw_tbl := kiN_60_in _ (List.mem_of_getElem? (i := 25) rfl)
set_option maxRecDepth 1000000 in
theorem md_19 : Cond.selects (owM 19) (yM 19) (yM 19) ∈ lw_tbl := kxL_0_in _ (List.mem_of_getElem? (i := 35) rfl)
set_option maxRecDepth 1000000 in
theorem me_19 : (parseMethodDescriptor (yM 19).desc).map (fun d => d.parameters.length) = some (npM 19) := pd_13
theorem mt_19 : MtP 19 := ⟨rfl, Or.inr ma_19, fun h => absurd h (by decide), fun _ => ⟨mb_19, md_19⟩, fun h => absurd h (by decide), me_19⟩
set_option maxRecDepth 1000000 in
theorem ma_20 : cwM 20 ∈ lw_tbl := kcD_60_in _ (List.mem_of_getElem? (i := 42) rfl)
set_option maxRecDepth 1000000 in
theorem mb_20 : Cond.instanceMethod (yM 20) ∈ lw_tbl := kiN_60_in _ (List.mem_of_getElem? (i := 19) rfl)
set_option maxRecDepth 1000000 in
theorem md_20 : Cond.selects (owM 20) (yM 20) (yM 20) ∈ lw_tbl := kxL_0_in _ (List.mem_of_getElem? (i := 31) rfl)
set_option maxRecDepth 1000000 in
theorem me_20 : (parseMethodDescriptor (yM 20).desc).map (fun d => d.parameters.length) = some (npM 20) := pd_5
theorem mt_20 : MtP 20 := ⟨rfl, Or.inr ma_20, fun h => absurd h (by decide), fun _ => ⟨mb_20, md_20⟩, fun h => absurd h (by decide), me_20⟩
set_option maxRecDepth 1000000 in
theorem ma_21 : cwM 21 ∈ lw_tbl := kcD_60_in _ (List.mem_of_getElem? (i := 45) rfl)
set_option maxRecDepth 1000000 in
theorem mb_21 : Cond.instanceMethod (yM 21) ∈ lw_tbl := kiN_60_in _ (List.mem_of_getElem? (i := 22) rfl)
set_option maxRecDepth 1000000 in
theorem md_21 : Cond.selects (owM 21) (yM 21) (yM 21) ∈ lw_tbl := kxL_0_in _ (List.mem_of_getElem? (i := 33) rfl)
set_option maxRecDepth 1000000 in
theorem me_21 : (parseMethodDescriptor (yM 21).desc).map (fun d => d.parameters.length) = some (npM 21) := pd_13
theorem mt_21 : MtP 21 := ⟨rfl, Or.inr ma_21, fun h => absurd h (by decide), fun _ => ⟨mb_21, md_21⟩, fun h => absurd h (by decide), me_21⟩
set_option maxRecDepth 1000000 in
theorem ma_22 : cwM 22 ∈ lw_tbl := kcD_60_in _ (List.mem_of_getElem? (i := 38) rfl)
set_option maxRecDepth 1000000 in
theorem mb_22 : Cond.instanceMethod (yM 22) ∈ lw_tbl := kiN_60_in _ (List.mem_of_getElem? (i := 15) rfl)
set_option maxRecDepth 1000000 in
theorem md_22 : Cond.selects (owM 22) (yM 22) (yM 22) ∈ lw_tbl := kxL_0_in _ (List.mem_of_getElem? (i := 28) rfl)
set_option maxRecDepth 1000000 in
theorem me_22 : (parseMethodDescriptor (yM 22).desc).map (fun d => d.parameters.length) = some (npM 22) := pd_2
theorem mt_22 : MtP 22 := ⟨rfl, Or.inr ma_22, fun h => absurd h (by decide), fun _ => ⟨mb_22, md_22⟩, fun h => absurd h (by decide), me_22⟩
set_option maxRecDepth 1000000 in
theorem ma_23 : cwM 23 ∈ lw_tbl := kcD_60_in _ (List.mem_of_getElem? (i := 29) rfl)
set_option maxRecDepth 1000000 in
theorem mb_23 : Cond.instanceMethod (yM 23) ∈ lw_tbl := kiN_60_in _ (List.mem_of_getElem? (i := 8) rfl)
set_option maxRecDepth 1000000 in
theorem md_23 : Cond.selects (owM 23) (yM 23) (yM 23) ∈ lw_tbl := kxL_0_in _ (List.mem_of_getElem? (i := 22) rfl)
set_option maxRecDepth 1000000 in
theorem me_23 : (parseMethodDescriptor (yM 23).desc).map (fun d => d.parameters.length) = some (npM 23) := pd_14
theorem mt_23 : MtP 23 := ⟨rfl, Or.inr ma_23, fun h => absurd h (by decide), fun _ => ⟨mb_23, md_23⟩, fun h => absurd h (by decide), me_23⟩
set_option maxRecDepth 1000000 in
theorem ma_24 : cwM 24 ∈ lw_tbl := kcD_60_in _ (List.mem_of_getElem? (i := 30) rfl)
set_option maxRecDepth 1000000 in
theorem mb_24 : Cond.instanceMethod (yM 24) ∈ lw_tbl := kiN_60_in _ (List.mem_of_getElem? (i := 9) rfl)
set_option maxRecDepth 1000000 in
theorem md_24 : Cond.selects (owM 24) (yM 24) (yM 24) ∈ lw_tbl := kxL_0_in _ (List.mem_of_getElem? (i := 23) rfl)
set_option maxRecDepth 1000000 in
theorem me_24 : (parseMethodDescriptor (yM 24).desc).map (fun d => d.parameters.length) = some (npM 24) := pd_3
theorem mt_24 : MtP 24 := ⟨rfl, Or.inr ma_24, fun h => absurd h (by decide), fun _ => ⟨mb_24, md_24⟩, fun h => absurd h (by decide), me_24⟩
set_option maxRecDepth 1000000 in
theorem ma_25 : cwM 25 ∈ lw_tbl := kcD_60_in _ (List.mem_of_getElem? (i := 13) rfl)
set_option maxRecDepth 1000000 in
theorem mb_25 : Cond.instanceMethod (yM 25) ∈ lw_tbl := kiN_0_in _ (List.mem_of_getElem? (i := 57) rfl)
set_option maxRecDepth 1000000 in
theorem md_25 : Cond.selects (owM 25) (yM 25) (yM 25) ∈ lw_tbl := kxL_0_in _ (List.mem_of_getElem? (i := 17) rfl)
set_option maxRecDepth 1000000 in
theorem me_25 : (parseMethodDescriptor (yM 25).desc).map (fun d => d.parameters.length) = some (npM 25) := pd_5
theorem mt_25 : MtP 25 := ⟨rfl, Or.inr ma_25, fun h => absurd h (by decide), fun _ => ⟨mb_25, md_25⟩, fun h => absurd h (by decide), me_25⟩
set_option maxRecDepth 1000000 in
theorem ma_26 : cwM 26 ∈ lw_tbl := kcD_60_in _ (List.mem_of_getElem? (i := 36) rfl)
set_option maxRecDepth 1000000 in
theorem mb_26 : Cond.instanceMethod (yM 26) ∈ lw_tbl := kiN_60_in _ (List.mem_of_getElem? (i := 13) rfl)
set_option maxRecDepth 1000000 in
theorem md_26 : Cond.selects (owM 26) (yM 26) (yM 26) ∈ lw_tbl := kxL_0_in _ (List.mem_of_getElem? (i := 26) rfl)
set_option maxRecDepth 1000000 in
theorem me_26 : (parseMethodDescriptor (yM 26).desc).map (fun d => d.parameters.length) = some (npM 26) := pd_2
theorem mt_26 : MtP 26 := ⟨rfl, Or.inr ma_26, fun h => absurd h (by decide), fun _ => ⟨mb_26, md_26⟩, fun h => absurd h (by decide), me_26⟩
set_option maxRecDepth 1000000 in
theorem ma_27 : cwM 27 ∈ lw_tbl := kcD_60_in _ (List.mem_of_getElem? (i := 39) rfl)
set_option maxRecDepth 1000000 in
theorem mb_27 : Cond.instanceMethod (yM 27) ∈ lw_tbl := kiN_60_in _ (List.mem_of_getElem? (i := 16) rfl)
set_option maxRecDepth 1000000 in
theorem md_27 : Cond.selects (owM 27) (yM 27) (yM 27) ∈ lw_tbl := kxL_0_in _ (List.mem_of_getElem? (i := 29) rfl)
set_option maxRecDepth 1000000 in
theorem me_27 : (parseMethodDescriptor (yM 27).desc).map (fun d => d.parameters.length) = some (npM 27) := pd_0
theorem mt_27 : MtP 27 := ⟨rfl, Or.inr ma_27, fun h => absurd h (by decide), fun _ => ⟨mb_27, md_27⟩, fun h => absurd h (by decide), me_27⟩
set_option maxRecDepth 1000000 in
theorem ma_28 : cwM 28 ∈ lw_tbl := kcD_60_in _ (List.mem_of_getElem? (i := 4) rfl)
set_option maxRecDepth 1000000 in
theorem mb_28 : Cond.instanceMethod (yM 28) ∈ lw_tbl := kiN_0_in _ (List.mem_of_getElem? (i := 51) rfl)
set_option maxRecDepth 1000000 in
theorem md_28 : Cond.selects (owM 28) (yM 28) (yM 28) ∈ lw_tbl := kxL_0_in _ (List.mem_of_getElem? (i := 14) rfl)
set_option maxRecDepth 1000000 in
theorem me_28 : (parseMethodDescriptor (yM 28).desc).map (fun d => d.parameters.length) = some (npM 28) := pd_7
theorem mt_28 : MtP 28 := ⟨rfl, Or.inr ma_28, fun h => absurd h (by decide), fun _ => ⟨mb_28, md_28⟩, fun h => absurd h (by decide), me_28⟩
set_option maxRecDepth 1000000 in
theorem ma_29 : cwM 29 ∈ lw_tbl := kcD_0_in _ (List.mem_of_getElem? (i := 57) rfl)
set_option maxRecDepth 1000000 in
theorem mb_29 : Cond.instanceMethod (yM 29) ∈ lw_tbl := kiN_0_in _ (List.mem_of_getElem? (i := 45) rfl)
set_option maxRecDepth 1000000 in
theorem md_29 : Cond.selects (owM 29) (yM 29) (yM 29) ∈ lw_tbl := kxL_0_in _ (List.mem_of_getElem? (i := 11) rfl)
set_option maxRecDepth 1000000 in
theorem me_29 : (parseMethodDescriptor (yM 29).desc).map (fun d => d.parameters.length) = some (npM 29) := pd_11
theorem mt_29 : MtP 29 := ⟨rfl, Or.inr ma_29, fun h => absurd h (by decide), fun _ => ⟨mb_29, md_29⟩, fun h => absurd h (by decide), me_29⟩
set_option maxRecDepth 1000000 in
theorem ma_30 : cwM 30 ∈ lw_tbl := kcD_0_in _ (List.mem_of_getElem? (i := 58) rfl)
set_option maxRecDepth 1000000 in
theorem mb_30 : Cond.instanceMethod (yM 30) ∈ lw_tbl := kiN_0_in _ (List.mem_of_getElem? (i := 46) rfl)
set_option maxRecDepth 1000000 in
theorem md_30 : Cond.selects (owM 30) (yM 30) (yM 30) ∈ lw_tbl := kxL_0_in _ (List.mem_of_getElem? (i := 12) rfl)
set_option maxRecDepth 1000000 in
theorem me_30 : (parseMethodDescriptor (yM 30).desc).map (fun d => d.parameters.length) = some (npM 30) := pd_5
theorem mt_30 : MtP 30 := ⟨rfl, Or.inr ma_30, fun h => absurd h (by decide), fun _ => ⟨mb_30, md_30⟩, fun h => absurd h (by decide), me_30⟩
set_option maxRecDepth 1000000 in
theorem ma_31 : cwM 31 ∈ lw_tbl := kcD_60_in _ (List.mem_of_getElem? (i := 14) rfl)
set_option maxRecDepth 1000000 in
theorem mb_31 : Cond.instanceMethod (yM 31) ∈ lw_tbl := kiN_0_in _ (List.mem_of_getElem? (i := 58) rfl)
set_option maxRecDepth 1000000 in
theorem md_31 : Cond.selects (owM 31) (yM 31) (yM 31) ∈ lw_tbl := kxL_0_in _ (List.mem_of_getElem? (i := 18) rfl)
set_option maxRecDepth 1000000 in
theorem me_31 : (parseMethodDescriptor (yM 31).desc).map (fun d => d.parameters.length) = some (npM 31) := pd_11
theorem mt_31 : MtP 31 := ⟨rfl, Or.inr ma_31, fun h => absurd h (by decide), fun _ => ⟨mb_31, md_31⟩, fun h => absurd h (by decide), me_31⟩
set_option maxRecDepth 1000000 in
theorem ma_32 : cwM 32 ∈ lw_tbl := kcD_0_in _ (List.mem_of_getElem? (i := 54) rfl)
set_option maxRecDepth 1000000 in
theorem mb_32 : Cond.instanceMethod (yM 32) ∈ lw_tbl := kiN_0_in _ (List.mem_of_getElem? (i := 42) rfl)
set_option maxRecDepth 1000000 in
theorem md_32 : Cond.selects (owM 32) (yM 32) (yM 32) ∈ lw_tbl := kxL_0_in _ (List.mem_of_getElem? (i := 8) rfl)
set_option maxRecDepth 1000000 in
theorem me_32 : (parseMethodDescriptor (yM 32).desc).map (fun d => d.parameters.length) = some (npM 32) := pd_11
theorem mt_32 : MtP 32 := ⟨rfl, Or.inr ma_32, fun h => absurd h (by decide), fun _ => ⟨mb_32, md_32⟩, fun h => absurd h (by decide), me_32⟩
set_option maxRecDepth 1000000 in
theorem ma_33 : cwM 33 ∈ lw_tbl := kcD_0_in _ (List.mem_of_getElem? (i := 55) rfl)
set_option maxRecDepth 1000000 in
theorem mb_33 : Cond.instanceMethod (yM 33) ∈ lw_tbl := kiN_0_in _ (List.mem_of_getElem? (i := 43) rfl)
set_option maxRecDepth 1000000 in
theorem md_33 : Cond.selects (owM 33) (yM 33) (yM 33) ∈ lw_tbl := kxL_0_in _ (List.mem_of_getElem? (i := 9) rfl)
set_option maxRecDepth 1000000 in
theorem me_33 : (parseMethodDescriptor (yM 33).desc).map (fun d => d.parameters.length) = some (npM 33) := pd_5
theorem mt_33 : MtP 33 := ⟨rfl, Or.inr ma_33, fun h => absurd h (by decide), fun _ => ⟨mb_33, md_33⟩, fun h => absurd h (by decide), me_33⟩
set_option maxRecDepth 1000000 in
theorem ma_34 : cwM 34 ∈ lw_tbl := kcD_0_in _ (List.mem_of_getElem? (i := 56) rfl)
set_option maxRecDepth 1000000 in
theorem mb_34 : Cond.instanceMethod (yM 34) ∈ lw_tbl := kiN_0_in _ (List.mem_of_getElem? (i := 44) rfl)
set_option maxRecDepth 1000000 in
theorem md_34 : Cond.selects (owM 34) (yM 34) (yM 34) ∈ lw_tbl := kxL_0_in _ (List.mem_of_getElem? (i := 10) rfl)
set_option maxRecDepth 1000000 in
theorem me_34 : (parseMethodDescriptor (yM 34).desc).map (fun d => d.parameters.length) = some (npM 34) := pd_15
theorem mt_34 : MtP 34 := ⟨rfl, Or.inr ma_34, fun h => absurd h (by decide), fun _ => ⟨mb_34, md_34⟩, fun h => absurd h (by decide), me_34⟩
set_option maxRecDepth 1000000 in
theorem ma_35 : cwM 35 ∈ lw_tbl := kcD_0_in _ (List.mem_of_getElem? (i := 52) rfl)
set_option maxRecDepth 1000000 in
theorem mb_35 : Cond.instanceMethod (yM 35) ∈ lw_tbl := kiN_0_in _ (List.mem_of_getElem? (i := 40) rfl)
set_option maxRecDepth 1000000 in
theorem md_35 : Cond.selects (owM 35) (yM 35) (yM 35) ∈ lw_tbl := kxL_0_in _ (List.mem_of_getElem? (i := 7) rfl)
set_option maxRecDepth 1000000 in
theorem me_35 : (parseMethodDescriptor (yM 35).desc).map (fun d => d.parameters.length) = some (npM 35) := pd_15
theorem mt_35 : MtP 35 := ⟨rfl, Or.inr ma_35, fun h => absurd h (by decide), fun _ => ⟨mb_35, md_35⟩, fun h => absurd h (by decide), me_35⟩
set_option maxRecDepth 1000000 in
theorem ma_36 : cwM 36 ∈ lw_tbl := kcD_0_in _ (List.mem_of_getElem? (i := 5) rfl)
set_option maxRecDepth 1000000 in
theorem mb_36 : Cond.instanceMethod (yM 36) ∈ lw_tbl := kiN_0_in _ (List.mem_of_getElem? (i := 5) rfl)
set_option maxRecDepth 1000000 in
theorem me_36 : (parseMethodDescriptor (yM 36).desc).map (fun d => d.parameters.length) = some (npM 36) := pd_0
theorem mt_36 : MtP 36 := ⟨rfl, Or.inr ma_36, fun h => absurd h (by decide), fun h => absurd h (by decide), fun _ => ⟨mb_36, rfl⟩, me_36⟩
theorem mt_37 : MtP 37 := ⟨rfl, Or.inr ma_0, fun h => absurd h (by decide), fun h => absurd h (by decide), fun _ => ⟨mb_0, rfl⟩, me_0⟩
theorem mt_38 : MtP 38 := ⟨rfl, Or.inr ma_0, fun h => absurd h (by decide), fun h => absurd h (by decide), fun _ => ⟨mb_0, rfl⟩, me_0⟩
theorem mt_39 : MtP 39 := ⟨rfl, Or.inr ma_0, fun h => absurd h (by decide), fun h => absurd h (by decide), fun _ => ⟨mb_0, rfl⟩, me_0⟩
theorem mt_40 : MtP 40 := ⟨rfl, Or.inr ma_0, fun h => absurd h (by decide), fun h => absurd h (by decide), fun _ => ⟨mb_0, rfl⟩, me_0⟩
theorem mt_41 : MtP 41 := ⟨rfl, Or.inr ma_0, fun h => absurd h (by decide), fun h => absurd h (by decide), fun _ => ⟨mb_0, rfl⟩, me_0⟩
theorem mt_42 : MtP 42 := ⟨rfl, Or.inr ma_0, fun h => absurd h (by decide), fun h => absurd h (by decide), fun _ => ⟨mb_0, rfl⟩, me_0⟩
theorem mt_43 : MtP 43 := ⟨rfl, Or.inr ma_0, fun h => absurd h (by decide), fun h => absurd h (by decide), fun _ => ⟨mb_0, rfl⟩, me_0⟩
set_option maxRecDepth 1000000 in
theorem ma_44 : cwM 44 ∈ lw_tbl := kcD_0_in _ (List.mem_of_getElem? (i := 0) rfl)
set_option maxRecDepth 1000000 in
theorem mb_44 : Cond.instanceMethod (yM 44) ∈ lw_tbl := kiN_0_in _ (List.mem_of_getElem? (i := 0) rfl)
set_option maxRecDepth 1000000 in
theorem me_44 : (parseMethodDescriptor (yM 44).desc).map (fun d => d.parameters.length) = some (npM 44) := pd_0
theorem mt_44 : MtP 44 := ⟨rfl, Or.inr ma_44, fun h => absurd h (by decide), fun h => absurd h (by decide), fun _ => ⟨mb_44, rfl⟩, me_44⟩
set_option maxRecDepth 1000000 in
theorem ma_45 : cwM 45 ∈ lw_tbl := kcD_60_in _ (List.mem_of_getElem? (i := 33) rfl)
set_option maxRecDepth 1000000 in
theorem mb_45 : Cond.instanceMethod (yM 45) ∈ lw_tbl := kiN_60_in _ (List.mem_of_getElem? (i := 10) rfl)
set_option maxRecDepth 1000000 in
theorem md_45 : Cond.selects (owM 45) (yM 45) (yM 45) ∈ lw_tbl := kxL_60_in _ (List.mem_of_getElem? (i := 14) rfl)
set_option maxRecDepth 1000000 in
theorem me_45 : (parseMethodDescriptor (yM 45).desc).map (fun d => d.parameters.length) = some (npM 45) := pd_16
theorem mt_45 : MtP 45 := ⟨rfl, Or.inr ma_45, fun h => absurd h (by decide), fun _ => ⟨mb_45, md_45⟩, fun h => absurd h (by decide), me_45⟩
set_option maxRecDepth 1000000 in
theorem ma_46 : cwM 46 ∈ lw_tbl := kcD_60_in _ (List.mem_of_getElem? (i := 46) rfl)
set_option maxRecDepth 1000000 in
theorem mb_46 : Cond.instanceMethod (yM 46) ∈ lw_tbl := kiN_60_in _ (List.mem_of_getElem? (i := 23) rfl)
set_option maxRecDepth 1000000 in
theorem md_46 : Cond.selects (owM 46) (yM 46) (yM 46) ∈ lw_tbl := kxL_60_in _ (List.mem_of_getElem? (i := 17) rfl)
set_option maxRecDepth 1000000 in
theorem me_46 : (parseMethodDescriptor (yM 46).desc).map (fun d => d.parameters.length) = some (npM 46) := pd_13
theorem mt_46 : MtP 46 := ⟨rfl, Or.inr ma_46, fun h => absurd h (by decide), fun _ => ⟨mb_46, md_46⟩, fun h => absurd h (by decide), me_46⟩
set_option maxRecDepth 1000000 in
theorem ma_47 : cwM 47 ∈ lw_tbl := kcD_60_in _ (List.mem_of_getElem? (i := 40) rfl)
set_option maxRecDepth 1000000 in
theorem mb_47 : Cond.instanceMethod (yM 47) ∈ lw_tbl := kiN_60_in _ (List.mem_of_getElem? (i := 17) rfl)
set_option maxRecDepth 1000000 in
theorem md_47 : Cond.selects (owM 47) (yM 47) (yM 47) ∈ lw_tbl := kxL_60_in _ (List.mem_of_getElem? (i := 15) rfl)
set_option maxRecDepth 1000000 in
theorem me_47 : (parseMethodDescriptor (yM 47).desc).map (fun d => d.parameters.length) = some (npM 47) := pd_3
theorem mt_47 : MtP 47 := ⟨rfl, Or.inr ma_47, fun h => absurd h (by decide), fun _ => ⟨mb_47, md_47⟩, fun h => absurd h (by decide), me_47⟩
set_option maxRecDepth 1000000 in
theorem ma_48 : cwM 48 ∈ lw_tbl := kcD_60_in _ (List.mem_of_getElem? (i := 44) rfl)
set_option maxRecDepth 1000000 in
theorem mb_48 : Cond.instanceMethod (yM 48) ∈ lw_tbl := kiN_60_in _ (List.mem_of_getElem? (i := 21) rfl)
set_option maxRecDepth 1000000 in
theorem md_48 : Cond.selects (owM 48) (yM 48) (yM 48) ∈ lw_tbl := kxL_60_in _ (List.mem_of_getElem? (i := 16) rfl)
set_option maxRecDepth 1000000 in
theorem me_48 : (parseMethodDescriptor (yM 48).desc).map (fun d => d.parameters.length) = some (npM 48) := pd_12
theorem mt_48 : MtP 48 := ⟨rfl, Or.inr ma_48, fun h => absurd h (by decide), fun _ => ⟨mb_48, md_48⟩, fun h => absurd h (by decide), me_48⟩
set_option maxRecDepth 1000000 in
theorem ma_49 : cwM 49 ∈ lw_tbl := kcD_60_in _ (List.mem_of_getElem? (i := 2) rfl)
set_option maxRecDepth 1000000 in
theorem mb_49 : Cond.instanceMethod (yM 49) ∈ lw_tbl := kiN_0_in _ (List.mem_of_getElem? (i := 50) rfl)
set_option maxRecDepth 1000000 in
theorem md_49 : Cond.selects (owM 49) (yM 49) (yM 49) ∈ lw_tbl := kxL_60_in _ (List.mem_of_getElem? (i := 4) rfl)
set_option maxRecDepth 1000000 in
theorem me_49 : (parseMethodDescriptor (yM 49).desc).map (fun d => d.parameters.length) = some (npM 49) := pd_12
theorem mt_49 : MtP 49 := ⟨rfl, Or.inr ma_49, fun h => absurd h (by decide), fun _ => ⟨mb_49, md_49⟩, fun h => absurd h (by decide), me_49⟩
set_option maxRecDepth 1000000 in
theorem ma_50 : cwM 50 ∈ lw_tbl := kcD_0_in _ (List.mem_of_getElem? (i := 49) rfl)
set_option maxRecDepth 1000000 in
theorem mb_50 : Cond.instanceMethod (yM 50) ∈ lw_tbl := kiN_0_in _ (List.mem_of_getElem? (i := 37) rfl)
set_option maxRecDepth 1000000 in
theorem md_50 : Cond.selects (owM 50) (yM 50) (yM 50) ∈ lw_tbl := kxL_0_in _ (List.mem_of_getElem? (i := 59) rfl)
set_option maxRecDepth 1000000 in
theorem me_50 : (parseMethodDescriptor (yM 50).desc).map (fun d => d.parameters.length) = some (npM 50) := pd_3
theorem mt_50 : MtP 50 := ⟨rfl, Or.inr ma_50, fun h => absurd h (by decide), fun _ => ⟨mb_50, md_50⟩, fun h => absurd h (by decide), me_50⟩
set_option maxRecDepth 1000000 in
theorem ma_51 : cwM 51 ∈ lw_tbl := kcD_60_in _ (List.mem_of_getElem? (i := 0) rfl)
set_option maxRecDepth 1000000 in
theorem mb_51 : Cond.instanceMethod (yM 51) ∈ lw_tbl := kiN_0_in _ (List.mem_of_getElem? (i := 48) rfl)
set_option maxRecDepth 1000000 in
theorem md_51 : Cond.selects (owM 51) (yM 51) (yM 51) ∈ lw_tbl := kxL_60_in _ (List.mem_of_getElem? (i := 2) rfl)
set_option maxRecDepth 1000000 in
theorem me_51 : (parseMethodDescriptor (yM 51).desc).map (fun d => d.parameters.length) = some (npM 51) := pd_3
theorem mt_51 : MtP 51 := ⟨rfl, Or.inr ma_51, fun h => absurd h (by decide), fun _ => ⟨mb_51, md_51⟩, fun h => absurd h (by decide), me_51⟩
set_option maxRecDepth 1000000 in
theorem ma_52 : cwM 52 ∈ lw_tbl := kcD_0_in _ (List.mem_of_getElem? (i := 51) rfl)
set_option maxRecDepth 1000000 in
theorem mb_52 : Cond.instanceMethod (yM 52) ∈ lw_tbl := kiN_0_in _ (List.mem_of_getElem? (i := 39) rfl)
set_option maxRecDepth 1000000 in
theorem md_52 : Cond.selects (owM 52) (yM 52) (yM 52) ∈ lw_tbl := kxL_60_in _ (List.mem_of_getElem? (i := 0) rfl)
set_option maxRecDepth 1000000 in
theorem me_52 : (parseMethodDescriptor (yM 52).desc).map (fun d => d.parameters.length) = some (npM 52) := pd_17
theorem mt_52 : MtP 52 := ⟨rfl, Or.inr ma_52, fun h => absurd h (by decide), fun _ => ⟨mb_52, md_52⟩, fun h => absurd h (by decide), me_52⟩
set_option maxRecDepth 1000000 in
theorem ma_53 : cwM 53 ∈ lw_tbl := kcD_0_in _ (List.mem_of_getElem? (i := 53) rfl)
set_option maxRecDepth 1000000 in
theorem mb_53 : Cond.instanceMethod (yM 53) ∈ lw_tbl := kiN_0_in _ (List.mem_of_getElem? (i := 41) rfl)
set_option maxRecDepth 1000000 in
theorem md_53 : Cond.selects (owM 53) (yM 53) (yM 53) ∈ lw_tbl := kxL_60_in _ (List.mem_of_getElem? (i := 1) rfl)
set_option maxRecDepth 1000000 in
theorem me_53 : (parseMethodDescriptor (yM 53).desc).map (fun d => d.parameters.length) = some (npM 53) := pd_5
theorem mt_53 : MtP 53 := ⟨rfl, Or.inr ma_53, fun h => absurd h (by decide), fun _ => ⟨mb_53, md_53⟩, fun h => absurd h (by decide), me_53⟩
theorem mt_54 : MtP 54 := ⟨rfl, Or.inr ma_0, fun h => absurd h (by decide), fun h => absurd h (by decide), fun _ => ⟨mb_0, rfl⟩, me_0⟩
theorem mt_55 : MtP 55 := ⟨rfl, Or.inr ma_0, fun h => absurd h (by decide), fun h => absurd h (by decide), fun _ => ⟨mb_0, rfl⟩, me_0⟩
theorem mt_56 : MtP 56 := ⟨rfl, Or.inr ma_0, fun h => absurd h (by decide), fun h => absurd h (by decide), fun _ => ⟨mb_0, rfl⟩, me_0⟩
theorem mt_57 : MtP 57 := ⟨rfl, Or.inr ma_0, fun h => absurd h (by decide), fun h => absurd h (by decide), fun _ => ⟨mb_0, rfl⟩, me_0⟩
set_option maxRecDepth 1000000 in
theorem ma_58 : cwM 58 ∈ lw_tbl := kcD_0_in _ (List.mem_of_getElem? (i := 6) rfl)
set_option maxRecDepth 1000000 in
theorem mb_58 : Cond.instanceMethod (yM 58) ∈ lw_tbl := kiN_0_in _ (List.mem_of_getElem? (i := 6) rfl)
set_option maxRecDepth 1000000 in
theorem md_58 : Cond.selects (owM 58) (yM 58) (yM 58) ∈ lw_tbl := kxL_0_in _ (List.mem_of_getElem? (i := 36) rfl)
set_option maxRecDepth 1000000 in
theorem me_58 : (parseMethodDescriptor (yM 58).desc).map (fun d => d.parameters.length) = some (npM 58) := pd_15
theorem mt_58 : MtP 58 := ⟨rfl, Or.inr ma_58, fun h => absurd h (by decide), fun _ => ⟨mb_58, md_58⟩, fun h => absurd h (by decide), me_58⟩
set_option maxRecDepth 1000000 in
theorem ma_59 : cwM 59 ∈ lw_tbl := kcD_0_in _ (List.mem_of_getElem? (i := 15) rfl)
set_option maxRecDepth 1000000 in
theorem mb_59 : Cond.instanceMethod (yM 59) ∈ lw_tbl := kiN_0_in _ (List.mem_of_getElem? (i := 17) rfl)
set_option maxRecDepth 1000000 in
theorem md_59 : Cond.selects (owM 59) (yM 59) (yM 59) ∈ lw_tbl := kxL_0_in _ (List.mem_of_getElem? (i := 41) rfl)
set_option maxRecDepth 1000000 in
theorem me_59 : (parseMethodDescriptor (yM 59).desc).map (fun d => d.parameters.length) = some (npM 59) := pd_5
theorem mt_59 : MtP 59 := ⟨rfl, Or.inr ma_59, fun h => absurd h (by decide), fun _ => ⟨mb_59, md_59⟩, fun h => absurd h (by decide), me_59⟩
set_option maxRecDepth 1000000 in
theorem ma_60 : cwM 60 ∈ lw_tbl := kcD_60_in _ (List.mem_of_getElem? (i := 1) rfl)
set_option maxRecDepth 1000000 in
theorem mb_60 : Cond.instanceMethod (yM 60) ∈ lw_tbl := kiN_0_in _ (List.mem_of_getElem? (i := 49) rfl)
set_option maxRecDepth 1000000 in
theorem md_60 : Cond.selects (owM 60) (yM 60) (yM 60) ∈ lw_tbl := kxL_60_in _ (List.mem_of_getElem? (i := 3) rfl)
set_option maxRecDepth 1000000 in
theorem me_60 : (parseMethodDescriptor (yM 60).desc).map (fun d => d.parameters.length) = some (npM 60) := pd_5
theorem mt_60 : MtP 60 := ⟨rfl, Or.inr ma_60, fun h => absurd h (by decide), fun _ => ⟨mb_60, md_60⟩, fun h => absurd h (by decide), me_60⟩
set_option maxRecDepth 1000000 in
theorem ma_61 : cwM 61 ∈ lw_tbl := kcD_0_in _ (List.mem_of_getElem? (i := 23) rfl)
set_option maxRecDepth 1000000 in
theorem mb_61 : Cond.instanceMethod (yM 61) ∈ lw_tbl := kiN_0_in _ (List.mem_of_getElem? (i := 21) rfl)
set_option maxRecDepth 1000000 in
theorem md_61 : Cond.selects (owM 61) (yM 61) (yM 61) ∈ lw_tbl := kxL_0_in _ (List.mem_of_getElem? (i := 45) rfl)
set_option maxRecDepth 1000000 in
theorem me_61 : (parseMethodDescriptor (yM 61).desc).map (fun d => d.parameters.length) = some (npM 61) := pd_3
theorem mt_61 : MtP 61 := ⟨rfl, Or.inr ma_61, fun h => absurd h (by decide), fun _ => ⟨mb_61, md_61⟩, fun h => absurd h (by decide), me_61⟩
set_option maxRecDepth 1000000 in
theorem ma_62 : cwM 62 ∈ lw_tbl := kcD_60_in _ (List.mem_of_getElem? (i := 8) rfl)
set_option maxRecDepth 1000000 in
theorem mb_62 : Cond.instanceMethod (yM 62) ∈ lw_tbl := kiN_0_in _ (List.mem_of_getElem? (i := 53) rfl)
set_option maxRecDepth 1000000 in
theorem md_62 : Cond.selects (owM 62) (yM 62) (yM 62) ∈ lw_tbl := kxL_60_in _ (List.mem_of_getElem? (i := 6) rfl)
set_option maxRecDepth 1000000 in
theorem me_62 : (parseMethodDescriptor (yM 62).desc).map (fun d => d.parameters.length) = some (npM 62) := pd_3
theorem mt_62 : MtP 62 := ⟨rfl, Or.inr ma_62, fun h => absurd h (by decide), fun _ => ⟨mb_62, md_62⟩, fun h => absurd h (by decide), me_62⟩
set_option maxRecDepth 1000000 in
theorem ma_63 : cwM 63 ∈ lw_tbl := kcD_0_in _ (List.mem_of_getElem? (i := 29) rfl)
set_option maxRecDepth 1000000 in
theorem mb_63 : Cond.instanceMethod (yM 63) ∈ lw_tbl := kiN_0_in _ (List.mem_of_getElem? (i := 23) rfl)
set_option maxRecDepth 1000000 in
theorem md_63 : Cond.selects (owM 63) (yM 63) (yM 63) ∈ lw_tbl := kxL_0_in _ (List.mem_of_getElem? (i := 47) rfl)
set_option maxRecDepth 1000000 in
theorem me_63 : (parseMethodDescriptor (yM 63).desc).map (fun d => d.parameters.length) = some (npM 63) := pd_3
theorem mt_63 : MtP 63 := ⟨rfl, Or.inr ma_63, fun h => absurd h (by decide), fun _ => ⟨mb_63, md_63⟩, fun h => absurd h (by decide), me_63⟩
set_option maxRecDepth 1000000 in
theorem ma_64 : cwM 64 ∈ lw_tbl := kcD_0_in _ (List.mem_of_getElem? (i := 30) rfl)
set_option maxRecDepth 1000000 in
theorem mb_64 : Cond.instanceMethod (yM 64) ∈ lw_tbl := kiN_0_in _ (List.mem_of_getElem? (i := 24) rfl)
set_option maxRecDepth 1000000 in
theorem md_64 : Cond.selects (owM 64) (yM 64) (yM 64) ∈ lw_tbl := kxL_0_in _ (List.mem_of_getElem? (i := 48) rfl)
set_option maxRecDepth 1000000 in
theorem me_64 : (parseMethodDescriptor (yM 64).desc).map (fun d => d.parameters.length) = some (npM 64) := pd_3
theorem mt_64 : MtP 64 := ⟨rfl, Or.inr ma_64, fun h => absurd h (by decide), fun _ => ⟨mb_64, md_64⟩, fun h => absurd h (by decide), me_64⟩
set_option maxRecDepth 1000000 in
theorem ma_65 : cwM 65 ∈ lw_tbl := kcD_0_in _ (List.mem_of_getElem? (i := 28) rfl)
set_option maxRecDepth 1000000 in
theorem mb_65 : Cond.instanceMethod (yM 65) ∈ lw_tbl := kiN_0_in _ (List.mem_of_getElem? (i := 22) rfl)
set_option maxRecDepth 1000000 in
theorem md_65 : Cond.selects (owM 65) (yM 65) (yM 65) ∈ lw_tbl := kxL_0_in _ (List.mem_of_getElem? (i := 46) rfl)
set_option maxRecDepth 1000000 in
theorem me_65 : (parseMethodDescriptor (yM 65).desc).map (fun d => d.parameters.length) = some (npM 65) := pd_3
theorem mt_65 : MtP 65 := ⟨rfl, Or.inr ma_65, fun h => absurd h (by decide), fun _ => ⟨mb_65, md_65⟩, fun h => absurd h (by decide), me_65⟩
set_option maxRecDepth 1000000 in
theorem ma_66 : cwM 66 ∈ lw_tbl := kcD_60_in _ (List.mem_of_getElem? (i := 6) rfl)
set_option maxRecDepth 1000000 in
theorem mb_66 : Cond.instanceMethod (yM 66) ∈ lw_tbl := kiN_0_in _ (List.mem_of_getElem? (i := 52) rfl)
set_option maxRecDepth 1000000 in
theorem md_66 : Cond.selects (owM 66) (yM 66) (yM 66) ∈ lw_tbl := kxL_60_in _ (List.mem_of_getElem? (i := 5) rfl)
set_option maxRecDepth 1000000 in
theorem me_66 : (parseMethodDescriptor (yM 66).desc).map (fun d => d.parameters.length) = some (npM 66) := pd_3
theorem mt_66 : MtP 66 := ⟨rfl, Or.inr ma_66, fun h => absurd h (by decide), fun _ => ⟨mb_66, md_66⟩, fun h => absurd h (by decide), me_66⟩
set_option maxRecDepth 1000000 in
theorem ma_67 : cwM 67 ∈ lw_tbl := kcD_60_in _ (List.mem_of_getElem? (i := 12) rfl)
set_option maxRecDepth 1000000 in
theorem mb_67 : Cond.instanceMethod (yM 67) ∈ lw_tbl := kiN_0_in _ (List.mem_of_getElem? (i := 56) rfl)
set_option maxRecDepth 1000000 in
theorem md_67 : Cond.selects (owM 67) (yM 67) (yM 67) ∈ lw_tbl := kxL_60_in _ (List.mem_of_getElem? (i := 7) rfl)
set_option maxRecDepth 1000000 in
theorem me_67 : (parseMethodDescriptor (yM 67).desc).map (fun d => d.parameters.length) = some (npM 67) := pd_3
theorem mt_67 : MtP 67 := ⟨rfl, Or.inr ma_67, fun h => absurd h (by decide), fun _ => ⟨mb_67, md_67⟩, fun h => absurd h (by decide), me_67⟩
set_option maxRecDepth 1000000 in
theorem ma_68 : cwM 68 ∈ lw_tbl := kcD_0_in _ (List.mem_of_getElem? (i := 46) rfl)
set_option maxRecDepth 1000000 in
theorem mb_68 : Cond.instanceMethod (yM 68) ∈ lw_tbl := kiN_0_in _ (List.mem_of_getElem? (i := 36) rfl)
set_option maxRecDepth 1000000 in
theorem md_68 : Cond.selects (owM 68) (yM 68) (yM 68) ∈ lw_tbl := kxL_0_in _ (List.mem_of_getElem? (i := 58) rfl)
set_option maxRecDepth 1000000 in
theorem me_68 : (parseMethodDescriptor (yM 68).desc).map (fun d => d.parameters.length) = some (npM 68) := pd_5
theorem mt_68 : MtP 68 := ⟨rfl, Or.inr ma_68, fun h => absurd h (by decide), fun _ => ⟨mb_68, md_68⟩, fun h => absurd h (by decide), me_68⟩
set_option maxRecDepth 1000000 in
theorem ma_69 : cwM 69 ∈ lw_tbl := kcD_60_in _ (List.mem_of_getElem? (i := 16) rfl)
set_option maxRecDepth 1000000 in
theorem mb_69 : Cond.instanceMethod (yM 69) ∈ lw_tbl := kiN_0_in _ (List.mem_of_getElem? (i := 59) rfl)
set_option maxRecDepth 1000000 in
theorem md_69 : Cond.selects (owM 69) (yM 69) (yM 69) ∈ lw_tbl := kxL_60_in _ (List.mem_of_getElem? (i := 8) rfl)
set_option maxRecDepth 1000000 in
theorem me_69 : (parseMethodDescriptor (yM 69).desc).map (fun d => d.parameters.length) = some (npM 69) := pd_5
theorem mt_69 : MtP 69 := ⟨rfl, Or.inr ma_69, fun h => absurd h (by decide), fun _ => ⟨mb_69, md_69⟩, fun h => absurd h (by decide), me_69⟩
set_option maxRecDepth 1000000 in
theorem ma_70 : cwM 70 ∈ lw_tbl := kcD_0_in _ (List.mem_of_getElem? (i := 31) rfl)
set_option maxRecDepth 1000000 in
theorem mb_70 : Cond.instanceMethod (yM 70) ∈ lw_tbl := kiN_0_in _ (List.mem_of_getElem? (i := 25) rfl)
set_option maxRecDepth 1000000 in
theorem md_70 : Cond.selects (owM 70) (yM 70) (yM 70) ∈ lw_tbl := kxL_0_in _ (List.mem_of_getElem? (i := 49) rfl)
set_option maxRecDepth 1000000 in
theorem me_70 : (parseMethodDescriptor (yM 70).desc).map (fun d => d.parameters.length) = some (npM 70) := pd_3
theorem mt_70 : MtP 70 := ⟨rfl, Or.inr ma_70, fun h => absurd h (by decide), fun _ => ⟨mb_70, md_70⟩, fun h => absurd h (by decide), me_70⟩
set_option maxRecDepth 1000000 in
theorem ma_71 : cwM 71 ∈ lw_tbl := kcD_0_in _ (List.mem_of_getElem? (i := 36) rfl)
set_option maxRecDepth 1000000 in
theorem mb_71 : Cond.instanceMethod (yM 71) ∈ lw_tbl := kiN_0_in _ (List.mem_of_getElem? (i := 27) rfl)
set_option maxRecDepth 1000000 in
theorem md_71 : Cond.selects (owM 71) (yM 71) (yM 71) ∈ lw_tbl := kxL_0_in _ (List.mem_of_getElem? (i := 50) rfl)
set_option maxRecDepth 1000000 in
theorem me_71 : (parseMethodDescriptor (yM 71).desc).map (fun d => d.parameters.length) = some (npM 71) := pd_3
theorem mt_71 : MtP 71 := ⟨rfl, Or.inr ma_71, fun h => absurd h (by decide), fun _ => ⟨mb_71, md_71⟩, fun h => absurd h (by decide), me_71⟩
set_option maxRecDepth 1000000 in
theorem ma_72 : cwM 72 ∈ lw_tbl := kcD_0_in _ (List.mem_of_getElem? (i := 37) rfl)
set_option maxRecDepth 1000000 in
theorem mb_72 : Cond.instanceMethod (yM 72) ∈ lw_tbl := kiN_0_in _ (List.mem_of_getElem? (i := 28) rfl)
set_option maxRecDepth 1000000 in
theorem md_72 : Cond.selects (owM 72) (yM 72) (yM 72) ∈ lw_tbl := kxL_0_in _ (List.mem_of_getElem? (i := 51) rfl)
set_option maxRecDepth 1000000 in
theorem me_72 : (parseMethodDescriptor (yM 72).desc).map (fun d => d.parameters.length) = some (npM 72) := pd_3
theorem mt_72 : MtP 72 := ⟨rfl, Or.inr ma_72, fun h => absurd h (by decide), fun _ => ⟨mb_72, md_72⟩, fun h => absurd h (by decide), me_72⟩
set_option maxRecDepth 1000000 in
theorem ma_73 : cwM 73 ∈ lw_tbl := kcD_0_in _ (List.mem_of_getElem? (i := 40) rfl)
set_option maxRecDepth 1000000 in
theorem mb_73 : Cond.instanceMethod (yM 73) ∈ lw_tbl := kiN_0_in _ (List.mem_of_getElem? (i := 30) rfl)
set_option maxRecDepth 1000000 in
theorem md_73 : Cond.selects (owM 73) (yM 73) (yM 73) ∈ lw_tbl := kxL_0_in _ (List.mem_of_getElem? (i := 53) rfl)
set_option maxRecDepth 1000000 in
theorem me_73 : (parseMethodDescriptor (yM 73).desc).map (fun d => d.parameters.length) = some (npM 73) := pd_15
theorem mt_73 : MtP 73 := ⟨rfl, Or.inr ma_73, fun h => absurd h (by decide), fun _ => ⟨mb_73, md_73⟩, fun h => absurd h (by decide), me_73⟩
set_option maxRecDepth 1000000 in
theorem ma_74 : cwM 74 ∈ lw_tbl := kcD_60_in _ (List.mem_of_getElem? (i := 21) rfl)
set_option maxRecDepth 1000000 in
theorem mb_74 : Cond.instanceMethod (yM 74) ∈ lw_tbl := kiN_60_in _ (List.mem_of_getElem? (i := 3) rfl)
set_option maxRecDepth 1000000 in
theorem md_74 : Cond.selects (owM 74) (yM 74) (yM 74) ∈ lw_tbl := kxL_60_in _ (List.mem_of_getElem? (i := 10) rfl)
set_option maxRecDepth 1000000 in
theorem me_74 : (parseMethodDescriptor (yM 74).desc).map (fun d => d.parameters.length) = some (npM 74) := pd_5
theorem mt_74 : MtP 74 := ⟨rfl, Or.inr ma_74, fun h => absurd h (by decide), fun _ => ⟨mb_74, md_74⟩, fun h => absurd h (by decide), me_74⟩
set_option maxRecDepth 1000000 in
theorem ma_75 : cwM 75 ∈ lw_tbl := kcD_60_in _ (List.mem_of_getElem? (i := 19) rfl)
set_option maxRecDepth 1000000 in
theorem mb_75 : Cond.instanceMethod (yM 75) ∈ lw_tbl := kiN_60_in _ (List.mem_of_getElem? (i := 1) rfl)
set_option maxRecDepth 1000000 in
theorem md_75 : Cond.selects (owM 75) (yM 75) (yM 75) ∈ lw_tbl := kxL_60_in _ (List.mem_of_getElem? (i := 9) rfl)
set_option maxRecDepth 1000000 in
theorem me_75 : (parseMethodDescriptor (yM 75).desc).map (fun d => d.parameters.length) = some (npM 75) := pd_5
theorem mt_75 : MtP 75 := ⟨rfl, Or.inr ma_75, fun h => absurd h (by decide), fun _ => ⟨mb_75, md_75⟩, fun h => absurd h (by decide), me_75⟩
set_option maxRecDepth 1000000 in
theorem ma_76 : cwM 76 ∈ lw_tbl := kcD_60_in _ (List.mem_of_getElem? (i := 26) rfl)
set_option maxRecDepth 1000000 in
theorem mb_76 : Cond.instanceMethod (yM 76) ∈ lw_tbl := kiN_60_in _ (List.mem_of_getElem? (i := 7) rfl)
set_option maxRecDepth 1000000 in
theorem md_76 : Cond.selects (owM 76) (yM 76) (yM 76) ∈ lw_tbl := kxL_60_in _ (List.mem_of_getElem? (i := 13) rfl)
set_option maxRecDepth 1000000 in
theorem me_76 : (parseMethodDescriptor (yM 76).desc).map (fun d => d.parameters.length) = some (npM 76) := pd_13
theorem mt_76 : MtP 76 := ⟨rfl, Or.inr ma_76, fun h => absurd h (by decide), fun _ => ⟨mb_76, md_76⟩, fun h => absurd h (by decide), me_76⟩
theorem mt_77 : MtP 77 := ⟨rfl, Or.inr ma_0, fun h => absurd h (by decide), fun h => absurd h (by decide), fun _ => ⟨mb_0, rfl⟩, me_0⟩
set_option maxRecDepth 1000000 in
theorem ma_78 : cwM 78 ∈ lw_tbl := kcD_0_in _ (List.mem_of_getElem? (i := 18) rfl)
set_option maxRecDepth 1000000 in
theorem mb_78 : Cond.instanceMethod (yM 78) ∈ lw_tbl := kiN_0_in _ (List.mem_of_getElem? (i := 19) rfl)
set_option maxRecDepth 1000000 in
theorem md_78 : Cond.selects (owM 78) (yM 78) (yM 78) ∈ lw_tbl := kxL_0_in _ (List.mem_of_getElem? (i := 43) rfl)
set_option maxRecDepth 1000000 in
theorem me_78 : (parseMethodDescriptor (yM 78).desc).map (fun d => d.parameters.length) = some (npM 78) := pd_15
theorem mt_78 : MtP 78 := ⟨rfl, Or.inr ma_78, fun h => absurd h (by decide), fun _ => ⟨mb_78, md_78⟩, fun h => absurd h (by decide), me_78⟩
set_option maxRecDepth 1000000 in
theorem ma_79 : cwM 79 ∈ lw_tbl := kcD_0_in _ (List.mem_of_getElem? (i := 41) rfl)
set_option maxRecDepth 1000000 in
theorem mb_79 : Cond.instanceMethod (yM 79) ∈ lw_tbl := kiN_0_in _ (List.mem_of_getElem? (i := 31) rfl)
set_option maxRecDepth 1000000 in
theorem md_79 : Cond.selects (owM 79) (yM 79) (yM 79) ∈ lw_tbl := kxL_0_in _ (List.mem_of_getElem? (i := 54) rfl)
set_option maxRecDepth 1000000 in
theorem me_79 : (parseMethodDescriptor (yM 79).desc).map (fun d => d.parameters.length) = some (npM 79) := pd_5
theorem mt_79 : MtP 79 := ⟨rfl, Or.inr ma_79, fun h => absurd h (by decide), fun _ => ⟨mb_79, md_79⟩, fun h => absurd h (by decide), me_79⟩
set_option maxRecDepth 1000000 in
theorem ma_80 : cwM 80 ∈ lw_tbl := kcD_0_in _ (List.mem_of_getElem? (i := 38) rfl)
set_option maxRecDepth 1000000 in
theorem mb_80 : Cond.instanceMethod (yM 80) ∈ lw_tbl := kiN_0_in _ (List.mem_of_getElem? (i := 29) rfl)
set_option maxRecDepth 1000000 in
theorem md_80 : Cond.selects (owM 80) (yM 80) (yM 80) ∈ lw_tbl := kxL_0_in _ (List.mem_of_getElem? (i := 52) rfl)
set_option maxRecDepth 1000000 in
theorem me_80 : (parseMethodDescriptor (yM 80).desc).map (fun d => d.parameters.length) = some (npM 80) := pd_11
theorem mt_80 : MtP 80 := ⟨rfl, Or.inr ma_80, fun h => absurd h (by decide), fun _ => ⟨mb_80, md_80⟩, fun h => absurd h (by decide), me_80⟩
set_option maxRecDepth 1000000 in
theorem ma_81 : cwM 81 ∈ lw_tbl := kcD_60_in _ (List.mem_of_getElem? (i := 23) rfl)
set_option maxRecDepth 1000000 in
theorem mb_81 : Cond.instanceMethod (yM 81) ∈ lw_tbl := kiN_60_in _ (List.mem_of_getElem? (i := 5) rfl)
set_option maxRecDepth 1000000 in
theorem md_81 : Cond.selects (owM 81) (yM 81) (yM 81) ∈ lw_tbl := kxL_60_in _ (List.mem_of_getElem? (i := 11) rfl)
set_option maxRecDepth 1000000 in
theorem me_81 : (parseMethodDescriptor (yM 81).desc).map (fun d => d.parameters.length) = some (npM 81) := pd_15
theorem mt_81 : MtP 81 := ⟨rfl, Or.inr ma_81, fun h => absurd h (by decide), fun _ => ⟨mb_81, md_81⟩, fun h => absurd h (by decide), me_81⟩
set_option maxRecDepth 1000000 in
theorem ma_82 : cwM 82 ∈ lw_tbl := kcD_60_in _ (List.mem_of_getElem? (i := 24) rfl)
set_option maxRecDepth 1000000 in
theorem mb_82 : Cond.instanceMethod (yM 82) ∈ lw_tbl := kiN_60_in _ (List.mem_of_getElem? (i := 6) rfl)
set_option maxRecDepth 1000000 in
theorem md_82 : Cond.selects (owM 82) (yM 82) (yM 82) ∈ lw_tbl := kxL_60_in _ (List.mem_of_getElem? (i := 12) rfl)
set_option maxRecDepth 1000000 in
theorem me_82 : (parseMethodDescriptor (yM 82).desc).map (fun d => d.parameters.length) = some (npM 82) := pd_15
theorem mt_82 : MtP 82 := ⟨rfl, Or.inr ma_82, fun h => absurd h (by decide), fun _ => ⟨mb_82, md_82⟩, fun h => absurd h (by decide), me_82⟩
set_option maxRecDepth 1000000 in
theorem ma_83 : cwM 83 ∈ lw_tbl := kcD_0_in _ (List.mem_of_getElem? (i := 43) rfl)
set_option maxRecDepth 1000000 in
theorem mb_83 : Cond.instanceMethod (yM 83) ∈ lw_tbl := kiN_0_in _ (List.mem_of_getElem? (i := 33) rfl)
set_option maxRecDepth 1000000 in
theorem md_83 : Cond.selects (owM 83) (yM 83) (yM 83) ∈ lw_tbl := kxL_0_in _ (List.mem_of_getElem? (i := 56) rfl)
set_option maxRecDepth 1000000 in
theorem me_83 : (parseMethodDescriptor (yM 83).desc).map (fun d => d.parameters.length) = some (npM 83) := pd_3
theorem mt_83 : MtP 83 := ⟨rfl, Or.inr ma_83, fun h => absurd h (by decide), fun _ => ⟨mb_83, md_83⟩, fun h => absurd h (by decide), me_83⟩
set_option maxRecDepth 1000000 in
theorem ma_84 : cwM 84 ∈ lw_tbl := kcD_0_in _ (List.mem_of_getElem? (i := 42) rfl)
set_option maxRecDepth 1000000 in
theorem mb_84 : Cond.instanceMethod (yM 84) ∈ lw_tbl := kiN_0_in _ (List.mem_of_getElem? (i := 32) rfl)
set_option maxRecDepth 1000000 in
theorem md_84 : Cond.selects (owM 84) (yM 84) (yM 84) ∈ lw_tbl := kxL_0_in _ (List.mem_of_getElem? (i := 55) rfl)
set_option maxRecDepth 1000000 in
theorem me_84 : (parseMethodDescriptor (yM 84).desc).map (fun d => d.parameters.length) = some (npM 84) := pd_15
theorem mt_84 : MtP 84 := ⟨rfl, Or.inr ma_84, fun h => absurd h (by decide), fun _ => ⟨mb_84, md_84⟩, fun h => absurd h (by decide), me_84⟩
set_option maxRecDepth 1000000 in
theorem ma_85 : cwM 85 ∈ lw_tbl := kcD_0_in _ (List.mem_of_getElem? (i := 19) rfl)
set_option maxRecDepth 1000000 in
theorem mb_85 : Cond.instanceMethod (yM 85) ∈ lw_tbl := kiN_0_in _ (List.mem_of_getElem? (i := 20) rfl)
set_option maxRecDepth 1000000 in
theorem md_85 : Cond.selects (owM 85) (yM 85) (yM 85) ∈ lw_tbl := kxL_0_in _ (List.mem_of_getElem? (i := 44) rfl)
set_option maxRecDepth 1000000 in
theorem me_85 : (parseMethodDescriptor (yM 85).desc).map (fun d => d.parameters.length) = some (npM 85) := pd_15
theorem mt_85 : MtP 85 := ⟨rfl, Or.inr ma_85, fun h => absurd h (by decide), fun _ => ⟨mb_85, md_85⟩, fun h => absurd h (by decide), me_85⟩
theorem mt_86 : MtP 86 := ⟨rfl, Or.inr ma_0, fun h => absurd h (by decide), fun h => absurd h (by decide), fun _ => ⟨mb_0, rfl⟩, me_0⟩
set_option maxRecDepth 1000000 in
theorem ma_87 : cwM 87 ∈ lw_tbl := kcD_0_in _ (List.mem_of_getElem? (i := 39) rfl)
set_option maxRecDepth 1000000 in
theorem mb_87 : Cond.static (yM 87) ∈ lw_tbl := ksT_0_in _ (List.mem_of_getElem? (i := 12) rfl)
set_option maxRecDepth 1000000 in
theorem me_87 : (parseMethodDescriptor (yM 87).desc).map (fun d => d.parameters.length) = some (npM 87) := pd_7
theorem mt_87 : MtP 87 := ⟨rfl, Or.inr ma_87, fun _ => Or.inr mb_87, fun h => absurd h (by decide), fun h => absurd h (by decide), me_87⟩
set_option maxRecDepth 1000000 in
theorem ma_88 : cwM 88 ∈ lw_tbl := kcD_60_in _ (List.mem_of_getElem? (i := 27) rfl)
set_option maxRecDepth 1000000 in
theorem mb_88 : Cond.static (yM 88) ∈ lw_tbl := ksT_0_in _ (List.mem_of_getElem? (i := 22) rfl)
set_option maxRecDepth 1000000 in
theorem me_88 : (parseMethodDescriptor (yM 88).desc).map (fun d => d.parameters.length) = some (npM 88) := pd_7
theorem mt_88 : MtP 88 := ⟨rfl, Or.inr ma_88, fun _ => Or.inr mb_88, fun h => absurd h (by decide), fun h => absurd h (by decide), me_88⟩
set_option maxRecDepth 1000000 in
theorem ma_89 : cwM 89 ∈ lw_tbl := kcD_0_in _ (List.mem_of_getElem? (i := 25) rfl)
set_option maxRecDepth 1000000 in
theorem mb_89 : Cond.static (yM 89) ∈ lw_tbl := ksT_0_in _ (List.mem_of_getElem? (i := 6) rfl)
set_option maxRecDepth 1000000 in
theorem me_89 : (parseMethodDescriptor (yM 89).desc).map (fun d => d.parameters.length) = some (npM 89) := pd_7
theorem mt_89 : MtP 89 := ⟨rfl, Or.inr ma_89, fun _ => Or.inr mb_89, fun h => absurd h (by decide), fun h => absurd h (by decide), me_89⟩
set_option maxRecDepth 1000000 in
theorem ma_90 : cwM 90 ∈ lw_tbl := kcD_0_in _ (List.mem_of_getElem? (i := 26) rfl)
set_option maxRecDepth 1000000 in
theorem mb_90 : Cond.static (yM 90) ∈ lw_tbl := ksT_0_in _ (List.mem_of_getElem? (i := 7) rfl)
set_option maxRecDepth 1000000 in
theorem me_90 : (parseMethodDescriptor (yM 90).desc).map (fun d => d.parameters.length) = some (npM 90) := pd_7
theorem mt_90 : MtP 90 := ⟨rfl, Or.inr ma_90, fun _ => Or.inr mb_90, fun h => absurd h (by decide), fun h => absurd h (by decide), me_90⟩
set_option maxRecDepth 1000000 in
theorem ma_91 : cwM 91 ∈ lw_tbl := kcD_0_in _ (List.mem_of_getElem? (i := 24) rfl)
set_option maxRecDepth 1000000 in
theorem mb_91 : Cond.static (yM 91) ∈ lw_tbl := ksT_0_in _ (List.mem_of_getElem? (i := 5) rfl)
set_option maxRecDepth 1000000 in
theorem me_91 : (parseMethodDescriptor (yM 91).desc).map (fun d => d.parameters.length) = some (npM 91) := pd_3
theorem mt_91 : MtP 91 := ⟨rfl, Or.inr ma_91, fun _ => Or.inr mb_91, fun h => absurd h (by decide), fun h => absurd h (by decide), me_91⟩
set_option maxRecDepth 1000000 in
theorem ma_92 : cwM 92 ∈ lw_tbl := kcD_0_in _ (List.mem_of_getElem? (i := 33) rfl)
set_option maxRecDepth 1000000 in
theorem mb_92 : Cond.static (yM 92) ∈ lw_tbl := ksT_0_in _ (List.mem_of_getElem? (i := 10) rfl)
set_option maxRecDepth 1000000 in
theorem me_92 : (parseMethodDescriptor (yM 92).desc).map (fun d => d.parameters.length) = some (npM 92) := pd_7
theorem mt_92 : MtP 92 := ⟨rfl, Or.inr ma_92, fun _ => Or.inr mb_92, fun h => absurd h (by decide), fun h => absurd h (by decide), me_92⟩
set_option maxRecDepth 1000000 in
theorem ma_93 : cwM 93 ∈ lw_tbl := kcD_0_in _ (List.mem_of_getElem? (i := 32) rfl)
set_option maxRecDepth 1000000 in
theorem mb_93 : Cond.static (yM 93) ∈ lw_tbl := ksT_0_in _ (List.mem_of_getElem? (i := 9) rfl)
set_option maxRecDepth 1000000 in
theorem me_93 : (parseMethodDescriptor (yM 93).desc).map (fun d => d.parameters.length) = some (npM 93) := pd_3
theorem mt_93 : MtP 93 := ⟨rfl, Or.inr ma_93, fun _ => Or.inr mb_93, fun h => absurd h (by decide), fun h => absurd h (by decide), me_93⟩
set_option maxRecDepth 1000000 in
theorem ma_94 : cwM 94 ∈ lw_tbl := kcD_60_in _ (List.mem_of_getElem? (i := 28) rfl)
set_option maxRecDepth 1000000 in
theorem mb_94 : Cond.static (yM 94) ∈ lw_tbl := ksT_0_in _ (List.mem_of_getElem? (i := 23) rfl)
set_option maxRecDepth 1000000 in
theorem me_94 : (parseMethodDescriptor (yM 94).desc).map (fun d => d.parameters.length) = some (npM 94) := pd_7
theorem mt_94 : MtP 94 := ⟨rfl, Or.inr ma_94, fun _ => Or.inr mb_94, fun h => absurd h (by decide), fun h => absurd h (by decide), me_94⟩
set_option maxRecDepth 1000000 in
theorem ma_95 : cwM 95 ∈ lw_tbl := kcD_60_in _ (List.mem_of_getElem? (i := 3) rfl)
set_option maxRecDepth 1000000 in
theorem mb_95 : Cond.static (yM 95) ∈ lw_tbl := ksT_0_in _ (List.mem_of_getElem? (i := 15) rfl)
set_option maxRecDepth 1000000 in
theorem me_95 : (parseMethodDescriptor (yM 95).desc).map (fun d => d.parameters.length) = some (npM 95) := pd_18
theorem mt_95 : MtP 95 := ⟨rfl, Or.inr ma_95, fun _ => Or.inr mb_95, fun h => absurd h (by decide), fun h => absurd h (by decide), me_95⟩
set_option maxRecDepth 1000000 in
theorem ma_96 : cwM 96 ∈ lw_tbl := kcD_0_in _ (List.mem_of_getElem? (i := 16) rfl)
set_option maxRecDepth 1000000 in
theorem mb_96 : Cond.static (yM 96) ∈ lw_tbl := ksT_0_in _ (List.mem_of_getElem? (i := 1) rfl)
set_option maxRecDepth 1000000 in
theorem me_96 : (parseMethodDescriptor (yM 96).desc).map (fun d => d.parameters.length) = some (npM 96) := pd_7
theorem mt_96 : MtP 96 := ⟨rfl, Or.inr ma_96, fun _ => Or.inr mb_96, fun h => absurd h (by decide), fun h => absurd h (by decide), me_96⟩
set_option maxRecDepth 1000000 in
theorem ma_97 : cwM 97 ∈ lw_tbl := kcD_60_in _ (List.mem_of_getElem? (i := 41) rfl)
set_option maxRecDepth 1000000 in
theorem mb_97 : Cond.instanceMethod (yM 97) ∈ lw_tbl := kiN_60_in _ (List.mem_of_getElem? (i := 18) rfl)
set_option maxRecDepth 1000000 in
theorem md_97 : Cond.selects (owM 97) (yM 97) (yM 97) ∈ lw_tbl := kxL_0_in _ (List.mem_of_getElem? (i := 30) rfl)
set_option maxRecDepth 1000000 in
theorem me_97 : (parseMethodDescriptor (yM 97).desc).map (fun d => d.parameters.length) = some (npM 97) := pd_5
theorem mt_97 : MtP 97 := ⟨rfl, Or.inr ma_97, fun h => absurd h (by decide), fun _ => ⟨mb_97, md_97⟩, fun h => absurd h (by decide), me_97⟩
set_option maxRecDepth 1000000 in
theorem ma_98 : cwM 98 ∈ lw_tbl := kcD_0_in _ (List.mem_of_getElem? (i := 27) rfl)
set_option maxRecDepth 1000000 in
theorem mb_98 : Cond.static (yM 98) ∈ lw_tbl := ksT_0_in _ (List.mem_of_getElem? (i := 8) rfl)
set_option maxRecDepth 1000000 in
theorem me_98 : (parseMethodDescriptor (yM 98).desc).map (fun d => d.parameters.length) = some (npM 98) := pd_3
theorem mt_98 : MtP 98 := ⟨rfl, Or.inr ma_98, fun _ => Or.inr mb_98, fun h => absurd h (by decide), fun h => absurd h (by decide), me_98⟩
set_option maxRecDepth 1000000 in
theorem ma_99 : cwM 99 ∈ lw_tbl := kcD_60_in _ (List.mem_of_getElem? (i := 11) rfl)
set_option maxRecDepth 1000000 in
theorem mb_99 : Cond.static (yM 99) ∈ lw_tbl := ksT_0_in _ (List.mem_of_getElem? (i := 18) rfl)
set_option maxRecDepth 1000000 in
theorem me_99 : (parseMethodDescriptor (yM 99).desc).map (fun d => d.parameters.length) = some (npM 99) := pd_5
theorem mt_99 : MtP 99 := ⟨rfl, Or.inr ma_99, fun _ => Or.inr mb_99, fun h => absurd h (by decide), fun h => absurd h (by decide), me_99⟩
set_option maxRecDepth 1000000 in
theorem ma_100 : cwM 100 ∈ lw_tbl := kcD_0_in _ (List.mem_of_getElem? (i := 34) rfl)
set_option maxRecDepth 1000000 in
theorem mb_100 : Cond.static (yM 100) ∈ lw_tbl := ksT_0_in _ (List.mem_of_getElem? (i := 11) rfl)
set_option maxRecDepth 1000000 in
theorem me_100 : (parseMethodDescriptor (yM 100).desc).map (fun d => d.parameters.length) = some (npM 100) := pd_3
theorem mt_100 : MtP 100 := ⟨rfl, Or.inr ma_100, fun _ => Or.inr mb_100, fun h => absurd h (by decide), fun h => absurd h (by decide), me_100⟩
set_option maxRecDepth 1000000 in
theorem ma_101 : cwM 101 ∈ lw_tbl := kcD_0_in _ (List.mem_of_getElem? (i := 50) rfl)
set_option maxRecDepth 1000000 in
theorem mb_101 : Cond.instanceMethod (yM 101) ∈ lw_tbl := kiN_0_in _ (List.mem_of_getElem? (i := 38) rfl)
set_option maxRecDepth 1000000 in
theorem md_101 : Cond.selects (owM 101) (yM 101) (yM 101) ∈ lw_tbl := kxL_0_in _ (List.mem_of_getElem? (i := 6) rfl)
set_option maxRecDepth 1000000 in
theorem me_101 : (parseMethodDescriptor (yM 101).desc).map (fun d => d.parameters.length) = some (npM 101) := pd_0
theorem mt_101 : MtP 101 := ⟨rfl, Or.inr ma_101, fun h => absurd h (by decide), fun _ => ⟨mb_101, md_101⟩, fun h => absurd h (by decide), me_101⟩
theorem mt_102 : MtP 102 := ⟨rfl, Or.inr ma_0, fun h => absurd h (by decide), fun h => absurd h (by decide), fun _ => ⟨mb_0, rfl⟩, me_0⟩
set_option maxRecDepth 1000000 in
theorem ma_103 : cwM 103 ∈ lw_tbl := kcD_60_in _ (List.mem_of_getElem? (i := 18) rfl)
set_option maxRecDepth 1000000 in
theorem mb_103 : Cond.static (yM 103) ∈ lw_tbl := ksT_0_in _ (List.mem_of_getElem? (i := 20) rfl)
set_option maxRecDepth 1000000 in
theorem me_103 : (parseMethodDescriptor (yM 103).desc).map (fun d => d.parameters.length) = some (npM 103) := pd_19
theorem mt_103 : MtP 103 := ⟨rfl, Or.inr ma_103, fun _ => Or.inr mb_103, fun h => absurd h (by decide), fun h => absurd h (by decide), me_103⟩
set_option maxRecDepth 1000000 in
theorem ma_104 : cwM 104 ∈ lw_tbl := kcD_0_in _ (List.mem_of_getElem? (i := 20) rfl)
set_option maxRecDepth 1000000 in
theorem mb_104 : Cond.static (yM 104) ∈ lw_tbl := ksT_0_in _ (List.mem_of_getElem? (i := 2) rfl)
set_option maxRecDepth 1000000 in
theorem me_104 : (parseMethodDescriptor (yM 104).desc).map (fun d => d.parameters.length) = some (npM 104) := pd_19
theorem mt_104 : MtP 104 := ⟨rfl, Or.inr ma_104, fun _ => Or.inr mb_104, fun h => absurd h (by decide), fun h => absurd h (by decide), me_104⟩
set_option maxRecDepth 1000000 in
theorem ma_105 : cwM 105 ∈ lw_tbl := kcD_0_in _ (List.mem_of_getElem? (i := 48) rfl)
set_option maxRecDepth 1000000 in
theorem mb_105 : Cond.static (yM 105) ∈ lw_tbl := ksT_0_in _ (List.mem_of_getElem? (i := 14) rfl)
set_option maxRecDepth 1000000 in
theorem me_105 : (parseMethodDescriptor (yM 105).desc).map (fun d => d.parameters.length) = some (npM 105) := pd_3
theorem mt_105 : MtP 105 := ⟨rfl, Or.inr ma_105, fun _ => Or.inr mb_105, fun h => absurd h (by decide), fun h => absurd h (by decide), me_105⟩
set_option maxRecDepth 1000000 in
theorem ma_106 : cwM 106 ∈ lw_tbl := kcD_0_in _ (List.mem_of_getElem? (i := 22) rfl)
set_option maxRecDepth 1000000 in
theorem mb_106 : Cond.static (yM 106) ∈ lw_tbl := ksT_0_in _ (List.mem_of_getElem? (i := 4) rfl)
set_option maxRecDepth 1000000 in
theorem me_106 : (parseMethodDescriptor (yM 106).desc).map (fun d => d.parameters.length) = some (npM 106) := pd_20
theorem mt_106 : MtP 106 := ⟨rfl, Or.inr ma_106, fun _ => Or.inr mb_106, fun h => absurd h (by decide), fun h => absurd h (by decide), me_106⟩
set_option maxRecDepth 1000000 in
theorem ma_107 : cwM 107 ∈ lw_tbl := kcD_0_in _ (List.mem_of_getElem? (i := 21) rfl)
set_option maxRecDepth 1000000 in
theorem mb_107 : Cond.static (yM 107) ∈ lw_tbl := ksT_0_in _ (List.mem_of_getElem? (i := 3) rfl)
set_option maxRecDepth 1000000 in
theorem me_107 : (parseMethodDescriptor (yM 107).desc).map (fun d => d.parameters.length) = some (npM 107) := pd_20
theorem mt_107 : MtP 107 := ⟨rfl, Or.inr ma_107, fun _ => Or.inr mb_107, fun h => absurd h (by decide), fun h => absurd h (by decide), me_107⟩
set_option maxRecDepth 1000000 in
theorem ma_108 : cwM 108 ∈ lw_tbl := kcD_60_in _ (List.mem_of_getElem? (i := 31) rfl)
set_option maxRecDepth 1000000 in
theorem mb_108 : Cond.static (yM 108) ∈ lw_tbl := ksT_0_in _ (List.mem_of_getElem? (i := 24) rfl)
set_option maxRecDepth 1000000 in
theorem me_108 : (parseMethodDescriptor (yM 108).desc).map (fun d => d.parameters.length) = some (npM 108) := pd_21
theorem mt_108 : MtP 108 := ⟨rfl, Or.inr ma_108, fun _ => Or.inr mb_108, fun h => absurd h (by decide), fun h => absurd h (by decide), me_108⟩
set_option maxRecDepth 1000000 in
theorem ma_109 : cwM 109 ∈ lw_tbl := kcD_60_in _ (List.mem_of_getElem? (i := 32) rfl)
set_option maxRecDepth 1000000 in
theorem mb_109 : Cond.static (yM 109) ∈ lw_tbl := ksT_0_in _ (List.mem_of_getElem? (i := 25) rfl)
set_option maxRecDepth 1000000 in
theorem me_109 : (parseMethodDescriptor (yM 109).desc).map (fun d => d.parameters.length) = some (npM 109) := pd_22
theorem mt_109 : MtP 109 := ⟨rfl, Or.inr ma_109, fun _ => Or.inr mb_109, fun h => absurd h (by decide), fun h => absurd h (by decide), me_109⟩
set_option maxRecDepth 1000000 in
theorem ma_110 : cwM 110 ∈ lw_tbl := kcD_0_in _ (List.mem_of_getElem? (i := 47) rfl)
set_option maxRecDepth 1000000 in
theorem mb_110 : Cond.static (yM 110) ∈ lw_tbl := ksT_0_in _ (List.mem_of_getElem? (i := 13) rfl)
set_option maxRecDepth 1000000 in
theorem me_110 : (parseMethodDescriptor (yM 110).desc).map (fun d => d.parameters.length) = some (npM 110) := pd_22
theorem mt_110 : MtP 110 := ⟨rfl, Or.inr ma_110, fun _ => Or.inr mb_110, fun h => absurd h (by decide), fun h => absurd h (by decide), me_110⟩
set_option maxRecDepth 1000000 in
theorem ma_111 : cwM 111 ∈ lw_tbl := kcD_60_in _ (List.mem_of_getElem? (i := 5) rfl)
set_option maxRecDepth 1000000 in
theorem mb_111 : Cond.static (yM 111) ∈ lw_tbl := ksT_0_in _ (List.mem_of_getElem? (i := 16) rfl)
set_option maxRecDepth 1000000 in
theorem me_111 : (parseMethodDescriptor (yM 111).desc).map (fun d => d.parameters.length) = some (npM 111) := pd_23
theorem mt_111 : MtP 111 := ⟨rfl, Or.inr ma_111, fun _ => Or.inr mb_111, fun h => absurd h (by decide), fun h => absurd h (by decide), me_111⟩
set_option maxRecDepth 1000000 in
theorem ma_112 : cwM 112 ∈ lw_tbl := kcD_60_in _ (List.mem_of_getElem? (i := 25) rfl)
set_option maxRecDepth 1000000 in
theorem mb_112 : Cond.static (yM 112) ∈ lw_tbl := ksT_0_in _ (List.mem_of_getElem? (i := 21) rfl)
set_option maxRecDepth 1000000 in
theorem me_112 : (parseMethodDescriptor (yM 112).desc).map (fun d => d.parameters.length) = some (npM 112) := pd_24
theorem mt_112 : MtP 112 := ⟨rfl, Or.inr ma_112, fun _ => Or.inr mb_112, fun h => absurd h (by decide), fun h => absurd h (by decide), me_112⟩
set_option maxRecDepth 1000000 in
theorem me_113 : (parseMethodDescriptor (yM 113).desc).map (fun d => d.parameters.length) = some (npM 113) := pd_25
theorem mt_113 : MtP 113 := ⟨rfl, Or.inl rfl, fun _ => Or.inl rfl, fun h => absurd h (by decide), fun h => absurd h (by decide), me_113⟩
theorem mt_all : ∀ k, 0 ≤ k → k < 114 → MtP k := (bt (bt (bt (bt (bt (bt (b1 mt_0) (bt (b1 mt_1) (b1 mt_2))) (bt (bt (b1 mt_3) (b1 mt_4)) (bt (b1 mt_5) (b1 mt_6)))) (bt (bt (b1 mt_7) (bt (b1 mt_8) (b1 mt_9))) (bt (bt (b1 mt_10) (b1 mt_11)) (bt (b1 mt_12) (b1 mt_13))))) (bt (bt (bt (b1 mt_14) (bt (b1 mt_15) (b1 mt_16))) (bt (bt (b1 mt_17) (b1 mt_18)) (bt (b1 mt_19) (b1 mt_20)))) (bt (bt (b1 mt_21) (bt (b1 mt_22) (b1 mt_23))) (bt (bt (b1 mt_24) (b1 mt_25)) (bt (b1 mt_26) (b1 mt_27)))))) (bt (bt (bt (bt (b1 mt_28) (bt (b1 mt_29) (b1 mt_30))) (bt (bt (b1 mt_31) (b1 mt_32)) (bt (b1 mt_33) (b1 mt_34)))) (bt (bt (b1 mt_35) (bt (b1 mt_36) (b1 mt_37))) (bt (bt (b1 mt_38) (b1 mt_39)) (bt (b1 mt_40) (b1 mt_41))))) (bt (bt (bt (b1 mt_42) (bt (b1 mt_43) (b1 mt_44))) (bt (bt (b1 mt_45) (b1 mt_46)) (bt (b1 mt_47) (b1 mt_48)))) (bt (bt (bt (b1 mt_49) (b1 mt_50)) (bt (b1 mt_51) (b1 mt_52))) (bt (bt (b1 mt_53) (b1 mt_54)) (bt (b1 mt_55) (b1 mt_56))))))) (bt (bt (bt (bt (bt (b1 mt_57) (bt (b1 mt_58) (b1 mt_59))) (bt (bt (b1 mt_60) (b1 mt_61)) (bt (b1 mt_62) (b1 mt_63)))) (bt (bt (b1 mt_64) (bt (b1 mt_65) (b1 mt_66))) (bt (bt (b1 mt_67) (b1 mt_68)) (bt (b1 mt_69) (b1 mt_70))))) (bt (bt (bt (b1 mt_71) (bt (b1 mt_72) (b1 mt_73))) (bt (bt (b1 mt_74) (b1 mt_75)) (bt (b1 mt_76) (b1 mt_77)))) (bt (bt (b1 mt_78) (bt (b1 mt_79) (b1 mt_80))) (bt (bt (b1 mt_81) (b1 mt_82)) (bt (b1 mt_83) (b1 mt_84)))))) (bt (bt (bt (bt (b1 mt_85) (bt (b1 mt_86) (b1 mt_87))) (bt (bt (b1 mt_88) (b1 mt_89)) (bt (b1 mt_90) (b1 mt_91)))) (bt (bt (b1 mt_92) (bt (b1 mt_93) (b1 mt_94))) (bt (bt (b1 mt_95) (b1 mt_96)) (bt (b1 mt_97) (b1 mt_98))))) (bt (bt (bt (b1 mt_99) (bt (b1 mt_100) (b1 mt_101))) (bt (bt (b1 mt_102) (b1 mt_103)) (bt (b1 mt_104) (b1 mt_105)))) (bt (bt (bt (b1 mt_106) (b1 mt_107)) (bt (b1 mt_108) (b1 mt_109))) (bt (bt (b1 mt_110) (b1 mt_111)) (bt (b1 mt_112) (b1 mt_113))))))))
end
section
/-! The bytecode does what the small machine does: one instruction. -/
def vkM (n : Nat) : Value → Bool
  | .int _ => true
  | .long _ => true
  | .ref u => decide (u < n)
  | _ => false
def LoM (LL : List Nat) (n : Nat) (ad : Nat → Nat) (la : List (Option Value)) (ls : Array Slot) (nL : Nat) : Prop :=
  ∃ lv, lv_has ls nL lv ∧ (∀ q ∈ lv, q.2.category = 1 ∨ q.1 ∈ LL) ∧ ∀ (i : Nat) (v : Value), la[i]? = some (some v) → (i, vaM ad v) ∈ lv ∧ vkM n v = true
def SkM (n : Nat) (ad : Nat → Nat) (sa st : List Value) : Prop := st = sa.map (vaM ad) ∧ ∀ v ∈ sa, vkM n v = true
def AcM (G : GlM) (l : Launch) (k : Nat) (p : Program) (R : Room) (s : State) (m : MethodId) (args : Array Value) (meth : Method) (c : Code) : Prop :=
  (p.tables.exec = Jvm.exec ∧ c.code = byM k ∧ c.maxLocals = mxM k ∧ meth.sig.returnType = rtM k ∧ meth.locks = false ∧ meth.name = (yM k).name ∧ s.vm.findClass (owM k) = some m.cls) ∧
  (∀ w ∈ lw_tbl, goodWord w = true → w.before args s = true) ∧ EvG G s ∧ (nfM k ≤ R.frames ∧ nlM k ≤ R.locals ∧ ncM k ≤ R.cells ∧ nsM k ≤ R.slots)
def ReM (k pc : Nat) : Option Value → Prop
  | none => decode (byM k) pc = .ok (.return_, 1) ∧ rtM k = none
  | some (.int x) => decode (byM k) pc = .ok (.ireturn, 1) ∧ (rtM k = some .int ∨ (rtM k = some .boolean ∧ (x = 0 ∨ x = 1)))
  | some (.long _) => decode (byM k) pc = .ok (.lreturn, 1) ∧ rtM k = some .long
  | _ => False
def voM (n : Nat) : Option Value → Prop
  | some v => vkM n v = true
  | none => True
section SX
variable (G : GlM) (l : Launch) (k : Nat) (p : Program) (e : Env) (R : Room) (s : State) (m : MethodId) (args : Array Value) (below : List Frame) (meth : Method) (c : Code)
def XiM (ad : Nat → Nat) (n0 : Nat) (o : OutM) (Q : State → Prop) : Prop :=
  match o with
  | (.inl v, σ') => ∀ (ad' : Nat → Nat) (H' : Heap) (locs' : List Loc) (kc ks pc : Nat) (ls : Array Slot), (∀ u, u < n0 → ad' u = ad u) → n0 ≤ nxM σ' → RpM G ad' σ' H' → va_S (gU G) s.heap H' locs' → kc ≤ ncM k → ks ≤ nsM k → ReM k pc v → voM (nxM σ') v →
      W p l e R s m args below meth c H' locs' kc ks Q (F0 m pc ls (v.map (vaM ad')).toList)
  | (.inr _, _) => True
end SX
/-- from a frame of the small machine: the bytecode's frame comes to the same end -/
def WsM (G : GlM) (l : Launch) (k : Nat) (fr : FrM) (σ : Mem) (o : OutM) : Prop :=
  ∀ (p : Program) (e : Env) (R : Room) (s : State) (m : MethodId) (args : Array Value) (below : List Frame) (meth : Method) (c : Code) (ad : Nat → Nat) (H : Heap) (locs : List Loc) (Q : State → Prop) (ls : Array Slot) (st : List Value),
    AcM G l k p R s m args meth c → RpM G ad σ H → va_S (gU G) s.heap H locs → LoM (llM k) (nxM σ) ad fr.2.1 ls (mxM k) → SkM (nxM σ) ad fr.2.2.1 st → XiM G l k p e R s m args below meth c ad (nxM σ) o Q →
      W p l e R s m args below meth c H locs fr.2.2.2.1 fr.2.2.2.2 Q (F0 m fr.1 ls st)
theorem Xi_mono {G : GlM} {l : Launch} {k : Nat} {p : Program} {e : Env} {R : Room} {s : State} {m : MethodId} {args : Array Value} {below : List Frame} {meth : Method} {c : Code} {ad ad' : Nat → Nat} {n0 n1 : Nat} {o : OutM} {Q : State → Prop}
    (h : XiM G l k p e R s m args below meth c ad n0 o Q) (hn : n0 ≤ n1) (ha : ∀ u, u < n0 → ad' u = ad u) : XiM G l k p e R s m args below meth c ad' n1 o Q := by
  obtain ⟨r, σ'⟩ := o
  cases r with
  | inl v => exact fun ad2 H' locs' kc ks pc ls h1 h2 => h ad2 H' locs' kc ks pc ls (fun u hu => (h1 u (by omega)).trans (ha u hu)) (by omega)
  | inr E => trivial
-- what a combinator's answer says of the stack
theorem in_I1 {f : Int32 → List Value → Option OutM} {st : List Value} {o : OutM} (h : sI1 f st = some o) : ∃ x r, st = .int x :: r ∧ f x r = some o := by
  unfold sI1 at h
  split at h
  · exact ⟨_, _, rfl, h⟩
  · cases h
theorem in_I2 {f : Int32 → Int32 → List Value → Option OutM} {st : List Value} {o : OutM} (h : sI2 f st = some o) : ∃ x y r, st = .int y :: .int x :: r ∧ f x y r = some o := by
  unfold sI2 at h
  split at h
  · exact ⟨_, _, _, rfl, h⟩
  · cases h
theorem in_L2 {f : Int64 → Int64 → List Value → Option OutM} {st : List Value} {o : OutM} (h : sL2 f st = some o) : ∃ x y r, st = .long y :: .long x :: r ∧ f x y r = some o := by
  unfold sL2 at h
  split at h
  · exact ⟨_, _, _, rfl, h⟩
  · cases h
theorem in_L1 {f : Int64 → List Value → Option OutM} {st : List Value} {o : OutM} (h : sL1 f st = some o) : ∃ x r, st = .long x :: r ∧ f x r = some o := by
  unfold sL1 at h
  split at h
  · exact ⟨_, _, rfl, h⟩
  · cases h
theorem in_R1 {f : Nat → List Value → Option OutM} {st : List Value} {o : OutM} (h : sR1 f st = some o) : ∃ x r, st = .ref x :: r ∧ f x r = some o := by
  unfold sR1 at h
  split at h
  · exact ⟨_, _, rfl, h⟩
  · cases h
theorem in_IR {f : Int32 → Nat → List Value → Option OutM} {st : List Value} {o : OutM} (h : sIR f st = some o) : ∃ i v r, st = .int i :: .ref v :: r ∧ f i v r = some o := by
  unfold sIR at h
  split at h
  · exact ⟨_, _, _, rfl, h⟩
  · cases h
theorem in_RR {f : Nat → Nat → List Value → Option OutM} {st : List Value} {o : OutM} (h : sRR f st = some o) : ∃ i v r, st = .ref i :: .ref v :: r ∧ f i v r = some o := by
  unfold sRR at h
  split at h
  · exact ⟨_, _, _, rfl, h⟩
  · cases h
theorem in_IIR {f : Int32 → Int32 → Nat → List Value → Option OutM} {st : List Value} {o : OutM} (h : sIIR f st = some o) : ∃ x i v r, st = .int x :: .int i :: .ref v :: r ∧ f x i v r = some o := by
  unfold sIIR at h
  split at h
  · exact ⟨_, _, _, _, rfl, h⟩
  · cases h
theorem in_RIR {f : Nat → Int32 → Nat → List Value → Option OutM} {st : List Value} {o : OutM} (h : sRIR f st = some o) : ∃ x i v r, st = .ref x :: .int i :: .ref v :: r ∧ f x i v r = some o := by
  unfold sRIR at h
  split at h
  · exact ⟨_, _, _, _, rfl, h⟩
  · cases h
theorem in_Cp {f : Int32 → Int32 → Nat → Int32 → Nat → List Value → Option OutM} {st : List Value} {o : OutM} (h : sCp f st = some o) : ∃ n dp dv sp sv r, st = .int n :: .int dp :: .ref dv :: .int sp :: .ref sv :: r ∧ f n dp dv sp sv r = some o := by
  unfold sCp at h
  split at h
  · exact ⟨_, _, _, _, _, _, rfl, h⟩
  · cases h
theorem in_oI {f : Int32 → Option OutM} {v : Option Value} {o : OutM} (h : oI f v = some o) : ∃ x, v = some (.int x) ∧ f x = some o := by
  unfold oI at h
  split at h
  · exact ⟨_, rfl, h⟩
  · cases h
theorem in_oL {f : Int64 → Option OutM} {v : Option Value} {o : OutM} (h : oL f v = some o) : ∃ x, v = some (.long x) ∧ f x = some o := by
  unfold oL at h
  split at h
  · exact ⟨_, rfl, h⟩
  · cases h
theorem in_oR {f : Nat → Option OutM} {v : Option Value} {o : OutM} (h : oR f v = some o) : ∃ x, v = some (.ref x) ∧ f x = some o := by
  unfold oR at h
  split at h
  · exact ⟨_, rfl, h⟩
  · cases h
theorem in_no {c : Prop} [Decidable c] {A : Option OutM} {o : OutM} (h : (if c then A else none) = some o) : c ∧ A = some o := by
  by_cases hc : c
  · rw [if_pos hc] at h; exact ⟨hc, h⟩
  · rw [if_neg hc] at h; cases h
theorem Lo_get {LL : List Nat} {n : Nat} {ad : Nat → Nat} {la : List (Option Value)} {ls : Array Slot} {nL i : Nat} {v : Value} (h : LoM LL n ad la ls nL) (hv : la.getD i none = some v) : ls[i]? = some (.val (vaM ad v)) ∧ vkM n v = true := by
  obtain ⟨lv, h1, h2, h3⟩ := h
  have hi : la[i]? = some (some v) := by
    rw [List.getD_eq_getElem?_getD] at hv
    cases e : la[i]? with
    | none => rw [e] at hv; cases hv
    | some w => rw [e] at hv; exact congrArg some hv
  exact ⟨h1.2.2 _ (h3 i v hi).1, (h3 i v hi).2⟩
theorem va_cat1 {ad : Nat → Nat} {v : Value} (h : isOne v = true) : (vaM ad v).category = 1 := by
  cases v <;> first | rfl | (simp [isOne] at h; done) | skip
  · show (va_rf (rfM ad _)).category = 1
    unfold rfM
    split <;> rfl
theorem lf_spec {k i : Nat} (h : lfM k i = true) : ∀ j, j = i ∨ j + 1 = i → ¬ j ∈ llM k := by
  unfold lfM at h
  simp only [Bool.and_eq_true, Bool.or_eq_true, Bool.not_eq_true', List.contains_eq_mem, decide_eq_false_iff_not] at h
  rintro j (rfl | rfl)
  · exact h.1
  · rcases h.2 with h2 | h2
    · exact absurd (Nat.eq_of_beq_eq_true h2) (by omega)
    · exact h2
theorem Lo_set {LL : List Nat} {n : Nat} {ad : Nat → Nat} {la : List (Option Value)} {lv : List (Nat × Value)} {ls' : Array Slot} {nL i : Nat} {w : Value} (x : Option Value) (hf : ∀ j, j = i ∨ j + 1 = i → ¬ j ∈ LL) (h2 : ∀ q ∈ lv, q.2.category = 1 ∨ q.1 ∈ LL) (h3 : ∀ (i : Nat) (v : Value), la[i]? = some (some v) → (i, vaM ad v) ∈ lv ∧ vkM n v = true)
    (hx : ∀ v, x = some v → w = vaM ad v ∧ vkM n v = true) (hc : w.category = 1) (h : lv_has ls' nL ((i, w) :: lv.filter (fun q => !(q.1 == i) && !(q.1 + 1 == i && q.2.category == 2)))) : LoM LL n ad (la.set i x) ls' nL := by
  refine ⟨_, h, fun q hq => ?_, fun j v hj => ?_⟩
  · rcases List.mem_cons.mp hq with rfl | hq
    · exact Or.inl hc
    · exact h2 q (List.mem_filter.mp hq).1
  · by_cases e : i = j
    · subst e
      by_cases hl : i < la.length
      · rw [List.getElem?_set_self hl] at hj
        obtain ⟨a, b⟩ := hx v (Option.some.inj hj)
        exact ⟨by rw [← a]; exact List.mem_cons_self, b⟩
      · rw [List.getElem?_eq_none (by rw [List.length_set]; omega)] at hj
        cases hj
    · rw [List.getElem?_set_ne e] at hj
      obtain ⟨a, b⟩ := h3 j v hj
      refine ⟨List.mem_cons_of_mem _ (List.mem_filter.mpr ⟨a, ?_⟩), b⟩
      have e1 : (j == i) = false := by simp; omega
      have e2 : (j + 1 == i && (vaM ad v).category == 2) = false := by
        by_cases c : j + 1 = i
        · rcases h2 _ a with z | z
          · have z : (vaM ad v).category = 1 := z
            rw [z]; simp
          · exact absurd z (hf j (Or.inr c))
        · simp [c]
      simp only [e1, e2]
      rfl
theorem Lo_setL {LL : List Nat} {n : Nat} {ad : Nat → Nat} {la : List (Option Value)} {lv : List (Nat × Value)} {ls' : Array Slot} {nL i : Nat} {x : Int64} (hi : i ∈ LL) (hf : ∀ j, j + 1 = i → ¬ j ∈ LL) (h2 : ∀ q ∈ lv, q.2.category = 1 ∨ q.1 ∈ LL) (h3 : ∀ (i : Nat) (v : Value), la[i]? = some (some v) → (i, vaM ad v) ∈ lv ∧ vkM n v = true)
    (h : lv_has ls' nL ((i, Value.long x) :: lv.filter (fun q => !(q.1 == i) && (!(q.1 == i + 1) && !(q.1 + 1 == i && q.2.category == 2))))) : LoM LL n ad ((la.set i (some (.long x))).set (i + 1) none) ls' nL := by
  refine ⟨_, h, fun q hq => ?_, fun j v hj => ?_⟩
  · rcases List.mem_cons.mp hq with rfl | hq
    · exact Or.inr hi
    · exact h2 q (List.mem_filter.mp hq).1
  · by_cases e0 : i + 1 = j
    · subst e0
      by_cases hl : i + 1 < (la.set i (some (.long x))).length
      · rw [List.getElem?_set_self hl] at hj
        cases hj
      · rw [List.getElem?_eq_none (by rw [List.length_set]; omega)] at hj
        cases hj
    rw [List.getElem?_set_ne e0] at hj
    by_cases e : i = j
    · subst e
      by_cases hl : i < la.length
      · rw [List.getElem?_set_self hl] at hj
        cases hj
        exact ⟨List.mem_cons_self, rfl⟩
      · rw [List.getElem?_eq_none (by rw [List.length_set]; omega)] at hj
        cases hj
    · rw [List.getElem?_set_ne e] at hj
      obtain ⟨a, b⟩ := h3 j v hj
      refine ⟨List.mem_cons_of_mem _ (List.mem_filter.mpr ⟨a, ?_⟩), b⟩
      have e1 : (j == i) = false := by simp; omega
      have e3 : (j == i + 1) = false := by simp; omega
      have e2 : (j + 1 == i && (vaM ad v).category == 2) = false := by
        by_cases c : j + 1 = i
        · rcases h2 _ a with z | z
          · have z : (vaM ad v).category = 1 := z
            rw [z]; simp
          · exact absurd z (hf j c)
        · simp [c]
      simp only [e1, e2, e3]
      rfl
theorem Lo_ad {LL : List Nat} {n n' : Nat} {ad ad' : Nat → Nat} {la : List (Option Value)} {ls : Array Slot} {nL : Nat} (h : LoM LL n ad la ls nL) (hn : n ≤ n') (ha : ∀ u, u < n → ad' u = ad u) : LoM LL n' ad' la ls nL := by
  obtain ⟨lv, h1, h2, h3⟩ := h
  refine ⟨lv, h1, h2, fun i v hv => ?_⟩
  obtain ⟨a, b⟩ := h3 i v hv
  cases v <;> first | exact ⟨a, b⟩ | skip
  case ref u =>
    have hu : u < n := of_decide_eq_true b
    refine ⟨?_, decide_eq_true (Nat.lt_of_lt_of_le hu hn)⟩
    have : vaM ad' (.ref u) = vaM ad (.ref u) := by show va_rf (rfM ad' u) = va_rf (rfM ad u); unfold rfM; rw [ha u hu]
    rw [this]; exact a
theorem va_ad {n : Nat} {ad ad' : Nat → Nat} {v : Value} (h : vkM n v = true) (ha : ∀ u, u < n → ad' u = ad u) : vaM ad' v = vaM ad v := by
  cases v <;> first | rfl | skip
  case ref u =>
    have hu : u < n := of_decide_eq_true h
    show va_rf (rfM ad' u) = va_rf (rfM ad u); unfold rfM; rw [ha u hu]
theorem vk_mono {n n' : Nat} {v : Value} (h : vkM n v = true) (hn : n ≤ n') : vkM n' v = true := by
  cases v <;> first | exact h | skip
  case ref u => exact decide_eq_true (Nat.lt_of_lt_of_le (of_decide_eq_true h) hn)
theorem Sk_ad {n n' : Nat} {ad ad' : Nat → Nat} {sa : List Value} (h : ∀ v ∈ sa, vkM n v = true) (hn : n ≤ n') (ha : ∀ u, u < n → ad' u = ad u) : sa.map (vaM ad) = sa.map (vaM ad') ∧ ∀ v ∈ sa, vkM n' v = true :=
  ⟨List.map_congr_left fun v hv => (va_ad (h v hv) ha).symm, fun v hv => vk_mono (h v hv) hn⟩
theorem cat_map (ad : Nat → Nat) : ∀ (sa : List Value), ((sa.map (vaM ad)).map fun v => v.category).sum = catM sa
  | [] => rfl
  | v :: r => by
    have ih := cat_map ad r
    cases v <;> simp only [List.map_cons, List.sum_cons, ih, catM] <;> first | (show Value.category _ + _ = _; simp [Value.category, vaM]; done) | skip
    case ref u =>
      have : (vaM ad (.ref u)).category = 1 := va_cat1 rfl
      rw [this]; omega
    all_goals (show Value.category _ + _ = _; simp [Value.category, vaM]; omega)
end
section
theorem Rp_okT {G : GlM} {ad : Nat → Nat} {σ : Mem} {H : Heap} (h : RpM G ad σ H) : okT G σ := h.2.2.1
/-- an object that is written: the memory and the heap behind -/
theorem Rp_set {G : GlM} {ad : Nat → Nat} {σ σ' : Mem} {H H' : Heap} {v : Nat} (h : RpM G ad σ H) (h1 : 8 ≤ v) (h2 : v < nxM σ) (hn : nxM σ' = nxM σ) (ht : ∀ u, tkM σ' u = tkM σ u) (hr : ∀ u j, u ≠ v → rdM σ' u j = rdM σ u j) (hp : ∀ u j, u ≠ v → prM σ' u j = prM σ u j) (hw : ∀ j, prM σ' v j < nxM σ)
    (hP : va_P (gD G) vwCl ((csM (gC G) ad σ).set (v - 8) (ad v, ceM (gC G) ad σ' v)) H') (hD : va_D (gU G) ((csM (gC G) ad σ).set (v - 8) (ad v, ceM (gC G) ad σ' v))) : RpM G ad σ' H' := by
  obtain ⟨-, -, ⟨a1, a2, a3, a4, a5⟩, a6⟩ := h
  have e := cs_set (c := gC G) (ad := ad) h1 h2 hn ht hr hp
  refine ⟨by rw [e]; exact hP, by rw [e]; exact hD, ⟨by rw [hn]; exact a1, fun u hu => by rw [ht]; exact a2 u (by rw [← hn]; exact hu), by rw [ht]; exact a3, fun u j => ?_, fun u p q => ?_⟩, a6⟩
  · by_cases hu : u = v
    · subst hu; rw [hn]; exact hw j
    · rw [hp u j hu, hn]; exact a4 u j
  · rw [ht]
    exact ⟨(a5 u p q).1, fun j => by rw [hr u j (by omega)]; exact (a5 u p q).2 j⟩
theorem tk_kind {G : GlM} {σ : Mem} {v κ : Nat} (h : okT G σ) (hk : (tkM σ v).1 = κ) (h1 : 1 ≤ κ) : v < nxM σ ∧ v ≠ 0 ∧ (κ ≠ 2 → 8 ≤ v) := by
  obtain ⟨a1, a2, a3, a4, a5⟩ := h
  refine ⟨?_, ?_, fun hne => ?_⟩
  · rcases Nat.lt_or_ge v (nxM σ) with q | q
    · exact q
    · have := a2 v q; omega
  · intro e; subst e; rw [a3] at hk; have hk : 0 = κ := hk; omega
  · rcases Nat.lt_or_ge v 8 with q | q
    · by_cases e : v = 0
      · subst e; rw [a3] at hk; have hk : 0 = κ := hk; omega
      · have := (a5 v (by omega) q).1
        rw [this] at hk
        exact absurd hk.symm hne
    · exact q
theorem ce_obj {c : Nat → ClassId} {ad : Nat → Nat} {σ : Mem} {v ci : Nat} (h : tkM σ v = (1, ci)) : ceM c ad σ v = .inr (ci, (List.range (clM ci).2.2).map fun k => bif Nat.beq (fkN ci k) 1 then vaM ad (.ref (prM σ v k)) else .int (rdM σ v k)) := by
  unfold ceM ceK; rw [h]; rfl
theorem ce_int {c : Nat → ClassId} {ad : Nat → Nat} {σ : Mem} {v κ : Nat} (h : (tkM σ v).1 = κ) (hκ : κ = 2 ∨ κ = 3 ∨ κ = 4) : ceM c ad σ v = .inl (c κ, (tkM σ v).2, .inl (rdM σ v)) := by
  unfold ceM ceK; rw [h]; rcases hκ with rfl | rfl | rfl <;> rfl
theorem ce_ref {c : Nat → ClassId} {ad : Nat → Nat} {σ : Mem} {v : Nat} (h : (tkM σ v).1 = 6) : ceM c ad σ v = .inl (c 6, (tkM σ v).2, .inr (.inr (.inr (.inr fun j => rfM ad (prM σ v j))))) := by
  unfold ceM ceK; rw [h]; rfl
theorem va_nz {ad : Nat → Nat} {v : Nat} (h : v ≠ 0) : vaM ad (.ref v) = .ref (ad v) := by
  show va_rf (rfM ad v) = _
  unfold rfM; rw [if_neg h]; rfl
theorem cl_at {ci : Nat} (h : ci < 5) : vwCl[ci]? = some (clM ci) := by
  rcases (show ci = 0 ∨ ci = 1 ∨ ci = 2 ∨ ci = 3 ∨ ci = 4 by omega) with rfl | rfl | rfl | rfl | rfl <;> rfl
theorem cl_ws : ∀ ci, ci < 5 → ∀ w ∈ u_ws (clM ci).1 (clM ci).2.1 (clM ci).2.2, w ∈ lw_tbl.filter goodWord := by
  intro ci h
  rcases (show ci = 0 ∨ ci = 1 ∨ ci = 2 ∨ ci = 3 ∨ ci = 4 by omega) with rfl | rfl | rfl | rfl | rfl <;> decide +kernel
def tyN (ci : Nat) : Nat → FieldType := [tyX0, tyX1, tyX2, tyX3, tyX4].getD ci (fun _ => .int)
theorem cl_ty : ∀ ci, ci < 5 → ∀ k, k < (clM ci).2.2 → parseFieldDescriptor ((clM ci).2.1 k).2.2.1 = some (tyN ci k) := by
  intro ci h
  rcases (show ci = 0 ∨ ci = 1 ∨ ci = 2 ∨ ci = 3 ∨ ci = 4 by omega) with rfl | rfl | rfl | rfl | rfl <;> first | exact tyX0_ok | exact tyX1_ok | exact tyX2_ok | exact tyX3_ok | exact tyX4_ok
theorem cl_nm : ∀ ci, ci < 5 → ∀ a, a < (clM ci).2.2 → ∀ b, b < (clM ci).2.2 → a ≠ b → ((clM ci).2.1 a).2.1 ≠ ((clM ci).2.1 b).2.1 := by
  intro ci h
  rcases (show ci = 0 ∨ ci = 1 ∨ ci = 2 ∨ ci = 3 ∨ ci = 4 by omega) with rfl | rfl | rfl | rfl | rfl <;> first | exact nmX0 | exact nmX1 | exact nmX2 | exact nmX3 | exact nmX4
theorem cl_kind : ∀ ci, ci < 5 → ∀ k, k < (clM ci).2.2 → (fkN ci k = 0 → tyN ci k = .int) ∧ (fkN ci k = 2 → tyN ci k = .char) ∧ (fkN ci k = 1 → (∃ C, tyN ci k = .object C) ∨ ∃ t, tyN ci k = .array t) ∧ fkN ci k ≤ 2 := by
  intro ci h k hk
  have hb : (clM ci).2.2 ≤ 11 := by
    rcases (show ci = 0 ∨ ci = 1 ∨ ci = 2 ∨ ci = 3 ∨ ci = 4 by omega) with rfl | rfl | rfl | rfl | rfl <;> decide
  have hk' : k < 11 := Nat.lt_of_lt_of_le hk hb
  rcases (show ci = 0 ∨ ci = 1 ∨ ci = 2 ∨ ci = 3 ∨ ci = 4 by omega) with rfl | rfl | rfl | rfl | rfl <;>
    rcases (show k = 0 ∨ k = 1 ∨ k = 2 ∨ k = 3 ∨ k = 4 ∨ k = 5 ∨ k = 6 ∨ k = 7 ∨ k = 8 ∨ k = 9 ∨ k = 10 by omega) with rfl | rfl | rfl | rfl | rfl | rfl | rfl | rfl | rfl | rfl | rfl <;>
    first
    | exact ⟨fun _ => rfl, fun h => absurd h (by decide), fun h => absurd h (by decide), by decide⟩
    | exact ⟨fun h => absurd h (by decide), fun _ => rfl, fun h => absurd h (by decide), by decide⟩
    | exact ⟨fun h => absurd h (by decide), fun h => absurd h (by decide), fun _ => Or.inl ⟨_, rfl⟩, by decide⟩
    | exact ⟨fun h => absurd h (by decide), fun h => absurd h (by decide), fun _ => Or.inr ⟨_, rfl⟩, by decide⟩
    | exact absurd hk (by decide)
theorem Ru_get {n k : Nat} {f : Nat → Value} (h : k < n) : ((List.range n).map f)[k]? = some (f k) := by
  rw [List.getElem?_map, List.getElem?_range h]; rfl
theorem Ru_set {n k : Nat} {f g : Nat → Value} (_h : k < n) (hg : ∀ j, j ≠ k → g j = f j) : ((List.range n).map f).set k (g k) = (List.range n).map g := by
  refine List.ext_getElem? fun i => ?_
  by_cases e : k = i
  · subst e
    rw [List.getElem?_set_self (by simpa using _h), Ru_get _h]
  · rw [List.getElem?_set_ne e, List.getElem?_map, List.getElem?_map]
    by_cases hi : i < n
    · rw [List.getElem?_range hi]; show some (f i) = some (g i); rw [hg i (fun z => e z.symm)]
    · rw [List.getElem?_eq_none (by simpa using hi)]; rfl
theorem ty_at (c : Nat → ClassId) : (tysM c)[0]? = some (c 2, .int) ∧ (tysM c)[1]? = some (c 3, .boolean) ∧ (tysM c)[2]? = some (c 4, .char) ∧ (tysM c)[3]? = some (c 6, .object RX2) := ⟨rfl, rfl, rfl, rfl⟩
theorem upd_wr {σ : Mem} {v j : Nat} {x : Int32} : upd (rdM σ v) j x = rdM (wrM σ v j x) v := by
  funext i
  show (if i = j then x else rdM σ v i) = if v = v ∧ i = j then x else rdM σ v i
  by_cases e : i = j <;> simp [e]
theorem lg_cmp3 {x y : Int32} : True := trivial
end
section
theorem nb_eq {a b : Nat} (h : Nat.beq a b = true) : a = b := Nat.eq_of_beq_eq_true h
theorem va_null (ad : Nat → Nat) (x : Nat) : vaM ad (.ref x) = .null ∨ ∃ q, vaM ad (.ref x) = .ref q := by
  by_cases h : x = 0
  · subst h; exact Or.inl rfl
  · exact Or.inr ⟨ad x, va_nz h⟩
theorem fv_va (ad : Nat → Nat) (σ : Mem) (v k κ : Nat) : vaM ad (fvM σ v k κ) = bif Nat.beq κ 1 then vaM ad (.ref (prM σ v k)) else .int (rdM σ v k) := by
  unfold fvM
  cases Nat.beq κ 1 <;> rfl
theorem fv_vk {n : Nat} {σ : Mem} {v k κ : Nat} (h : prM σ v k < n) : vkM n (fvM σ v k κ) = true := by
  unfold fvM
  cases Nat.beq κ 1
  · rfl
  · exact decide_eq_true h
theorem i32_nlt {a b : Int32} (h : ¬ a < b) : b ≤ a := Int32.not_lt.mp h
theorem i32_nle {a b : Int32} (h : ¬ a ≤ b) : b < a := Int32.not_le.mp h
theorem i32_le {a b : Int32} (h : a ≤ b) : ¬ b < a := Int32.not_lt.mpr h
theorem ch_ok {x : Int32} (h0 : 0 ≤ x) (h : x < 65536) : narrow .char (.int x) = .int x ∧ fits .char (.int x) = true := by
  obtain ⟨j, hj, rfl⟩ := nI_of (x := x) (i32_le h0)
  have hj2 : j < 65536 := by
    rw [Int32.lt_iff_toInt_lt, nI_toInt hj] at h
    have : (65536 : Int32).toInt = 65536 := by decide
    omega
  exact pk_charN hj2
def spM (ic : IcM) : Prop := match ic.1 with
  | .invokestatic _ | .invokevirtual _ | .invokespecial _ | .new _ | .newarray _ | .anewarray _ | .tableswitch _ _ _ _ | .putfield _ | .iastore | .bastore | .aastore | .ireturn | .lreturn | .return_ => True
  | _ => False
set_option maxHeartbeats 8000000 in
theorem sim_a {G : GlM} {l : Launch} {k : Nat} {ic : IcM} {fr : FrM} {σ : Mem} {o : OutM} {Φ : Nat → List Value → Mem → Option OutM} {K : FrM → Mem → Option OutM}
    (hmt : MtP k) (hK : ∀ fr' σ', K fr' σ' = some o → WsM G l k fr' σ' o) (hok : okM k fr.1 ic = true) (hsp : ¬ spM ic) (h : stM Φ K k ic fr σ = some o) : WsM G l k fr σ o := by
  obtain ⟨pc, la, sa, kc, ks⟩ := fr
  obtain ⟨i, len, a, cst⟩ := ic
  intro p e R s m args below meth c ad H locs Q ls st hA hR hS hL hsk hX
  obtain ⟨rfl, hsv⟩ := hsk
  obtain ⟨⟨hx, hb, hml, hrt, hlk, hnm, hown⟩, hts, hE, hr1, hr2, hr3, hr4⟩ := id hA
  obtain ⟨hP, hD, hT, hAd⟩ := id hR
  obtain ⟨hE1, hK2, hT2, hB0, hAO⟩ := id hE
  have hts2 : ∀ w ∈ lw_tbl.filter goodWord, w.before args s = true := fun w hw => hts w (List.mem_filter.mp hw).1 (List.mem_filter.mp hw).2
  unfold okM at hok
  dsimp only at hok
  rw [Bool.and_eq_true] at hok
  obtain ⟨hd, hq⟩ := hok
  replace hd := of_decide_eq_true hd
  have go : ∀ {pc' : Nat} {la' : List (Option Value)} {sa' : List Value} {ls' : Array Slot}, K (pc', la', sa', kc, ks) σ = some o → LoM (llM k) (nxM σ) ad la' ls' (mxM k) → (∀ v ∈ sa', vkM (nxM σ) v = true) → W p l e R s m args below meth c H locs kc ks Q (F0 m pc' ls' (sa'.map (vaM ad))) :=
    fun h h1 h2 => hK _ _ h p e R s m args below meth c ad H locs Q _ _ hA hR hS h1 ⟨rfl, h2⟩ hX
  have cs1 : ∀ {v : Value} {r : List Value}, vkM (nxM σ) v = true → (∀ w ∈ r, vkM (nxM σ) w = true) → ∀ w ∈ v :: r, vkM (nxM σ) w = true := fun h1 h2 => List.forall_mem_cons.mpr ⟨h1, h2⟩
  have tl1 : ∀ {v : Value} {r : List Value}, (∀ w ∈ v :: r, vkM (nxM σ) w = true) → ∀ w ∈ r, vkM (nxM σ) w = true := fun h => (List.forall_mem_cons.mp h).2
  cases i
  case iconst n =>
    simp only [Bool.and_eq_true, decide_eq_true_eq] at hq
    obtain rfl := nb_eq hq.2
    exact lv_iconst hx hb hd hq.1 (go h hL (cs1 rfl hsv))
  case bipush n =>
    simp only [Bool.and_eq_true, decide_eq_true_eq] at hq
    obtain rfl := nb_eq hq.2
    exact lv_bipush hx hb hd hq.1 (go h hL (cs1 rfl hsv))
  case sipush n =>
    simp only [Bool.and_eq_true, decide_eq_true_eq] at hq
    obtain rfl := nb_eq hq.2
    exact lv_sipush hx hb hd hq.1 (go h hL (cs1 rfl hsv))
  case ldc n =>
    simp only [Bool.and_eq_true, decide_eq_true_eq, atM] at hq
    obtain rfl := nb_eq hq.2
    exact lv_ldc hx hb hown (hts _ (List.mem_of_getElem? hq.1) rfl) hd (go h hL (cs1 rfl hsv))
  case ldc_w n =>
    simp only [Bool.and_eq_true, decide_eq_true_eq, atM] at hq
    obtain rfl := nb_eq hq.2
    exact lv_ldcw hx hb hown (hts _ (List.mem_of_getElem? hq.1) rfl) hd (go h hL (cs1 rfl hsv))
  case lconst n =>
    simp only [Bool.and_eq_true, decide_eq_true_eq] at hq
    obtain rfl := nb_eq hq.2
    exact lv_lconst hx hb hd hq.1 (go h hL (cs1 rfl hsv))
  case iload n =>
    simp only [Bool.and_eq_true] at hq
    obtain rfl := nb_eq hq.2
    obtain ⟨x, hx1, h⟩ := in_oI h
    have hl := (Lo_get hL hx1).1
    rw [nb_eq hq.1] at hl
    exact lv_iload hx hb hd hl (go h hL (cs1 rfl hsv))
  case iload_n n =>
    simp only [Bool.and_eq_true] at hq
    obtain rfl := nb_eq hq.2
    obtain ⟨x, hx1, h⟩ := in_oI h
    exact lv_iload_n hx hb hd (nb_eq hq.1).symm (Lo_get hL hx1).1 (go h hL (cs1 rfl hsv))
  case aload n =>
    simp only [Bool.and_eq_true] at hq
    obtain rfl := nb_eq hq.2
    obtain ⟨x, hx1, h⟩ := in_oR h
    obtain ⟨hl, hv⟩ := Lo_get hL hx1
    rw [nb_eq hq.1] at hl
    have g := go h hL (cs1 hv hsv)
    rw [List.map_cons] at g
    rcases va_null ad x with e | ⟨q, e⟩
    · rw [e] at hl g; exact lv_aloadN hx hb hd hl g
    · rw [e] at hl g; exact lv_aload hx hb hd hl g
  case aload_n n =>
    simp only [Bool.and_eq_true] at hq
    obtain rfl := nb_eq hq.2
    obtain ⟨x, hx1, h⟩ := in_oR h
    obtain ⟨hl, hv⟩ := Lo_get hL hx1
    have g := go h hL (cs1 hv hsv)
    rw [List.map_cons] at g
    rcases va_null ad x with e | ⟨q, e⟩
    · rw [e] at hl g; exact lv_aload_nN hx hb hd (nb_eq hq.1).symm hl g
    · rw [e] at hl g; exact lv_aload_n hx hb hd (nb_eq hq.1).symm hl g
  case istore n =>
    simp only [Bool.and_eq_true, decide_eq_true_eq] at hq
    obtain ⟨⟨⟨q1, q2⟩, q3⟩, q4⟩ := hq
    obtain rfl := nb_eq q2
    have hf := lf_spec q4
    obtain ⟨x, r, rfl, g1⟩ := in_I1 h
    obtain ⟨lv, hl1, hl2, hl3⟩ := hL
    rw [nb_eq q1] at g1 q3 hf
    exact lv_istore hx hb hd hl1 q3 rfl (fun ls' hl' => go g1 (Lo_set (w := .int x) _ hf hl2 hl3 (fun v e => by cases e; exact ⟨rfl, rfl⟩) rfl hl') (tl1 hsv))
  case istore_n n =>
    simp only [Bool.and_eq_true, decide_eq_true_eq] at hq
    obtain ⟨⟨⟨q1, q2⟩, q3⟩, q4⟩ := hq
    obtain rfl := nb_eq q2
    have hf := lf_spec q4
    obtain ⟨x, r, rfl, g1⟩ := in_I1 h
    obtain ⟨lv, hl1, hl2, hl3⟩ := hL
    exact lv_istore_n hx hb hd (nb_eq q1).symm hl1 q3 rfl (fun ls' hl' => go g1 (Lo_set (w := .int x) _ hf hl2 hl3 (fun v e => by cases e; exact ⟨rfl, rfl⟩) rfl hl') (tl1 hsv))
  case astore n =>
    simp only [Bool.and_eq_true, decide_eq_true_eq] at hq
    obtain ⟨⟨⟨q1, q2⟩, q3⟩, q4⟩ := hq
    obtain rfl := nb_eq q2
    have hf := lf_spec q4
    obtain ⟨x, r, rfl, g1⟩ := in_R1 h
    obtain ⟨lv, hl1, hl2, hl3⟩ := hL
    rw [nb_eq q1] at g1 q3 hf
    have hv := (List.forall_mem_cons.mp hsv).1
    rw [List.map_cons]
    rcases va_null ad x with e | ⟨q, e⟩
    · rw [e]
      exact lv_astoreN hx hb hd hl1 q3 rfl (fun ls' hl' => go g1 (Lo_set (w := .null) _ hf hl2 hl3 (fun v e2 => by cases e2; exact ⟨e.symm, hv⟩) rfl hl') (tl1 hsv))
    · rw [e]
      exact lv_astore hx hb hd hl1 q3 rfl (fun ls' hl' => go g1 (Lo_set (w := .ref q) _ hf hl2 hl3 (fun v e2 => by cases e2; exact ⟨e.symm, hv⟩) rfl hl') (tl1 hsv))
  case astore_n n =>
    simp only [Bool.and_eq_true, decide_eq_true_eq] at hq
    obtain ⟨⟨⟨q1, q2⟩, q3⟩, q4⟩ := hq
    obtain rfl := nb_eq q2
    have hf := lf_spec q4
    obtain ⟨x, r, rfl, g1⟩ := in_R1 h
    obtain ⟨lv, hl1, hl2, hl3⟩ := hL
    have hv := (List.forall_mem_cons.mp hsv).1
    rw [List.map_cons]
    rcases va_null ad x with e | ⟨q, e⟩
    · rw [e]
      exact lv_astore_nN hx hb hd (nb_eq q1).symm hl1 q3 rfl (fun ls' hl' => go g1 (Lo_set (w := .null) _ hf hl2 hl3 (fun v e2 => by cases e2; exact ⟨e.symm, hv⟩) rfl hl') (tl1 hsv))
    · rw [e]
      exact lv_astore_n hx hb hd (nb_eq q1).symm hl1 q3 rfl (fun ls' hl' => go g1 (Lo_set (w := .ref q) _ hf hl2 hl3 (fun v e2 => by cases e2; exact ⟨e.symm, hv⟩) rfl hl') (tl1 hsv))
  case iinc n d =>
    simp only [Bool.and_eq_true, decide_eq_true_eq] at hq
    obtain ⟨⟨⟨⟨q1, q2⟩, q3⟩, q4⟩, q5⟩ := hq
    obtain rfl := nb_eq q2
    obtain ⟨x, hx1, h⟩ := in_oI h
    obtain ⟨lv, hl1, hl2, hl3⟩ := id hL
    rw [nb_eq q1] at h hx1
    have hi : la[n]? = some (some (.int x)) := by
      rw [List.getD_eq_getElem?_getD] at hx1
      cases e : la[n]? with
      | none => rw [e] at hx1; cases hx1
      | some w => rw [e] at hx1; exact congrArg some hx1
    obtain ⟨j, hj⟩ := List.getElem?_of_mem (hl3 n _ hi).1
    exact lv_iinc hx hb hd hl1 hj (by rw [q4]) q3 rfl (fun ls' hl' => go h (Lo_set (w := .int (x + cst)) _ (lf_spec q5) hl2 hl3 (fun v e => by cases e; exact ⟨rfl, rfl⟩) rfl hl') hsv)
  case ldc2_w n =>
    simp only [Bool.and_eq_true, decide_eq_true_eq, atM] at hq
    obtain rfl := nb_eq hq.2
    exact lv_ldc2 hx hb hown (hts _ (List.mem_of_getElem? hq.1) rfl) hd (go h hL (cs1 rfl hsv))
  case lload n =>
    simp only [Bool.and_eq_true] at hq
    obtain rfl := nb_eq hq.2
    obtain ⟨x, hx1, h⟩ := in_oL h
    have hl := (Lo_get hL hx1).1
    rw [nb_eq hq.1] at hl
    exact lv_lload hx hb hd hl (go h hL (cs1 rfl hsv))
  case lload_n n =>
    simp only [Bool.and_eq_true] at hq
    obtain rfl := nb_eq hq.2
    obtain ⟨x, hx1, h⟩ := in_oL h
    exact lv_lload_n hx hb hd (nb_eq hq.1).symm (Lo_get hL hx1).1 (go h hL (cs1 rfl hsv))
  case lstore n =>
    simp only [Bool.and_eq_true, Bool.or_eq_true, Bool.not_eq_true', List.contains_eq_mem, decide_eq_false_iff_not, decide_eq_true_eq] at hq
    obtain ⟨⟨⟨⟨q1, q2⟩, q3⟩, q4⟩, q5⟩ := hq
    obtain rfl := nb_eq q2
    have hf : ∀ j, j + 1 = gaM a 0 → ¬ j ∈ llM k := by
      intro j e
      rcases q5 with q5 | q5
      · exact absurd (nb_eq q5) (by omega)
      · rw [← e] at q5
        exact q5
    obtain ⟨x, r, rfl, g1⟩ := in_L1 h
    obtain ⟨lv, hl1, hl2, hl3⟩ := hL
    rw [nb_eq q1] at g1 q3 q4 hf
    exact lv_lstore hx hb hd hl1 q3 rfl (fun ls' hl' => go g1 (Lo_setL q4 hf hl2 hl3 hl') (tl1 hsv))
  case lstore_n n =>
    simp only [Bool.and_eq_true, Bool.or_eq_true, Bool.not_eq_true', List.contains_eq_mem, decide_eq_false_iff_not, decide_eq_true_eq] at hq
    obtain ⟨⟨⟨⟨q1, q2⟩, q3⟩, q4⟩, q5⟩ := hq
    obtain rfl := nb_eq q2
    have hf : ∀ j, j + 1 = gaM a 0 → ¬ j ∈ llM k := by
      intro j e
      rcases q5 with q5 | q5
      · exact absurd (nb_eq q5) (by omega)
      · rw [← e] at q5
        exact q5
    obtain ⟨x, r, rfl, g1⟩ := in_L1 h
    obtain ⟨lv, hl1, hl2, hl3⟩ := hL
    exact lv_lstore_n hx hb hd (nb_eq q1).symm hl1 q3 rfl (fun ls' hl' => go g1 (Lo_setL q4 hf hl2 hl3 hl') (tl1 hsv))
  case ladd =>
    simp only [Bool.and_eq_true] at hq
    obtain rfl := nb_eq hq.2
    obtain ⟨x, y, r, rfl, g1⟩ := in_L2 h
    exact lv_ladd hx hb hd (go g1 hL (cs1 rfl (tl1 (tl1 hsv))))
  case lmul =>
    simp only [Bool.and_eq_true] at hq
    obtain rfl := nb_eq hq.2
    obtain ⟨x, y, r, rfl, g1⟩ := in_L2 h
    exact lv_lmul hx hb hd (go g1 hL (cs1 rfl (tl1 (tl1 hsv))))
  case iadd =>
    simp only [Bool.and_eq_true] at hq
    obtain rfl := nb_eq hq.2
    obtain ⟨x, y, r, rfl, g1⟩ := in_I2 h
    exact lv_iadd hx hb hd (go g1 hL (cs1 rfl (tl1 (tl1 hsv))))
  case isub =>
    simp only [Bool.and_eq_true] at hq
    obtain rfl := nb_eq hq.2
    obtain ⟨x, y, r, rfl, g1⟩ := in_I2 h
    exact lv_isub hx hb hd (go g1 hL (cs1 rfl (tl1 (tl1 hsv))))
  case imul =>
    simp only [Bool.and_eq_true] at hq
    obtain rfl := nb_eq hq.2
    obtain ⟨x, y, r, rfl, g1⟩ := in_I2 h
    exact lv_imul hx hb hd (go g1 hL (cs1 rfl (tl1 (tl1 hsv))))
  case iand =>
    simp only [Bool.and_eq_true] at hq
    obtain rfl := nb_eq hq.2
    obtain ⟨x, y, r, rfl, g1⟩ := in_I2 h
    exact lv_iand hx hb hd (go g1 hL (cs1 rfl (tl1 (tl1 hsv))))
  case ishl =>
    simp only [Bool.and_eq_true] at hq
    obtain rfl := nb_eq hq.2
    obtain ⟨x, y, r, rfl, g1⟩ := in_I2 h
    exact lv_ishl hx hb hd (go g1 hL (cs1 rfl (tl1 (tl1 hsv))))
  case ishr =>
    simp only [Bool.and_eq_true] at hq
    obtain rfl := nb_eq hq.2
    obtain ⟨x, y, r, rfl, g1⟩ := in_I2 h
    exact lv_ishr hx hb hd (go g1 hL (cs1 rfl (tl1 (tl1 hsv))))
  case idiv =>
    simp only [Bool.and_eq_true] at hq
    obtain rfl := nb_eq hq.2
    obtain ⟨x, y, r, rfl, g1⟩ := in_I2 h
    by_cases h0 : y = 0
    · rw [if_pos h0] at g1; cases g1
    · rw [if_neg h0] at g1
      exact lv_idiv hx hb hd h0 (go g1 hL (cs1 rfl (tl1 (tl1 hsv))))
  case irem =>
    simp only [Bool.and_eq_true] at hq
    obtain rfl := nb_eq hq.2
    obtain ⟨x, y, r, rfl, g1⟩ := in_I2 h
    by_cases h0 : y = 0
    · rw [if_pos h0] at g1; cases g1
    · rw [if_neg h0] at g1
      exact lv_irem hx hb hd h0 (go g1 hL (cs1 rfl (tl1 (tl1 hsv))))
  case ineg =>
    simp only [Bool.and_eq_true] at hq
    obtain rfl := nb_eq hq.2
    obtain ⟨x, r, rfl, g1⟩ := in_I1 h
    exact lv_ineg hx hb hd (go g1 hL (cs1 rfl (tl1 hsv)))
  case i2l =>
    simp only [Bool.and_eq_true] at hq
    obtain rfl := nb_eq hq.2
    obtain ⟨x, r, rfl, g1⟩ := in_I1 h
    exact lv_i2l hx hb hd rfl (go g1 hL (cs1 rfl (tl1 hsv)))
  case i2c =>
    simp only [Bool.and_eq_true] at hq
    obtain rfl := nb_eq hq.2
    obtain ⟨x, r, rfl, g1⟩ := in_I1 h
    exact lv_i2c hx hb hd rfl (go g1 hL (cs1 rfl (tl1 hsv)))
  case lcmp =>
    simp only [Bool.and_eq_true] at hq
    obtain rfl := nb_eq hq.2
    obtain ⟨x, y, r, rfl, g1⟩ := in_L2 h
    exact W.lcmp hx hb hd (go g1 hL (cs1 rfl (tl1 (tl1 hsv))))
  case ifCond op off =>
    simp only [Bool.and_eq_true, tgM, decide_eq_true_eq] at hq
    obtain ⟨ht, q2⟩ := hq
    obtain rfl := nb_eq q2
    cases op <;> obtain ⟨x, r, rfl, g1⟩ := in_I1 h
    · exact lv_if_eq hx hb hd ht (fun q => by rw [if_pos q] at g1; exact go g1 hL (tl1 hsv)) (fun q => by rw [if_neg q] at g1; exact go g1 hL (tl1 hsv))
    · exact lv_if_ne hx hb hd ht (fun q => by rw [if_neg q] at g1; exact go g1 hL (tl1 hsv)) (fun q => by rw [if_pos q] at g1; exact go g1 hL (tl1 hsv))
    · exact lv_if_lt hx hb hd ht (fun q => by rw [if_pos q] at g1; exact go g1 hL (tl1 hsv)) (fun q => by rw [if_neg q] at g1; exact go g1 hL (tl1 hsv))
    · exact lv_if_ge hx hb hd ht (fun q => by rw [if_neg (i32_le q)] at g1; exact go g1 hL (tl1 hsv)) (fun q => by rw [if_pos (i32_nle q)] at g1; exact go g1 hL (tl1 hsv))
    · exact lv_if_gt hx hb hd ht (fun q => by rw [if_pos q] at g1; exact go g1 hL (tl1 hsv)) (fun q => by rw [if_neg q] at g1; exact go g1 hL (tl1 hsv))
    · exact lv_if_le hx hb hd ht (fun q => by rw [if_neg (i32_le q)] at g1; exact go g1 hL (tl1 hsv)) (fun q => by rw [if_pos (i32_nle q)] at g1; exact go g1 hL (tl1 hsv))
  case if_icmp op off =>
    simp only [Bool.and_eq_true, tgM, decide_eq_true_eq] at hq
    obtain ⟨ht, q2⟩ := hq
    obtain rfl := nb_eq q2
    cases op <;> obtain ⟨x, y, r, rfl, g1⟩ := in_I2 h
    · exact lv_icmp_eq hx hb hd ht (fun q => by rw [if_pos q] at g1; exact go g1 hL (tl1 (tl1 hsv))) (fun q => by rw [if_neg q] at g1; exact go g1 hL (tl1 (tl1 hsv)))
    · exact lv_icmp_ne hx hb hd ht (fun q => by rw [if_neg q] at g1; exact go g1 hL (tl1 (tl1 hsv))) (fun q => by rw [if_pos q] at g1; exact go g1 hL (tl1 (tl1 hsv)))
    · exact lv_icmp_lt hx hb hd ht (fun q => by rw [if_pos q] at g1; exact go g1 hL (tl1 (tl1 hsv))) (fun q => by rw [if_neg q] at g1; exact go g1 hL (tl1 (tl1 hsv)))
    · exact lv_icmp_ge hx hb hd ht (fun q => by rw [if_neg (i32_le q)] at g1; exact go g1 hL (tl1 (tl1 hsv))) (fun q => by rw [if_pos (i32_nle q)] at g1; exact go g1 hL (tl1 (tl1 hsv)))
    · exact lv_icmp_gt hx hb hd ht (fun q => by rw [if_pos q] at g1; exact go g1 hL (tl1 (tl1 hsv))) (fun q => by rw [if_neg q] at g1; exact go g1 hL (tl1 (tl1 hsv)))
    · exact lv_icmp_le hx hb hd ht (fun q => by rw [if_neg (i32_le q)] at g1; exact go g1 hL (tl1 (tl1 hsv))) (fun q => by rw [if_pos (i32_nle q)] at g1; exact go g1 hL (tl1 (tl1 hsv)))
  case goto off =>
    simp only [Bool.and_eq_true, tgM, decide_eq_true_eq] at hq
    obtain ⟨ht, q2⟩ := hq
    obtain rfl := nb_eq q2
    exact lv_goto hx hb hd ht (go h hL hsv)
  case getfield n =>
    simp only [Bool.and_eq_true, decide_eq_true_eq, flI] at hq
    obtain ⟨⟨⟨⟨⟨q1, q2⟩, q3⟩, q4⟩, q5⟩, q6⟩ := hq
    obtain rfl := nb_eq q4
    obtain ⟨v, r, rfl, g1⟩ := in_R1 h
    obtain ⟨htk, g1⟩ := in_no g1
    obtain ⟨k1, k2, k3⟩ := tk_kind (κ := 1) hT (by rw [htk]) (Nat.le_refl 1)
    have k8 := k3 (by decide)
    have hfl := flL_ok _ (List.mem_of_getElem? q6)
    have hpt := cs_at (c := gC G) (ad := ad) k8 k1
    rw [ce_obj htk] at hpt
    have hval := Ru_get (f := fun k => bif Nat.beq (fkN (gaM a 0) k) 1 then vaM ad (.ref (prM σ v k)) else .int (rdM σ v k)) q2
    have g := go g1 hL (cs1 (fv_vk (hT.2.2.2.1 v (gaM a 1))) (tl1 hsv))
    rw [List.map_cons, fv_va, q3] at g
    rw [List.map_cons, va_nz k2]
    rcases (show gaM a 3 = 0 ∨ gaM a 3 = 1 by omega) with e3 | e3
    · rw [e3] at hfl
      have hw : (Cond.fieldLink (owM k) n (fT (gaM a 0) (gaM a 1)).1 (fT (gaM a 0) (gaM a 1)).2.1 (fT (gaM a 0) (gaM a 1)).2.2.1).before args s = true := by rw [hmt.1]; exact hts _ hfl rfl
      exact va_get (D := gD G) (cl := vwCl) (C := (clM (gaM a 0)).1) (T := (clM (gaM a 0)).2.1) (N := (clM (gaM a 0)).2.2) hx hb hts2 (cl_ws _ q1) hown hK2 hP (v - 8) hpt (cl_at q1) (gaM a 1) q2 hw (fun _ z => z) hval hd g
    · rw [e3] at hfl
      have hw : (Cond.fieldLinkNest (owM k) n (fT (gaM a 0) (gaM a 1)).1 (fT (gaM a 0) (gaM a 1)).2.1 (fT (gaM a 0) (gaM a 1)).2.2.1 RX4).before args s = true := by rw [hmt.1]; exact va_Nw.use rfl (hE1 _ hfl rfl)
      exact va_getN (D := gD G) (cl := vwCl) (C := (clM (gaM a 0)).1) (T := (clM (gaM a 0)).2.1) (N := (clM (gaM a 0)).2.2) hx hb hts2 (cl_ws _ q1) hown hK2 hP (v - 8) hpt (cl_at q1) (gaM a 1) q2 hw (fun _ z => z) hval hd g
  case iaload =>
    simp only [Bool.and_eq_true] at hq
    obtain rfl := nb_eq hq.2
    obtain ⟨i, v, r, rfl, g1⟩ := in_IR h
    obtain ⟨⟨hk, hi⟩, g1⟩ := in_no g1
    obtain ⟨k1, k2, -⟩ := tk_kind (κ := 2) hT hk (by decide)
    have g := go g1 hL (cs1 rfl (tl1 (tl1 hsv)))
    rw [List.map_cons, List.map_cons, va_nz k2]
    rcases Nat.lt_or_ge v 8 with k8 | k8
    · obtain ⟨t1, t2⟩ := hT.2.2.2.2 v (by omega) k8
      rw [hAd v (by omega) k8]
      have hi' : vp_in i (gN G v) := by rw [t1] at hi; exact hi
      exact va_ti hx hb (hT2 v (by omega) k8) hS hi' (by rw [← t2]; rfl) hd g
    · have hpt := cs_at (c := gC G) (ad := ad) k8 k1
      rw [ce_int hk (Or.inl rfl)] at hpt
      exact va_iald hx hb hK2 hP (v - 8) 0 hpt (ty_at _).1 hi hd g
  case baload =>
    simp only [Bool.and_eq_true] at hq
    obtain rfl := nb_eq hq.2
    obtain ⟨i, v, r, rfl, g1⟩ := in_IR h
    obtain ⟨⟨hk, hi⟩, g1⟩ := in_no g1
    obtain ⟨k1, k2, k3⟩ := tk_kind (κ := 3) hT hk (by decide)
    have g := go g1 hL (cs1 rfl (tl1 (tl1 hsv)))
    rw [List.map_cons, List.map_cons, va_nz k2]
    have hpt := cs_at (c := gC G) (ad := ad) (k3 (by decide)) k1
    rw [ce_int hk (Or.inr (Or.inl rfl))] at hpt
    exact va_zald hx hb hK2 hP (v - 8) 1 hpt (ty_at _).2.1 hi hd g
  case aaload =>
    simp only [Bool.and_eq_true] at hq
    obtain rfl := nb_eq hq.2
    obtain ⟨i, v, r, rfl, g1⟩ := in_IR h
    obtain ⟨⟨hk, hi⟩, g1⟩ := in_no g1
    obtain ⟨k1, k2, k3⟩ := tk_kind (κ := 6) hT hk (by decide)
    have g := go g1 hL (cs1 (v := .ref _) (decide_eq_true (hT.2.2.2.1 v _)) (tl1 (tl1 hsv)))
    rw [List.map_cons, List.map_cons, va_nz k2]
    have hpt := cs_at (c := gC G) (ad := ad) (k3 (by decide)) k1
    rw [ce_ref hk] at hpt
    exact va_aldq hx hb hK2 hP (v - 8) 3 hpt (ty_at _).2.2.2 hi hd g
  case arraylength =>
    simp only [Bool.and_eq_true] at hq
    obtain rfl := nb_eq hq.2
    obtain ⟨v, r, rfl, g1⟩ := in_R1 h
    obtain ⟨hk, g1⟩ := in_no g1
    obtain ⟨k1, k2, -⟩ := tk_kind (κ := 2) hT hk (by decide)
    have g := go g1 hL (cs1 rfl (tl1 hsv))
    rw [List.map_cons, va_nz k2]
    rcases Nat.lt_or_ge v 8 with k8 | k8
    · obtain ⟨t1, t2⟩ := hT.2.2.2.2 v (by omega) k8
      rw [hAd v (by omega) k8]
      exact va_tlen hx hb (hT2 v (by omega) k8) hS (by rw [t1]) hd g
    · have hpt := cs_at (c := gC G) (ad := ad) k8 k1
      rw [ce_int hk (Or.inl rfl)] at hpt
      exact va_alen hx hb hK2 hP (v - 8) 0 hpt (ty_at _).1 rfl hd g
  case dup =>
    simp only [Bool.and_eq_true] at hq
    obtain rfl := nb_eq hq.2
    cases sa with
    | nil => cases h
    | cons v r =>
      cases e : isOne v with
      | false => simp only [stM, e] at h; cases h
      | true =>
        simp only [stM, e] at h
        obtain ⟨h1, h2⟩ := List.forall_mem_cons.mp hsv
        exact lv_dup hx hb hd (va_cat1 e) (go h hL (cs1 h1 (cs1 h1 h2)))
  case pop =>
    simp only [Bool.and_eq_true] at hq
    obtain rfl := nb_eq hq.2
    cases sa with
    | nil => cases h
    | cons v r =>
      cases e : isOne v with
      | false => simp only [stM, e] at h; cases h
      | true =>
        simp only [stM, e] at h
        exact lv_pop hx hb hd (va_cat1 e) (go h hL (tl1 hsv))
  case dup2 =>
    simp only [Bool.and_eq_true] at hq
    obtain rfl := nb_eq hq.2
    cases sa with
    | nil => cases h
    | cons v r => cases r with
      | nil => cases h
      | cons w r =>
        cases e : isOne v with
        | false => simp only [stM, e, Bool.false_and] at h; cases h
        | true => cases e2 : isOne w with
          | false => simp only [stM, e, e2, Bool.and_false] at h; cases h
          | true =>
            simp only [stM, e, e2, Bool.and_self] at h
            obtain ⟨h1, h2⟩ := List.forall_mem_cons.mp hsv
            obtain ⟨h3, h4⟩ := List.forall_mem_cons.mp h2
            exact lv_dup2_11 hx hb hd (va_cat1 e) (va_cat1 e2) (go h hL (cs1 h1 (cs1 h3 (cs1 h1 (cs1 h3 h4)))))
  all_goals first
    | exact absurd trivial hsp
    | cases h
end
section
theorem Rp_nxwr (σ : Mem) (v j : Nat) (x : Int32) : nxM (wrM σ v j x) = nxM σ := rfl
theorem wr_tk (σ : Mem) (v j : Nat) (x : Int32) (u : Nat) : tkM (wrM σ v j x) u = tkM σ u := rfl
theorem wr_pr (σ : Mem) (v j : Nat) (x : Int32) (u i : Nat) : prM (wrM σ v j x) u i = prM σ u i := rfl
theorem wr_rd (σ : Mem) (v j : Nat) (x : Int32) (u i : Nat) : rdM (wrM σ v j x) u i = if u = v ∧ i = j then x else rdM σ u i := rfl
theorem wr_ne {σ : Mem} {v j : Nat} {x : Int32} {u i : Nat} (h : u ≠ v) : rdM (wrM σ v j x) u i = rdM σ u i := if_neg (fun q => h q.1)
theorem wp_pr (σ : Mem) (v j x u i : Nat) : prM (wpM σ v j x) u i = if u = v ∧ i = j then x else prM σ u i := rfl
theorem wp_ne {σ : Mem} {v j x u i : Nat} (h : u ≠ v) : prM (wpM σ v j x) u i = prM σ u i := if_neg (fun q => h q.1)
theorem cl_own : ∀ ci, ci < 5 → ∀ k, k < (clM ci).2.2 → (fT ci k).1 = rcM ci := by
  intro ci h k hk
  have hb : (clM ci).2.2 ≤ 11 := by
    rcases (show ci = 0 ∨ ci = 1 ∨ ci = 2 ∨ ci = 3 ∨ ci = 4 by omega) with rfl | rfl | rfl | rfl | rfl <;> decide
  have hk' : k < 11 := Nat.lt_of_lt_of_le hk hb
  rcases (show ci = 0 ∨ ci = 1 ∨ ci = 2 ∨ ci = 3 ∨ ci = 4 by omega) with rfl | rfl | rfl | rfl | rfl <;>
    rcases (show k = 0 ∨ k = 1 ∨ k = 2 ∨ k = 3 ∨ k = 4 ∨ k = 5 ∨ k = 6 ∨ k = 7 ∨ k = 8 ∨ k = 9 ∨ k = 10 by omega) with rfl | rfl | rfl | rfl | rfl | rfl | rfl | rfl | rfl | rfl | rfl <;> rfl
def psM (ic : IcM) : Prop := match ic.1 with
  | .putfield _ | .iastore | .bastore | .aastore => True
  | _ => False
set_option maxHeartbeats 8000000 in
theorem sim_b {G : GlM} {l : Launch} {k : Nat} {ic : IcM} {fr : FrM} {σ : Mem} {o : OutM} {Φ : Nat → List Value → Mem → Option OutM} {K : FrM → Mem → Option OutM}
    (hmt : MtP k) (hK : ∀ fr' σ', K fr' σ' = some o → WsM G l k fr' σ' o) (hok : okM k fr.1 ic = true) (hsp : psM ic) (h : stM Φ K k ic fr σ = some o) : WsM G l k fr σ o := by
  obtain ⟨pc, la, sa, kc, ks⟩ := fr
  obtain ⟨i, len, a, cst⟩ := ic
  intro p e R s m args below meth c ad H locs Q ls st hA hR hS hL hsk hX
  obtain ⟨rfl, hsv⟩ := hsk
  obtain ⟨⟨hx, hb, hml, hrt, hlk, hnm, hown⟩, hts, hE, hr1, hr2, hr3, hr4⟩ := id hA
  obtain ⟨hP, hD, hT, hAd⟩ := id hR
  obtain ⟨hE1, hK2, hT2, hB0, hAO⟩ := id hE
  have hts2 : ∀ w ∈ lw_tbl.filter goodWord, w.before args s = true := fun w hw => hts w (List.mem_filter.mp hw).1 (List.mem_filter.mp hw).2
  unfold okM at hok
  dsimp only at hok
  rw [Bool.and_eq_true] at hok
  obtain ⟨hd, hq⟩ := hok
  replace hd := of_decide_eq_true hd
  have tl1 : ∀ {v : Value} {r : List Value}, (∀ w ∈ v :: r, vkM (nxM σ) w = true) → ∀ w ∈ r, vkM (nxM σ) w = true := fun h => (List.forall_mem_cons.mp h).2
  have go : ∀ {pc' : Nat} {sa' : List Value} {σ' : Mem} {H' : Heap} {locs' : List Loc}, K (pc', la, sa', kc, ks) σ' = some o → nxM σ' = nxM σ → RpM G ad σ' H' → va_S (gU G) s.heap H' locs' → (∀ v ∈ sa', vkM (nxM σ) v = true) → W p l e R s m args below meth c H' locs' kc ks Q (F0 m pc' ls (sa'.map (vaM ad))) :=
    fun h hn h1 h2 h3 => hK _ _ h p e R s m args below meth c ad _ _ Q _ _ hA h1 h2 (by rw [hn]; exact hL) ⟨rfl, by rw [hn]; exact h3⟩ (by rw [hn]; exact hX)
  cases i
  case putfield n =>
    simp only [Bool.and_eq_true, decide_eq_true_eq, flI] at hq
    obtain ⟨⟨⟨⟨⟨⟨q1, q2⟩, q3⟩, q4⟩, q5⟩, q6⟩, q7⟩ := hq
    obtain rfl := nb_eq q4
    have hfl := flL_ok _ (List.mem_of_getElem? q6)
    obtain ⟨c0, c2, c1, c3⟩ := cl_kind _ q1 _ q2
    rw [← q3] at c0 c2 c1 c3
    -- one store, whatever its value
    have main : ∀ (v : Nat) (w : Value) (r : List Value) (σ' : Mem), tkM σ v = (1, gaM a 0) → K (pc + 3, la, r, kc, ks) σ' = some o → (∀ v ∈ r, vkM (nxM σ) v = true) → nxM σ' = nxM σ → (∀ u, tkM σ' u = tkM σ u) → (∀ u j, u ≠ v → rdM σ' u j = rdM σ u j) → (∀ u j, u ≠ v → prM σ' u j = prM σ u j) → (∀ j, prM σ' v j < nxM σ) →
        (∀ j, j ≠ gaM a 1 → rdM σ' v j = rdM σ v j) → (∀ j, j ≠ gaM a 1 → prM σ' v j = prM σ v j) → w = (bif Nat.beq (fkN (gaM a 0) (gaM a 1)) 1 then vaM ad (.ref (prM σ' v (gaM a 1))) else .int (rdM σ' v (gaM a 1))) →
        narrow (tyN (gaM a 0) (gaM a 1)) w = w → fits (tyN (gaM a 0) (gaM a 1)) w = true → W p l e R s m args below meth c H locs kc ks Q (F0 m pc ls (w :: vaM ad (.ref v) :: r.map (vaM ad))) := by
      intro v w r σ' htk h hr s1 s2 s3 s4 s5 s6 s7 hw hn hf
      obtain ⟨k1, k2, k3⟩ := tk_kind (κ := 1) hT (by rw [htk]) (Nat.le_refl 1)
      have k8 := k3 (by decide)
      have hpt := cs_at (c := gC G) (ad := ad) k8 k1
      rw [ce_obj htk] at hpt
      have hset : ((List.range (clM (gaM a 0)).2.2).map fun k => bif Nat.beq (fkN (gaM a 0) k) 1 then vaM ad (.ref (prM σ v k)) else .int (rdM σ v k)).set (gaM a 1) w = (List.range (clM (gaM a 0)).2.2).map fun k => bif Nat.beq (fkN (gaM a 0) k) 1 then vaM ad (.ref (prM σ' v k)) else .int (rdM σ' v k) := by
        rw [hw]
        exact Ru_set (f := fun k => bif Nat.beq (fkN (gaM a 0) k) 1 then vaM ad (.ref (prM σ v k)) else .int (rdM σ v k)) (g := fun k => bif Nat.beq (fkN (gaM a 0) k) 1 then vaM ad (.ref (prM σ' v k)) else .int (rdM σ' v k)) q2 (fun j hj => by rw [s6 j hj, s7 j hj])
      have hl : gaM a 1 < ((List.range (clM (gaM a 0)).2.2).map fun k => bif Nat.beq (fkN (gaM a 0) k) 1 then vaM ad (.ref (prM σ v k)) else .int (rdM σ v k)).length := by rw [List.length_map, List.length_range]; exact q2
      have hce : ceM (gC G) ad σ' v = .inr (gaM a 0, (List.range (clM (gaM a 0)).2.2).map fun k => bif Nat.beq (fkN (gaM a 0) k) 1 then vaM ad (.ref (prM σ' v k)) else .int (rdM σ' v k)) := ce_obj (by rw [s2]; exact htk)
      have fin : ∀ (H1 : Heap) (locs1 : List Loc), va_P (gD G) vwCl ((csM (gC G) ad σ).set (v - 8) (ad v, .inr (gaM a 0, ((List.range (clM (gaM a 0)).2.2).map fun k => bif Nat.beq (fkN (gaM a 0) k) 1 then vaM ad (.ref (prM σ v k)) else .int (rdM σ v k)).set (gaM a 1) w))) H1 → va_D (gU G) ((csM (gC G) ad σ).set (v - 8) (ad v, .inr (gaM a 0, ((List.range (clM (gaM a 0)).2.2).map fun k => bif Nat.beq (fkN (gaM a 0) k) 1 then vaM ad (.ref (prM σ v k)) else .int (rdM σ v k)).set (gaM a 1) w))) → va_S (gU G) s.heap H1 locs1 → W p l e R s m args below meth c H1 locs1 kc ks Q (F0 m (pc + 3) ls (r.map (vaM ad))) := by
        intro H1 locs1 p1 d1 s8
        rw [hset, ← hce] at p1 d1
        exact go h s1 (Rp_set hR k8 k1 s1 s2 s3 s4 s5 p1 d1) s8 hr
      rw [va_nz k2]
      rcases (show gaM a 3 = 0 ∨ gaM a 3 = 1 by omega) with e3 | e3
      · rw [e3] at hfl
        have hw2 : (Cond.fieldLink (owM k) n (fT (gaM a 0) (gaM a 1)).1 (fT (gaM a 0) (gaM a 1)).2.1 (fT (gaM a 0) (gaM a 1)).2.2.1).before args s = true := by rw [hmt.1]; exact hts _ hfl rfl
        simp only [Bool.or_eq_true, Bool.and_eq_true, decide_eq_true_eq] at q7
        rcases q7 with q7 | ⟨⟨⟨f1, f2⟩, f3⟩, f4⟩
        · exact va_put (D := gD G) (cl := vwCl) (C := (clM (gaM a 0)).1) (T := (clM (gaM a 0)).2.1) (N := (clM (gaM a 0)).2.2) (ty := tyN (gaM a 0) (gaM a 1)) hx hb hts2 (cl_ws _ q1) (tyN (gaM a 0)) (cl_ty _ q1) (cl_nm _ q1) hown hK2 hP hD hS (v - 8) hpt (cl_at q1) (gaM a 1) q2 hw2 (fun _ z => z) q7 (cl_ty _ q1 _ q2) hn hf hl hd fin
        · have hown2 : (fT (gaM a 0) (gaM a 1)).1 = owM k := by
            rw [hmt.1, ← f3]
            exact cl_own _ q1 _ q2
          exact va_putF (D := gD G) (cl := vwCl) (C := (clM (gaM a 0)).1) (T := (clM (gaM a 0)).2.1) (N := (clM (gaM a 0)).2.2) (ty := tyN (gaM a 0) (gaM a 1)) hx hb hts2 (cl_ws _ q1) (tyN (gaM a 0)) (cl_ty _ q1) (cl_nm _ q1) hown hK2 hP hD hS (v - 8) hpt (cl_at q1) (gaM a 1) q2 hw2 (fun _ z => z) f1 (hnm.trans (hmt.2.2.2.2.1 f2).2) hown2 (cl_ty _ q1 _ q2) hn hf hl hd fin
      · rw [e3] at hfl
        have hw2 : (Cond.fieldLinkNest (owM k) n (fT (gaM a 0) (gaM a 1)).1 (fT (gaM a 0) (gaM a 1)).2.1 (fT (gaM a 0) (gaM a 1)).2.2.1 RX4).before args s = true := by rw [hmt.1]; exact va_Nw.use rfl (hE1 _ hfl rfl)
        have f7 : ((clM (gaM a 0)).2.1 (gaM a 1)).2.2.2 = false := by
          simp only [Bool.or_eq_true, Bool.and_eq_true, decide_eq_true_eq] at q7
          rcases q7 with q7 | q7
          · exact q7
          · omega
        exact va_putN (D := gD G) (cl := vwCl) (C := (clM (gaM a 0)).1) (T := (clM (gaM a 0)).2.1) (N := (clM (gaM a 0)).2.2) (ty := tyN (gaM a 0) (gaM a 1)) hx hb hts2 (cl_ws _ q1) (tyN (gaM a 0)) (cl_ty _ q1) (cl_nm _ q1) hown hK2 hP hD hS (v - 8) hpt (cl_at q1) (gaM a 1) q2 hw2 (fun _ z => z) f7 (cl_ty _ q1 _ q2) hn hf hl hd fin
    rcases (show gaM a 2 = 0 ∨ gaM a 2 = 1 ∨ gaM a 2 = 2 by omega) with e | e | e
    · simp only [stM, e, show Nat.beq 0 1 = false from rfl, show Nat.beq 0 2 = false from rfl, cond_false] at h
      obtain ⟨x, v, r, rfl, g1⟩ := in_IR h
      obtain ⟨htk, g1⟩ := in_no g1
      rw [List.map_cons, List.map_cons]
      refine main v (.int x) r _ htk g1 (tl1 (tl1 hsv)) rfl (fun _ => rfl) (fun _ _ hu => wr_ne hu) (fun _ _ _ => rfl) (fun j => hT.2.2.2.1 v j) (fun j hj => if_neg (fun q => hj q.2)) (fun _ _ => rfl) ?_ (by rw [c0 e]; rfl) (by rw [c0 e]; rfl)
      rw [← q3, e, wr_rd, if_pos ⟨rfl, rfl⟩]; rfl
    · simp only [stM, e, show Nat.beq 1 1 = true from rfl, cond_true] at h
      obtain ⟨x, v, r, rfl, g1⟩ := in_RR h
      obtain ⟨htk, g1⟩ := in_no g1
      rw [List.map_cons, List.map_cons]
      have hxv : x < nxM σ := of_decide_eq_true (List.forall_mem_cons.mp hsv).1
      refine main v (vaM ad (.ref x)) r _ htk g1 (tl1 (tl1 hsv)) rfl (fun _ => rfl) (fun _ _ _ => rfl) (fun _ _ hu => wp_ne hu) (fun j => ?_) (fun _ _ => rfl) (fun j hj => if_neg (fun q => hj q.2)) ?_ ?_ ?_
      · rw [wp_pr]; split
        · exact hxv
        · exact hT.2.2.2.1 v j
      · rw [← q3, e, wp_pr, if_pos ⟨rfl, rfl⟩]; rfl
      · rcases c1 e with ⟨C, e2⟩ | ⟨t, e2⟩ <;> rw [e2] <;> rcases va_null ad x with e3 | ⟨q, e3⟩ <;> rw [e3] <;> rfl
      · rcases c1 e with ⟨C, e2⟩ | ⟨t, e2⟩ <;> rw [e2] <;> rcases va_null ad x with e3 | ⟨q, e3⟩ <;> rw [e3] <;> rfl
    · simp only [stM, e, show Nat.beq 2 1 = false from rfl, show Nat.beq 2 2 = true from rfl, cond_false, cond_true] at h
      obtain ⟨x, v, r, rfl, g1⟩ := in_IR h
      obtain ⟨⟨htk, hx0, hx1⟩, g1⟩ := in_no g1
      rw [List.map_cons, List.map_cons]
      refine main v (.int x) r _ htk g1 (tl1 (tl1 hsv)) rfl (fun _ => rfl) (fun _ _ hu => wr_ne hu) (fun _ _ _ => rfl) (fun j => hT.2.2.2.1 v j) (fun j hj => if_neg (fun q => hj q.2)) (fun _ _ => rfl) ?_ (by rw [c2 e]; exact (ch_ok hx0 hx1).1) (by rw [c2 e]; exact (ch_ok hx0 hx1).2)
      rw [← q3, e, wr_rd, if_pos ⟨rfl, rfl⟩]; rfl
  case iastore =>
    simp only [Bool.and_eq_true] at hq
    obtain rfl := nb_eq hq.2
    obtain ⟨x, i, v, r, rfl, g1⟩ := in_IIR h
    obtain ⟨⟨⟨hk, hi⟩, k8⟩, g1⟩ := in_no g1
    obtain ⟨k1, k2, -⟩ := tk_kind (κ := 2) hT hk (by decide)
    rw [List.map_cons, List.map_cons, List.map_cons, va_nz k2]
    have hpt := cs_at (c := gC G) (ad := ad) k8 k1
    rw [ce_int hk (Or.inl rfl)] at hpt
    refine va_iast hx hb hK2 hP hD hS (v - 8) 0 hpt (ty_at _).1 hi hd (fun H1 locs1 p1 d1 s1 => ?_)
    have hce : ceM (gC G) ad (wrM σ v i.toNatClampNeg x) v = .inl (gC G 2, (tkM σ v).2, .inl (rdM (wrM σ v i.toNatClampNeg x) v)) := ce_int (κ := 2) hk (Or.inl rfl)
    rw [upd_wr, ← hce] at p1 d1
    exact go g1 rfl (Rp_set hR k8 k1 rfl (fun _ => rfl) (fun _ _ hu => wr_ne hu) (fun _ _ _ => rfl) (fun j => hT.2.2.2.1 v j) p1 d1) s1 (tl1 (tl1 (tl1 hsv)))
  case bastore =>
    simp only [Bool.and_eq_true] at hq
    obtain rfl := nb_eq hq.2
    obtain ⟨x, i, v, r, rfl, g1⟩ := in_IIR h
    obtain ⟨⟨hk, hi⟩, g1⟩ := in_no g1
    obtain ⟨k1, k2, k3⟩ := tk_kind (κ := 3) hT hk (by decide)
    have k8 := k3 (by decide)
    rw [List.map_cons, List.map_cons, List.map_cons, va_nz k2]
    have hpt := cs_at (c := gC G) (ad := ad) k8 k1
    rw [ce_int hk (Or.inr (Or.inl rfl))] at hpt
    refine va_zast hx hb hK2 hP hD hS (v - 8) 1 hpt (ty_at _).2.1 hi hd (fun H1 locs1 p1 d1 s1 => ?_)
    have hce : ceM (gC G) ad (wrM σ v i.toNatClampNeg (x &&& 1)) v = .inl (gC G 3, (tkM σ v).2, .inl (rdM (wrM σ v i.toNatClampNeg (x &&& 1)) v)) := ce_int (κ := 3) hk (Or.inr (Or.inl rfl))
    rw [show vp_nar .boolean x = x &&& 1 from rfl, upd_wr, ← hce] at p1 d1
    exact go g1 rfl (Rp_set hR k8 k1 rfl (fun _ => rfl) (fun _ _ hu => wr_ne hu) (fun _ _ _ => rfl) (fun j => hT.2.2.2.1 v j) p1 d1) s1 (tl1 (tl1 (tl1 hsv)))
  case aastore =>
    simp only [Bool.and_eq_true] at hq
    obtain rfl := nb_eq hq.2
    obtain ⟨x, i, v, r, rfl, g1⟩ := in_RIR h
    obtain ⟨⟨⟨hk, hi⟩, hxk⟩, g1⟩ := in_no g1
    obtain ⟨k1, k2, k3⟩ := tk_kind (κ := 6) hT hk (by decide)
    have k8 := k3 (by decide)
    obtain ⟨j1, j2, j3⟩ := tk_kind (κ := 1) hT (by rw [hxk]) (Nat.le_refl 1)
    have j8 := j3 (by decide)
    rw [List.map_cons, List.map_cons, List.map_cons, va_nz k2, va_nz j2]
    have hpt := cs_at (c := gC G) (ad := ad) k8 k1
    rw [ce_ref hk] at hpt
    have hpx := cs_at (c := gC G) (ad := ad) j8 j1
    rw [ce_obj hxk] at hpx
    refine va_astq (r := clM 2) hx hb hK2 hP hD hS (v - 8) 3 (x - 8) 2 hpt (ty_at _).2.2.2 hpx (cl_at (by decide)) hi hd (fun H1 locs1 p1 d1 s1 => ?_)
    have hrow : (va_up (fun j => rfM ad (prM σ v j)) i.toNatClampNeg (some (ad x))) = fun j => rfM ad (prM (wpM σ v i.toNatClampNeg x) v j) := by
      funext j
      show (if j = i.toNatClampNeg then some (ad x) else rfM ad (prM σ v j)) = rfM ad (if v = v ∧ j = i.toNatClampNeg then x else prM σ v j)
      by_cases e : j = i.toNatClampNeg
      · simp only [e, and_self, if_true]; unfold rfM; rw [if_neg j2]
      · simp [e]
    have hce : ceM (gC G) ad (wpM σ v i.toNatClampNeg x) v = .inl (gC G 6, (tkM σ v).2, .inr (.inr (.inr (.inr fun j => rfM ad (prM (wpM σ v i.toNatClampNeg x) v j))))) := ce_ref hk
    rw [hrow, ← hce] at p1 d1
    refine go g1 rfl (Rp_set hR k8 k1 rfl (fun _ => rfl) (fun _ _ _ => rfl) (fun _ _ hu => wp_ne hu) (fun j => ?_) p1 d1) s1 (tl1 (tl1 (tl1 hsv)))
    rw [wp_pr]; split
    · exact j1
    · exact hT.2.2.2.1 v j
  all_goals exact absurd hsp (fun z => z)
end
section
theorem nw_tk (σ : Mem) (κ n u : Nat) : tkM (nwM σ κ n) u = if u = nxM σ then (κ, n) else tkM σ u := rfl
theorem nw_rd (σ : Mem) (κ n u i : Nat) : rdM (nwM σ κ n) u i = if u = nxM σ then 0 else rdM σ u i := rfl
theorem nw_pr (σ : Mem) (κ n u i : Nat) : prM (nwM σ κ n) u i = if u = nxM σ then 0 else prM σ u i := rfl
theorem nw_nx (σ : Mem) (κ n : Nat) : nxM (nwM σ κ n) = nxM σ + 1 := rfl
theorem Rp_new {G : GlM} {ad : Nat → Nat} {σ : Mem} {H H1 : Heap} {κ n q : Nat} {e : va_E} (h : RpM G ad σ H) (hk : 1 ≤ κ)
    (he : ceK (gC G) (fun u => if u = nxM σ then q else ad u) (fun _ => 0) (fun _ => 0) κ n = e) (hP : va_P (gD G) vwCl (csM (gC G) ad σ ++ [(q, e)]) H1) (hD : va_D (gU G) (csM (gC G) ad σ ++ [(q, e)])) :
    RpM G (fun u => if u = nxM σ then q else ad u) (nwM σ κ n) H1 := by
  obtain ⟨-, -, ⟨a1, a2, a3, a4, a5⟩, a6⟩ := h
  have hlt : ∀ u, u < nxM σ → u ≠ nxM σ := fun u hu => by omega
  have e1 := cs_new (c := gC G) (ad := ad) (ad' := fun u => if u = nxM σ then q else ad u) (σ := σ) (σ' := nwM σ κ n) a1 rfl (fun u hu => by rw [nw_tk, if_neg (hlt u hu)]) (fun u j hu => by rw [nw_rd, if_neg (hlt u hu)]) (fun u j hu => by rw [nw_pr, if_neg (hlt u hu)]) a4 (fun u hu => if_neg (hlt u hu))
  have e2 : ceM (gC G) (fun u => if u = nxM σ then q else ad u) (nwM σ κ n) (nxM σ) = e := by
    unfold ceM
    rw [nw_tk, if_pos rfl, show rdM (nwM σ κ n) (nxM σ) = fun _ => 0 from funext fun i => by rw [nw_rd, if_pos rfl], show prM (nwM σ κ n) (nxM σ) = fun _ => 0 from funext fun i => by rw [nw_pr, if_pos rfl]]
    exact he
  rw [e2] at e1
  rw [if_pos rfl] at e1
  refine ⟨by rw [e1]; exact hP, by rw [e1]; exact hD, ⟨by rw [nw_nx]; omega, fun v hv => ?_, ?_, fun v j => ?_, fun v p1 p2 => ?_⟩, fun v p1 p2 => ?_⟩
  · rw [nw_nx] at hv
    rw [nw_tk, if_neg (by omega)]; exact a2 v (by omega)
  · rw [nw_tk, if_neg (by omega)]; exact a3
  · rw [nw_nx, nw_pr]; split
    · omega
    · have := a4 v j; omega
  · rw [nw_tk, if_neg (by omega)]
    exact ⟨(a5 v p1 p2).1, fun j => by rw [nw_rd, if_neg (by omega)]; exact (a5 v p1 p2).2 j⟩
  · show (if v = nxM σ then q else ad v) = _
    rw [if_neg (by omega)]; exact a6 v p1 p2
theorem cl_wd : ∀ ci, ci < 5 → Cond.instantiable (clM ci).1 (clM ci).2.2 ∈ lw_tbl ∧ Cond.initialized (clM ci).1 ∈ lw_tbl := by
  intro ci h
  rcases (show ci = 0 ∨ ci = 1 ∨ ci = 2 ∨ ci = 3 ∨ ci = 4 by omega) with rfl | rfl | rfl | rfl | rfl <;> exact ⟨by decide +kernel, by decide +kernel⟩
theorem ar_wd : Cond.arrayClass .int ∈ lw_tbl ∧ Cond.arrayClass .boolean ∈ lw_tbl ∧ Cond.arrayClass .char ∈ lw_tbl := ⟨by decide +kernel, by decide +kernel, by decide +kernel⟩
theorem sw_find {pc d : Nat} {x : Int32} {f : Nat → Option OutM} {o : OutM} {dflt : Int} (hd : (pc : Int) + dflt = (d : Int)) : ∀ (l : List Nat) (ps : List (Int × Int)), swOk pc l ps = true → swM x d f l = some o → ∃ (t : Nat) (off : Int), Op.lookupswitch.offset ps dflt x.toInt = off ∧ (pc : Int) + off = (t : Int) ∧ f t = some o
  | [], [], _, h => ⟨d, dflt, rfl, hd, h⟩
  | [], _ :: _, h, _ => by simp [swOk] at h
  | [_], [], h, _ => by simp [swOk] at h
  | [_], _ :: _, h, _ => by simp [swOk] at h
  | _ :: _ :: _, [], h, _ => by simp [swOk] at h
  | k :: t :: r, (y, o') :: ps, h, g => by
    simp only [swOk, Bool.and_eq_true, decide_eq_true_eq] at h
    obtain ⟨⟨⟨h1, h2⟩, h3⟩, h4⟩ := h
    have hk : (Int32.ofNat k).toInt = y := by rw [h2]; exact nI_toInt (by omega)
    unfold swM at g
    by_cases e : x = Int32.ofNat k
    · rw [if_pos e] at g
      exact ⟨t, o', by rw [Op.lookupswitch.offset_cons, if_pos (by rw [e, hk])], h3, g⟩
    · rw [if_neg e] at g
      obtain ⟨t', off, q1, q2, q3⟩ := sw_find hd r ps h4 g
      exact ⟨t', off, by rw [lv_osw e hk]; exact q1, q2, q3⟩
theorem tb_off (os : List Int) (d : Int) : ∀ (n : Nat) (x : Int), Op.lookupswitch.offset (((List.range' n os.length).map (fun q : Nat => (q : Int))).zip os) d x = if (n : Int) ≤ x ∧ x < n + os.length then os.getD (x - n).toNat 0 else d := by
  induction os with
  | nil => intro n x; simp only [List.length_nil, List.range'_zero, List.map_nil, List.zip_nil_left]; rw [if_neg (by simp <;> omega)]; rfl
  | cons a os ih =>
    intro n x
    simp only [List.length_cons, List.range'_succ, List.map_cons, List.zip_cons_cons]
    rw [Op.lookupswitch.offset_cons]
    by_cases e : (n : Int) = x
    · rw [if_pos e, if_pos (by omega)]
      have : (x - n).toNat = 0 := by omega
      rw [this]; rfl
    · rw [if_neg e, ih (n + 1) x]
      by_cases c : ((n + 1 : Nat) : Int) ≤ x ∧ x < ((n + 1 : Nat) : Int) + os.length
      · rw [if_pos c, if_pos (by omega)]
        have : (x - n).toNat = (x - ((n + 1 : Nat) : Int)).toNat + 1 := by omega
        rw [this]; rfl
      · rw [if_neg c, if_neg (by omega)]
def pnM (ic : IcM) : Prop := match ic.1 with
  | .newarray _ | .anewarray _ | .tableswitch _ _ _ _ | .ireturn | .lreturn | .return_ | .new _ => True
  | _ => False
set_option maxHeartbeats 8000000 in
theorem sim_c {G : GlM} {l : Launch} {k : Nat} {ic : IcM} {fr : FrM} {σ : Mem} {o : OutM} {Φ : Nat → List Value → Mem → Option OutM} {K : FrM → Mem → Option OutM}
    (hmt : MtP k) (hK : ∀ fr' σ', K fr' σ' = some o → WsM G l k fr' σ' o) (hok : okM k fr.1 ic = true) (hsp : pnM ic) (h : stM Φ K k ic fr σ = some o) : WsM G l k fr σ o := by
  obtain ⟨pc, la, sa, kc, ks⟩ := fr
  obtain ⟨i, len, a, cst⟩ := ic
  intro p e R s m args below meth c ad H locs Q ls st hA hR hS hL hsk hX
  obtain ⟨rfl, hsv⟩ := hsk
  obtain ⟨⟨hx, hb, hml, hrt, hlk, hnm, hown⟩, hts, hE, hr1, hr2, hr3, hr4⟩ := id hA
  obtain ⟨hP, hD, hT, hAd⟩ := id hR
  obtain ⟨hE1, hK2, hT2, hB0, hAO⟩ := id hE
  have hts2 : ∀ w ∈ lw_tbl.filter goodWord, w.before args s = true := fun w hw => hts w (List.mem_filter.mp hw).1 (List.mem_filter.mp hw).2
  have hok0 := hok
  unfold okM at hok
  dsimp only at hok
  rw [Bool.and_eq_true] at hok
  obtain ⟨hd, hq⟩ := hok
  replace hd := of_decide_eq_true hd
  have tl1 : ∀ {v : Value} {r : List Value}, (∀ w ∈ v :: r, vkM (nxM σ) w = true) → ∀ w ∈ r, vkM (nxM σ) w = true := fun h => (List.forall_mem_cons.mp h).2
  have hUA : ∀ q : Nat, s.heap.size ≤ q → gU G q := fun q hq => Nat.le_trans hB0 hq
  have go : ∀ {pc' : Nat} {sa' : List Value}, K (pc', la, sa', kc, ks) σ = some o → (∀ v ∈ sa', vkM (nxM σ) v = true) → W p l e R s m args below meth c H locs kc ks Q (F0 m pc' ls (sa'.map (vaM ad))) :=
    fun h h3 => hK _ _ h p e R s m args below meth c ad _ _ Q _ _ hA hR hS hL ⟨rfl, h3⟩ hX
  have gn : ∀ {pc' κ n q kc' ks' : Nat} {r : List Value} {H1 : Heap} {ex : va_E}, K (pc', la, .ref (nxM σ) :: r, kc', ks') (nwM σ κ n) = some o → 1 ≤ κ → (∀ v ∈ r, vkM (nxM σ) v = true) → ceK (gC G) (fun u => if u = nxM σ then q else ad u) (fun _ => 0) (fun _ => 0) κ n = ex → va_P (gD G) vwCl (csM (gC G) ad σ ++ [(q, ex)]) H1 → va_D (gU G) (csM (gC G) ad σ ++ [(q, ex)]) → va_S (gU G) s.heap H1 locs →
      W p l e R s m args below meth c H1 locs kc' ks' Q (F0 m pc' ls (.ref q :: r.map (vaM ad))) := by
    intro pc' κ n q kc' ks' r H1 ex h hk hr he p1 d1 s1
    have h8 : 8 ≤ nxM σ := hT.1
    have hag : ∀ u, u < nxM σ → (fun u => if u = nxM σ then q else ad u) u = ad u := fun u hu => if_neg (by omega)
    obtain ⟨e1, e2⟩ := Sk_ad (n' := nxM σ + 1) (ad' := fun u => if u = nxM σ then q else ad u) hr (Nat.le_succ _) hag
    have g := hK _ _ h p e R s m args below meth c (fun u => if u = nxM σ then q else ad u) H1 locs Q ls _ hA (Rp_new hR hk he p1 d1) s1 (Lo_ad hL (Nat.le_succ _) hag) ⟨rfl, List.forall_mem_cons.mpr ⟨decide_eq_true (Nat.lt_succ_self _), e2⟩⟩ (Xi_mono hX (Nat.le_succ _) hag)
    rw [List.map_cons, ← e1, va_nz (by omega)] at g
    dsimp only at g
    rw [if_pos rfl] at g
    exact g
  cases i
  case ireturn =>
    simp only [Bool.and_eq_true, Bool.or_eq_true, decide_eq_true_eq] at hq
    obtain ⟨⟨⟨q1, q2⟩, q3⟩, q4⟩ := hq
    obtain rfl := nb_eq q3
    rcases sa with - | ⟨v, r⟩
    · cases h
    · rcases r with - | ⟨w, r⟩
      · cases v <;> first | cases h | skip
        case int x =>
          obtain ⟨⟨g1, g2⟩, h⟩ := in_no (c := kc ≤ gaM a 0 ∧ ks ≤ gaM a 1) h
          have key : (rtM k = some .int ∨ (rtM k = some .boolean ∧ (x = 0 ∨ x = 1))) ∧ some ((.inl (some (.int x)), σ) : OutM) = some o := by
            rcases q4 with ⟨e1, e2⟩ | ⟨e1, e2⟩
            · rw [e1] at h; exact ⟨Or.inl e2, h⟩
            · rw [e1] at h
              obtain ⟨h1, h2⟩ := in_no (c := x = 0 ∨ x = 1) h
              exact ⟨Or.inr ⟨e2, h1⟩, h2⟩
          obtain ⟨k1, k2⟩ := key
          obtain rfl := Option.some.inj k2
          exact hX ad H locs kc ks pc ls (fun _ _ => rfl) (Nat.le_refl _) hR hS (by rw [← q1]; exact g1) (by rw [← q2]; exact g2) ⟨hd, k1⟩ rfl
      · cases v <;> cases h
  case lreturn =>
    simp only [Bool.and_eq_true, Bool.or_eq_true, decide_eq_true_eq] at hq
    obtain ⟨⟨⟨q1, q2⟩, q3⟩, q4⟩ := hq
    obtain rfl := nb_eq q3
    rcases sa with - | ⟨v, r⟩
    · cases h
    · rcases r with - | ⟨w, r⟩
      · cases v <;> first | cases h | skip
        case long x =>
          obtain ⟨⟨g1, g2⟩, h⟩ := in_no (c := kc ≤ gaM a 0 ∧ ks ≤ gaM a 1) h
          obtain rfl := Option.some.inj h
          exact hX ad H locs kc ks pc ls (fun _ _ => rfl) (Nat.le_refl _) hR hS (by rw [← q1]; exact g1) (by rw [← q2]; exact g2) ⟨hd, q4⟩ rfl
      · cases v <;> cases h
  case return_ =>
    simp only [Bool.and_eq_true, Bool.or_eq_true, decide_eq_true_eq] at hq
    obtain ⟨⟨⟨q1, q2⟩, q3⟩, q4⟩ := hq
    obtain rfl := nb_eq q3
    rcases sa with - | ⟨v, r⟩
    · obtain ⟨⟨g1, g2⟩, h⟩ := in_no (c := kc ≤ gaM a 0 ∧ ks ≤ gaM a 1) h
      obtain rfl := Option.some.inj h
      exact hX ad H locs kc ks pc ls (fun _ _ => rfl) (Nat.le_refl _) hR hS (by rw [← q1]; exact g1) (by rw [← q2]; exact g2) ⟨hd, q4⟩ trivial
    · cases h
  case tableswitch d lo hi os =>
    simp only [Bool.and_eq_true, tgM, decide_eq_true_eq] at hq
    obtain ⟨⟨⟨ht, rfl⟩, q2⟩, q3⟩ := hq
    obtain ⟨x, r, rfl, g1⟩ := in_I1 h
    obtain ⟨t, off, w1, w2, w3⟩ := sw_find ht _ _ q3 g1
    have w4 := tb_off os.toList d 0 x.toInt
    rw [List.range_eq_range', show os.size = os.toList.length from rfl] at w1
    rw [w1] at w4
    by_cases c1 : x.toInt < 0 ∨ hi < x.toInt
    · rw [if_neg (by have : os.toList.length = os.size := rfl; omega)] at w4
      subst w4
      exact lv_tableOut hx hb hd c1 w2 (go w3 (tl1 hsv))
    · have hsz : os.toList.length = os.size := rfl
      rw [if_pos (by omega)] at w4
      refine lv_tableIn hx hb hd (by omega) (by omega) (off := off) ?_ w2 (go w3 (tl1 hsv))
      rw [w4]
      have hlt : (x.toInt - 0).toNat < os.size := by omega
      rw [Array.getElem?_eq_getElem hlt, List.getD_eq_getElem?_getD, Array.getElem?_toList, show (x.toInt - ((0 : Nat) : Int)).toNat = (x.toInt - 0).toNat from rfl, Array.getElem?_eq_getElem hlt]
      rfl
  case new n =>
    simp only [Bool.and_eq_true, decide_eq_true_eq] at hq
    obtain ⟨⟨⟨q1, q2⟩, q3⟩, q4⟩ := hq
    obtain rfl := nb_eq q1
    obtain ⟨⟨g1, g2⟩, h⟩ := in_no h
    simp only [Bool.and_eq_true, decide_eq_true_eq, atM] at q4
    obtain ⟨⟨j1, j2⟩, j3⟩ := q4
    obtain ⟨w1, w2⟩ := cl_wd _ j1
    refine va_new (C := (clM (gaM a 1)).1) (T := (clM (gaM a 1)).2.1) (N := (clM (gaM a 1)).2.2) (ci := gaM a 1) (fs := (List.range (clM (gaM a 1)).2.2).map fun k => bif Nat.beq (fkN (gaM a 1) k) 1 then Value.null else .int 0) hx hb hts2 (cl_ws _ j1) (tyN (gaM a 1)) (cl_ty _ j1) hown (hts _ (List.mem_of_getElem? j3) rfl) (hts _ w1 rfl) (hts _ w2 rfl) hK2 hP hD hS hUA (cl_at j1) ?_ (Nat.le_trans g1 (by rw [q2]; exact hr3)) (Nat.le_trans (by rw [← j2]; exact g2) (by rw [q3]; exact hr4)) hd (fun q H1 p1 d1 s1 => ?_)
    · intro j hj
      obtain ⟨c0, c2, c1, c3⟩ := cl_kind _ j1 _ hj
      unfold vp_V
      rw [List.getD_eq_getElem?_getD, Ru_get (f := fun k => bif Nat.beq (fkN (gaM a 1) k) 1 then Value.null else .int 0) hj]
      rcases (show fkN (gaM a 1) j = 0 ∨ fkN (gaM a 1) j = 1 ∨ fkN (gaM a 1) j = 2 by omega) with e | e | e
      · rw [c0 e]; simp only [e]; rfl
      · simp only [e]; rcases c1 e with ⟨C, e2⟩ | ⟨t, e2⟩ <;> rw [e2] <;> rfl
      · rw [c2 e]; simp only [e]; rfl
    · rw [← j2]
      exact gn h (Nat.le_refl 1) hsv (by rfl) p1 d1 s1
  case newarray t =>
    simp only [Bool.and_eq_true, decide_eq_true_eq] at hq
    obtain ⟨⟨⟨⟨⟨q1, q2⟩, q3⟩, q4⟩, q5⟩, q6⟩ := hq
    obtain rfl := nb_eq q1
    obtain ⟨x, r, rfl, g1⟩ := in_I1 h
    obtain ⟨⟨g2, g3, g4, g5⟩, g1⟩ := in_no g1
    rw [q2] at g4
    rw [q3] at g5
    obtain ⟨w1, w2, w3⟩ := ar_wd
    have hcls : ∀ (ty : FieldType) (cA : ClassId) (i : Nat) (cB : ClassId), (∀ C, ty ≠ .object C) → va_K (gD G) vwCl (tysM (gC G) ++ [(cA, ty)]) s → (tysM (gC G))[i]? = some (cB, ty) → cA = cB := by
      intro ty cA i cB hne hk hi
      have h1 := (hk.2 4 (cA, ty) rfl).2
      have h2 := (hK2.2 i (cB, ty) hi).2
      cases ty <;> first | exact absurd rfl (hne _) | exact Option.some.inj (h1.symm.trans h2)
    have fin : ∀ (ty : FieldType) (a0 : vp_A) (i : Nat), gaM a 0 < 5 → 2 ≤ gaM a 0 → newarray.typeOf t = ty → (∀ C, ty ≠ .object C) → Cond.arrayClass ty ∈ lw_tbl → (tysM (gC G))[i]? = some (gC G (gaM a 0), ty) → (∀ cA : ClassId, vp_cell cA a0 = arrV cA x.toNatClampNeg (fun _ => defaultValue ty)) → (∀ ad' : Nat → Nat, ceK (gC G) ad' (fun _ => 0) (fun _ => 0) (gaM a 0) x.toNatClampNeg = .inl (gC G (gaM a 0), a0)) → componentBytes ty ≤ 8 →
        W p l e R s m args below meth c H locs kc ks Q (F0 m pc ls (.int x :: r.map (vaM ad))) := by
      intro ty a0 i h1 h2 h3 h4 h5 h6 h7 h8 h9
      refine va_newa (ty := ty) (a0 := a0) hx hb (by rw [h3]; exact hts _ h5 rfl) h3 hK2 hP hD hS hUA h7 g2 rfl (by have := Nat.mul_le_mul g3 h9; omega) (Nat.le_trans g4 hr3) (Nat.le_trans g5 hr4) hd (fun q cA H1 k1 p1 d1 s1 => ?_)
      obtain rfl := hcls ty cA i _ h4 k1 h6
      exact gn g1 (by omega) (tl1 hsv) (h8 _) p1 d1 s1
    rw [List.map_cons]
    rcases (show gaM a 0 = 2 ∨ gaM a 0 = 3 ∨ gaM a 0 = 4 by omega) with e | e | e <;> rw [e] at q6
    · exact fin .int (x.toNatClampNeg, .inl fun _ => 0) 0 q5 q4 q6 (fun C => by intro z; cases z) w1 (by rw [e]; rfl) (fun cA => rfl) (fun ad' => by rw [e]; rfl) (by decide)
    · exact fin .boolean (x.toNatClampNeg, .inl fun _ => 0) 1 q5 q4 q6 (fun C => by intro z; cases z) w2 (by rw [e]; rfl) (fun cA => rfl) (fun ad' => by rw [e]; rfl) (by decide)
    · exact fin .char (x.toNatClampNeg, .inl fun _ => 0) 2 q5 q4 q6 (fun C => by intro z; cases z) w3 (by rw [e]; rfl) (fun cA => rfl) (fun ad' => by rw [e]; rfl) (by decide)
  case anewarray n =>
    simp only [Bool.and_eq_true, decide_eq_true_eq, atM] at hq
    obtain ⟨⟨⟨q1, q2⟩, q3⟩, q4⟩ := hq
    obtain rfl := nb_eq q1
    obtain ⟨x, r, rfl, g1⟩ := in_I1 h
    obtain ⟨⟨g2, g3, g4, g5⟩, g1⟩ := in_no g1
    rw [q2] at g4
    rw [q3] at g5
    rw [List.map_cons]
    refine va_newq (C := RX2) hx hb hown (hts _ (List.mem_of_getElem? q4) rfl) hAO hK2 hP hD hS hUA g2 rfl (by omega) (Nat.le_trans g4 hr3) (Nat.le_trans g5 hr4) hd (fun q cA H1 k1 p1 d1 s1 => ?_)
    have hcA : cA = gC G 6 := by
      obtain ⟨kA, comp, -, -, -, h1⟩ := (k1.2 4 (cA, .object RX2) rfl).2
      obtain ⟨kA2, comp2, -, -, -, h2⟩ := (hK2.2 3 (gC G 6, .object RX2) rfl).2
      exact Option.some.inj (h1.symm.trans h2)
    subst hcA
    exact gn g1 (by omega) (tl1 hsv) (by rfl) p1 d1 s1
  all_goals exact absurd hsp (fun z => z)
end
section
/-! A callee's contract out of its run, and a call. -/
def wsC (k : Nat) : List Cond := cwM k :: lw_tbl.filter goodWord
def rmC (k : Nat) : Room := { frames := nfM k, cells := ncM k, slots := nsM k, locals := nlM k }
def PcC (G : GlM) (ad : Nat → Nat) (as : List Value) (σ : Mem) : Array Value → State → Prop := va_Pc (as.map (vaM ad)) (fun U => EvG G U ∧ RpM G ad σ U.heap)
def EnC (G : GlM) (ad : Nat → Nat) (σ σ' : Mem) (ad' : Nat → Nat) (st t : State) : Prop := (∀ u, u < nxM σ → ad' u = ad u) ∧ nxM σ ≤ nxM σ' ∧ RpM G ad' σ' t.heap ∧ va_F (gU G) st t
def QcC (G : GlM) (ad : Nat → Nat) (σ : Mem) (o : OutM) : Array Value → State → Outcome → State → Prop := fun _ st oc t =>
  match o with
  | (.inl v, σ') => ∃ ad', oc = .returned (v.map (vaM ad')) ∧ EnC G ad σ σ' ad' st t ∧ voM (nxM σ') v
  | (.inr _, _) => False
theorem Pc_blind {G : GlM} {ad : Nat → Nat} {as : List Value} {σ : Mem} : FrameBlind (PcC G ad as σ) := fun a U g mk h => ⟨h.1, Ev_same h.2.1 rfl rfl, h.2.2⟩
theorem ow_in {k : Nat} (h : MtP k) : ∀ c, ocM k = c → c < 6 → Cond.initialized (owM k) ∈ lw_tbl ∧ plainName (owM k) = true ∧ owM k ≠ "java/lang/invoke/MethodHandle" ∧ owM k ≠ "java/lang/invoke/VarHandle" := by
  intro c hc h7
  rw [h.1, hc]
  exact ⟨rc_init c h7, rc_plain c h7⟩
theorem lv_args1 (f : Nat → Value) : True := trivial
theorem lv_args_at (ad : Nat → Nat) : ∀ (as : List Value) (j : Nat), (∀ v ∈ as, isOne v = true) → (∀ (i : Nat) (v : Value), as[i]? = some v → (j + i, vaM ad v) ∈ lv_args j (as.map (vaM ad))) ∧ (∀ q ∈ lv_args j (as.map (vaM ad)), q.2.category = 1)
  | [], j, _ => ⟨fun i v h => by simp at h, fun q h => by cases h⟩
  | a :: as, j, h => by
    obtain ⟨h1, h2⟩ := List.forall_mem_cons.mp h
    have hc : (vaM ad a).category = 1 := va_cat1 h1
    have e : lv_args j ((a :: as).map (vaM ad)) = (j, vaM ad a) :: lv_args (j + 1) (as.map (vaM ad)) := by
      show (j, vaM ad a) :: lv_args (if (vaM ad a).category = 2 then j + 2 else j + 1) _ = _
      rw [hc]; rfl
    rw [e]
    obtain ⟨i1, i2⟩ := lv_args_at ad as (j + 1) h2
    refine ⟨fun i v hv => ?_, fun q hq => ?_⟩
    · cases i with
      | zero => cases hv; exact List.mem_cons_self
      | succ i =>
        have := i1 i v hv
        rw [show j + 1 + i = j + (i + 1) by omega] at this
        exact List.mem_cons_of_mem _ this
    · rcases List.mem_cons.mp hq with rfl | hq
      · exact hc
      · exact i2 q hq
theorem lg_len (ad : Nat → Nat) : ∀ (as : List Value), (∀ v ∈ as, isOne v = true) → (lg_sl (as.map (vaM ad))).length = as.length
  | [], _ => rfl
  | a :: as, h => by
    obtain ⟨h1, h2⟩ := List.forall_mem_cons.mp h
    have hc : (vaM ad a).category = 1 := va_cat1 h1
    show (List.flatMap _ (vaM ad a :: as.map (vaM ad))).length = _
    rw [List.flatMap_cons, List.length_append, if_neg (by rw [hc]; decide)]
    have := lg_len ad as h2
    unfold lg_sl at this
    rw [this, List.length_cons]
    simp; omega
theorem en_get {k : Nat} {as : List Value} {i : Nat} {v : Value} (h : (enM k as).2.1[i]? = some (some v)) : as[i]? = some v := by
  show as[i]? = some v
  have h : (as.map some ++ List.replicate (mxM k - as.length) none)[i]? = some (some v) := h
  by_cases hi : i < as.length
  · rw [List.getElem?_append_left (by simpa using hi), List.getElem?_map] at h
    cases e : as[i]? with
    | none => rw [e] at h; cases h
    | some w => rw [e] at h; exact congrArg _ (Option.some.inj (Option.some.inj h))
  · rw [List.getElem?_append_right (by simpa using hi)] at h
    have := List.mem_of_getElem? h
    rw [List.mem_replicate] at this
    cases this.2
theorem wk_use {w : Cond} {s : State} {args : Array Value} (hw : wkM w = true) (h : va_Nw w s) : w.before args s = true := by
  refine va_Nw.use ?_ h
  cases w <;> first | rfl | cases hw
set_option maxHeartbeats 8000000 in
/-- a method's run is a contract -/
theorem Met_of {G : GlM} {l : Launch} {k : Nat} {ad : Nat → Nat} {as : List Value} {σ σ' : Mem} {v : Option Value} (hmt : MtP k) (hoc : ocM k < 6) (hw : WsM G l k (enM k as) σ (.inl v, σ')) (hlen : as.length ≤ mxM k) (has : ∀ v ∈ as, isOne v = true) (hav : ∀ v ∈ as, vkM (nxM σ) v = true) :
    Met l (yM k) (wsC k) (rmC k) (PcC G ad as σ) (QcC G ad σ (.inl v, σ')) (ncM k) (nsM k) (gU G) := by
  have hpn : plainName (yM k).cls = true := (ow_in hmt _ rfl hoc).2.1
  refine Met.ofW (cc := byM k) (maxL := mxM k) (ret := rtM k) (ws' := lw_tbl.filter goodWord) hpn rfl ?_
  intro p e s m args below meth c s₁ B hml hv
  obtain ⟨rfl, hE, hR⟩ := hv
  have hts := atoms_spec (ws := wsC k) B.pre
  have hgw : ∀ w ∈ lw_tbl, goodWord w = true → w.before ((as.map (vaM ad)).toArray) s = true := fun w h1 h2 => hts w (List.mem_cons_of_mem _ (List.mem_filter.mpr ⟨h1, h2⟩))
  have hA : AcM G l k p (headSpec (wsC k) (rmC k)).room s m ((as.map (vaM ad)).toArray) meth c := ⟨⟨B.exec, B.bytes, hml, B.returns, B.notSynchronized, (name_of_methodNamed B.named B.method).1, findClass_of_methodNamed B.named⟩, hgw, hE, Nat.le_refl _, Nat.le_refl _, Nat.le_refl _, Nat.le_refl _⟩
  have hlv := lv_entry (as.map (vaM ad)) (n := mxM k) (by rw [lg_len ad as has]; exact hlen)
  rw [lg_entry_eq]
  obtain ⟨a1, a2⟩ := lv_args_at ad as 0 has
  refine hw p e _ s m _ below meth c ad s.heap [] _ _ [] hA hR va_S.rf ⟨_, hlv, fun q hq => Or.inl (a2 q hq), fun i v hv => ?_⟩ ⟨rfl, fun v h => by cases h⟩ ?_
  · have h1 := en_get hv
    have h2 := a1 i v h1
    rw [Nat.zero_add] at h2
    exact ⟨h2, hav v (List.mem_of_getElem? h1)⟩
  · intro ad' H' locs' kc ks pc ls h1 h2 h3 h4 h5 h6 h7 h8
    refine W.widen h5 h6 ?_
    have post : ∀ (t : State), t.heap = H' → QcC G ad σ ((.inl v, σ') : OutM) ((as.map (vaM ad)).toArray) s (.returned (v.map (vaM ad'))) t := fun t ht => ⟨ad', rfl, ⟨h1, h2, by rw [ht]; exact h3, h4.F ht⟩, h8⟩
    cases v with
    | none => exact W.vret B.exec B.bytes (B.returns.trans h7.2) (fun t ht _ => post t ht) h4.2.2 h7.1 (hlocks := B.notSynchronized)
    | some v =>
      cases v <;> first | exact absurd h7 (fun z => z) | skip
      case int x =>
        rcases h7.2 with e | ⟨e, e2⟩
        · exact W.iret B.exec B.bytes (B.returns.trans e) (fun t ht _ => post t ht) h4.2.2 h7.1 (hlocks := B.notSynchronized)
        · exact W.zret B.exec B.bytes (B.returns.trans e) (by rcases e2 with rfl | rfl <;> rfl) (fun t ht _ => post t ht) h4.2.2 h7.1 (hlocks := B.notSynchronized)
      case long x => exact W.lret B.exec B.bytes (B.returns.trans h7.2) (fun t ht _ => post t ht) h4.2.2 h7.1 (hlocks := B.notSynchronized)
theorem va_keepS {st₀ t T' : State} {H : Heap} {s : State} {A : Nat → Prop} {locs L : List Loc} (h0 : st₀.heap = H) (e1 : T'.heap = t.heap) (hS : va_S A s.heap H locs) (hL : ∀ q ∈ L, A q.base) (hF : va_F A st₀ t) : va_S A s.heap T'.heap (locs ++ L) := by
  obtain ⟨hz, hk⟩ := hF
  rw [h0] at hz hk
  refine ⟨Nat.le_trans hS.1 (by rw [e1]; exact hz), fun q h1 h2 => by rw [e1, hk q (Nat.lt_of_lt_of_le h1 hS.1) h2]; exact hS.2.1 q h1 h2, fun q hq => ?_⟩
  rcases List.mem_append.mp hq with h | h
  · exact hS.2.2 q h
  · exact hL q h
/-- behind a call: what came back -/
theorem call_end {G : GlM} {l : Launch} {p : Program} {e : Env} {R : Room} {s : State} {m : MethodId} {args : Array Value} {below : List Frame} {meth : Method} {c : Code} {H : Heap} {locs : List Loc} {cells slots mc ms pc : Nat} {ls : Array Slot} {st0 rest : List Value} {Q : State → Prop} {a : Array Value} {ad : Nat → Nat} {σ σ' : Mem} {v : Option Value}
    (hr : va_Run p l e R s m args below meth c H locs cells slots mc ms (F0 m pc ls st0) rest (QcC G ad σ (.inl v, σ') a) (gU G)) (hS : va_S (gU G) s.heap H locs)
    (kv : ∀ (ad' : Nat → Nat) (H1 : Heap) (locs1 : List Loc), (∀ u, u < nxM σ → ad' u = ad u) → nxM σ ≤ nxM σ' → RpM G ad' σ' H1 → voM (nxM σ') v → va_S (gU G) s.heap H1 locs1 → W p l e R s m args below meth c H1 locs1 (cells + mc) (slots + ms) Q (F0 m (pc + 3) ls ((v.map (vaM ad')).toList ++ rest))) :
    W p l e R s m args below meth c H locs cells slots Q (F0 m pc ls st0) := by
  intro T hT X
  obtain ⟨v', st₀, t, T', L, h0, X', hL, e1, e2, hq, st⟩ := hr T hT X
  obtain ⟨ad', hv, ⟨g1, g2, g3, g4⟩, g5⟩ := hq
  cases hv
  obtain ⟨t2, a1, b1⟩ := kv ad' T'.heap (locs ++ L) g1 g2 (by rw [e1]; exact g3) g5 (va_keepS h0 e1 hS hL g4) T' rfl X'
  exact ⟨t2, st t2 a1, b1⟩
theorem take_rc {n : Nat} {sa : List Value} {b : Nat} {t : List Value} (hn : 1 ≤ n) (h : sa.drop (n - 1) = .ref b :: t) : t = sa.drop n ∧ (sa.take n).reverse = .ref b :: (sa.take (n - 1)).reverse ∧ sa = sa.take (n - 1) ++ .ref b :: sa.drop n := by
  have h1 : t = sa.drop n := by
    have : sa.drop n = (sa.drop (n - 1)).drop 1 := by rw [List.drop_drop]; congr 1; omega
    rw [this, h]; rfl
  have h2 : sa = sa.take (n - 1) ++ .ref b :: sa.drop n := by
    rw [← h1, ← h]; exact (List.take_append_drop _ _).symm
  refine ⟨h1, ?_, h2⟩
  have hl : n - 1 < sa.length := by
    rcases Nat.lt_or_ge (n - 1) sa.length with q | q
    · exact q
    · rw [List.drop_eq_nil_of_le q] at h; cases h
  have h3 : sa.take n = sa.take (n - 1) ++ [.ref b] := by
    have h4 : sa[n - 1]? = some (.ref b) := by
      have : (sa.drop (n - 1))[0]? = some (.ref b) := by rw [h]; rfl
      rw [List.getElem?_drop] at this
      simpa using this
    have h5 : n = (n - 1) + 1 := by omega
    rw [h5, List.take_add_one, h4]; rfl
  rw [h3, List.reverse_append]; rfl
theorem in_rc {n : Nat} {f : Nat → Option OutM} {st : List Value} {o : OutM} (h : rcM_ n f st = some o) : ∃ b t, st.drop (n - 1) = .ref b :: t ∧ f b = some o := by
  unfold rcM_ at h
  split at h
  · next b t e => exact ⟨b, t, e, h⟩
  · cases h
theorem gw_cw {k : Nat} (h : cwM k ∈ lw_tbl) : cwM k ∈ lw_tbl.filter goodWord := List.mem_filter.mpr ⟨h, rfl⟩
theorem wsC_good {k : Nat} (h : cwM k ∈ lw_tbl) : ∀ w ∈ wsC k, w ∈ lw_tbl.filter goodWord := by
  intro w hw
  rcases List.mem_cons.mp hw with rfl | hw
  · exact gw_cw h
  · exact hw
/-- the words of a callee hold at any later state -/
theorem wsC_pay {k : Nat} {s : State} {args : Array Value} (h : cwM k ∈ lw_tbl) (hts : ∀ w ∈ lw_tbl, goodWord w = true → w.before args s = true) : ∀ w ∈ wsC k, ∀ (a' : Array Value) (U : State), s.WarmedH U.vm → w.before a' U = true := by
  intro w hw a' U hW
  obtain ⟨h1, h2⟩ := List.mem_filter.mp (wsC_good h w hw)
  exact word_at hW (good_of_word h2) (hts w h1 h2)
end
section
theorem my_own {k : Nat} (h : k < 113) : myM k = yM k := by
  unfold myM
  have e : ∀ n, 1000 ≤ n → Nat.beq k n = false := fun n hn => by
    cases e : Nat.beq k n with
    | false => rfl
    | true => have := nb_eq e; omega
  rw [e 1000 (by omega), e 1001 (by omega), e 1002 (by omega), e 1003 (by omega)]; rfl
theorem ml_own {c n k : Nat} (h : k < 113) : mlW (c, n, k, 0) = .methodLink (rcM c) n (yM k) ∧ mlW (c, n, k, 1) = .methodLinkNest (rcM c) n (yM k) RX4 := by
  constructor
  · show Cond.methodLink (rcM c) n (myM k) = _; rw [my_own h]
  · show Cond.methodLinkNest (rcM c) n (myM k) RX4 = _; rw [my_own h]
def pcM (ic : IcM) : Prop := match ic.1 with
  | .invokestatic _ | .invokevirtual _ | .invokespecial _ => True
  | _ => False
set_option maxHeartbeats 16000000 in
theorem sim_d {G : GlM} {l : Launch} {k : Nat} {ic : IcM} {fr : FrM} {σ : Mem} {o : OutM} {Φ : Nat → List Value → Mem → Option OutM} {K : FrM → Mem → Option OutM}
    (hMt : ∀ k, 0 ≤ k → k < 114 → MtP k) (hk : k < 114) (hΦ : ∀ k' as σ' o', k' < 113 → Φ k' as σ' = some o' → WsM G l k' (enM k' as) σ' o')
    (hK : ∀ fr' σ', K fr' σ' = some o → WsM G l k fr' σ' o) (hok : okM k fr.1 ic = true) (hsp : pcM ic) (h : stM Φ K k ic fr σ = some o) : WsM G l k fr σ o := by
  have hmt := hMt k (Nat.zero_le _) hk
  obtain ⟨pc, la, sa, kc, ks⟩ := fr
  obtain ⟨i, len, a, cst⟩ := ic
  intro p e R s m args below meth c ad H locs Q ls st hA hR hS hL hsk hX
  obtain ⟨rfl, hsv⟩ := hsk
  obtain ⟨⟨hx, hb, hml, hrt, hlk, hnm, hown⟩, hts, hE, hr1, hr2, hr3, hr4⟩ := id hA
  obtain ⟨hP, hD, hT, hAd⟩ := id hR
  obtain ⟨hE1, hK2, hT2, hB0, hAO⟩ := id hE
  unfold okM at hok
  dsimp only at hok
  rw [Bool.and_eq_true] at hok
  obtain ⟨hd, hq⟩ := hok
  replace hd := of_decide_eq_true hd
  have tl1 : ∀ {v : Value} {r : List Value}, (∀ w ∈ v :: r, vkM (nxM σ) w = true) → ∀ w ∈ r, vkM (nxM σ) w = true := fun h => (List.forall_mem_cons.mp h).2
  have hmlo := hml
  have hlz : ls.size = mxM k := by obtain ⟨lv, h1, -⟩ := hL; exact h1.1
  have go : ∀ {pc' : Nat} {sa' : List Value}, K (pc', la, sa', kc, ks) σ = some o → (∀ v ∈ sa', vkM (nxM σ) v = true) → W p l e R s m args below meth c H locs kc ks Q (F0 m pc' ls (sa'.map (vaM ad))) :=
    fun h h3 => hK _ _ h p e R s m args below meth c ad _ _ Q _ _ hA hR hS hL ⟨rfl, h3⟩ hX
  have hws : ∀ {w : Cond}, w ∈ lw_tbl → goodWord w = true → w.before args s = true := fun h1 h2 => hts _ h1 h2
  have evU : ∀ U : State, U.heap = H → s.WarmedH U.vm → EvG G U := fun U hU hW => Ev_next hE hW (by rw [hU]; exact hS.1) (fun q h1 h2 => by rw [hU]; exact hS.2.1 q h1 h2)
  -- a call of one of the methods
  have main : ∀ (x : Nat), clOk k a = true → caM Φ K k a (pc, la, sa, kc, ks) σ = some o →
      (∀ (v : Option Value) (σ' : Mem), Φ (gaM a 0) (sa.take (gaM a 1)).reverse σ = some (.inl v, σ') → gaM a 1 ≤ sa.length → (∀ v ∈ (sa.take (gaM a 1)).reverse, isOne v = true) → (((sa.drop (gaM a 1)).map (vaM ad)).map fun v => v.category).sum ≤ 8 → kc + ncM (gaM a 0) ≤ R.cells ∧ ks + nsM (gaM a 0) ≤ R.slots →
        Met l (yM (gaM a 0)) (wsC (gaM a 0)) (rmC (gaM a 0)) (PcC G ad (sa.take (gaM a 1)).reverse σ) (QcC G ad σ (.inl v, σ')) (ncM (gaM a 0)) (nsM (gaM a 0)) (gU G) →
        ∃ a9, va_Run p l e R s m args below meth c H locs kc ks (ncM (gaM a 0)) (nsM (gaM a 0)) (F0 m pc ls (sa.map (vaM ad))) ((sa.drop (gaM a 1)).map (vaM ad)) (QcC G ad σ (.inl v, σ') a9) (gU G)) →
      W p l e R s m args below meth c H locs kc ks Q (F0 m pc ls (sa.map (vaM ad))) := by
    intro x hcl h hrun
    unfold clOk at hcl
    simp only [Bool.and_eq_true, decide_eq_true_eq] at hcl
    obtain ⟨⟨⟨⟨⟨⟨⟨⟨⟨c1, c2⟩, c3⟩, c4⟩, c5⟩, c6⟩, c7⟩, c8⟩, c9⟩, c10⟩ := hcl
    unfold caM at h
    dsimp only at h
    obtain ⟨⟨⟨g1, g2⟩, g3, g4, g5⟩, h⟩ := in_no h
    rw [c5, c7] at g4
    rw [c6, c8] at g5
    cases ef : Φ (gaM a 0) (sa.take (gaM a 1)).reverse σ with
    | none => rw [ef] at h; cases h
    | some o' =>
      obtain ⟨r, σ'⟩ := o'
      cases r with
      | inr E => rw [ef] at h; cases h
      | inl v =>
      rw [ef] at h
      have hone : ∀ v ∈ (sa.take (gaM a 1)).reverse, isOne v = true := fun v hv => List.all_eq_true.mp g2 v (List.mem_reverse.mp hv)
      have hvk : ∀ v ∈ (sa.take (gaM a 1)).reverse, vkM (nxM σ) v = true := fun v hv => hsv v (List.mem_of_mem_take (List.mem_reverse.mp hv))
      have hdk : ∀ v ∈ sa.drop (gaM a 1), vkM (nxM σ) v = true := fun v hv => hsv v (List.mem_of_mem_drop hv)
      have hmt' := hMt (gaM a 0) (Nat.zero_le _) (by omega)
      have hmet := Met_of (ad := ad) hmt' c10 (hΦ _ _ _ _ c1 ef) (by rw [List.length_reverse, List.length_take]; omega) hone hvk
      obtain ⟨a9, hr⟩ := hrun v σ' ef g1 hone (by rw [cat_map]; exact g3) ⟨Nat.le_trans g4 hr3, Nat.le_trans g5 hr4⟩ hmet
      refine call_end hr hS ?_
      intro ad' H1 locs1 h1 h2 h3 h4 h5
      dsimp only at h
      rw [c5, c6] at h
      obtain ⟨e1, e2⟩ := Sk_ad hdk h2 h1
      have hst : (v.toList ++ sa.drop (gaM a 1)).map (vaM ad') = (v.map (vaM ad')).toList ++ (sa.drop (gaM a 1)).map (vaM ad) := by
        rw [List.map_append, e1]
        cases v <;> rfl
      have g := hK _ _ h p e R s m args below meth c ad' H1 locs1 Q ls _ hA h3 h5 (Lo_ad hL h2 h1) ⟨rfl, ?_⟩ (Xi_mono hX h2 h1)
      · dsimp only at g
        rw [hst] at g
        exact g
      · intro w hw
        rcases List.mem_append.mp hw with hw | hw
        · cases v with
          | none => cases hw
          | some v => rw [List.mem_singleton.mp hw]; exact h4
        · exact e2 w hw
  have fix : CallFix p m c (byM k) (mxM k) s args [] (owM k) := ⟨hx, hb, hml, hown, fun _ h => by cases h⟩
  have pcU : ∀ (as : List Value) (U : State), U.heap = H → s.WarmedH U.vm → PcC G ad as σ ((as.map (vaM ad)).toArray) U := fun as U hU hW => ⟨rfl, evU U hU hW, by rw [hU]; exact hR⟩
  -- what a callee's row gives
  have rowf : ∀ k', k' < 113 → ocM k' < 6 → (cwM k' ∈ lw_tbl ∧ (cwM k').before args s = true ∧ (Cond.initialized (yM k').cls).before args s = true ∧ ((yM k').cls ≠ "java/lang/invoke/MethodHandle" ∧ (yM k').cls ≠ "java/lang/invoke/VarHandle") ∧ (∀ sig, parseMethodDescriptor (yM k').desc = some sig → npM k' = sig.parameters.length)) := by
    intro k' h1 h2
    have hmt' := hMt k' (Nat.zero_le _) (by omega)
    obtain ⟨o1, o2, o3, o4⟩ := ow_in hmt' _ rfl h2
    have hcw : cwM k' ∈ lw_tbl := hmt'.2.1.resolve_left (by omega)
    refine ⟨hcw, hws hcw rfl, hws o1 rfl, ⟨o3, o4⟩, fun sig hs => ?_⟩
    have := hmt'.2.2.2.2.2
    rw [hs] at this
    exact (Option.some.inj this).symm
  -- the receiver, and what it makes of the stack
  have recv : ∀ (n : Nat), clOk k a = true → gaM a 1 = npM (gaM a 0) + 1 → ocM (gaM a 0) < 5 → rcM_ (gaM a 1) (fun b => if tkM σ b = (1, gaM a 8) then caM Φ K k a (pc, la, sa, kc, ks) σ else none) sa = some o →
      (∀ (b : Nat) (v : Option Value) (σ' : Mem), gaM a 1 ≤ sa.length → (((sa.drop (gaM a 1)).map (vaM ad)).map fun v => v.category).sum ≤ 8 → kc + ncM (gaM a 0) ≤ R.cells ∧ ks + nsM (gaM a 0) ≤ R.slots →
        Met l (yM (gaM a 0)) (wsC (gaM a 0)) (rmC (gaM a 0)) (PcC G ad (sa.take (gaM a 1)).reverse σ) (QcC G ad σ (.inl v, σ')) (ncM (gaM a 0)) (nsM (gaM a 0)) (gU G) →
        (gaM a 0 < 113 ∧ nfM (gaM a 0) + 1 ≤ R.frames ∧ 8 + (mxM (gaM a 0) + 11) + nlM (gaM a 0) ≤ R.locals) →
        PreV s H (owM (gaM a 0)) (ad b) (PcC G ad (sa.take (gaM a 1)).reverse σ) ((sa.take (gaM a 1 - 1)).reverse.map (vaM ad)) → ((sa.take (gaM a 1 - 1)).reverse.map (vaM ad)).length = npM (gaM a 0) →
        sa.map (vaM ad) = ((sa.take (gaM a 1 - 1)).reverse.map (vaM ad)).reverse ++ .ref (ad b) :: (sa.drop (gaM a 1)).map (vaM ad) →
        (Cond.code (yM (gaM a 0)) (byM (gaM a 0)) (mxM (gaM a 0)) (rtM (gaM a 0)) ∈ wsC (gaM a 0) ∧ cwM (gaM a 0) ∈ lw_tbl ∧ (Cond.code (yM (gaM a 0)) (byM (gaM a 0)) (mxM (gaM a 0)) (rtM (gaM a 0))).before args s = true) →
        ∃ a9, va_Run p l e R s m args below meth c H locs kc ks (ncM (gaM a 0)) (nsM (gaM a 0)) (F0 m pc ls (sa.map (vaM ad))) ((sa.drop (gaM a 1)).map (vaM ad)) (QcC G ad σ (.inl v, σ') a9) (gU G)) →
      W p l e R s m args below meth c H locs kc ks Q (F0 m pc ls (sa.map (vaM ad))) := by
    intro n q2 q3 q6 h hrun
    obtain ⟨b, t, hb1, h⟩ := in_rc h
    obtain ⟨htk, h⟩ := in_no h
    obtain ⟨r1, r2, r3⟩ := take_rc (by omega) hb1
    obtain ⟨k1, k2, k3⟩ := tk_kind (κ := 1) hT (by rw [htk]) (Nat.le_refl 1)
    refine main n q2 h (fun v σ' hf hle hone hcat hroom hmet => ?_)
    have hcl := q2
    unfold clOk at hcl
    simp only [Bool.and_eq_true, decide_eq_true_eq] at hcl
    obtain ⟨⟨⟨⟨⟨⟨⟨⟨⟨c1, c2⟩, c3⟩, c4⟩, c5⟩, c6⟩, c7⟩, c8⟩, c9⟩, c10⟩ := hcl
    obtain ⟨w1, w2, w3, w4, w5⟩ := rowf _ c1 c10
    have hmt' := hMt (gaM a 0) (Nat.zero_le _) (by omega)
    have hpt := cs_at (c := gC G) (ad := ad) (k3 (by decide)) k1
    rw [ce_obj htk] at hpt
    obtain ⟨cellB, u1, u2, u3⟩ := va_recv hK2 hP (cl_at (by rw [c9]; exact q6)) hpt
    have hcls : s.vm.findClass (owM (gaM a 0)) = some cellB.cls := by
      rw [hmt'.1, ← cl_rc _ q6, ← c9]; exact u3
    have hpre : PreV s H (owM (gaM a 0)) (ad b) (PcC G ad (sa.take (gaM a 1)).reverse σ) ((sa.take (gaM a 1 - 1)).reverse.map (vaM ad)) := by
      refine ⟨Pc_blind, ⟨cellB, u1, u2, hcls⟩, fun U hU hW => ?_⟩
      have := pcU (sa.take (gaM a 1)).reverse U hU hW
      have e9 : ((sa.take (gaM a 1)).reverse.map (vaM ad)).toArray = (Value.ref (ad b) :: (sa.take (gaM a 1 - 1)).reverse.map (vaM ad)).toArray := by rw [r2, List.map_cons, va_nz k2]
      rw [e9] at this
      exact this
    have hn : ((sa.take (gaM a 1 - 1)).reverse.map (vaM ad)).length = npM (gaM a 0) := by rw [List.length_map, List.length_reverse, List.length_take]; omega
    have hst : sa.map (vaM ad) = ((sa.take (gaM a 1 - 1)).reverse.map (vaM ad)).reverse ++ .ref (ad b) :: (sa.drop (gaM a 1)).map (vaM ad) := by
      rw [← List.map_reverse, List.reverse_reverse]
      conv => lhs; rw [r3]
      rw [List.map_append, List.map_cons, va_nz k2]
    exact hrun b v σ' hle hcat hroom hmet ⟨c1, Nat.le_trans c3 hr1, Nat.le_trans c4 hr2⟩ hpre hn hst ⟨List.mem_cons_self, w1, w2⟩
  cases i
  case invokevirtual n =>
    simp only [Bool.and_eq_true, decide_eq_true_eq] at hq
    obtain ⟨⟨⟨⟨⟨q1, q2⟩, q3⟩, q4⟩, q6⟩, q7⟩ := hq
    obtain rfl := nb_eq q1
    refine recv n q2 q3 q6 h (fun b v σ' hle hcat hroom hmet ⟨c1, c3, c4⟩ hpre hn hst ⟨x1, x2, x3⟩ => ?_)
    have hmt' := hMt (gaM a 0) (Nat.zero_le _) (by omega)
    obtain ⟨w6, w7⟩ := hmt'.2.2.2.1 q4
    obtain ⟨w1, w2, w3, w4, w5⟩ := rowf _ c1 (by omega)
    cases e : Nat.beq (gaM a 2) 2 with
    | true =>
      rw [e, cond_true] at q7
      have hml := mlL_ok _ (List.mem_of_getElem? (of_decide_eq_true q7))
      rw [(ml_own c1).1, ← hmt.1] at hml
      exact ⟨_, va_runV (n := npM (gaM a 0)) fix hmet ⟨⟨rfl, rfl, c3, c4, wsC_pay x2 hts, x1, x3, w3, w4, w5, hws hml rfl⟩, hws w6 rfl, hws w7 rfl⟩ hpre rfl hn hlz hst (lv_room hcat) hd hroom⟩
    | false =>
      rw [e, cond_false] at q7
      simp only [Bool.and_eq_true] at q7
      have hml := mlL_ok _ (List.mem_of_getElem? (of_decide_eq_true q7.2))
      rw [(ml_own c1).2, ← hmt.1] at hml
      exact ⟨_, va_runVN (n := npM (gaM a 0)) fix hmet ⟨⟨⟨rfl, rfl, c3, c4, wsC_pay x2 hts, x1⟩, x3, w3, w4, w5, wk_use rfl (hE1 _ hml rfl)⟩, hws w6 rfl, hws w7 rfl⟩ hpre rfl hn hlz hst (lv_room hcat) hd hroom⟩
  case invokespecial n =>
    simp only [Bool.and_eq_true] at hq
    obtain ⟨q1, hq⟩ := hq
    obtain rfl := nb_eq q1
    cases e9 : Nat.beq (gaM a 2) 9 with
    | true =>
      rw [e9, cond_true] at hq
      simp only [stM, e9, cond_true] at h
      simp only [Bool.and_eq_true, decide_eq_true_eq] at hq
      obtain ⟨⟨q2, q3⟩, q4⟩ := hq
      obtain ⟨v, r, rfl, g1⟩ := in_R1 h
      obtain ⟨⟨g2, g3⟩, g1⟩ := in_no g1
      have hml := mlL_ok _ (List.mem_of_getElem? (of_decide_eq_true q2))
      have hml : Cond.methodLink (owM k) n Lib.objectInit ∈ lw_tbl := by rw [hmt.1]; exact hml
      obtain ⟨-, -, -, -, m1, m2⟩ := ma_wd
      rw [List.map_cons, va_nz g2]
      refine W.objInit hx hb hown (hws hml rfl) (hws m1 rfl) (hws m2 rfl) rfl (hlz.trans hmlo.symm) rfl hd (Nat.le_trans q3 hr1) ?_ (go g1 (tl1 hsv))
      exact Nat.le_trans (Nat.add_le_add_right (lv_room (m := m) (pc := pc) (ls := ls) (rest := Value.ref (ad v) :: r.map (vaM ad)) (st := r.map (vaM ad)) (by rw [cat_map]; exact g3)) 12) (Nat.le_trans q4 hr2)
    | false =>
      rw [e9, cond_false] at hq
      simp only [stM, e9, cond_false] at h
      simp only [Bool.and_eq_true, decide_eq_true_eq] at hq
      obtain ⟨⟨⟨⟨⟨q2, q3⟩, q4⟩, q6⟩, q8⟩, q7⟩ := hq
      refine recv n q2 q3 q6 h (fun b v σ' hle hcat hroom hmet ⟨c1, c3, c4⟩ hpre hn hst ⟨x1, x2, x3⟩ => ?_)
      have hmt' := hMt (gaM a 0) (Nat.zero_le _) (by omega)
      obtain ⟨w6, w7⟩ := hmt'.2.2.2.2.1 q4
      obtain ⟨w1, w2, w3, w4, w5⟩ := rowf _ c1 (by omega)
      rw [q8] at x1 x3
      have hpre2 : PreS s H (PcC G ad (sa.take (gaM a 1)).reverse σ) (.ref (ad b) :: (sa.take (gaM a 1 - 1)).reverse.map (vaM ad)) := ⟨hpre.1, hpre.2.2⟩
      cases e : Nat.beq (gaM a 2) 4 with
      | true =>
        rw [e, cond_true] at q7
        have hml := mlL_ok _ (List.mem_of_getElem? (of_decide_eq_true q7))
        rw [(ml_own c1).1, ← hmt.1] at hml
        exact ⟨_, va_runI (n := npM (gaM a 0)) fix hmet ⟨⟨rfl, rfl, c3, c4, wsC_pay x2 hts, x1, x3, w3, w4, w5, hws hml rfl⟩, w7, hws w6 rfl⟩ hpre2 rfl hn hlz hst (lv_room hcat) hd hroom⟩
      | false =>
        rw [e, cond_false] at q7
        simp only [Bool.and_eq_true] at q7
        have hml := mlL_ok _ (List.mem_of_getElem? (of_decide_eq_true q7.2))
        rw [(ml_own c1).2, ← hmt.1] at hml
        exact ⟨_, va_runIN (n := npM (gaM a 0)) fix hmet ⟨⟨⟨rfl, rfl, c3, c4, wsC_pay x2 hts, x1⟩, x3, w3, w4, w5, wk_use rfl (hE1 _ hml rfl)⟩, w7, hws w6 rfl⟩ hpre2 rfl hn hlz hst (lv_room hcat) hd hroom⟩
  case invokestatic n =>
    simp only [Bool.and_eq_true] at hq
    obtain ⟨q1, hq⟩ := hq
    obtain rfl := nb_eq q1
    obtain ⟨⟨m1, m2⟩, ⟨m3, m4⟩, m5, ⟨m6, m7, m8⟩, -⟩ := ma_wd
    cases e6 : Nat.beq (gaM a 2) 6 with
    | true =>
      rw [e6, cond_true] at hq
      simp only [stM, e6, cond_true] at h
      simp only [Bool.and_eq_true, decide_eq_true_eq] at hq
      obtain ⟨⟨⟨⟨q2, q3⟩, q4⟩, q5⟩, q6⟩ := hq
      obtain ⟨x, y, r, rfl, g1⟩ := in_I2 h
      obtain ⟨⟨g2, g3, g4⟩, g1⟩ := in_no g1
      have hml2 : Cond.methodLink (owM k) n Lib.Math.max.name ∈ lw_tbl := by rw [hmt.1]; exact mlL_ok _ (List.mem_of_getElem? (of_decide_eq_true q2))
      exact va_mmax hx hb (hml.trans hlz.symm) hown (hws hml2 rfl) (hws m1 rfl) (hws m5 rfl) (hws m2 rfl) (Nat.le_trans q3 hr1) (by rw [cat_map]; omega) (Nat.le_trans g3 (by rw [q5]; exact hr3)) (Nat.le_trans g4 (by rw [q6]; exact hr4)) hd (go g1 (List.forall_mem_cons.mpr ⟨rfl, tl1 (tl1 hsv)⟩))
    | false =>
    rw [e6, cond_false] at hq
    cases e7 : Nat.beq (gaM a 2) 7 with
    | true =>
      rw [e7, cond_true] at hq
      simp only [stM, e6, e7, cond_true, cond_false] at h
      simp only [Bool.and_eq_true, decide_eq_true_eq] at hq
      obtain ⟨⟨⟨⟨q2, q3⟩, q4⟩, q5⟩, q6⟩ := hq
      obtain ⟨x, y, r, rfl, g1⟩ := in_I2 h
      obtain ⟨⟨g2, g3, g4⟩, g1⟩ := in_no g1
      have hml2 : Cond.methodLink (owM k) n Lib.Math.min.name ∈ lw_tbl := by rw [hmt.1]; exact mlL_ok _ (List.mem_of_getElem? (of_decide_eq_true q2))
      exact va_mmin hx hb (hml.trans hlz.symm) hown (hws hml2 rfl) (hws m3 rfl) (hws m5 rfl) (hws m4 rfl) (Nat.le_trans q3 hr1) (by rw [cat_map]; omega) (Nat.le_trans g3 (by rw [q5]; exact hr3)) (Nat.le_trans g4 (by rw [q6]; exact hr4)) hd (go g1 (List.forall_mem_cons.mpr ⟨rfl, tl1 (tl1 hsv)⟩))
    | false =>
    rw [e7, cond_false] at hq
    cases e8 : Nat.beq (gaM a 2) 8 with
    | true =>
      rw [e8, cond_true] at hq
      simp only [stM, e6, e7, e8, cond_true, cond_false] at h
      simp only [Bool.and_eq_true, decide_eq_true_eq] at hq
      obtain ⟨⟨q2, q3⟩, q4⟩ := hq
      obtain ⟨nn, dp, dv, sp, sv, r, rfl, g1⟩ := in_Cp h
      obtain ⟨⟨⟨g2, g3, g4, g5⟩, ⟨g6, g7, g8⟩, g9, g10, g11⟩, g1⟩ := in_no g1
      obtain ⟨k1, k2, -⟩ := tk_kind (κ := 2) hT g2 (by decide)
      obtain ⟨j1, j2, -⟩ := tk_kind (κ := 2) hT g4 (by decide)
      have hps := cs_at (c := gC G) (ad := ad) g3 k1
      have hpd := cs_at (c := gC G) (ad := ad) g5 j1
      rw [ce_int g2 (Or.inl rfl)] at hps
      rw [ce_int g4 (Or.inl rfl)] at hpd
      have hml2 : Cond.methodLink (owM k) n arraycopyName ∈ lw_tbl := by rw [hmt.1]; exact mlL_ok _ (List.mem_of_getElem? (of_decide_eq_true q2))
      simp only [List.map_cons]
      rw [va_nz k2, va_nz j2]
      refine va_copyi (ty := .int) hx hb (hml.trans hlz.symm) hown (hws hml2 rfl) (hws m6 rfl) (hws m7 rfl) (hws m8 rfl) hK2 hP hD hS (sv - 8) (dv - 8) 0 0 hps hpd (ty_at _).1 (ty_at _).1 rfl g6 g7 g8 g9 g10 (fun _ _ => rfl) (Nat.le_trans q3 hr1) (by rw [cat_map]; omega) hd (fun H1 locs1 p1 d1 s1 => ?_)
      have hce : ceM (gC G) ad (cpM σ sv sp.toNatClampNeg dv dp.toNatClampNeg nn.toNatClampNeg) dv = .inl (gC G 2, (tkM σ dv).2, .inl (va_cpy (rdM σ sv) (rdM σ dv) sp.toNatClampNeg dp.toNatClampNeg nn.toNatClampNeg)) := by
        rw [ce_int (κ := 2) (σ := cpM σ sv sp.toNatClampNeg dv dp.toNatClampNeg nn.toNatClampNeg) g4 (Or.inl rfl)]
        have hrow : rdM (cpM σ sv sp.toNatClampNeg dv dp.toNatClampNeg nn.toNatClampNeg) dv = va_cpy (rdM σ sv) (rdM σ dv) sp.toNatClampNeg dp.toNatClampNeg nn.toNatClampNeg := by
          funext i
          show (if dv = dv ∧ (dp.toNatClampNeg ≤ i ∧ i < dp.toNatClampNeg + nn.toNatClampNeg) then _ else _) = if _ then _ else _
          by_cases ee : dp.toNatClampNeg ≤ i ∧ i < dp.toNatClampNeg + nn.toNatClampNeg
          · rw [if_pos ⟨rfl, ee⟩, if_pos ee]; rfl
          · rw [if_neg (fun z => ee z.2), if_neg ee]; rfl
        rw [hrow]; rfl
      rw [← hce] at p1 d1
      refine hK _ _ g1 p e R s m args below meth c ad H1 locs1 Q ls _ hA (Rp_set hR g5 j1 rfl (fun _ => rfl) (fun u j hu => if_neg (fun z => hu z.1)) (fun _ _ _ => rfl) (fun j => hT.2.2.2.1 dv j) p1 d1) s1 hL ⟨rfl, tl1 (tl1 (tl1 (tl1 (tl1 hsv))))⟩ hX
    | false =>
      rw [e8, cond_false] at hq
      simp only [stM, e6, e7, e8, cond_false] at h
      simp only [Bool.and_eq_true, decide_eq_true_eq] at hq
      obtain ⟨⟨⟨q2, q3⟩, q4⟩, q7⟩ := hq
      refine main n q2 h (fun v σ' hf hle hone hcat hroom hmet => ?_)
      have hcl := q2
      unfold clOk at hcl
      simp only [Bool.and_eq_true, decide_eq_true_eq] at hcl
      obtain ⟨⟨⟨⟨⟨⟨⟨⟨⟨c1, c2⟩, c3⟩, c4⟩, c5⟩, c6⟩, c7⟩, c8⟩, c9⟩, c10⟩ := hcl
      obtain ⟨w1, w2, w3, w4, w5⟩ := rowf _ c1 c10
      have hmt' := hMt (gaM a 0) (Nat.zero_le _) (by omega)
      have w6 := (hmt'.2.2.1 q4).resolve_left (by omega)
      have hpre : PreS s H (PcC G ad (sa.take (gaM a 1)).reverse σ) ((sa.take (gaM a 1)).reverse.map (vaM ad)) := ⟨Pc_blind, fun U hU hW => pcU _ U hU hW⟩
      have hn : ((sa.take (gaM a 1)).reverse.map (vaM ad)).length = npM (gaM a 0) := by rw [List.length_map, List.length_reverse, List.length_take]; omega
      have hst : sa.map (vaM ad) = ((sa.take (gaM a 1)).reverse.map (vaM ad)).reverse ++ (sa.drop (gaM a 1)).map (vaM ad) := by
        rw [← List.map_reverse, List.reverse_reverse, ← List.map_append, List.take_append_drop]
      have d3 := Nat.le_trans c3 hr1
      have d4 := Nat.le_trans c4 hr2
      cases e0 : Nat.beq (gaM a 2) 0 with
      | true =>
        rw [e0, cond_true] at q7
        have hml := mlL_ok _ (List.mem_of_getElem? (of_decide_eq_true q7))
        rw [(ml_own c1).1, ← hmt.1] at hml
        exact ⟨_, va_runS (n := npM (gaM a 0)) fix hmet ⟨⟨rfl, rfl, d3, d4, wsC_pay w1 hts, List.mem_cons_self, w2, w3, w4, w5, hws hml rfl⟩, hws w6 rfl⟩ hpre rfl hn hlz hst (lv_room hcat) hd hroom⟩
      | false =>
        rw [e0, cond_false] at q7
        simp only [Bool.and_eq_true] at q7
        have hml := mlL_ok _ (List.mem_of_getElem? (of_decide_eq_true q7.2))
        rw [(ml_own c1).2, ← hmt.1] at hml
        exact ⟨_, va_runSN (n := npM (gaM a 0)) fix hmet ⟨⟨⟨rfl, rfl, d3, d4, wsC_pay w1 hts, List.mem_cons_self⟩, w2, w3, w4, w5, wk_use rfl (hE1 _ hml rfl)⟩, hws w6 rfl, trivial⟩ hpre rfl hn hlz hst (lv_room hcat) hd hroom⟩
  all_goals exact absurd hsp (fun z => z)
end
section
theorem ic_cases (ic : IcM) : ¬ spM ic ∨ psM ic ∨ pnM ic ∨ pcM ic := by
  obtain ⟨i, len, a, c⟩ := ic
  cases i <;> first | exact Or.inl (fun z => z) | exact Or.inr (Or.inl trivial) | exact Or.inr (Or.inr (Or.inl trivial)) | exact Or.inr (Or.inr (Or.inr trivial))
theorem sim_run {G : GlM} {l : Launch} (hMt : ∀ k, 0 ≤ k → k < 114 → MtP k) (hC : ∀ k, k < 114 → ∀ pc ic, cdM k pc = some ic → okM k pc ic = true) : ∀ (n k : Nat), k < 114 → ∀ (fr : FrM) (σ : Mem) (o : OutM), runM n k fr σ = some o → WsM G l k fr σ o := by
  intro n
  induction n with
  | zero => intro k hk fr σ o h; cases h
  | succ n ih =>
    intro k hk fr σ o h
    unfold runM at h
    split at h
    · next ic hc =>
      have hmt := hMt k (Nat.zero_le _) hk
      have hok := hC k hk fr.1 ic hc
      rcases ic_cases ic with h1 | h1 | h1 | h1
      · exact sim_a hmt (fun fr' σ' g => ih k hk fr' σ' o g) hok h1 h
      · exact sim_b hmt (fun fr' σ' g => ih k hk fr' σ' o g) hok h1 h
      · exact sim_c hmt (fun fr' σ' g => ih k hk fr' σ' o g) hok h1 h
      · exact sim_d hMt hk (fun k' as σ' o' hk' g => ih k' (by omega) _ σ' o' g) (fun fr' σ' g => ih k hk fr' σ' o g) hok h1 h
    · cases h
theorem sim_Do {G : GlM} {l : Launch} (hMt : ∀ k, 0 ≤ k → k < 114 → MtP k) (hC : ∀ k, k < 114 → ∀ pc ic, cdM k pc = some ic → okM k pc ic = true) {k : Nat} (hk : k < 114) {as : List Value} {σ : Mem} {o : OutM} (h : DoM k as σ = some o) : WsM G l k (enM k as) σ o := by
  obtain ⟨n, hn⟩ := Ru_iff.mp h
  exact sim_run hMt hC n k hk _ _ _ (hn n (Nat.le_refl n))
end
section
set_option maxRecDepth 1000000 in
theorem ck_0 : cdOk 0 = true := by decide +kernel
set_option maxRecDepth 1000000 in
theorem ck_1 : cdOk 1 = true := by decide +kernel
set_option maxRecDepth 1000000 in
theorem ck_2 : cdOk 2 = true := by decide +kernel
set_option maxRecDepth 1000000 in
theorem ck_3 : cdOk 3 = true := by decide +kernel
set_option maxRecDepth 1000000 in
theorem ck_4 : cdOk 4 = true := by decide +kernel
set_option maxRecDepth 1000000 in
theorem ck_5 : cdOk 5 = true := by decide +kernel
set_option maxRecDepth 1000000 in
theorem ck_6 : cdOk 6 = true := by decide +kernel
set_option maxRecDepth 1000000 in
theorem ck_7 : cdOk 7 = true := by decide +kernel
set_option maxRecDepth 1000000 in
theorem ck_8 : cdOk 8 = true := by decide +kernel
set_option maxRecDepth 1000000 in
theorem ck_9 : cdOk 9 = true := by decide +kernel
set_option maxRecDepth 1000000 in
theorem ck_10 : cdOk 10 = true := by decide +kernel
set_option maxRecDepth 1000000 in
theorem ck_11 : cdOk 11 = true := by decide +kernel
set_option maxRecDepth 1000000 in
theorem ck_12 : cdOk 12 = true := by decide +kernel
set_option maxRecDepth 1000000 in
theorem ck_13 : cdOk 13 = true := by decide +kernel
set_option maxRecDepth 1000000 in
theorem ck_14 : cdOk 14 = true := by decide +kernel
set_option maxRecDepth 1000000 in
theorem ck_15 : cdOk 15 = true := by decide +kernel
set_option maxRecDepth 1000000 in
theorem ck_16 : cdOk 16 = true := by decide +kernel
set_option maxRecDepth 1000000 in
theorem ck_17 : cdOk 17 = true := by decide +kernel
set_option maxRecDepth 1000000 in
theorem ck_18 : cdOk 18 = true := by decide +kernel
set_option maxRecDepth 1000000 in
theorem ck_19 : cdOk 19 = true := by decide +kernel
set_option maxRecDepth 1000000 in
theorem ck_20 : cdOk 20 = true := by decide +kernel
set_option maxRecDepth 1000000 in
theorem ck_21 : cdOk 21 = true := by decide +kernel
set_option maxRecDepth 1000000 in
theorem ck_22 : cdOk 22 = true := by decide +kernel
set_option maxRecDepth 1000000 in
theorem ck_23 : cdOk 23 = true := by decide +kernel
set_option maxRecDepth 1000000 in
theorem ck_24 : cdOk 24 = true := by decide +kernel
set_option maxRecDepth 1000000 in
theorem ck_25 : cdOk 25 = true := by decide +kernel
set_option maxRecDepth 1000000 in
theorem ck_26 : cdOk 26 = true := by decide +kernel
set_option maxRecDepth 1000000 in
theorem ck_27 : cdOk 27 = true := by decide +kernel
set_option maxRecDepth 1000000 in
theorem ck_28 : cdOk 28 = true := by decide +kernel
set_option maxRecDepth 1000000 in
theorem ck_29 : cdOk 29 = true := by decide +kernel
set_option maxRecDepth 1000000 in
theorem ck_30 : cdOk 30 = true := by decide +kernel
set_option maxRecDepth 1000000 in
theorem ck_31 : cdOk 31 = true := by decide +kernel
set_option maxRecDepth 1000000 in
theorem ck_32 : cdOk 32 = true := by decide +kernel
set_option maxRecDepth 1000000 in
theorem ck_33 : cdOk 33 = true := by decide +kernel
set_option maxRecDepth 1000000 in
theorem ck_34 : cdOk 34 = true := by decide +kernel
set_option maxRecDepth 1000000 in
theorem ck_35 : cdOk 35 = true := by decide +kernel
set_option maxRecDepth 1000000 in
theorem ck_36 : cdOk 36 = true := by decide +kernel
set_option maxRecDepth 1000000 in
theorem ck_37 : cdOk 37 = true := by decide +kernel
set_option maxRecDepth 1000000 in
theorem ck_38 : cdOk 38 = true := by decide +kernel
set_option maxRecDepth 1000000 in
theorem ck_39 : cdOk 39 = true := by decide +kernel
set_option maxRecDepth 1000000 in
theorem ck_40 : cdOk 40 = true := by decide +kernel
set_option maxRecDepth 1000000 in
theorem ck_41 : cdOk 41 = true := by decide +kernel
set_option maxRecDepth 1000000 in
theorem ck_42 : cdOk 42 = true := by decide +kernel
set_option maxRecDepth 1000000 in
theorem ck_43 : cdOk 43 = true := by decide +kernel
set_option maxRecDepth 1000000 in
theorem ck_44 : cdOk 44 = true := by decide +kernel
set_option maxRecDepth 1000000 in
theorem ck_45 : cdOk 45 = true := by decide +kernel
set_option maxRecDepth 1000000 in
theorem ck_46 : cdOk 46 = true := by decide +kernel
set_option maxRecDepth 1000000 in
theorem ck_47 : cdOk 47 = true := by decide +kernel
set_option maxRecDepth 1000000 in
theorem ck_48 : cdOk 48 = true := by decide +kernel
set_option maxRecDepth 1000000 in
theorem ck_49 : cdOk 49 = true := by decide +kernel
set_option maxRecDepth 1000000 in
theorem ck_50 : cdOk 50 = true := by decide +kernel
set_option maxRecDepth 1000000 in
theorem ck_51 : cdOk 51 = true := by decide +kernel
set_option maxRecDepth 1000000 in
theorem ck_52 : cdOk 52 = true := by decide +kernel
set_option maxRecDepth 1000000 in
theorem ck_53 : cdOk 53 = true := by decide +kernel
set_option maxRecDepth 1000000 in
theorem ck_54 : cdOk 54 = true := by decide +kernel
set_option maxRecDepth 1000000 in
theorem ck_55 : cdOk 55 = true := by decide +kernel
set_option maxRecDepth 1000000 in
theorem ck_56 : cdOk 56 = true := by decide +kernel
set_option maxRecDepth 1000000 in
theorem ck_57 : cdOk 57 = true := by decide +kernel
set_option maxRecDepth 1000000 in
theorem ck_58 : cdOk 58 = true := by decide +kernel
set_option maxRecDepth 1000000 in
theorem ck_59 : cdOk 59 = true := by decide +kernel
set_option maxRecDepth 1000000 in
theorem ck_60 : cdOk 60 = true := by decide +kernel
set_option maxRecDepth 1000000 in
theorem ck_61 : cdOk 61 = true := by decide +kernel
set_option maxRecDepth 1000000 in
theorem ck_62 : cdOk 62 = true := by decide +kernel
set_option maxRecDepth 1000000 in
theorem ck_63 : cdOk 63 = true := by decide +kernel
set_option maxRecDepth 1000000 in
theorem ck_64 : cdOk 64 = true := by decide +kernel
set_option maxRecDepth 1000000 in
theorem ck_65 : cdOk 65 = true := by decide +kernel
set_option maxRecDepth 1000000 in
theorem ck_66 : cdOk 66 = true := by decide +kernel
set_option maxRecDepth 1000000 in
theorem ck_67 : cdOk 67 = true := by decide +kernel
set_option maxRecDepth 1000000 in
theorem ck_68 : cdOk 68 = true := by decide +kernel
set_option maxRecDepth 1000000 in
theorem ck_69 : cdOk 69 = true := by decide +kernel
set_option maxRecDepth 1000000 in
theorem ck_70 : cdOk 70 = true := by decide +kernel
set_option maxRecDepth 1000000 in
theorem ck_71 : cdOk 71 = true := by decide +kernel
set_option maxRecDepth 1000000 in
theorem ck_72 : cdOk 72 = true := by decide +kernel
set_option maxRecDepth 1000000 in
theorem ck_73 : cdOk 73 = true := by decide +kernel
set_option maxRecDepth 1000000 in
theorem ck_74 : cdOk 74 = true := by decide +kernel
set_option maxRecDepth 1000000 in
theorem ck_75 : cdOk 75 = true := by decide +kernel
set_option maxRecDepth 1000000 in
theorem ck_76 : cdOk 76 = true := by decide +kernel
set_option maxRecDepth 1000000 in
theorem ck_77 : cdOk 77 = true := by decide +kernel
set_option maxRecDepth 1000000 in
theorem ck_78 : cdOk 78 = true := by decide +kernel
set_option maxRecDepth 1000000 in
theorem ck_79 : cdOk 79 = true := by decide +kernel
set_option maxRecDepth 1000000 in
theorem ck_80 : cdOk 80 = true := by decide +kernel
set_option maxRecDepth 1000000 in
theorem ck_81 : cdOk 81 = true := by decide +kernel
set_option maxRecDepth 1000000 in
theorem ck_82 : cdOk 82 = true := by decide +kernel
set_option maxRecDepth 1000000 in
theorem ck_83 : cdOk 83 = true := by decide +kernel
set_option maxRecDepth 1000000 in
theorem ck_84 : cdOk 84 = true := by decide +kernel
set_option maxRecDepth 1000000 in
theorem ck_85 : cdOk 85 = true := by decide +kernel
set_option maxRecDepth 1000000 in
theorem ck_86 : cdOk 86 = true := by decide +kernel
set_option maxRecDepth 1000000 in
theorem ck_87 : cdOk 87 = true := by decide +kernel
set_option maxRecDepth 1000000 in
theorem ck_88 : cdOk 88 = true := by decide +kernel
set_option maxRecDepth 1000000 in
theorem ck_89 : cdOk 89 = true := by decide +kernel
set_option maxRecDepth 1000000 in
theorem ck_90 : cdOk 90 = true := by decide +kernel
set_option maxRecDepth 1000000 in
theorem ck_91 : cdOk 91 = true := by decide +kernel
set_option maxRecDepth 1000000 in
theorem ck_92 : cdOk 92 = true := by decide +kernel
set_option maxRecDepth 1000000 in
theorem ck_93 : cdOk 93 = true := by decide +kernel
set_option maxRecDepth 1000000 in
theorem ck_94 : cdOk 94 = true := by decide +kernel
set_option maxRecDepth 1000000 in
theorem ck_95 : cdOk 95 = true := by decide +kernel
set_option maxRecDepth 1000000 in
theorem ck_96 : cdOk 96 = true := by decide +kernel
set_option maxRecDepth 1000000 in
theorem ck_97 : cdOk 97 = true := by decide +kernel
set_option maxRecDepth 1000000 in
theorem ck_98 : cdOk 98 = true := by decide +kernel
set_option maxRecDepth 1000000 in
theorem ck_99 : cdOk 99 = true := by decide +kernel
set_option maxRecDepth 1000000 in
theorem ck_100 : cdOk 100 = true := by decide +kernel
set_option maxRecDepth 1000000 in
theorem ck_101 : cdOk 101 = true := by decide +kernel
set_option maxRecDepth 1000000 in
theorem ck_102 : cdOk 102 = true := by decide +kernel
set_option maxRecDepth 1000000 in
theorem ck_103 : cdOk 103 = true := by decide +kernel
set_option maxRecDepth 1000000 in
theorem ck_104 : cdOk 104 = true := by decide +kernel
set_option maxRecDepth 1000000 in
theorem ck_105 : cdOk 105 = true := by decide +kernel
set_option maxRecDepth 1000000 in
theorem ck_106 : cdOk 106 = true := by decide +kernel
set_option maxRecDepth 1000000 in
theorem ck_107 : cdOk 107 = true := by decide +kernel
set_option maxRecDepth 1000000 in
theorem ck_108 : cdOk 108 = true := by decide +kernel
set_option maxRecDepth 1000000 in
theorem ck_109 : cdOk 109 = true := by decide +kernel
set_option maxRecDepth 1000000 in
theorem ck_110 : cdOk 110 = true := by decide +kernel
set_option maxRecDepth 1000000 in
theorem ck_111 : cdOk 111 = true := by decide +kernel
set_option maxRecDepth 1000000 in
theorem ck_112 : cdOk 112 = true := by decide +kernel
set_option maxRecDepth 1000000 in
theorem ck_113 : cdOk 113 = true := by decide +kernel
theorem ck_all : ∀ k, 0 ≤ k → k < 114 → cdOk k = true := (bt (bt (bt (bt (bt (bt (b1 ck_0) (bt (b1 ck_1) (b1 ck_2))) (bt (bt (b1 ck_3) (b1 ck_4)) (bt (b1 ck_5) (b1 ck_6)))) (bt (bt (b1 ck_7) (bt (b1 ck_8) (b1 ck_9))) (bt (bt (b1 ck_10) (b1 ck_11)) (bt (b1 ck_12) (b1 ck_13))))) (bt (bt (bt (b1 ck_14) (bt (b1 ck_15) (b1 ck_16))) (bt (bt (b1 ck_17) (b1 ck_18)) (bt (b1 ck_19) (b1 ck_20)))) (bt (bt (b1 ck_21) (bt (b1 ck_22) (b1 ck_23))) (bt (bt (b1 ck_24) (b1 ck_25)) (bt (b1 ck_26) (b1 ck_27)))))) (bt (bt (bt (bt (b1 ck_28) (bt (b1 ck_29) (b1 ck_30))) (bt (bt (b1 ck_31) (b1 ck_32)) (bt (b1 ck_33) (b1 ck_34)))) (bt (bt (b1 ck_35) (bt (b1 ck_36) (b1 ck_37))) (bt (bt (b1 ck_38) (b1 ck_39)) (bt (b1 ck_40) (b1 ck_41))))) (bt (bt (bt (b1 ck_42) (bt (b1 ck_43) (b1 ck_44))) (bt (bt (b1 ck_45) (b1 ck_46)) (bt (b1 ck_47) (b1 ck_48)))) (bt (bt (bt (b1 ck_49) (b1 ck_50)) (bt (b1 ck_51) (b1 ck_52))) (bt (bt (b1 ck_53) (b1 ck_54)) (bt (b1 ck_55) (b1 ck_56))))))) (bt (bt (bt (bt (bt (b1 ck_57) (bt (b1 ck_58) (b1 ck_59))) (bt (bt (b1 ck_60) (b1 ck_61)) (bt (b1 ck_62) (b1 ck_63)))) (bt (bt (b1 ck_64) (bt (b1 ck_65) (b1 ck_66))) (bt (bt (b1 ck_67) (b1 ck_68)) (bt (b1 ck_69) (b1 ck_70))))) (bt (bt (bt (b1 ck_71) (bt (b1 ck_72) (b1 ck_73))) (bt (bt (b1 ck_74) (b1 ck_75)) (bt (b1 ck_76) (b1 ck_77)))) (bt (bt (b1 ck_78) (bt (b1 ck_79) (b1 ck_80))) (bt (bt (b1 ck_81) (b1 ck_82)) (bt (b1 ck_83) (b1 ck_84)))))) (bt (bt (bt (bt (b1 ck_85) (bt (b1 ck_86) (b1 ck_87))) (bt (bt (b1 ck_88) (b1 ck_89)) (bt (b1 ck_90) (b1 ck_91)))) (bt (bt (b1 ck_92) (bt (b1 ck_93) (b1 ck_94))) (bt (bt (b1 ck_95) (b1 ck_96)) (bt (b1 ck_97) (b1 ck_98))))) (bt (bt (bt (b1 ck_99) (bt (b1 ck_100) (b1 ck_101))) (bt (bt (b1 ck_102) (b1 ck_103)) (bt (b1 ck_104) (b1 ck_105)))) (bt (bt (bt (b1 ck_106) (b1 ck_107)) (bt (b1 ck_108) (b1 ck_109))) (bt (bt (b1 ck_110) (b1 ck_111)) (bt (b1 ck_112) (b1 ck_113))))))))
end
section
/-! The runs' equations. -/
theorem st_mono2 {Φ Φ' : Nat → List Value → Mem → Option OutM} {K K' : FrM → Mem → Option OutM} {k : Nat} {ic : IcM} {fr : FrM} {σ : Mem} {o : OutM} (hΦ : ∀ k' as σ' o', Φ k' as σ' = some o' → Φ' k' as σ' = some o') (hK : ∀ fr' σ' o, K fr' σ' = some o → K' fr' σ' = some o) (h : stM Φ K k ic fr σ = some o) : stM Φ' K' k ic fr σ = some o := by
  obtain ⟨n, hn⟩ := ev_st (Φ' := fun _ => Φ') (K' := fun _ => K') (fun k' as σ' o' h => ev_c (hΦ _ _ _ _ h)) (fun fr' σ' h => ev_c (hK fr' σ' _ h)) h
  exact hn n (Nat.le_refl n)
theorem run_mono : ∀ (n k : Nat) (fr : FrM) (σ : Mem) (o : OutM), runM n k fr σ = some o → runM (n + 1) k fr σ = some o
  | 0, k, fr, σ, o, h => by cases h
  | n + 1, k, fr, σ, o, h => by
    unfold runM at h ⊢
    cases hc : cdM k fr.1 with
    | none => rw [hc] at h; cases h
    | some ic =>
      rw [hc] at h
      dsimp only at h ⊢
      exact st_mono2 (fun k' as σ' o' => run_mono n k' (enM k' as) σ' o') (fun fr' σ' o => run_mono n k fr' σ' o) h
theorem run_Ru {n k : Nat} {fr : FrM} {σ : Mem} {o : OutM} (h : runM n k fr σ = some o) : RuM k fr σ = some o := by
  refine Ru_iff.mpr ⟨n, fun m hm => ?_⟩
  induction hm with
  | refl => exact h
  | step _ ih => exact run_mono _ _ _ _ _ ih
theorem op_ext {α : Type} {a b : Option α} (h1 : ∀ o, a = some o → b = some o) (h2 : ∀ o, b = some o → a = some o) : a = b := by
  cases a with
  | some x => exact (h1 x rfl).symm
  | none => cases b with
    | none => rfl
    | some y => exact (h2 y rfl)
theorem Ru_eq {k : Nat} {fr : FrM} {σ : Mem} : RuM k fr σ = match cdM k fr.1 with
    | some ic => stM DoM (RuM k) k ic fr σ
    | none => none := by
  refine op_ext (fun o h => ?_) (fun o h => ?_)
  · obtain ⟨n, hn⟩ := Ru_iff.mp h
    have h1 : (match cdM k fr.1 with
      | some ic => stM (fun k' as σ' => runM n k' (enM k' as) σ') (runM n k) k ic fr σ
      | none => none) = some o := hn (n + 1) (Nat.le_succ n)
    cases hc : cdM k fr.1 with
    | none => rw [hc] at h1; cases h1
    | some ic =>
      rw [hc] at h1
      exact st_mono2 (fun k' as σ' o' h => run_Ru h) (fun fr' σ' o h => run_Ru h) h1
  · cases hc : cdM k fr.1 with
    | none => rw [hc] at h; cases h
    | some ic => rw [hc] at h; exact Ru_step hc h
theorem Ru_Q {k : Nat} (cuts : List Nat) (j : Nat) : ∀ (fr : FrM) (σ : Mem), RuM k fr σ = stC DoM (RuM k) k cuts j fr σ := by
  induction j with
  | zero => exact fun _ _ => rfl
  | succ j ih =>
    rintro ⟨pc, ls, st, kc, ks⟩ σ
    have e : cuM cuts (RuM k) (stC DoM (RuM k) k cuts j) = RuM k := by
      funext fr' σ'
      obtain ⟨pc', ls', st', kc', ks'⟩ := fr'
      show (bif cuts.elem pc' then RuM k (pc', ls', st', kc', ks') σ' else stC DoM (RuM k) k cuts j (pc', ls', st', kc', ks') σ') = _
      cases cuts.elem pc' with
      | true => rfl
      | false => exact (ih _ _).symm
    rw [Ru_eq]
    unfold stC
    rw [e]
    rfl
theorem Do_Q (k : Nat) (as : List Value) (σ : Mem) : DoM k as σ = RuM k (enM k as) σ := rfl
end
