def kfFB : Cond → Bool
  | .fieldLink .. | .fieldLinkNest .. => true
  | _ => false
def kfF_0 : List Cond := [flW (1, 9, 1, 0, 0), flW (2, 66, 1, 0, 1), flW (4, 237, 1, 0, 1), flW (1, 15, 1, 1, 0), flW (1, 19, 1, 2, 0), flW (2, 97, 1, 2, 1), flW (4, 231, 1, 2, 1), flW (1, 22, 1, 3, 0), flW (2, 100, 1, 3, 1), flW (4, 234, 1, 3, 1), flW (1, 25, 1, 4, 0), flW (2, 94, 1, 4, 1), flW (4, 228, 1, 4, 1), flW (0, 9, 0, 0, 0), flW (4, 277, 0, 0, 1), flW (0, 15, 0, 1, 0), flW (0, 18, 0, 2, 0), flW (0, 22, 0, 3, 0), flW (0, 25, 0, 4, 0), flW (2, 9, 2, 0, 0), flW (4, 129, 2, 0, 1), flW (2, 15, 2, 1, 0), flW (4, 118, 2, 1, 1), flW (2, 19, 2, 2, 0), flW (4, 132, 2, 2, 1), flW (2, 23, 2, 3, 0), flW (4, 107, 2, 3, 1), flW (2, 26, 2, 4, 0), flW (4, 98, 2, 4, 1), flW (2, 29, 2, 5, 0), flW (4, 101, 2, 5, 1), flW (2, 32, 2, 6, 0), flW (4, 126, 2, 6, 1), flW (2, 35, 2, 7, 0), flW (4, 211, 2, 7, 1), flW (2, 41, 2, 8, 0), flW (4, 188, 2, 8, 1), flW (2, 48, 2, 9, 0), flW (4, 268, 2, 9, 1), flW (3, 9, 3, 0, 0), flW (3, 15, 3, 1, 0), flW (3, 19, 3, 2, 0), flW (3, 22, 3, 3, 0), flW (3, 26, 3, 4, 0), flW (4, 12, 4, 0, 0), flW (4, 16, 4, 1, 0), flW (4, 19, 4, 2, 0), flW (4, 23, 4, 3, 0), flW (4, 27, 4, 4, 0), flW (4, 30, 4, 5, 0), flW (4, 37, 4, 6, 0), flW (4, 41, 4, 7, 0), (Jvm.Cond.fieldLink "java/lang/Throwable" (198 : Nat) "java/lang/Throwable" "backtrace" "Ljava/lang/Object;"), (Jvm.Cond.fieldLink "java/lang/Throwable" (13 : Nat) "java/lang/Throwable" "UNASSIGNED_STACK" "[Ljava/lang/StackTraceElement;"), (Jvm.Cond.fieldLink "java/lang/Throwable" (20 : Nat) "java/lang/Throwable" "SUPPRESSED_SENTINEL" "Ljava/util/List;"), (Jvm.Cond.fieldLink "java/lang/Throwable" (198 : Nat) "java/lang/Throwable" "backtrace" "Ljava/lang/Object;"), (Jvm.Cond.fieldLink "java/lang/Throwable" (31 : Nat) "java/lang/Throwable" "detailMessage" "Ljava/lang/String;"), (Jvm.Cond.fieldLink "java/lang/Throwable" (7 : Nat) "java/lang/Throwable" "cause" "Ljava/lang/Throwable;"), (Jvm.Cond.fieldLink "java/lang/Throwable" (17 : Nat) "java/lang/Throwable" "stackTrace" "[Ljava/lang/StackTraceElement;"), (Jvm.Cond.fieldLink "java/lang/Throwable" (24 : Nat) "java/lang/Throwable" "suppressedExceptions" "Ljava/util/List;")]
set_option maxRecDepth 1000000 in
theorem kfF_eq : lw_tbl.filter kfFB = kfF_0 := rfl
theorem kfF_0_in : ∀ w ∈ kfF_0, w ∈ lw_tbl := fun w h => (List.mem_filter.mp (by rw [kfF_eq]; exact h)).1
def kmLB : Cond → Bool
  | .methodLink .. | .methodLinkNest .. => true
  | _ => false
def kmL_0 : List Cond := [mlW (5, 141, 44, 0), mlW (4, 3, 1000, 0), mlW (4, 11, 14, 1), mlW (2, 3, 1000, 0), mlW (2, 40, 4, 1), mlW (1, 3, 1000, 0), mlW (2, 47, 0, 1), mlW (0, 3, 1000, 0), mlW (4, 36, 36, 1), mlW (3, 3, 1000, 0), mlW (5, 163, 58, 0), (Jvm.Cond.methodLink "java/lang/Throwable" (1 : Nat) ({ cls := "java/lang/Object", name := "<init>", desc := "()V" } : Jvm.MethodName)), (Jvm.Cond.methodLink "java/lang/Throwable" (27 : Nat) ({ cls := "java/lang/Throwable", name := "fillInStackTrace", desc := "()Ljava/lang/Throwable;" } : Jvm.MethodName)), (Jvm.Cond.methodLink "java/lang/Throwable" (202 : Nat) ({ cls := "java/lang/Throwable", name := "fillInStackTrace", desc := "(I)Ljava/lang/Throwable;" } : Jvm.MethodName)), (Jvm.Cond.methodLink "StorageQuotas" (67 : Nat) ({ cls := "java/lang/IllegalStateException", name := "<init>", desc := "(Ljava/lang/String;)V" } : Jvm.MethodName)), (Jvm.Cond.methodLink "java/lang/IllegalStateException" (7 : Nat) ({ cls := "java/lang/RuntimeException", name := "<init>", desc := "(Ljava/lang/String;)V" } : Jvm.MethodName)), (Jvm.Cond.methodLink "java/lang/RuntimeException" (7 : Nat) ({ cls := "java/lang/Exception", name := "<init>", desc := "(Ljava/lang/String;)V" } : Jvm.MethodName)), (Jvm.Cond.methodLink "java/lang/Exception" (7 : Nat) ({ cls := "java/lang/Throwable", name := "<init>", desc := "(Ljava/lang/String;)V" } : Jvm.MethodName)), mlW (4, 179, 15, 1), mlW (2, 52, 1003, 0), mlW (2, 58, 5, 1), mlW (1, 28, 1003, 0), mlW (2, 62, 1, 1), mlW (0, 28, 1003, 0), mlW (5, 142, 59, 0), mlW (4, 183, 96, 0), (Jvm.Cond.methodLink "StorageQuotas" (265 : Nat) ({ cls := "java/lang/IndexOutOfBoundsException", name := "<init>", desc := "(Ljava/lang/String;)V" } : Jvm.MethodName)), (Jvm.Cond.methodLink "java/lang/IndexOutOfBoundsException" (7 : Nat) ({ cls := "java/lang/RuntimeException", name := "<init>", desc := "(Ljava/lang/String;)V" } : Jvm.MethodName)), mlW (5, 11, 78, 0), mlW (5, 134, 85, 0), mlW (5, 149, 104, 0), mlW (5, 153, 107, 0), mlW (5, 52, 106, 0), mlW (5, 19, 61, 0), mlW (4, 91, 91, 0), mlW (4, 208, 89, 0), mlW (4, 110, 90, 0), mlW (4, 214, 98, 0), mlW (5, 23, 65, 0), mlW (5, 26, 63, 0), mlW (5, 29, 64, 0), mlW (5, 32, 70, 0), mlW (4, 52, 93, 0), mlW (4, 240, 92, 0), mlW (4, 290, 100, 0), mlW (4, 225, 6, 1), mlW (5, 35, 71, 0), mlW (5, 38, 72, 0), mlW (5, 41, 80, 0), mlW (4, 45, 87, 0), mlW (5, 45, 73, 0), mlW (5, 48, 79, 0), mlW (5, 58, 84, 0), mlW (5, 61, 83, 0), (Jvm.Cond.methodLink "StorageQuotas" (117 : Nat) ({ cls := "java/lang/IllegalArgumentException", name := "<init>", desc := "(Ljava/lang/String;)V" } : Jvm.MethodName)), (Jvm.Cond.methodLink "java/lang/IllegalArgumentException" (7 : Nat) ({ cls := "java/lang/RuntimeException", name := "<init>", desc := "(Ljava/lang/String;)V" } : Jvm.MethodName)), mlW (4, 272, 3, 1), mlW (5, 64, 68, 0), mlW (5, 160, 110, 0), mlW (5, 67, 105, 0)]
def kmL_60 : List Cond := [mlW (5, 85, 50, 0), mlW (4, 70, 101, 0), mlW (5, 88, 52, 0), mlW (4, 135, 35, 1), mlW (5, 92, 53, 0), mlW (4, 139, 32, 1), mlW (4, 144, 33, 1), mlW (2, 139, 34, 0), mlW (2, 136, 29, 0), mlW (2, 143, 30, 0), mlW (2, 131, 2, 1), mlW (5, 95, 51, 0), mlW (4, 121, 29, 1), mlW (5, 98, 60, 0), mlW (5, 101, 49, 0), mlW (4, 94, 95, 0), mlW (4, 104, 28, 1), mlW (5, 145, 111, 0), mlW (5, 104, 66, 0), mlW (4, 197, 30, 1), mlW (4, 200, 1001, 0), mlW (5, 107, 62, 0), mlW (4, 192, 10, 1), mlW (1, 38, 9, 0), mlW (1, 34, 99, 1), mlW (5, 110, 67, 0), mlW (4, 205, 25, 1), mlW (2, 118, 31, 0), mlW (2, 123, 1002, 0), mlW (2, 128, 1001, 0), mlW (5, 113, 69, 0), mlW (4, 217, 11, 1), mlW (4, 221, 103, 0), mlW (5, 116, 75, 0), mlW (4, 246, 13, 1), mlW (5, 119, 74, 0), mlW (4, 243, 12, 1), mlW (5, 122, 81, 0), mlW (5, 125, 82, 0), mlW (4, 258, 31, 1), mlW (5, 156, 112, 0), mlW (5, 128, 76, 0), mlW (4, 49, 88, 0), mlW (4, 56, 94, 0), mlW (4, 249, 23, 1), mlW (2, 88, 99, 1), mlW (2, 111, 98, 1), mlW (2, 115, 24, 0), mlW (5, 131, 108, 0), mlW (5, 137, 109, 0), mlW (5, 70, 45, 0), mlW (4, 59, 16, 1), mlW (2, 69, 6, 1), mlW (4, 73, 17, 1), mlW (2, 73, 23, 0), mlW (2, 77, 26, 0), mlW (2, 81, 7, 1), mlW (2, 85, 22, 0), mlW (2, 91, 27, 0), mlW (2, 133, 28, 0)]
def kmL_120 : List Cond := [mlW (5, 74, 47, 0), mlW (4, 77, 97, 0), mlW (4, 84, 20, 1), mlW (2, 107, 8, 1), mlW (5, 77, 48, 0), mlW (4, 87, 21, 1), mlW (5, 81, 46, 0), mlW (4, 81, 18, 1), mlW (2, 103, 19, 0)]
set_option maxRecDepth 1000000 in
theorem kmL_eq : lw_tbl.filter kmLB = kmL_0 ++ (kmL_60 ++ (kmL_120)) := rfl
theorem kmL_0_in : ∀ w ∈ kmL_0, w ∈ lw_tbl := fun w h => (List.mem_filter.mp (by rw [kmL_eq]; exact List.mem_append_left _ h)).1
theorem kmL_60_in : ∀ w ∈ kmL_60, w ∈ lw_tbl := fun w h => (List.mem_filter.mp (by rw [kmL_eq]; exact List.mem_append_right _ (List.mem_append_left _ h))).1
theorem kmL_120_in : ∀ w ∈ kmL_120, w ∈ lw_tbl := fun w h => (List.mem_filter.mp (by rw [kmL_eq]; exact List.mem_append_right _ (List.mem_append_right _ (h)))).1
def kcDB : Cond → Bool
  | .code .. | .codeWith .. => true
  | _ => false
def kcD_0 : List Cond := [cwM 44, (Jvm.Cond.code ({ cls := "java/lang/Object", name := "<init>", desc := "()V" } : Jvm.MethodName) object_method_1_code (1 : Nat) (Option.none : Option Jvm.ClassFile.FieldType)), cwM 14, cwM 4, cwM 0, cwM 36, cwM 58, (Jvm.Cond.code ({ cls := "java/lang/Throwable", name := "<init>", desc := "()V" } : Jvm.MethodName) prog_16_method_1_code (1 : Nat) (Option.none : Option Jvm.ClassFile.FieldType)), (Jvm.Cond.code ({ cls := "java/lang/IllegalStateException", name := "<init>", desc := "(Ljava/lang/String;)V" } : Jvm.MethodName) prog_10_method_2_code (2 : Nat) (Option.none : Option Jvm.ClassFile.FieldType)), (Jvm.Cond.code ({ cls := "java/lang/RuntimeException", name := "<init>", desc := "(Ljava/lang/String;)V" } : Jvm.MethodName) prog_13_method_2_code (2 : Nat) (Option.none : Option Jvm.ClassFile.FieldType)), (Jvm.Cond.code ({ cls := "java/lang/Exception", name := "<init>", desc := "(Ljava/lang/String;)V" } : Jvm.MethodName) prog_8_method_2_code (2 : Nat) (Option.none : Option Jvm.ClassFile.FieldType)), (Jvm.Cond.code ({ cls := "java/lang/Throwable", name := "<init>", desc := "(Ljava/lang/String;)V" } : Jvm.MethodName) prog_16_method_2_code (2 : Nat) (Option.none : Option Jvm.ClassFile.FieldType)), cwM 15, cwM 5, cwM 1, cwM 59, cwM 96, (Jvm.Cond.code ({ cls := "java/lang/IndexOutOfBoundsException", name := "<init>", desc := "(Ljava/lang/String;)V" } : Jvm.MethodName) prog_11_method_2_code (2 : Nat) (Option.none : Option Jvm.ClassFile.FieldType)), cwM 78, cwM 85, cwM 104, cwM 107, cwM 106, cwM 61, cwM 91, cwM 89, cwM 90, cwM 98, cwM 65, cwM 63, cwM 64, cwM 70, cwM 93, cwM 92, cwM 100, cwM 6, cwM 71, cwM 72, cwM 80, cwM 87, cwM 73, cwM 79, cwM 84, cwM 83, (Jvm.Cond.code ({ cls := "java/lang/IllegalArgumentException", name := "<init>", desc := "(Ljava/lang/String;)V" } : Jvm.MethodName) prog_9_method_2_code (2 : Nat) (Option.none : Option Jvm.ClassFile.FieldType)), cwM 3, cwM 68, cwM 110, cwM 105, cwM 50, cwM 101, cwM 52, cwM 35, cwM 53, cwM 32, cwM 33, cwM 34, cwM 29, cwM 30, cwM 2]
def kcD_60 : List Cond := [cwM 51, cwM 60, cwM 49, cwM 95, cwM 28, cwM 111, cwM 66, (Jvm.Cond.code ({ cls := "java/lang/Math", name := "max", desc := "(II)I" } : Jvm.MethodName) prog_12_method_65_code (2 : Nat) (Option.some Jvm.ClassFile.FieldType.int)), cwM 62, cwM 10, cwM 9, cwM 99, cwM 67, cwM 25, cwM 31, (Jvm.Cond.code ({ cls := "java/lang/Math", name := "min", desc := "(II)I" } : Jvm.MethodName) prog_12_method_69_code (2 : Nat) (Option.some Jvm.ClassFile.FieldType.int)), cwM 69, cwM 11, cwM 103, cwM 75, cwM 13, cwM 74, cwM 12, cwM 81, cwM 82, cwM 112, cwM 76, cwM 88, cwM 94, cwM 23, cwM 24, cwM 108, cwM 109, cwM 45, cwM 16, cwM 17, cwM 26, cwM 7, cwM 22, cwM 27, cwM 47, cwM 97, cwM 20, cwM 8, cwM 48, cwM 21, cwM 46, cwM 18, cwM 19]
set_option maxRecDepth 1000000 in
theorem kcD_eq : lw_tbl.filter kcDB = kcD_0 ++ (kcD_60) := rfl
theorem kcD_0_in : ∀ w ∈ kcD_0, w ∈ lw_tbl := fun w h => (List.mem_filter.mp (by rw [kcD_eq]; exact List.mem_append_left _ h)).1
theorem kcD_60_in : ∀ w ∈ kcD_60, w ∈ lw_tbl := fun w h => (List.mem_filter.mp (by rw [kcD_eq]; exact List.mem_append_right _ (h))).1
def ksTB : Cond → Bool
  | .static _ => true
  | _ => false
def ksT_0 : List Cond := [(Jvm.Cond.static ({ cls := "java/lang/System", name := "arraycopy", desc := "(Ljava/lang/Object;ILjava/lang/Object;II)V" } : Jvm.MethodName)), .static (yM 96), .static (yM 104), .static (yM 107), .static (yM 106), .static (yM 91), .static (yM 89), .static (yM 90), .static (yM 98), .static (yM 93), .static (yM 92), .static (yM 100), .static (yM 87), .static (yM 110), .static (yM 105), .static (yM 95), .static (yM 111), (Jvm.Cond.static ({ cls := "java/lang/Math", name := "max", desc := "(II)I" } : Jvm.MethodName)), .static (yM 99), (Jvm.Cond.static ({ cls := "java/lang/Math", name := "min", desc := "(II)I" } : Jvm.MethodName)), .static (yM 103), .static (yM 112), .static (yM 88), .static (yM 94), .static (yM 108), .static (yM 109)]
set_option maxRecDepth 1000000 in
theorem ksT_eq : lw_tbl.filter ksTB = ksT_0 := rfl
theorem ksT_0_in : ∀ w ∈ ksT_0, w ∈ lw_tbl := fun w h => (List.mem_filter.mp (by rw [ksT_eq]; exact h)).1
def kiNB : Cond → Bool
  | .instanceMethod _ => true
  | _ => false
def kiN_0 : List Cond := [.instanceMethod (yM 44), (Jvm.Cond.instanceMethod ({ cls := "java/lang/Object", name := "<init>", desc := "()V" } : Jvm.MethodName)), .instanceMethod (yM 14), .instanceMethod (yM 4), .instanceMethod (yM 0), .instanceMethod (yM 36), .instanceMethod (yM 58), (Jvm.Cond.instanceMethod ({ cls := "java/lang/Throwable", name := "<init>", desc := "()V" } : Jvm.MethodName)), (Jvm.Cond.instanceMethod ({ cls := "java/lang/Throwable", name := "fillInStackTrace", desc := "()Ljava/lang/Throwable;" } : Jvm.MethodName)), (Jvm.Cond.instanceMethod ({ cls := "java/lang/Throwable", name := "fillInStackTrace", desc := "(I)Ljava/lang/Throwable;" } : Jvm.MethodName)), (Jvm.Cond.instanceMethod ({ cls := "java/lang/IllegalStateException", name := "<init>", desc := "(Ljava/lang/String;)V" } : Jvm.MethodName)), (Jvm.Cond.instanceMethod ({ cls := "java/lang/RuntimeException", name := "<init>", desc := "(Ljava/lang/String;)V" } : Jvm.MethodName)), (Jvm.Cond.instanceMethod ({ cls := "java/lang/Exception", name := "<init>", desc := "(Ljava/lang/String;)V" } : Jvm.MethodName)), (Jvm.Cond.instanceMethod ({ cls := "java/lang/Throwable", name := "<init>", desc := "(Ljava/lang/String;)V" } : Jvm.MethodName)), .instanceMethod (yM 15), .instanceMethod (yM 5), .instanceMethod (yM 1), .instanceMethod (yM 59), (Jvm.Cond.instanceMethod ({ cls := "java/lang/IndexOutOfBoundsException", name := "<init>", desc := "(Ljava/lang/String;)V" } : Jvm.MethodName)), .instanceMethod (yM 78), .instanceMethod (yM 85), .instanceMethod (yM 61), .instanceMethod (yM 65), .instanceMethod (yM 63), .instanceMethod (yM 64), .instanceMethod (yM 70), .instanceMethod (yM 6), .instanceMethod (yM 71), .instanceMethod (yM 72), .instanceMethod (yM 80), .instanceMethod (yM 73), .instanceMethod (yM 79), .instanceMethod (yM 84), .instanceMethod (yM 83), (Jvm.Cond.instanceMethod ({ cls := "java/lang/IllegalArgumentException", name := "<init>", desc := "(Ljava/lang/String;)V" } : Jvm.MethodName)), .instanceMethod (yM 3), .instanceMethod (yM 68), .instanceMethod (yM 50), .instanceMethod (yM 101), .instanceMethod (yM 52), .instanceMethod (yM 35), .instanceMethod (yM 53), .instanceMethod (yM 32), .instanceMethod (yM 33), .instanceMethod (yM 34), .instanceMethod (yM 29), .instanceMethod (yM 30), .instanceMethod (yM 2), .instanceMethod (yM 51), .instanceMethod (yM 60), .instanceMethod (yM 49), .instanceMethod (yM 28), .instanceMethod (yM 66), .instanceMethod (yM 62), .instanceMethod (yM 10), .instanceMethod (yM 9), .instanceMethod (yM 67), .instanceMethod (yM 25), .instanceMethod (yM 31), .instanceMethod (yM 69)]
def kiN_60 : List Cond := [.instanceMethod (yM 11), .instanceMethod (yM 75), .instanceMethod (yM 13), .instanceMethod (yM 74), .instanceMethod (yM 12), .instanceMethod (yM 81), .instanceMethod (yM 82), .instanceMethod (yM 76), .instanceMethod (yM 23), .instanceMethod (yM 24), .instanceMethod (yM 45), .instanceMethod (yM 16), .instanceMethod (yM 17), .instanceMethod (yM 26), .instanceMethod (yM 7), .instanceMethod (yM 22), .instanceMethod (yM 27), .instanceMethod (yM 47), .instanceMethod (yM 97), .instanceMethod (yM 20), .instanceMethod (yM 8), .instanceMethod (yM 48), .instanceMethod (yM 21), .instanceMethod (yM 46), .instanceMethod (yM 18), .instanceMethod (yM 19)]
set_option maxRecDepth 1000000 in
theorem kiN_eq : lw_tbl.filter kiNB = kiN_0 ++ (kiN_60) := rfl
theorem kiN_0_in : ∀ w ∈ kiN_0, w ∈ lw_tbl := fun w h => (List.mem_filter.mp (by rw [kiN_eq]; exact List.mem_append_left _ h)).1
theorem kiN_60_in : ∀ w ∈ kiN_60, w ∈ lw_tbl := fun w h => (List.mem_filter.mp (by rw [kiN_eq]; exact List.mem_append_right _ (h))).1
def kxLB : Cond → Bool
  | .selects .. => true
  | _ => false
def kxL_0 : List Cond := [.selects "java/lang/Throwable" ⟨"java/lang/Throwable", "fillInStackTrace", "(I)Ljava/lang/Throwable;"⟩ ⟨"java/lang/Throwable", "fillInStackTrace", "(I)Ljava/lang/Throwable;"⟩, .selects (owM 15) (yM 15) (yM 15), .selects (owM 5) (yM 5) (yM 5), .selects (owM 1) (yM 1) (yM 1), .selects (owM 6) (yM 6) (yM 6), .selects (owM 3) (yM 3) (yM 3), .selects (owM 101) (yM 101) (yM 101), .selects (owM 35) (yM 35) (yM 35), .selects (owM 32) (yM 32) (yM 32), .selects (owM 33) (yM 33) (yM 33), .selects (owM 34) (yM 34) (yM 34), .selects (owM 29) (yM 29) (yM 29), .selects (owM 30) (yM 30) (yM 30), .selects (owM 2) (yM 2) (yM 2), .selects (owM 28) (yM 28) (yM 28), .selects (owM 10) (yM 10) (yM 10), .selects (owM 9) (yM 9) (yM 9), .selects (owM 25) (yM 25) (yM 25), .selects (owM 31) (yM 31) (yM 31), .selects (owM 11) (yM 11) (yM 11), .selects (owM 13) (yM 13) (yM 13), .selects (owM 12) (yM 12) (yM 12), .selects (owM 23) (yM 23) (yM 23), .selects (owM 24) (yM 24) (yM 24), .selects (owM 16) (yM 16) (yM 16), .selects (owM 17) (yM 17) (yM 17), .selects (owM 26) (yM 26) (yM 26), .selects (owM 7) (yM 7) (yM 7), .selects (owM 22) (yM 22) (yM 22), .selects (owM 27) (yM 27) (yM 27), .selects (owM 97) (yM 97) (yM 97), .selects (owM 20) (yM 20) (yM 20), .selects (owM 8) (yM 8) (yM 8), .selects (owM 21) (yM 21) (yM 21), .selects (owM 18) (yM 18) (yM 18), .selects (owM 19) (yM 19) (yM 19), .selects (owM 58) (yM 58) (yM 58), (Jvm.Cond.selects "java/lang/IllegalStateException" ({ cls := "java/lang/Throwable", name := "fillInStackTrace", desc := "(I)Ljava/lang/Throwable;" } : Jvm.MethodName) ({ cls := "java/lang/Throwable", name := "fillInStackTrace", desc := "(I)Ljava/lang/Throwable;" } : Jvm.MethodName)), (Jvm.Cond.selects "java/lang/IllegalStateException" ({ cls := "java/lang/Throwable", name := "fillInStackTrace", desc := "()Ljava/lang/Throwable;" } : Jvm.MethodName) ({ cls := "java/lang/Throwable", name := "fillInStackTrace", desc := "()Ljava/lang/Throwable;" } : Jvm.MethodName)), (Jvm.Cond.selects "java/lang/IllegalArgumentException" ({ cls := "java/lang/Throwable", name := "fillInStackTrace", desc := "()Ljava/lang/Throwable;" } : Jvm.MethodName) ({ cls := "java/lang/Throwable", name := "fillInStackTrace", desc := "()Ljava/lang/Throwable;" } : Jvm.MethodName)), (Jvm.Cond.selects "java/lang/IndexOutOfBoundsException" ({ cls := "java/lang/Throwable", name := "fillInStackTrace", desc := "()Ljava/lang/Throwable;" } : Jvm.MethodName) ({ cls := "java/lang/Throwable", name := "fillInStackTrace", desc := "()Ljava/lang/Throwable;" } : Jvm.MethodName)), .selects (owM 59) (yM 59) (yM 59), (Jvm.Cond.selects "java/lang/IndexOutOfBoundsException" ({ cls := "java/lang/Throwable", name := "fillInStackTrace", desc := "(I)Ljava/lang/Throwable;" } : Jvm.MethodName) ({ cls := "java/lang/Throwable", name := "fillInStackTrace", desc := "(I)Ljava/lang/Throwable;" } : Jvm.MethodName)), .selects (owM 78) (yM 78) (yM 78), .selects (owM 85) (yM 85) (yM 85), .selects (owM 61) (yM 61) (yM 61), .selects (owM 65) (yM 65) (yM 65), .selects (owM 63) (yM 63) (yM 63), .selects (owM 64) (yM 64) (yM 64), .selects (owM 70) (yM 70) (yM 70), .selects (owM 71) (yM 71) (yM 71), .selects (owM 72) (yM 72) (yM 72), .selects (owM 80) (yM 80) (yM 80), .selects (owM 73) (yM 73) (yM 73), .selects (owM 79) (yM 79) (yM 79), .selects (owM 84) (yM 84) (yM 84), .selects (owM 83) (yM 83) (yM 83), (Jvm.Cond.selects "java/lang/IllegalArgumentException" ({ cls := "java/lang/Throwable", name := "fillInStackTrace", desc := "(I)Ljava/lang/Throwable;" } : Jvm.MethodName) ({ cls := "java/lang/Throwable", name := "fillInStackTrace", desc := "(I)Ljava/lang/Throwable;" } : Jvm.MethodName)), .selects (owM 68) (yM 68) (yM 68), .selects (owM 50) (yM 50) (yM 50)]
def kxL_60 : List Cond := [.selects (owM 52) (yM 52) (yM 52), .selects (owM 53) (yM 53) (yM 53), .selects (owM 51) (yM 51) (yM 51), .selects (owM 60) (yM 60) (yM 60), .selects (owM 49) (yM 49) (yM 49), .selects (owM 66) (yM 66) (yM 66), .selects (owM 62) (yM 62) (yM 62), .selects (owM 67) (yM 67) (yM 67), .selects (owM 69) (yM 69) (yM 69), .selects (owM 75) (yM 75) (yM 75), .selects (owM 74) (yM 74) (yM 74), .selects (owM 81) (yM 81) (yM 81), .selects (owM 82) (yM 82) (yM 82), .selects (owM 76) (yM 76) (yM 76), .selects (owM 45) (yM 45) (yM 45), .selects (owM 47) (yM 47) (yM 47), .selects (owM 48) (yM 48) (yM 48), .selects (owM 46) (yM 46) (yM 46)]
set_option maxRecDepth 1000000 in
theorem kxL_eq : lw_tbl.filter kxLB = kxL_0 ++ (kxL_60) := rfl
theorem kxL_0_in : ∀ w ∈ kxL_0, w ∈ lw_tbl := fun w h => (List.mem_filter.mp (by rw [kxL_eq]; exact List.mem_append_left _ h)).1
theorem kxL_60_in : ∀ w ∈ kxL_60, w ∈ lw_tbl := fun w h => (List.mem_filter.mp (by rw [kxL_eq]; exact List.mem_append_right _ (h))).1
set_option maxRecDepth 1000000 in
theorem fw_0 : flW (1, 9, 1, 0, 0) ∈ lw_tbl := kfF_0_in _ (List.mem_of_getElem? (i := 0) rfl)
set_option maxRecDepth 1000000 in
theorem fw_1 : flW (2, 66, 1, 0, 1) ∈ lw_tbl := kfF_0_in _ (List.mem_of_getElem? (i := 1) rfl)
set_option maxRecDepth 1000000 in
theorem fw_2 : flW (4, 237, 1, 0, 1) ∈ lw_tbl := kfF_0_in _ (List.mem_of_getElem? (i := 2) rfl)
set_option maxRecDepth 1000000 in
theorem fw_3 : flW (1, 15, 1, 1, 0) ∈ lw_tbl := kfF_0_in _ (List.mem_of_getElem? (i := 3) rfl)
set_option maxRecDepth 1000000 in
theorem fw_4 : flW (1, 19, 1, 2, 0) ∈ lw_tbl := kfF_0_in _ (List.mem_of_getElem? (i := 4) rfl)
set_option maxRecDepth 1000000 in
theorem fw_5 : flW (2, 97, 1, 2, 1) ∈ lw_tbl := kfF_0_in _ (List.mem_of_getElem? (i := 5) rfl)
set_option maxRecDepth 1000000 in
theorem fw_6 : flW (4, 231, 1, 2, 1) ∈ lw_tbl := kfF_0_in _ (List.mem_of_getElem? (i := 6) rfl)
set_option maxRecDepth 1000000 in
theorem fw_7 : flW (1, 22, 1, 3, 0) ∈ lw_tbl := kfF_0_in _ (List.mem_of_getElem? (i := 7) rfl)
set_option maxRecDepth 1000000 in
theorem fw_8 : flW (2, 100, 1, 3, 1) ∈ lw_tbl := kfF_0_in _ (List.mem_of_getElem? (i := 8) rfl)
set_option maxRecDepth 1000000 in
theorem fw_9 : flW (4, 234, 1, 3, 1) ∈ lw_tbl := kfF_0_in _ (List.mem_of_getElem? (i := 9) rfl)
set_option maxRecDepth 1000000 in
theorem fw_10 : flW (1, 25, 1, 4, 0) ∈ lw_tbl := kfF_0_in _ (List.mem_of_getElem? (i := 10) rfl)
set_option maxRecDepth 1000000 in
theorem fw_11 : flW (2, 94, 1, 4, 1) ∈ lw_tbl := kfF_0_in _ (List.mem_of_getElem? (i := 11) rfl)
set_option maxRecDepth 1000000 in
theorem fw_12 : flW (4, 228, 1, 4, 1) ∈ lw_tbl := kfF_0_in _ (List.mem_of_getElem? (i := 12) rfl)
set_option maxRecDepth 1000000 in
theorem fw_13 : flW (0, 9, 0, 0, 0) ∈ lw_tbl := kfF_0_in _ (List.mem_of_getElem? (i := 13) rfl)
set_option maxRecDepth 1000000 in
theorem fw_14 : flW (4, 277, 0, 0, 1) ∈ lw_tbl := kfF_0_in _ (List.mem_of_getElem? (i := 14) rfl)
set_option maxRecDepth 1000000 in
theorem fw_15 : flW (0, 15, 0, 1, 0) ∈ lw_tbl := kfF_0_in _ (List.mem_of_getElem? (i := 15) rfl)
set_option maxRecDepth 1000000 in
theorem fw_16 : flW (0, 18, 0, 2, 0) ∈ lw_tbl := kfF_0_in _ (List.mem_of_getElem? (i := 16) rfl)
set_option maxRecDepth 1000000 in
theorem fw_17 : flW (0, 22, 0, 3, 0) ∈ lw_tbl := kfF_0_in _ (List.mem_of_getElem? (i := 17) rfl)
set_option maxRecDepth 1000000 in
theorem fw_18 : flW (0, 25, 0, 4, 0) ∈ lw_tbl := kfF_0_in _ (List.mem_of_getElem? (i := 18) rfl)
set_option maxRecDepth 1000000 in
theorem fw_19 : flW (2, 9, 2, 0, 0) ∈ lw_tbl := kfF_0_in _ (List.mem_of_getElem? (i := 19) rfl)
set_option maxRecDepth 1000000 in
theorem fw_20 : flW (4, 129, 2, 0, 1) ∈ lw_tbl := kfF_0_in _ (List.mem_of_getElem? (i := 20) rfl)
set_option maxRecDepth 1000000 in
theorem fw_21 : flW (2, 15, 2, 1, 0) ∈ lw_tbl := kfF_0_in _ (List.mem_of_getElem? (i := 21) rfl)
set_option maxRecDepth 1000000 in
theorem fw_22 : flW (4, 118, 2, 1, 1) ∈ lw_tbl := kfF_0_in _ (List.mem_of_getElem? (i := 22) rfl)
set_option maxRecDepth 1000000 in
theorem fw_23 : flW (2, 19, 2, 2, 0) ∈ lw_tbl := kfF_0_in _ (List.mem_of_getElem? (i := 23) rfl)
set_option maxRecDepth 1000000 in
theorem fw_24 : flW (4, 132, 2, 2, 1) ∈ lw_tbl := kfF_0_in _ (List.mem_of_getElem? (i := 24) rfl)
set_option maxRecDepth 1000000 in
theorem fw_25 : flW (2, 23, 2, 3, 0) ∈ lw_tbl := kfF_0_in _ (List.mem_of_getElem? (i := 25) rfl)
set_option maxRecDepth 1000000 in
theorem fw_26 : flW (4, 107, 2, 3, 1) ∈ lw_tbl := kfF_0_in _ (List.mem_of_getElem? (i := 26) rfl)
set_option maxRecDepth 1000000 in
theorem fw_27 : flW (2, 26, 2, 4, 0) ∈ lw_tbl := kfF_0_in _ (List.mem_of_getElem? (i := 27) rfl)
set_option maxRecDepth 1000000 in
theorem fw_28 : flW (4, 98, 2, 4, 1) ∈ lw_tbl := kfF_0_in _ (List.mem_of_getElem? (i := 28) rfl)
set_option maxRecDepth 1000000 in
theorem fw_29 : flW (2, 29, 2, 5, 0) ∈ lw_tbl := kfF_0_in _ (List.mem_of_getElem? (i := 29) rfl)
set_option maxRecDepth 1000000 in
theorem fw_30 : flW (4, 101, 2, 5, 1) ∈ lw_tbl := kfF_0_in _ (List.mem_of_getElem? (i := 30) rfl)
set_option maxRecDepth 1000000 in
theorem fw_31 : flW (2, 32, 2, 6, 0) ∈ lw_tbl := kfF_0_in _ (List.mem_of_getElem? (i := 31) rfl)
set_option maxRecDepth 1000000 in
theorem fw_32 : flW (4, 126, 2, 6, 1) ∈ lw_tbl := kfF_0_in _ (List.mem_of_getElem? (i := 32) rfl)
set_option maxRecDepth 1000000 in
theorem fw_33 : flW (2, 35, 2, 7, 0) ∈ lw_tbl := kfF_0_in _ (List.mem_of_getElem? (i := 33) rfl)
set_option maxRecDepth 1000000 in
theorem fw_34 : flW (4, 211, 2, 7, 1) ∈ lw_tbl := kfF_0_in _ (List.mem_of_getElem? (i := 34) rfl)
set_option maxRecDepth 1000000 in
theorem fw_35 : flW (2, 41, 2, 8, 0) ∈ lw_tbl := kfF_0_in _ (List.mem_of_getElem? (i := 35) rfl)
set_option maxRecDepth 1000000 in
theorem fw_36 : flW (4, 188, 2, 8, 1) ∈ lw_tbl := kfF_0_in _ (List.mem_of_getElem? (i := 36) rfl)
set_option maxRecDepth 1000000 in
theorem fw_37 : flW (2, 48, 2, 9, 0) ∈ lw_tbl := kfF_0_in _ (List.mem_of_getElem? (i := 37) rfl)
set_option maxRecDepth 1000000 in
theorem fw_38 : flW (4, 268, 2, 9, 1) ∈ lw_tbl := kfF_0_in _ (List.mem_of_getElem? (i := 38) rfl)
set_option maxRecDepth 1000000 in
theorem fw_39 : flW (3, 9, 3, 0, 0) ∈ lw_tbl := kfF_0_in _ (List.mem_of_getElem? (i := 39) rfl)
set_option maxRecDepth 1000000 in
theorem fw_40 : flW (3, 15, 3, 1, 0) ∈ lw_tbl := kfF_0_in _ (List.mem_of_getElem? (i := 40) rfl)
set_option maxRecDepth 1000000 in
theorem fw_41 : flW (3, 19, 3, 2, 0) ∈ lw_tbl := kfF_0_in _ (List.mem_of_getElem? (i := 41) rfl)
set_option maxRecDepth 1000000 in
theorem fw_42 : flW (3, 22, 3, 3, 0) ∈ lw_tbl := kfF_0_in _ (List.mem_of_getElem? (i := 42) rfl)
set_option maxRecDepth 1000000 in
theorem fw_43 : flW (3, 26, 3, 4, 0) ∈ lw_tbl := kfF_0_in _ (List.mem_of_getElem? (i := 43) rfl)
set_option maxRecDepth 1000000 in
theorem fw_44 : flW (4, 12, 4, 0, 0) ∈ lw_tbl := kfF_0_in _ (List.mem_of_getElem? (i := 44) rfl)
set_option maxRecDepth 1000000 in
theorem fw_45 : flW (4, 16, 4, 1, 0) ∈ lw_tbl := kfF_0_in _ (List.mem_of_getElem? (i := 45) rfl)
set_option maxRecDepth 1000000 in
theorem fw_46 : flW (4, 19, 4, 2, 0) ∈ lw_tbl := kfF_0_in _ (List.mem_of_getElem? (i := 46) rfl)
set_option maxRecDepth 1000000 in
theorem fw_47 : flW (4, 23, 4, 3, 0) ∈ lw_tbl := kfF_0_in _ (List.mem_of_getElem? (i := 47) rfl)
set_option maxRecDepth 1000000 in
theorem fw_48 : flW (4, 27, 4, 4, 0) ∈ lw_tbl := kfF_0_in _ (List.mem_of_getElem? (i := 48) rfl)
set_option maxRecDepth 1000000 in
theorem fw_49 : flW (4, 30, 4, 5, 0) ∈ lw_tbl := kfF_0_in _ (List.mem_of_getElem? (i := 49) rfl)
set_option maxRecDepth 1000000 in
theorem fw_50 : flW (4, 37, 4, 6, 0) ∈ lw_tbl := kfF_0_in _ (List.mem_of_getElem? (i := 50) rfl)
set_option maxRecDepth 1000000 in
theorem fw_51 : flW (4, 41, 4, 7, 0) ∈ lw_tbl := kfF_0_in _ (List.mem_of_getElem? (i := 51) rfl)
set_option maxRecDepth 1000000 in
theorem mw_0 : mlW (5, 141, 44, 0) ∈ lw_tbl := kmL_0_in _ (List.mem_of_getElem? (i := 0) rfl)
set_option maxRecDepth 1000000 in
theorem mw_1 : mlW (4, 3, 1000, 0) ∈ lw_tbl := kmL_0_in _ (List.mem_of_getElem? (i := 1) rfl)
set_option maxRecDepth 1000000 in
theorem mw_2 : mlW (4, 11, 14, 1) ∈ lw_tbl := kmL_0_in _ (List.mem_of_getElem? (i := 2) rfl)
set_option maxRecDepth 1000000 in
theorem mw_3 : mlW (2, 3, 1000, 0) ∈ lw_tbl := kmL_0_in _ (List.mem_of_getElem? (i := 3) rfl)
set_option maxRecDepth 1000000 in
theorem mw_4 : mlW (2, 40, 4, 1) ∈ lw_tbl := kmL_0_in _ (List.mem_of_getElem? (i := 4) rfl)
set_option maxRecDepth 1000000 in
theorem mw_5 : mlW (1, 3, 1000, 0) ∈ lw_tbl := kmL_0_in _ (List.mem_of_getElem? (i := 5) rfl)
set_option maxRecDepth 1000000 in
theorem mw_6 : mlW (2, 47, 0, 1) ∈ lw_tbl := kmL_0_in _ (List.mem_of_getElem? (i := 6) rfl)
set_option maxRecDepth 1000000 in
theorem mw_7 : mlW (0, 3, 1000, 0) ∈ lw_tbl := kmL_0_in _ (List.mem_of_getElem? (i := 7) rfl)
set_option maxRecDepth 1000000 in
theorem mw_8 : mlW (4, 36, 36, 1) ∈ lw_tbl := kmL_0_in _ (List.mem_of_getElem? (i := 8) rfl)
set_option maxRecDepth 1000000 in
theorem mw_9 : mlW (3, 3, 1000, 0) ∈ lw_tbl := kmL_0_in _ (List.mem_of_getElem? (i := 9) rfl)
set_option maxRecDepth 1000000 in
theorem mw_10 : mlW (5, 163, 58, 0) ∈ lw_tbl := kmL_0_in _ (List.mem_of_getElem? (i := 10) rfl)
set_option maxRecDepth 1000000 in
theorem mw_11 : mlW (4, 179, 15, 1) ∈ lw_tbl := kmL_0_in _ (List.mem_of_getElem? (i := 18) rfl)
set_option maxRecDepth 1000000 in
theorem mw_12 : mlW (2, 52, 1003, 0) ∈ lw_tbl := kmL_0_in _ (List.mem_of_getElem? (i := 19) rfl)
set_option maxRecDepth 1000000 in
theorem mw_13 : mlW (2, 58, 5, 1) ∈ lw_tbl := kmL_0_in _ (List.mem_of_getElem? (i := 20) rfl)
set_option maxRecDepth 1000000 in
theorem mw_14 : mlW (1, 28, 1003, 0) ∈ lw_tbl := kmL_0_in _ (List.mem_of_getElem? (i := 21) rfl)
set_option maxRecDepth 1000000 in
theorem mw_15 : mlW (2, 62, 1, 1) ∈ lw_tbl := kmL_0_in _ (List.mem_of_getElem? (i := 22) rfl)
set_option maxRecDepth 1000000 in
theorem mw_16 : mlW (0, 28, 1003, 0) ∈ lw_tbl := kmL_0_in _ (List.mem_of_getElem? (i := 23) rfl)
set_option maxRecDepth 1000000 in
theorem mw_17 : mlW (5, 142, 59, 0) ∈ lw_tbl := kmL_0_in _ (List.mem_of_getElem? (i := 24) rfl)
set_option maxRecDepth 1000000 in
theorem mw_18 : mlW (4, 183, 96, 0) ∈ lw_tbl := kmL_0_in _ (List.mem_of_getElem? (i := 25) rfl)
set_option maxRecDepth 1000000 in
theorem mw_19 : mlW (5, 11, 78, 0) ∈ lw_tbl := kmL_0_in _ (List.mem_of_getElem? (i := 28) rfl)
set_option maxRecDepth 1000000 in
theorem mw_20 : mlW (5, 134, 85, 0) ∈ lw_tbl := kmL_0_in _ (List.mem_of_getElem? (i := 29) rfl)
set_option maxRecDepth 1000000 in
theorem mw_21 : mlW (5, 149, 104, 0) ∈ lw_tbl := kmL_0_in _ (List.mem_of_getElem? (i := 30) rfl)
set_option maxRecDepth 1000000 in
theorem mw_22 : mlW (5, 153, 107, 0) ∈ lw_tbl := kmL_0_in _ (List.mem_of_getElem? (i := 31) rfl)
set_option maxRecDepth 1000000 in
theorem mw_23 : mlW (5, 52, 106, 0) ∈ lw_tbl := kmL_0_in _ (List.mem_of_getElem? (i := 32) rfl)
set_option maxRecDepth 1000000 in
theorem mw_24 : mlW (5, 19, 61, 0) ∈ lw_tbl := kmL_0_in _ (List.mem_of_getElem? (i := 33) rfl)
set_option maxRecDepth 1000000 in
theorem mw_25 : mlW (4, 91, 91, 0) ∈ lw_tbl := kmL_0_in _ (List.mem_of_getElem? (i := 34) rfl)
set_option maxRecDepth 1000000 in
theorem mw_26 : mlW (4, 208, 89, 0) ∈ lw_tbl := kmL_0_in _ (List.mem_of_getElem? (i := 35) rfl)
set_option maxRecDepth 1000000 in
theorem mw_27 : mlW (4, 110, 90, 0) ∈ lw_tbl := kmL_0_in _ (List.mem_of_getElem? (i := 36) rfl)
set_option maxRecDepth 1000000 in
theorem mw_28 : mlW (4, 214, 98, 0) ∈ lw_tbl := kmL_0_in _ (List.mem_of_getElem? (i := 37) rfl)
set_option maxRecDepth 1000000 in
theorem mw_29 : mlW (5, 23, 65, 0) ∈ lw_tbl := kmL_0_in _ (List.mem_of_getElem? (i := 38) rfl)
set_option maxRecDepth 1000000 in
theorem mw_30 : mlW (5, 26, 63, 0) ∈ lw_tbl := kmL_0_in _ (List.mem_of_getElem? (i := 39) rfl)
set_option maxRecDepth 1000000 in
theorem mw_31 : mlW (5, 29, 64, 0) ∈ lw_tbl := kmL_0_in _ (List.mem_of_getElem? (i := 40) rfl)
set_option maxRecDepth 1000000 in
theorem mw_32 : mlW (5, 32, 70, 0) ∈ lw_tbl := kmL_0_in _ (List.mem_of_getElem? (i := 41) rfl)
set_option maxRecDepth 1000000 in
theorem mw_33 : mlW (4, 52, 93, 0) ∈ lw_tbl := kmL_0_in _ (List.mem_of_getElem? (i := 42) rfl)
set_option maxRecDepth 1000000 in
theorem mw_34 : mlW (4, 240, 92, 0) ∈ lw_tbl := kmL_0_in _ (List.mem_of_getElem? (i := 43) rfl)
set_option maxRecDepth 1000000 in
theorem mw_35 : mlW (4, 290, 100, 0) ∈ lw_tbl := kmL_0_in _ (List.mem_of_getElem? (i := 44) rfl)
set_option maxRecDepth 1000000 in
theorem mw_36 : mlW (4, 225, 6, 1) ∈ lw_tbl := kmL_0_in _ (List.mem_of_getElem? (i := 45) rfl)
set_option maxRecDepth 1000000 in
theorem mw_37 : mlW (5, 35, 71, 0) ∈ lw_tbl := kmL_0_in _ (List.mem_of_getElem? (i := 46) rfl)
set_option maxRecDepth 1000000 in
theorem mw_38 : mlW (5, 38, 72, 0) ∈ lw_tbl := kmL_0_in _ (List.mem_of_getElem? (i := 47) rfl)
set_option maxRecDepth 1000000 in
theorem mw_39 : mlW (5, 41, 80, 0) ∈ lw_tbl := kmL_0_in _ (List.mem_of_getElem? (i := 48) rfl)
set_option maxRecDepth 1000000 in
theorem mw_40 : mlW (4, 45, 87, 0) ∈ lw_tbl := kmL_0_in _ (List.mem_of_getElem? (i := 49) rfl)
set_option maxRecDepth 1000000 in
theorem mw_41 : mlW (5, 45, 73, 0) ∈ lw_tbl := kmL_0_in _ (List.mem_of_getElem? (i := 50) rfl)
set_option maxRecDepth 1000000 in
theorem mw_42 : mlW (5, 48, 79, 0) ∈ lw_tbl := kmL_0_in _ (List.mem_of_getElem? (i := 51) rfl)
set_option maxRecDepth 1000000 in
theorem mw_43 : mlW (5, 58, 84, 0) ∈ lw_tbl := kmL_0_in _ (List.mem_of_getElem? (i := 52) rfl)
set_option maxRecDepth 1000000 in
theorem mw_44 : mlW (5, 61, 83, 0) ∈ lw_tbl := kmL_0_in _ (List.mem_of_getElem? (i := 53) rfl)
set_option maxRecDepth 1000000 in
theorem mw_45 : mlW (4, 272, 3, 1) ∈ lw_tbl := kmL_0_in _ (List.mem_of_getElem? (i := 56) rfl)
set_option maxRecDepth 1000000 in
theorem mw_46 : mlW (5, 64, 68, 0) ∈ lw_tbl := kmL_0_in _ (List.mem_of_getElem? (i := 57) rfl)
set_option maxRecDepth 1000000 in
theorem mw_47 : mlW (5, 160, 110, 0) ∈ lw_tbl := kmL_0_in _ (List.mem_of_getElem? (i := 58) rfl)
set_option maxRecDepth 1000000 in
theorem mw_48 : mlW (5, 67, 105, 0) ∈ lw_tbl := kmL_0_in _ (List.mem_of_getElem? (i := 59) rfl)
set_option maxRecDepth 1000000 in
theorem mw_49 : mlW (5, 85, 50, 0) ∈ lw_tbl := kmL_60_in _ (List.mem_of_getElem? (i := 0) rfl)
set_option maxRecDepth 1000000 in
theorem mw_50 : mlW (4, 70, 101, 0) ∈ lw_tbl := kmL_60_in _ (List.mem_of_getElem? (i := 1) rfl)
set_option maxRecDepth 1000000 in
theorem mw_51 : mlW (5, 88, 52, 0) ∈ lw_tbl := kmL_60_in _ (List.mem_of_getElem? (i := 2) rfl)
set_option maxRecDepth 1000000 in
theorem mw_52 : mlW (4, 135, 35, 1) ∈ lw_tbl := kmL_60_in _ (List.mem_of_getElem? (i := 3) rfl)
set_option maxRecDepth 1000000 in
theorem mw_53 : mlW (5, 92, 53, 0) ∈ lw_tbl := kmL_60_in _ (List.mem_of_getElem? (i := 4) rfl)
set_option maxRecDepth 1000000 in
theorem mw_54 : mlW (4, 139, 32, 1) ∈ lw_tbl := kmL_60_in _ (List.mem_of_getElem? (i := 5) rfl)
set_option maxRecDepth 1000000 in
theorem mw_55 : mlW (4, 144, 33, 1) ∈ lw_tbl := kmL_60_in _ (List.mem_of_getElem? (i := 6) rfl)
set_option maxRecDepth 1000000 in
theorem mw_56 : mlW (2, 139, 34, 0) ∈ lw_tbl := kmL_60_in _ (List.mem_of_getElem? (i := 7) rfl)
set_option maxRecDepth 1000000 in
theorem mw_57 : mlW (2, 136, 29, 0) ∈ lw_tbl := kmL_60_in _ (List.mem_of_getElem? (i := 8) rfl)
set_option maxRecDepth 1000000 in
theorem mw_58 : mlW (2, 143, 30, 0) ∈ lw_tbl := kmL_60_in _ (List.mem_of_getElem? (i := 9) rfl)
set_option maxRecDepth 1000000 in
theorem mw_59 : mlW (2, 131, 2, 1) ∈ lw_tbl := kmL_60_in _ (List.mem_of_getElem? (i := 10) rfl)
set_option maxRecDepth 1000000 in
theorem mw_60 : mlW (5, 95, 51, 0) ∈ lw_tbl := kmL_60_in _ (List.mem_of_getElem? (i := 11) rfl)
set_option maxRecDepth 1000000 in
theorem mw_61 : mlW (4, 121, 29, 1) ∈ lw_tbl := kmL_60_in _ (List.mem_of_getElem? (i := 12) rfl)
set_option maxRecDepth 1000000 in
theorem mw_62 : mlW (5, 98, 60, 0) ∈ lw_tbl := kmL_60_in _ (List.mem_of_getElem? (i := 13) rfl)
set_option maxRecDepth 1000000 in
theorem mw_63 : mlW (5, 101, 49, 0) ∈ lw_tbl := kmL_60_in _ (List.mem_of_getElem? (i := 14) rfl)
set_option maxRecDepth 1000000 in
theorem mw_64 : mlW (4, 94, 95, 0) ∈ lw_tbl := kmL_60_in _ (List.mem_of_getElem? (i := 15) rfl)
set_option maxRecDepth 1000000 in
theorem mw_65 : mlW (4, 104, 28, 1) ∈ lw_tbl := kmL_60_in _ (List.mem_of_getElem? (i := 16) rfl)
set_option maxRecDepth 1000000 in
theorem mw_66 : mlW (5, 145, 111, 0) ∈ lw_tbl := kmL_60_in _ (List.mem_of_getElem? (i := 17) rfl)
set_option maxRecDepth 1000000 in
theorem mw_67 : mlW (5, 104, 66, 0) ∈ lw_tbl := kmL_60_in _ (List.mem_of_getElem? (i := 18) rfl)
set_option maxRecDepth 1000000 in
theorem mw_68 : mlW (4, 197, 30, 1) ∈ lw_tbl := kmL_60_in _ (List.mem_of_getElem? (i := 19) rfl)
set_option maxRecDepth 1000000 in
theorem mw_69 : mlW (4, 200, 1001, 0) ∈ lw_tbl := kmL_60_in _ (List.mem_of_getElem? (i := 20) rfl)
set_option maxRecDepth 1000000 in
theorem mw_70 : mlW (5, 107, 62, 0) ∈ lw_tbl := kmL_60_in _ (List.mem_of_getElem? (i := 21) rfl)
set_option maxRecDepth 1000000 in
theorem mw_71 : mlW (4, 192, 10, 1) ∈ lw_tbl := kmL_60_in _ (List.mem_of_getElem? (i := 22) rfl)
set_option maxRecDepth 1000000 in
theorem mw_72 : mlW (1, 38, 9, 0) ∈ lw_tbl := kmL_60_in _ (List.mem_of_getElem? (i := 23) rfl)
set_option maxRecDepth 1000000 in
theorem mw_73 : mlW (1, 34, 99, 1) ∈ lw_tbl := kmL_60_in _ (List.mem_of_getElem? (i := 24) rfl)
set_option maxRecDepth 1000000 in
theorem mw_74 : mlW (5, 110, 67, 0) ∈ lw_tbl := kmL_60_in _ (List.mem_of_getElem? (i := 25) rfl)
set_option maxRecDepth 1000000 in
theorem mw_75 : mlW (4, 205, 25, 1) ∈ lw_tbl := kmL_60_in _ (List.mem_of_getElem? (i := 26) rfl)
set_option maxRecDepth 1000000 in
theorem mw_76 : mlW (2, 118, 31, 0) ∈ lw_tbl := kmL_60_in _ (List.mem_of_getElem? (i := 27) rfl)
set_option maxRecDepth 1000000 in
theorem mw_77 : mlW (2, 123, 1002, 0) ∈ lw_tbl := kmL_60_in _ (List.mem_of_getElem? (i := 28) rfl)
set_option maxRecDepth 1000000 in
theorem mw_78 : mlW (2, 128, 1001, 0) ∈ lw_tbl := kmL_60_in _ (List.mem_of_getElem? (i := 29) rfl)
set_option maxRecDepth 1000000 in
theorem mw_79 : mlW (5, 113, 69, 0) ∈ lw_tbl := kmL_60_in _ (List.mem_of_getElem? (i := 30) rfl)
set_option maxRecDepth 1000000 in
theorem mw_80 : mlW (4, 217, 11, 1) ∈ lw_tbl := kmL_60_in _ (List.mem_of_getElem? (i := 31) rfl)
set_option maxRecDepth 1000000 in
theorem mw_81 : mlW (4, 221, 103, 0) ∈ lw_tbl := kmL_60_in _ (List.mem_of_getElem? (i := 32) rfl)
set_option maxRecDepth 1000000 in
theorem mw_82 : mlW (5, 116, 75, 0) ∈ lw_tbl := kmL_60_in _ (List.mem_of_getElem? (i := 33) rfl)
set_option maxRecDepth 1000000 in
theorem mw_83 : mlW (4, 246, 13, 1) ∈ lw_tbl := kmL_60_in _ (List.mem_of_getElem? (i := 34) rfl)
set_option maxRecDepth 1000000 in
theorem mw_84 : mlW (5, 119, 74, 0) ∈ lw_tbl := kmL_60_in _ (List.mem_of_getElem? (i := 35) rfl)
set_option maxRecDepth 1000000 in
theorem mw_85 : mlW (4, 243, 12, 1) ∈ lw_tbl := kmL_60_in _ (List.mem_of_getElem? (i := 36) rfl)
set_option maxRecDepth 1000000 in
theorem mw_86 : mlW (5, 122, 81, 0) ∈ lw_tbl := kmL_60_in _ (List.mem_of_getElem? (i := 37) rfl)
set_option maxRecDepth 1000000 in
theorem mw_87 : mlW (5, 125, 82, 0) ∈ lw_tbl := kmL_60_in _ (List.mem_of_getElem? (i := 38) rfl)
set_option maxRecDepth 1000000 in
theorem mw_88 : mlW (4, 258, 31, 1) ∈ lw_tbl := kmL_60_in _ (List.mem_of_getElem? (i := 39) rfl)
set_option maxRecDepth 1000000 in
theorem mw_89 : mlW (5, 156, 112, 0) ∈ lw_tbl := kmL_60_in _ (List.mem_of_getElem? (i := 40) rfl)
set_option maxRecDepth 1000000 in
theorem mw_90 : mlW (5, 128, 76, 0) ∈ lw_tbl := kmL_60_in _ (List.mem_of_getElem? (i := 41) rfl)
set_option maxRecDepth 1000000 in
theorem mw_91 : mlW (4, 49, 88, 0) ∈ lw_tbl := kmL_60_in _ (List.mem_of_getElem? (i := 42) rfl)
set_option maxRecDepth 1000000 in
theorem mw_92 : mlW (4, 56, 94, 0) ∈ lw_tbl := kmL_60_in _ (List.mem_of_getElem? (i := 43) rfl)
set_option maxRecDepth 1000000 in
theorem mw_93 : mlW (4, 249, 23, 1) ∈ lw_tbl := kmL_60_in _ (List.mem_of_getElem? (i := 44) rfl)
set_option maxRecDepth 1000000 in
theorem mw_94 : mlW (2, 88, 99, 1) ∈ lw_tbl := kmL_60_in _ (List.mem_of_getElem? (i := 45) rfl)
set_option maxRecDepth 1000000 in
theorem mw_95 : mlW (2, 111, 98, 1) ∈ lw_tbl := kmL_60_in _ (List.mem_of_getElem? (i := 46) rfl)
set_option maxRecDepth 1000000 in
theorem mw_96 : mlW (2, 115, 24, 0) ∈ lw_tbl := kmL_60_in _ (List.mem_of_getElem? (i := 47) rfl)
set_option maxRecDepth 1000000 in
theorem mw_97 : mlW (5, 131, 108, 0) ∈ lw_tbl := kmL_60_in _ (List.mem_of_getElem? (i := 48) rfl)
set_option maxRecDepth 1000000 in
theorem mw_98 : mlW (5, 137, 109, 0) ∈ lw_tbl := kmL_60_in _ (List.mem_of_getElem? (i := 49) rfl)
set_option maxRecDepth 1000000 in
theorem mw_99 : mlW (5, 70, 45, 0) ∈ lw_tbl := kmL_60_in _ (List.mem_of_getElem? (i := 50) rfl)
set_option maxRecDepth 1000000 in
theorem mw_100 : mlW (4, 59, 16, 1) ∈ lw_tbl := kmL_60_in _ (List.mem_of_getElem? (i := 51) rfl)
set_option maxRecDepth 1000000 in
theorem mw_101 : mlW (2, 69, 6, 1) ∈ lw_tbl := kmL_60_in _ (List.mem_of_getElem? (i := 52) rfl)
set_option maxRecDepth 1000000 in
theorem mw_102 : mlW (4, 73, 17, 1) ∈ lw_tbl := kmL_60_in _ (List.mem_of_getElem? (i := 53) rfl)
set_option maxRecDepth 1000000 in
theorem mw_103 : mlW (2, 73, 23, 0) ∈ lw_tbl := kmL_60_in _ (List.mem_of_getElem? (i := 54) rfl)
set_option maxRecDepth 1000000 in
theorem mw_104 : mlW (2, 77, 26, 0) ∈ lw_tbl := kmL_60_in _ (List.mem_of_getElem? (i := 55) rfl)
set_option maxRecDepth 1000000 in
theorem mw_105 : mlW (2, 81, 7, 1) ∈ lw_tbl := kmL_60_in _ (List.mem_of_getElem? (i := 56) rfl)
set_option maxRecDepth 1000000 in
theorem mw_106 : mlW (2, 85, 22, 0) ∈ lw_tbl := kmL_60_in _ (List.mem_of_getElem? (i := 57) rfl)
set_option maxRecDepth 1000000 in
theorem mw_107 : mlW (2, 91, 27, 0) ∈ lw_tbl := kmL_60_in _ (List.mem_of_getElem? (i := 58) rfl)
set_option maxRecDepth 1000000 in
theorem mw_108 : mlW (2, 133, 28, 0) ∈ lw_tbl := kmL_60_in _ (List.mem_of_getElem? (i := 59) rfl)
set_option maxRecDepth 1000000 in
theorem mw_109 : mlW (5, 74, 47, 0) ∈ lw_tbl := kmL_120_in _ (List.mem_of_getElem? (i := 0) rfl)
set_option maxRecDepth 1000000 in
theorem mw_110 : mlW (4, 77, 97, 0) ∈ lw_tbl := kmL_120_in _ (List.mem_of_getElem? (i := 1) rfl)
set_option maxRecDepth 1000000 in
theorem mw_111 : mlW (4, 84, 20, 1) ∈ lw_tbl := kmL_120_in _ (List.mem_of_getElem? (i := 2) rfl)
set_option maxRecDepth 1000000 in
theorem mw_112 : mlW (2, 107, 8, 1) ∈ lw_tbl := kmL_120_in _ (List.mem_of_getElem? (i := 3) rfl)
set_option maxRecDepth 1000000 in
theorem mw_113 : mlW (5, 77, 48, 0) ∈ lw_tbl := kmL_120_in _ (List.mem_of_getElem? (i := 4) rfl)
set_option maxRecDepth 1000000 in
theorem mw_114 : mlW (4, 87, 21, 1) ∈ lw_tbl := kmL_120_in _ (List.mem_of_getElem? (i := 5) rfl)
set_option maxRecDepth 1000000 in
theorem mw_115 : mlW (5, 81, 46, 0) ∈ lw_tbl := kmL_120_in _ (List.mem_of_getElem? (i := 6) rfl)
set_option maxRecDepth 1000000 in
theorem mw_116 : mlW (4, 81, 18, 1) ∈ lw_tbl := kmL_120_in _ (List.mem_of_getElem? (i := 7) rfl)
set_option maxRecDepth 1000000 in
theorem mw_117 : mlW (2, 103, 19, 0) ∈ lw_tbl := kmL_120_in _ (List.mem_of_getElem? (i := 8) rfl)
def flL_0 : List (Nat × Nat × Nat × Nat × Nat) := [(1, 9, 1, 0, 0), (2, 66, 1, 0, 1), (4, 237, 1, 0, 1), (1, 15, 1, 1, 0), (1, 19, 1, 2, 0), (2, 97, 1, 2, 1), (4, 231, 1, 2, 1), (1, 22, 1, 3, 0), (2, 100, 1, 3, 1), (4, 234, 1, 3, 1), (1, 25, 1, 4, 0), (2, 94, 1, 4, 1), (4, 228, 1, 4, 1), (0, 9, 0, 0, 0), (4, 277, 0, 0, 1), (0, 15, 0, 1, 0), (0, 18, 0, 2, 0), (0, 22, 0, 3, 0), (0, 25, 0, 4, 0), (2, 9, 2, 0, 0), (4, 129, 2, 0, 1), (2, 15, 2, 1, 0), (4, 118, 2, 1, 1), (2, 19, 2, 2, 0), (4, 132, 2, 2, 1), (2, 23, 2, 3, 0), (4, 107, 2, 3, 1), (2, 26, 2, 4, 0), (4, 98, 2, 4, 1), (2, 29, 2, 5, 0), (4, 101, 2, 5, 1), (2, 32, 2, 6, 0), (4, 126, 2, 6, 1), (2, 35, 2, 7, 0), (4, 211, 2, 7, 1), (2, 41, 2, 8, 0), (4, 188, 2, 8, 1), (2, 48, 2, 9, 0), (4, 268, 2, 9, 1), (3, 9, 3, 0, 0)]
set_option maxRecDepth 1000000 in
theorem flL_0_ok : ∀ e ∈ flL_0, flW e ∈ lw_tbl := List.forall_mem_cons.mpr ⟨fw_0, List.forall_mem_cons.mpr ⟨fw_1, List.forall_mem_cons.mpr ⟨fw_2, List.forall_mem_cons.mpr ⟨fw_3, List.forall_mem_cons.mpr ⟨fw_4, List.forall_mem_cons.mpr ⟨fw_5, List.forall_mem_cons.mpr ⟨fw_6, List.forall_mem_cons.mpr ⟨fw_7, List.forall_mem_cons.mpr ⟨fw_8, List.forall_mem_cons.mpr ⟨fw_9, List.forall_mem_cons.mpr ⟨fw_10, List.forall_mem_cons.mpr ⟨fw_11, List.forall_mem_cons.mpr ⟨fw_12, List.forall_mem_cons.mpr ⟨fw_13, List.forall_mem_cons.mpr ⟨fw_14, List.forall_mem_cons.mpr ⟨fw_15, List.forall_mem_cons.mpr ⟨fw_16, List.forall_mem_cons.mpr ⟨fw_17, List.forall_mem_cons.mpr ⟨fw_18, List.forall_mem_cons.mpr ⟨fw_19, List.forall_mem_cons.mpr ⟨fw_20, List.forall_mem_cons.mpr ⟨fw_21, List.forall_mem_cons.mpr ⟨fw_22, List.forall_mem_cons.mpr ⟨fw_23, List.forall_mem_cons.mpr ⟨fw_24, List.forall_mem_cons.mpr ⟨fw_25, List.forall_mem_cons.mpr ⟨fw_26, List.forall_mem_cons.mpr ⟨fw_27, List.forall_mem_cons.mpr ⟨fw_28, List.forall_mem_cons.mpr ⟨fw_29, List.forall_mem_cons.mpr ⟨fw_30, List.forall_mem_cons.mpr ⟨fw_31, List.forall_mem_cons.mpr ⟨fw_32, List.forall_mem_cons.mpr ⟨fw_33, List.forall_mem_cons.mpr ⟨fw_34, List.forall_mem_cons.mpr ⟨fw_35, List.forall_mem_cons.mpr ⟨fw_36, List.forall_mem_cons.mpr ⟨fw_37, List.forall_mem_cons.mpr ⟨fw_38, List.forall_mem_cons.mpr ⟨fw_39, fun _ h => absurd h List.not_mem_nil⟩⟩⟩⟩⟩⟩⟩⟩⟩⟩⟩⟩⟩⟩⟩⟩⟩⟩⟩⟩⟩⟩⟩⟩⟩⟩⟩⟩⟩⟩⟩⟩⟩⟩⟩⟩⟩⟩⟩⟩
def flL_40 : List (Nat × Nat × Nat × Nat × Nat) := [(3, 15, 3, 1, 0), (3, 19, 3, 2, 0), (3, 22, 3, 3, 0), (3, 26, 3, 4, 0), (4, 12, 4, 0, 0), (4, 16, 4, 1, 0), (4, 19, 4, 2, 0), (4, 23, 4, 3, 0), (4, 27, 4, 4, 0), (4, 30, 4, 5, 0), (4, 37, 4, 6, 0), (4, 41, 4, 7, 0)]
set_option maxRecDepth 1000000 in
theorem flL_40_ok : ∀ e ∈ flL_40, flW e ∈ lw_tbl := List.forall_mem_cons.mpr ⟨fw_40, List.forall_mem_cons.mpr ⟨fw_41, List.forall_mem_cons.mpr ⟨fw_42, List.forall_mem_cons.mpr ⟨fw_43, List.forall_mem_cons.mpr ⟨fw_44, List.forall_mem_cons.mpr ⟨fw_45, List.forall_mem_cons.mpr ⟨fw_46, List.forall_mem_cons.mpr ⟨fw_47, List.forall_mem_cons.mpr ⟨fw_48, List.forall_mem_cons.mpr ⟨fw_49, List.forall_mem_cons.mpr ⟨fw_50, List.forall_mem_cons.mpr ⟨fw_51, fun _ h => absurd h List.not_mem_nil⟩⟩⟩⟩⟩⟩⟩⟩⟩⟩⟩⟩
set_option maxRecDepth 1000000 in
theorem flL_eq : flL = flL_0 ++ flL_40 := by decide +kernel
theorem flL_ok : ∀ e ∈ flL, flW e ∈ lw_tbl := fun e h => by rw [flL_eq] at h; simp only [List.mem_append] at h; rcases h with (h | h) <;> first | exact flL_0_ok e h | exact flL_40_ok e h
def mlL_0 : List (Nat × Nat × Nat × Nat) := [(5, 141, 44, 0), (4, 3, 1000, 0), (4, 11, 14, 1), (2, 3, 1000, 0), (2, 40, 4, 1), (1, 3, 1000, 0), (2, 47, 0, 1), (0, 3, 1000, 0), (4, 36, 36, 1), (3, 3, 1000, 0), (5, 163, 58, 0), (4, 179, 15, 1), (2, 52, 1003, 0), (2, 58, 5, 1), (1, 28, 1003, 0), (2, 62, 1, 1), (0, 28, 1003, 0), (5, 142, 59, 0), (4, 183, 96, 0), (5, 11, 78, 0), (5, 134, 85, 0), (5, 149, 104, 0), (5, 153, 107, 0), (5, 52, 106, 0), (5, 19, 61, 0), (4, 91, 91, 0), (4, 208, 89, 0), (4, 110, 90, 0), (4, 214, 98, 0), (5, 23, 65, 0), (5, 26, 63, 0), (5, 29, 64, 0), (5, 32, 70, 0), (4, 52, 93, 0), (4, 240, 92, 0), (4, 290, 100, 0), (4, 225, 6, 1), (5, 35, 71, 0), (5, 38, 72, 0), (5, 41, 80, 0)]
set_option maxRecDepth 1000000 in
theorem mlL_0_ok : ∀ e ∈ mlL_0, mlW e ∈ lw_tbl := List.forall_mem_cons.mpr ⟨mw_0, List.forall_mem_cons.mpr ⟨mw_1, List.forall_mem_cons.mpr ⟨mw_2, List.forall_mem_cons.mpr ⟨mw_3, List.forall_mem_cons.mpr ⟨mw_4, List.forall_mem_cons.mpr ⟨mw_5, List.forall_mem_cons.mpr ⟨mw_6, List.forall_mem_cons.mpr ⟨mw_7, List.forall_mem_cons.mpr ⟨mw_8, List.forall_mem_cons.mpr ⟨mw_9, List.forall_mem_cons.mpr ⟨mw_10, List.forall_mem_cons.mpr ⟨mw_11, List.forall_mem_cons.mpr ⟨mw_12, List.forall_mem_cons.mpr ⟨mw_13, List.forall_mem_cons.mpr ⟨mw_14, List.forall_mem_cons.mpr ⟨mw_15, List.forall_mem_cons.mpr ⟨mw_16, List.forall_mem_cons.mpr ⟨mw_17, List.forall_mem_cons.mpr ⟨mw_18, List.forall_mem_cons.mpr ⟨mw_19, List.forall_mem_cons.mpr ⟨mw_20, List.forall_mem_cons.mpr ⟨mw_21, List.forall_mem_cons.mpr ⟨mw_22, List.forall_mem_cons.mpr ⟨mw_23, List.forall_mem_cons.mpr ⟨mw_24, List.forall_mem_cons.mpr ⟨mw_25, List.forall_mem_cons.mpr ⟨mw_26, List.forall_mem_cons.mpr ⟨mw_27, List.forall_mem_cons.mpr ⟨mw_28, List.forall_mem_cons.mpr ⟨mw_29, List.forall_mem_cons.mpr ⟨mw_30, List.forall_mem_cons.mpr ⟨mw_31, List.forall_mem_cons.mpr ⟨mw_32, List.forall_mem_cons.mpr ⟨mw_33, List.forall_mem_cons.mpr ⟨mw_34, List.forall_mem_cons.mpr ⟨mw_35, List.forall_mem_cons.mpr ⟨mw_36, List.forall_mem_cons.mpr ⟨mw_37, List.forall_mem_cons.mpr ⟨mw_38, List.forall_mem_cons.mpr ⟨mw_39, fun _ h => absurd h List.not_mem_nil⟩⟩⟩⟩⟩⟩⟩⟩⟩⟩⟩⟩⟩⟩⟩⟩⟩⟩⟩⟩⟩⟩⟩⟩⟩⟩⟩⟩⟩⟩⟩⟩⟩⟩⟩⟩⟩⟩⟩⟩
def mlL_40 : List (Nat × Nat × Nat × Nat) := [(4, 45, 87, 0), (5, 45, 73, 0), (5, 48, 79, 0), (5, 58, 84, 0), (5, 61, 83, 0), (4, 272, 3, 1), (5, 64, 68, 0), (5, 160, 110, 0), (5, 67, 105, 0), (5, 85, 50, 0), (4, 70, 101, 0), (5, 88, 52, 0), (4, 135, 35, 1), (5, 92, 53, 0), (4, 139, 32, 1), (4, 144, 33, 1), (2, 139, 34, 0), (2, 136, 29, 0), (2, 143, 30, 0), (2, 131, 2, 1), (5, 95, 51, 0), (4, 121, 29, 1), (5, 98, 60, 0), (5, 101, 49, 0), (4, 94, 95, 0), (4, 104, 28, 1), (5, 145, 111, 0), (5, 104, 66, 0), (4, 197, 30, 1), (4, 200, 1001, 0), (5, 107, 62, 0), (4, 192, 10, 1), (1, 38, 9, 0), (1, 34, 99, 1), (5, 110, 67, 0), (4, 205, 25, 1), (2, 118, 31, 0), (2, 123, 1002, 0), (2, 128, 1001, 0), (5, 113, 69, 0)]
set_option maxRecDepth 1000000 in
theorem mlL_40_ok : ∀ e ∈ mlL_40, mlW e ∈ lw_tbl := List.forall_mem_cons.mpr ⟨mw_40, List.forall_mem_cons.mpr ⟨mw_41, List.forall_mem_cons.mpr ⟨mw_42, List.forall_mem_cons.mpr ⟨mw_43, List.forall_mem_cons.mpr ⟨mw_44, List.forall_mem_cons.mpr ⟨mw_45, List.forall_mem_cons.mpr ⟨mw_46, List.forall_mem_cons.mpr ⟨mw_47, List.forall_mem_cons.mpr ⟨mw_48, List.forall_mem_cons.mpr ⟨mw_49, List.forall_mem_cons.mpr ⟨mw_50, List.forall_mem_cons.mpr ⟨mw_51, List.forall_mem_cons.mpr ⟨mw_52, List.forall_mem_cons.mpr ⟨mw_53, List.forall_mem_cons.mpr ⟨mw_54, List.forall_mem_cons.mpr ⟨mw_55, List.forall_mem_cons.mpr ⟨mw_56, List.forall_mem_cons.mpr ⟨mw_57, List.forall_mem_cons.mpr ⟨mw_58, List.forall_mem_cons.mpr ⟨mw_59, List.forall_mem_cons.mpr ⟨mw_60, List.forall_mem_cons.mpr ⟨mw_61, List.forall_mem_cons.mpr ⟨mw_62, List.forall_mem_cons.mpr ⟨mw_63, List.forall_mem_cons.mpr ⟨mw_64, List.forall_mem_cons.mpr ⟨mw_65, List.forall_mem_cons.mpr ⟨mw_66, List.forall_mem_cons.mpr ⟨mw_67, List.forall_mem_cons.mpr ⟨mw_68, List.forall_mem_cons.mpr ⟨mw_69, List.forall_mem_cons.mpr ⟨mw_70, List.forall_mem_cons.mpr ⟨mw_71, List.forall_mem_cons.mpr ⟨mw_72, List.forall_mem_cons.mpr ⟨mw_73, List.forall_mem_cons.mpr ⟨mw_74, List.forall_mem_cons.mpr ⟨mw_75, List.forall_mem_cons.mpr ⟨mw_76, List.forall_mem_cons.mpr ⟨mw_77, List.forall_mem_cons.mpr ⟨mw_78, List.forall_mem_cons.mpr ⟨mw_79, fun _ h => absurd h List.not_mem_nil⟩⟩⟩⟩⟩⟩⟩⟩⟩⟩⟩⟩⟩⟩⟩⟩⟩⟩⟩⟩⟩⟩⟩⟩⟩⟩⟩⟩⟩⟩⟩⟩⟩⟩⟩⟩⟩⟩⟩⟩
def mlL_80 : List (Nat × Nat × Nat × Nat) := [(4, 217, 11, 1), (4, 221, 103, 0), (5, 116, 75, 0), (4, 246, 13, 1), (5, 119, 74, 0), (4, 243, 12, 1), (5, 122, 81, 0), (5, 125, 82, 0), (4, 258, 31, 1), (5, 156, 112, 0), (5, 128, 76, 0), (4, 49, 88, 0), (4, 56, 94, 0), (4, 249, 23, 1), (2, 88, 99, 1), (2, 111, 98, 1), (2, 115, 24, 0), (5, 131, 108, 0), (5, 137, 109, 0), (5, 70, 45, 0), (4, 59, 16, 1), (2, 69, 6, 1), (4, 73, 17, 1), (2, 73, 23, 0), (2, 77, 26, 0), (2, 81, 7, 1), (2, 85, 22, 0), (2, 91, 27, 0), (2, 133, 28, 0), (5, 74, 47, 0), (4, 77, 97, 0), (4, 84, 20, 1), (2, 107, 8, 1), (5, 77, 48, 0), (4, 87, 21, 1), (5, 81, 46, 0), (4, 81, 18, 1), (2, 103, 19, 0)]
set_option maxRecDepth 1000000 in
theorem mlL_80_ok : ∀ e ∈ mlL_80, mlW e ∈ lw_tbl := List.forall_mem_cons.mpr ⟨mw_80, List.forall_mem_cons.mpr ⟨mw_81, List.forall_mem_cons.mpr ⟨mw_82, List.forall_mem_cons.mpr ⟨mw_83, List.forall_mem_cons.mpr ⟨mw_84, List.forall_mem_cons.mpr ⟨mw_85, List.forall_mem_cons.mpr ⟨mw_86, List.forall_mem_cons.mpr ⟨mw_87, List.forall_mem_cons.mpr ⟨mw_88, List.forall_mem_cons.mpr ⟨mw_89, List.forall_mem_cons.mpr ⟨mw_90, List.forall_mem_cons.mpr ⟨mw_91, List.forall_mem_cons.mpr ⟨mw_92, List.forall_mem_cons.mpr ⟨mw_93, List.forall_mem_cons.mpr ⟨mw_94, List.forall_mem_cons.mpr ⟨mw_95, List.forall_mem_cons.mpr ⟨mw_96, List.forall_mem_cons.mpr ⟨mw_97, List.forall_mem_cons.mpr ⟨mw_98, List.forall_mem_cons.mpr ⟨mw_99, List.forall_mem_cons.mpr ⟨mw_100, List.forall_mem_cons.mpr ⟨mw_101, List.forall_mem_cons.mpr ⟨mw_102, List.forall_mem_cons.mpr ⟨mw_103, List.forall_mem_cons.mpr ⟨mw_104, List.forall_mem_cons.mpr ⟨mw_105, List.forall_mem_cons.mpr ⟨mw_106, List.forall_mem_cons.mpr ⟨mw_107, List.forall_mem_cons.mpr ⟨mw_108, List.forall_mem_cons.mpr ⟨mw_109, List.forall_mem_cons.mpr ⟨mw_110, List.forall_mem_cons.mpr ⟨mw_111, List.forall_mem_cons.mpr ⟨mw_112, List.forall_mem_cons.mpr ⟨mw_113, List.forall_mem_cons.mpr ⟨mw_114, List.forall_mem_cons.mpr ⟨mw_115, List.forall_mem_cons.mpr ⟨mw_116, List.forall_mem_cons.mpr ⟨mw_117, fun _ h => absurd h List.not_mem_nil⟩⟩⟩⟩⟩⟩⟩⟩⟩⟩⟩⟩⟩⟩⟩⟩⟩⟩⟩⟩⟩⟩⟩⟩⟩⟩⟩⟩⟩⟩⟩⟩⟩⟩⟩⟩⟩⟩
set_option maxRecDepth 1000000 in
theorem mlL_eq : mlL = mlL_0 ++ mlL_40 ++ mlL_80 := by decide +kernel
theorem mlL_ok : ∀ e ∈ mlL, mlW e ∈ lw_tbl := fun e h => by rw [mlL_eq] at h; simp only [List.mem_append] at h; rcases h with ((h | h) | h) <;> first | exact mlL_0_ok e h | exact mlL_40_ok e h | exact mlL_80_ok e h
set_option maxRecDepth 1000000 in
theorem pd_0 : (parseMethodDescriptor "()V").map (fun d => d.parameters.length) = some 0 := by decide +kernel
set_option maxRecDepth 1000000 in
theorem pd_1 : (parseMethodDescriptor "(LStorageQuotas$EventLog;)V").map (fun d => d.parameters.length) = some 1 := by decide +kernel
set_option maxRecDepth 1000000 in
theorem pd_2 : (parseMethodDescriptor "(III)V").map (fun d => d.parameters.length) = some 3 := by decide +kernel
set_option maxRecDepth 1000000 in
theorem pd_3 : (parseMethodDescriptor "(II)I").map (fun d => d.parameters.length) = some 2 := by decide +kernel
set_option maxRecDepth 1000000 in
theorem pd_4 : (parseMethodDescriptor "(LStorageQuotas$FileTable;)V").map (fun d => d.parameters.length) = some 1 := by decide +kernel
set_option maxRecDepth 1000000 in
theorem pd_5 : (parseMethodDescriptor "(I)I").map (fun d => d.parameters.length) = some 1 := by decide +kernel
set_option maxRecDepth 1000000 in
theorem pd_6 : (parseMethodDescriptor "(IIII)V").map (fun d => d.parameters.length) = some 4 := by decide +kernel
set_option maxRecDepth 1000000 in
theorem pd_7 : (parseMethodDescriptor "(I)V").map (fun d => d.parameters.length) = some 1 := by decide +kernel
set_option maxRecDepth 1000000 in
theorem pd_8 : (parseMethodDescriptor "(II)Z").map (fun d => d.parameters.length) = some 2 := by decide +kernel
set_option maxRecDepth 1000000 in
theorem pd_9 : (parseMethodDescriptor "(I[I)I").map (fun d => d.parameters.length) = some 2 := by decide +kernel
set_option maxRecDepth 1000000 in
theorem pd_10 : (parseMethodDescriptor "(LStorageQuotas$State;)V").map (fun d => d.parameters.length) = some 1 := by decide +kernel
set_option maxRecDepth 1000000 in
theorem pd_11 : (parseMethodDescriptor "(I)Z").map (fun d => d.parameters.length) = some 1 := by decide +kernel
set_option maxRecDepth 1000000 in
theorem pd_12 : (parseMethodDescriptor "(IIII)I").map (fun d => d.parameters.length) = some 4 := by decide +kernel
set_option maxRecDepth 1000000 in
theorem pd_13 : (parseMethodDescriptor "(III)I").map (fun d => d.parameters.length) = some 3 := by decide +kernel
set_option maxRecDepth 1000000 in
theorem pd_14 : (parseMethodDescriptor "(IIIIII)I").map (fun d => d.parameters.length) = some 6 := by decide +kernel
set_option maxRecDepth 1000000 in
theorem pd_15 : (parseMethodDescriptor "()I").map (fun d => d.parameters.length) = some 0 := by decide +kernel
set_option maxRecDepth 1000000 in
theorem pd_16 : (parseMethodDescriptor "(IIIII)I").map (fun d => d.parameters.length) = some 5 := by decide +kernel
set_option maxRecDepth 1000000 in
theorem pd_17 : (parseMethodDescriptor "(IZ)I").map (fun d => d.parameters.length) = some 2 := by decide +kernel
set_option maxRecDepth 1000000 in
theorem pd_18 : (parseMethodDescriptor "(II)V").map (fun d => d.parameters.length) = some 2 := by decide +kernel
set_option maxRecDepth 1000000 in
theorem pd_19 : (parseMethodDescriptor "([II)I").map (fun d => d.parameters.length) = some 2 := by decide +kernel
set_option maxRecDepth 1000000 in
theorem pd_20 : (parseMethodDescriptor "(LStorageQuotas;)J").map (fun d => d.parameters.length) = some 1 := by decide +kernel
set_option maxRecDepth 1000000 in
theorem pd_21 : (parseMethodDescriptor "(LStorageQuotas;)I").map (fun d => d.parameters.length) = some 1 := by decide +kernel
set_option maxRecDepth 1000000 in
theorem pd_22 : (parseMethodDescriptor "(LStorageQuotas;II)I").map (fun d => d.parameters.length) = some 3 := by decide +kernel
set_option maxRecDepth 1000000 in
theorem pd_23 : (parseMethodDescriptor "(LStorageQuotas;)Z").map (fun d => d.parameters.length) = some 1 := by decide +kernel
set_option maxRecDepth 1000000 in
theorem pd_24 : (parseMethodDescriptor "(LStorageQuotas;II)Z").map (fun d => d.parameters.length) = some 3 := by decide +kernel
set_option maxRecDepth 1000000 in
theorem pd_25 : (parseMethodDescriptor "([I)Z").map (fun d => d.parameters.length) = some 1 := by decide +kernel
set_option maxRecDepth 1000000 in
theorem ma_0 : cwM 0 ∈ lw_tbl := kcD_0_in _ (List.mem_of_getElem? (i := 4) rfl)
set_option maxRecDepth 1000000 in
theorem mb_0 : Cond.instanceMethod (yM 0) ∈ lw_tbl := kiN_0_in _ (List.mem_of_getElem? (i := 4) rfl)
set_option maxRecDepth 1000000 in
theorem me_0 : (parseMethodDescriptor (yM 0).desc).map (fun d => d.parameters.length) = some (npM 0) := pd_0
theorem mt_0 : MtP 0 := ⟨rfl, Or.inr ma_0, fun h => absurd h (by decide), fun h => absurd h (by decide), fun _ => ⟨mb_0, rfl⟩, me_0⟩
set_option maxRecDepth 1000000 in
theorem ma_1 : cwM 1 ∈ lw_tbl := kcD_0_in _ (List.mem_of_getElem? (i := 14) rfl)
set_option maxRecDepth 1000000 in
theorem mb_1 : Cond.instanceMethod (yM 1) ∈ lw_tbl := kiN_0_in _ (List.mem_of_getElem? (i := 16) rfl)
set_option maxRecDepth 1000000 in
theorem md_1 : Cond.selects (owM 1) (yM 1) (yM 1) ∈ lw_tbl := kxL_0_in _ (List.mem_of_getElem? (i := 3) rfl)
set_option maxRecDepth 1000000 in
theorem me_1 : (parseMethodDescriptor (yM 1).desc).map (fun d => d.parameters.length) = some (npM 1) := pd_1
theorem mt_1 : MtP 1 := ⟨rfl, Or.inr ma_1, fun h => absurd h (by decide), fun _ => ⟨mb_1, md_1⟩, fun h => absurd h (by decide), me_1⟩
set_option maxRecDepth 1000000 in
theorem ma_2 : cwM 2 ∈ lw_tbl := kcD_0_in _ (List.mem_of_getElem? (i := 59) rfl)
set_option maxRecDepth 1000000 in
theorem mb_2 : Cond.instanceMethod (yM 2) ∈ lw_tbl := kiN_0_in _ (List.mem_of_getElem? (i := 47) rfl)
set_option maxRecDepth 1000000 in
theorem md_2 : Cond.selects (owM 2) (yM 2) (yM 2) ∈ lw_tbl := kxL_0_in _ (List.mem_of_getElem? (i := 13) rfl)
set_option maxRecDepth 1000000 in
theorem me_2 : (parseMethodDescriptor (yM 2).desc).map (fun d => d.parameters.length) = some (npM 2) := pd_2
theorem mt_2 : MtP 2 := ⟨rfl, Or.inr ma_2, fun h => absurd h (by decide), fun _ => ⟨mb_2, md_2⟩, fun h => absurd h (by decide), me_2⟩
set_option maxRecDepth 1000000 in
theorem ma_3 : cwM 3 ∈ lw_tbl := kcD_0_in _ (List.mem_of_getElem? (i := 45) rfl)
set_option maxRecDepth 1000000 in
theorem mb_3 : Cond.instanceMethod (yM 3) ∈ lw_tbl := kiN_0_in _ (List.mem_of_getElem? (i := 35) rfl)
set_option maxRecDepth 1000000 in
theorem md_3 : Cond.selects (owM 3) (yM 3) (yM 3) ∈ lw_tbl := kxL_0_in _ (List.mem_of_getElem? (i := 5) rfl)
set_option maxRecDepth 1000000 in
theorem me_3 : (parseMethodDescriptor (yM 3).desc).map (fun d => d.parameters.length) = some (npM 3) := pd_3
theorem mt_3 : MtP 3 := ⟨rfl, Or.inr ma_3, fun h => absurd h (by decide), fun _ => ⟨mb_3, md_3⟩, fun h => absurd h (by decide), me_3⟩
set_option maxRecDepth 1000000 in
theorem ma_4 : cwM 4 ∈ lw_tbl := kcD_0_in _ (List.mem_of_getElem? (i := 3) rfl)
set_option maxRecDepth 1000000 in
theorem mb_4 : Cond.instanceMethod (yM 4) ∈ lw_tbl := kiN_0_in _ (List.mem_of_getElem? (i := 3) rfl)
set_option maxRecDepth 1000000 in
theorem me_4 : (parseMethodDescriptor (yM 4).desc).map (fun d => d.parameters.length) = some (npM 4) := pd_0
theorem mt_4 : MtP 4 := ⟨rfl, Or.inr ma_4, fun h => absurd h (by decide), fun h => absurd h (by decide), fun _ => ⟨mb_4, rfl⟩, me_4⟩
set_option maxRecDepth 1000000 in
theorem ma_5 : cwM 5 ∈ lw_tbl := kcD_0_in _ (List.mem_of_getElem? (i := 13) rfl)
set_option maxRecDepth 1000000 in
theorem mb_5 : Cond.instanceMethod (yM 5) ∈ lw_tbl := kiN_0_in _ (List.mem_of_getElem? (i := 15) rfl)
set_option maxRecDepth 1000000 in
theorem md_5 : Cond.selects (owM 5) (yM 5) (yM 5) ∈ lw_tbl := kxL_0_in _ (List.mem_of_getElem? (i := 2) rfl)
set_option maxRecDepth 1000000 in
theorem me_5 : (parseMethodDescriptor (yM 5).desc).map (fun d => d.parameters.length) = some (npM 5) := pd_4
theorem mt_5 : MtP 5 := ⟨rfl, Or.inr ma_5, fun h => absurd h (by decide), fun _ => ⟨mb_5, md_5⟩, fun h => absurd h (by decide), me_5⟩
set_option maxRecDepth 1000000 in
theorem ma_6 : cwM 6 ∈ lw_tbl := kcD_0_in _ (List.mem_of_getElem? (i := 35) rfl)
set_option maxRecDepth 1000000 in
theorem mb_6 : Cond.instanceMethod (yM 6) ∈ lw_tbl := kiN_0_in _ (List.mem_of_getElem? (i := 26) rfl)
set_option maxRecDepth 1000000 in
theorem md_6 : Cond.selects (owM 6) (yM 6) (yM 6) ∈ lw_tbl := kxL_0_in _ (List.mem_of_getElem? (i := 4) rfl)
set_option maxRecDepth 1000000 in
theorem me_6 : (parseMethodDescriptor (yM 6).desc).map (fun d => d.parameters.length) = some (npM 6) := pd_5
theorem mt_6 : MtP 6 := ⟨rfl, Or.inr ma_6, fun h => absurd h (by decide), fun _ => ⟨mb_6, md_6⟩, fun h => absurd h (by decide), me_6⟩
set_option maxRecDepth 1000000 in
theorem ma_7 : cwM 7 ∈ lw_tbl := kcD_60_in _ (List.mem_of_getElem? (i := 37) rfl)
set_option maxRecDepth 1000000 in
theorem mb_7 : Cond.instanceMethod (yM 7) ∈ lw_tbl := kiN_60_in _ (List.mem_of_getElem? (i := 14) rfl)
set_option maxRecDepth 1000000 in
theorem md_7 : Cond.selects (owM 7) (yM 7) (yM 7) ∈ lw_tbl := kxL_0_in _ (List.mem_of_getElem? (i := 27) rfl)
set_option maxRecDepth 1000000 in
theorem me_7 : (parseMethodDescriptor (yM 7).desc).map (fun d => d.parameters.length) = some (npM 7) := pd_6
theorem mt_7 : MtP 7 := ⟨rfl, Or.inr ma_7, fun h => absurd h (by decide), fun _ => ⟨mb_7, md_7⟩, fun h => absurd h (by decide), me_7⟩
set_option maxRecDepth 1000000 in
theorem ma_8 : cwM 8 ∈ lw_tbl := kcD_60_in _ (List.mem_of_getElem? (i := 43) rfl)
set_option maxRecDepth 1000000 in
theorem mb_8 : Cond.instanceMethod (yM 8) ∈ lw_tbl := kiN_60_in _ (List.mem_of_getElem? (i := 20) rfl)
set_option maxRecDepth 1000000 in
theorem md_8 : Cond.selects (owM 8) (yM 8) (yM 8) ∈ lw_tbl := kxL_0_in _ (List.mem_of_getElem? (i := 32) rfl)
set_option maxRecDepth 1000000 in
theorem me_8 : (parseMethodDescriptor (yM 8).desc).map (fun d => d.parameters.length) = some (npM 8) := pd_7
theorem mt_8 : MtP 8 := ⟨rfl, Or.inr ma_8, fun h => absurd h (by decide), fun _ => ⟨mb_8, md_8⟩, fun h => absurd h (by decide), me_8⟩
set_option maxRecDepth 1000000 in
theorem ma_9 : cwM 9 ∈ lw_tbl := kcD_60_in _ (List.mem_of_getElem? (i := 10) rfl)
set_option maxRecDepth 1000000 in
theorem mb_9 : Cond.instanceMethod (yM 9) ∈ lw_tbl := kiN_0_in _ (List.mem_of_getElem? (i := 55) rfl)
set_option maxRecDepth 1000000 in
theorem md_9 : Cond.selects (owM 9) (yM 9) (yM 9) ∈ lw_tbl := kxL_0_in _ (List.mem_of_getElem? (i := 16) rfl)
set_option maxRecDepth 1000000 in
theorem me_9 : (parseMethodDescriptor (yM 9).desc).map (fun d => d.parameters.length) = some (npM 9) := pd_8
theorem mt_9 : MtP 9 := ⟨rfl, Or.inr ma_9, fun h => absurd h (by decide), fun _ => ⟨mb_9, md_9⟩, fun h => absurd h (by decide), me_9⟩
set_option maxRecDepth 1000000 in
theorem ma_10 : cwM 10 ∈ lw_tbl := kcD_60_in _ (List.mem_of_getElem? (i := 9) rfl)
set_option maxRecDepth 1000000 in
theorem mb_10 : Cond.instanceMethod (yM 10) ∈ lw_tbl := kiN_0_in _ (List.mem_of_getElem? (i := 54) rfl)
set_option maxRecDepth 1000000 in
theorem md_10 : Cond.selects (owM 10) (yM 10) (yM 10) ∈ lw_tbl := kxL_0_in _ (List.mem_of_getElem? (i := 15) rfl)
set_option maxRecDepth 1000000 in
theorem me_10 : (parseMethodDescriptor (yM 10).desc).map (fun d => d.parameters.length) = some (npM 10) := pd_3
theorem mt_10 : MtP 10 := ⟨rfl, Or.inr ma_10, fun h => absurd h (by decide), fun _ => ⟨mb_10, md_10⟩, fun h => absurd h (by decide), me_10⟩
set_option maxRecDepth 1000000 in
theorem ma_11 : cwM 11 ∈ lw_tbl := kcD_60_in _ (List.mem_of_getElem? (i := 17) rfl)
set_option maxRecDepth 1000000 in
theorem mb_11 : Cond.instanceMethod (yM 11) ∈ lw_tbl := kiN_60_in _ (List.mem_of_getElem? (i := 0) rfl)
set_option maxRecDepth 1000000 in
theorem md_11 : Cond.selects (owM 11) (yM 11) (yM 11) ∈ lw_tbl := kxL_0_in _ (List.mem_of_getElem? (i := 19) rfl)
set_option maxRecDepth 1000000 in
theorem me_11 : (parseMethodDescriptor (yM 11).desc).map (fun d => d.parameters.length) = some (npM 11) := pd_9
theorem mt_11 : MtP 11 := ⟨rfl, Or.inr ma_11, fun h => absurd h (by decide), fun _ => ⟨mb_11, md_11⟩, fun h => absurd h (by decide), me_11⟩
set_option maxRecDepth 1000000 in
theorem ma_12 : cwM 12 ∈ lw_tbl := kcD_60_in _ (List.mem_of_getElem? (i := 22) rfl)
set_option maxRecDepth 1000000 in
theorem mb_12 : Cond.instanceMethod (yM 12) ∈ lw_tbl := kiN_60_in _ (List.mem_of_getElem? (i := 4) rfl)
set_option maxRecDepth 1000000 in
theorem md_12 : Cond.selects (owM 12) (yM 12) (yM 12) ∈ lw_tbl := kxL_0_in _ (List.mem_of_getElem? (i := 21) rfl)
set_option maxRecDepth 1000000 in
theorem me_12 : (parseMethodDescriptor (yM 12).desc).map (fun d => d.parameters.length) = some (npM 12) := pd_5
theorem mt_12 : MtP 12 := ⟨rfl, Or.inr ma_12, fun h => absurd h (by decide), fun _ => ⟨mb_12, md_12⟩, fun h => absurd h (by decide), me_12⟩
set_option maxRecDepth 1000000 in
theorem ma_13 : cwM 13 ∈ lw_tbl := kcD_60_in _ (List.mem_of_getElem? (i := 20) rfl)
set_option maxRecDepth 1000000 in
theorem mb_13 : Cond.instanceMethod (yM 13) ∈ lw_tbl := kiN_60_in _ (List.mem_of_getElem? (i := 2) rfl)
set_option maxRecDepth 1000000 in
theorem md_13 : Cond.selects (owM 13) (yM 13) (yM 13) ∈ lw_tbl := kxL_0_in _ (List.mem_of_getElem? (i := 20) rfl)
set_option maxRecDepth 1000000 in
theorem me_13 : (parseMethodDescriptor (yM 13).desc).map (fun d => d.parameters.length) = some (npM 13) := pd_5
theorem mt_13 : MtP 13 := ⟨rfl, Or.inr ma_13, fun h => absurd h (by decide), fun _ => ⟨mb_13, md_13⟩, fun h => absurd h (by decide), me_13⟩
set_option maxRecDepth 1000000 in
theorem ma_14 : cwM 14 ∈ lw_tbl := kcD_0_in _ (List.mem_of_getElem? (i := 2) rfl)
set_option maxRecDepth 1000000 in
theorem mb_14 : Cond.instanceMethod (yM 14) ∈ lw_tbl := kiN_0_in _ (List.mem_of_getElem? (i := 2) rfl)
set_option maxRecDepth 1000000 in
theorem me_14 : (parseMethodDescriptor (yM 14).desc).map (fun d => d.parameters.length) = some (npM 14) := pd_0
theorem mt_14 : MtP 14 := ⟨rfl, Or.inr ma_14, fun h => absurd h (by decide), fun h => absurd h (by decide), fun _ => ⟨mb_14, rfl⟩, me_14⟩
set_option maxRecDepth 1000000 in
theorem ma_15 : cwM 15 ∈ lw_tbl := kcD_0_in _ (List.mem_of_getElem? (i := 12) rfl)
set_option maxRecDepth 1000000 in
theorem mb_15 : Cond.instanceMethod (yM 15) ∈ lw_tbl := kiN_0_in _ (List.mem_of_getElem? (i := 14) rfl)
set_option maxRecDepth 1000000 in
theorem md_15 : Cond.selects (owM 15) (yM 15) (yM 15) ∈ lw_tbl := kxL_0_in _ (List.mem_of_getElem? (i := 1) rfl)
set_option maxRecDepth 1000000 in
theorem me_15 : (parseMethodDescriptor (yM 15).desc).map (fun d => d.parameters.length) = some (npM 15) := pd_10
theorem mt_15 : MtP 15 := ⟨rfl, Or.inr ma_15, fun h => absurd h (by decide), fun _ => ⟨mb_15, md_15⟩, fun h => absurd h (by decide), me_15⟩
set_option maxRecDepth 1000000 in
theorem ma_16 : cwM 16 ∈ lw_tbl := kcD_60_in _ (List.mem_of_getElem? (i := 34) rfl)
set_option maxRecDepth 1000000 in
theorem mb_16 : Cond.instanceMethod (yM 16) ∈ lw_tbl := kiN_60_in _ (List.mem_of_getElem? (i := 11) rfl)
set_option maxRecDepth 1000000 in
theorem md_16 : Cond.selects (owM 16) (yM 16) (yM 16) ∈ lw_tbl := kxL_0_in _ (List.mem_of_getElem? (i := 24) rfl)
set_option maxRecDepth 1000000 in
theorem me_16 : (parseMethodDescriptor (yM 16).desc).map (fun d => d.parameters.length) = some (npM 16) := pd_11
theorem mt_16 : MtP 16 := ⟨rfl, Or.inr ma_16, fun h => absurd h (by decide), fun _ => ⟨mb_16, md_16⟩, fun h => absurd h (by decide), me_16⟩
set_option maxRecDepth 1000000 in
theorem ma_17 : cwM 17 ∈ lw_tbl := kcD_60_in _ (List.mem_of_getElem? (i := 35) rfl)
set_option maxRecDepth 1000000 in
theorem mb_17 : Cond.instanceMethod (yM 17) ∈ lw_tbl := kiN_60_in _ (List.mem_of_getElem? (i := 12) rfl)
set_option maxRecDepth 1000000 in
theorem md_17 : Cond.selects (owM 17) (yM 17) (yM 17) ∈ lw_tbl := kxL_0_in _ (List.mem_of_getElem? (i := 25) rfl)
set_option maxRecDepth 1000000 in
theorem me_17 : (parseMethodDescriptor (yM 17).desc).map (fun d => d.parameters.length) = some (npM 17) := pd_12
theorem mt_17 : MtP 17 := ⟨rfl, Or.inr ma_17, fun h => absurd h (by decide), fun _ => ⟨mb_17, md_17⟩, fun h => absurd h (by decide), me_17⟩
set_option maxRecDepth 1000000 in
theorem ma_18 : cwM 18 ∈ lw_tbl := kcD_60_in _ (List.mem_of_getElem? (i := 47) rfl)
set_option maxRecDepth 1000000 in
theorem mb_18 : Cond.instanceMethod (yM 18) ∈ lw_tbl := kiN_60_in _ (List.mem_of_getElem? (i := 24) rfl)
set_option maxRecDepth 1000000 in
theorem md_18 : Cond.selects (owM 18) (yM 18) (yM 18) ∈ lw_tbl := kxL_0_in _ (List.mem_of_getElem? (i := 34) rfl)
set_option maxRecDepth 1000000 in
theorem me_18 : (parseMethodDescriptor (yM 18).desc).map (fun d => d.parameters.length) = some (npM 18) := pd_3
theorem mt_18 : MtP 18 := ⟨rfl, Or.inr ma_18, fun h => absurd h (by decide), fun _ => ⟨mb_18, md_18⟩, fun h => absurd h (by decide), me_18⟩
set_option maxRecDepth 1000000 in
theorem ma_19 : cwM 19 ∈ lw_tbl := kcD_60_in _ (List.mem_of_getElem? (i := 48) rfl)
set_option maxRecDepth 1000000 in
theorem mb_19 : Cond.instanceMethod (yM 19) ∈ lw_tbl := kiN_60_in _ (List.mem_of_getElem? (i := 25) rfl)
set_option maxRecDepth 1000000 in
theorem md_19 : Cond.selects (owM 19) (yM 19) (yM 19) ∈ lw_tbl := kxL_0_in _ (List.mem_of_getElem? (i := 35) rfl)
set_option maxRecDepth 1000000 in
theorem me_19 : (parseMethodDescriptor (yM 19).desc).map (fun d => d.parameters.length) = some (npM 19) := pd_13
theorem mt_19 : MtP 19 := ⟨rfl, Or.inr ma_19, fun h => absurd h (by decide), fun _ => ⟨mb_19, md_19⟩, fun h => absurd h (by decide), me_19⟩
set_option maxRecDepth 1000000 in
theorem ma_20 : cwM 20 ∈ lw_tbl := kcD_60_in _ (List.mem_of_getElem? (i := 42) rfl)
set_option maxRecDepth 1000000 in
theorem mb_20 : Cond.instanceMethod (yM 20) ∈ lw_tbl := kiN_60_in _ (List.mem_of_getElem? (i := 19) rfl)
set_option maxRecDepth 1000000 in
theorem md_20 : Cond.selects (owM 20) (yM 20) (yM 20) ∈ lw_tbl := kxL_0_in _ (List.mem_of_getElem? (i := 31) rfl)
set_option maxRecDepth 1000000 in
theorem me_20 : (parseMethodDescriptor (yM 20).desc).map (fun d => d.parameters.length) = some (npM 20) := pd_5
theorem mt_20 : MtP 20 := ⟨rfl, Or.inr ma_20, fun h => absurd h (by decide), fun _ => ⟨mb_20, md_20⟩, fun h => absurd h (by decide), me_20⟩
set_option maxRecDepth 1000000 in
theorem ma_21 : cwM 21 ∈ lw_tbl := kcD_60_in _ (List.mem_of_getElem? (i := 45) rfl)
set_option maxRecDepth 1000000 in
theorem mb_21 : Cond.instanceMethod (yM 21) ∈ lw_tbl := kiN_60_in _ (List.mem_of_getElem? (i := 22) rfl)
set_option maxRecDepth 1000000 in
theorem md_21 : Cond.selects (owM 21) (yM 21) (yM 21) ∈ lw_tbl := kxL_0_in _ (List.mem_of_getElem? (i := 33) rfl)
set_option maxRecDepth 1000000 in
theorem me_21 : (parseMethodDescriptor (yM 21).desc).map (fun d => d.parameters.length) = some (npM 21) := pd_13
theorem mt_21 : MtP 21 := ⟨rfl, Or.inr ma_21, fun h => absurd h (by decide), fun _ => ⟨mb_21, md_21⟩, fun h => absurd h (by decide), me_21⟩
set_option maxRecDepth 1000000 in
theorem ma_22 : cwM 22 ∈ lw_tbl := kcD_60_in _ (List.mem_of_getElem? (i := 38) rfl)
set_option maxRecDepth 1000000 in
theorem mb_22 : Cond.instanceMethod (yM 22) ∈ lw_tbl := kiN_60_in _ (List.mem_of_getElem? (i := 15) rfl)
set_option maxRecDepth 1000000 in
theorem md_22 : Cond.selects (owM 22) (yM 22) (yM 22) ∈ lw_tbl := kxL_0_in _ (List.mem_of_getElem? (i := 28) rfl)
set_option maxRecDepth 1000000 in
theorem me_22 : (parseMethodDescriptor (yM 22).desc).map (fun d => d.parameters.length) = some (npM 22) := pd_2
theorem mt_22 : MtP 22 := ⟨rfl, Or.inr ma_22, fun h => absurd h (by decide), fun _ => ⟨mb_22, md_22⟩, fun h => absurd h (by decide), me_22⟩
set_option maxRecDepth 1000000 in
theorem ma_23 : cwM 23 ∈ lw_tbl := kcD_60_in _ (List.mem_of_getElem? (i := 29) rfl)
set_option maxRecDepth 1000000 in
theorem mb_23 : Cond.instanceMethod (yM 23) ∈ lw_tbl := kiN_60_in _ (List.mem_of_getElem? (i := 8) rfl)
set_option maxRecDepth 1000000 in
theorem md_23 : Cond.selects (owM 23) (yM 23) (yM 23) ∈ lw_tbl := kxL_0_in _ (List.mem_of_getElem? (i := 22) rfl)
set_option maxRecDepth 1000000 in
theorem me_23 : (parseMethodDescriptor (yM 23).desc).map (fun d => d.parameters.length) = some (npM 23) := pd_14
theorem mt_23 : MtP 23 := ⟨rfl, Or.inr ma_23, fun h => absurd h (by decide), fun _ => ⟨mb_23, md_23⟩, fun h => absurd h (by decide), me_23⟩
set_option maxRecDepth 1000000 in
theorem ma_24 : cwM 24 ∈ lw_tbl := kcD_60_in _ (List.mem_of_getElem? (i := 30) rfl)
set_option maxRecDepth 1000000 in
theorem mb_24 : Cond.instanceMethod (yM 24) ∈ lw_tbl := kiN_60_in _ (List.mem_of_getElem? (i := 9) rfl)
set_option maxRecDepth 1000000 in
theorem md_24 : Cond.selects (owM 24) (yM 24) (yM 24) ∈ lw_tbl := kxL_0_in _ (List.mem_of_getElem? (i := 23) rfl)
set_option maxRecDepth 1000000 in
theorem me_24 : (parseMethodDescriptor (yM 24).desc).map (fun d => d.parameters.length) = some (npM 24) := pd_3
theorem mt_24 : MtP 24 := ⟨rfl, Or.inr ma_24, fun h => absurd h (by decide), fun _ => ⟨mb_24, md_24⟩, fun h => absurd h (by decide), me_24⟩
set_option maxRecDepth 1000000 in
theorem ma_25 : cwM 25 ∈ lw_tbl := kcD_60_in _ (List.mem_of_getElem? (i := 13) rfl)
set_option maxRecDepth 1000000 in
theorem mb_25 : Cond.instanceMethod (yM 25) ∈ lw_tbl := kiN_0_in _ (List.mem_of_getElem? (i := 57) rfl)
set_option maxRecDepth 1000000 in
theorem md_25 : Cond.selects (owM 25) (yM 25) (yM 25) ∈ lw_tbl := kxL_0_in _ (List.mem_of_getElem? (i := 17) rfl)
set_option maxRecDepth 1000000 in
theorem me_25 : (parseMethodDescriptor (yM 25).desc).map (fun d => d.parameters.length) = some (npM 25) := pd_5
theorem mt_25 : MtP 25 := ⟨rfl, Or.inr ma_25, fun h => absurd h (by decide), fun _ => ⟨mb_25, md_25⟩, fun h => absurd h (by decide), me_25⟩
set_option maxRecDepth 1000000 in
theorem ma_26 : cwM 26 ∈ lw_tbl := kcD_60_in _ (List.mem_of_getElem? (i := 36) rfl)
set_option maxRecDepth 1000000 in
theorem mb_26 : Cond.instanceMethod (yM 26) ∈ lw_tbl := kiN_60_in _ (List.mem_of_getElem? (i := 13) rfl)
set_option maxRecDepth 1000000 in
theorem md_26 : Cond.selects (owM 26) (yM 26) (yM 26) ∈ lw_tbl := kxL_0_in _ (List.mem_of_getElem? (i := 26) rfl)
set_option maxRecDepth 1000000 in
theorem me_26 : (parseMethodDescriptor (yM 26).desc).map (fun d => d.parameters.length) = some (npM 26) := pd_2
theorem mt_26 : MtP 26 := ⟨rfl, Or.inr ma_26, fun h => absurd h (by decide), fun _ => ⟨mb_26, md_26⟩, fun h => absurd h (by decide), me_26⟩
set_option maxRecDepth 1000000 in
theorem ma_27 : cwM 27 ∈ lw_tbl := kcD_60_in _ (List.mem_of_getElem? (i := 39) rfl)
set_option maxRecDepth 1000000 in
theorem mb_27 : Cond.instanceMethod (yM 27) ∈ lw_tbl := kiN_60_in _ (List.mem_of_getElem? (i := 16) rfl)
set_option maxRecDepth 1000000 in
theorem md_27 : Cond.selects (owM 27) (yM 27) (yM 27) ∈ lw_tbl := kxL_0_in _ (List.mem_of_getElem? (i := 29) rfl)
set_option maxRecDepth 1000000 in
theorem me_27 : (parseMethodDescriptor (yM 27).desc).map (fun d => d.parameters.length) = some (npM 27) := pd_0
theorem mt_27 : MtP 27 := ⟨rfl, Or.inr ma_27, fun h => absurd h (by decide), fun _ => ⟨mb_27, md_27⟩, fun h => absurd h (by decide), me_27⟩
set_option maxRecDepth 1000000 in
theorem ma_28 : cwM 28 ∈ lw_tbl := kcD_60_in _ (List.mem_of_getElem? (i := 4) rfl)
set_option maxRecDepth 1000000 in
theorem mb_28 : Cond.instanceMethod (yM 28) ∈ lw_tbl := kiN_0_in _ (List.mem_of_getElem? (i := 51) rfl)
set_option maxRecDepth 1000000 in
theorem md_28 : Cond.selects (owM 28) (yM 28) (yM 28) ∈ lw_tbl := kxL_0_in _ (List.mem_of_getElem? (i := 14) rfl)
set_option maxRecDepth 1000000 in
theorem me_28 : (parseMethodDescriptor (yM 28).desc).map (fun d => d.parameters.length) = some (npM 28) := pd_7
theorem mt_28 : MtP 28 := ⟨rfl, Or.inr ma_28, fun h => absurd h (by decide), fun _ => ⟨mb_28, md_28⟩, fun h => absurd h (by decide), me_28⟩
set_option maxRecDepth 1000000 in
theorem ma_29 : cwM 29 ∈ lw_tbl := kcD_0_in _ (List.mem_of_getElem? (i := 57) rfl)
set_option maxRecDepth 1000000 in
theorem mb_29 : Cond.instanceMethod (yM 29) ∈ lw_tbl := kiN_0_in _ (List.mem_of_getElem? (i := 45) rfl)
set_option maxRecDepth 1000000 in
theorem md_29 : Cond.selects (owM 29) (yM 29) (yM 29) ∈ lw_tbl := kxL_0_in _ (List.mem_of_getElem? (i := 11) rfl)
set_option maxRecDepth 1000000 in
theorem me_29 : (parseMethodDescriptor (yM 29).desc).map (fun d => d.parameters.length) = some (npM 29) := pd_11
theorem mt_29 : MtP 29 := ⟨rfl, Or.inr ma_29, fun h => absurd h (by decide), fun _ => ⟨mb_29, md_29⟩, fun h => absurd h (by decide), me_29⟩
set_option maxRecDepth 1000000 in
theorem ma_30 : cwM 30 ∈ lw_tbl := kcD_0_in _ (List.mem_of_getElem? (i := 58) rfl)
set_option maxRecDepth 1000000 in
theorem mb_30 : Cond.instanceMethod (yM 30) ∈ lw_tbl := kiN_0_in _ (List.mem_of_getElem? (i := 46) rfl)
set_option maxRecDepth 1000000 in
theorem md_30 : Cond.selects (owM 30) (yM 30) (yM 30) ∈ lw_tbl := kxL_0_in _ (List.mem_of_getElem? (i := 12) rfl)
set_option maxRecDepth 1000000 in
theorem me_30 : (parseMethodDescriptor (yM 30).desc).map (fun d => d.parameters.length) = some (npM 30) := pd_5
theorem mt_30 : MtP 30 := ⟨rfl, Or.inr ma_30, fun h => absurd h (by decide), fun _ => ⟨mb_30, md_30⟩, fun h => absurd h (by decide), me_30⟩
set_option maxRecDepth 1000000 in
theorem ma_31 : cwM 31 ∈ lw_tbl := kcD_60_in _ (List.mem_of_getElem? (i := 14) rfl)
set_option maxRecDepth 1000000 in
theorem mb_31 : Cond.instanceMethod (yM 31) ∈ lw_tbl := kiN_0_in _ (List.mem_of_getElem? (i := 58) rfl)
set_option maxRecDepth 1000000 in
theorem md_31 : Cond.selects (owM 31) (yM 31) (yM 31) ∈ lw_tbl := kxL_0_in _ (List.mem_of_getElem? (i := 18) rfl)
set_option maxRecDepth 1000000 in
theorem me_31 : (parseMethodDescriptor (yM 31).desc).map (fun d => d.parameters.length) = some (npM 31) := pd_11
theorem mt_31 : MtP 31 := ⟨rfl, Or.inr ma_31, fun h => absurd h (by decide), fun _ => ⟨mb_31, md_31⟩, fun h => absurd h (by decide), me_31⟩
set_option maxRecDepth 1000000 in
theorem ma_32 : cwM 32 ∈ lw_tbl := kcD_0_in _ (List.mem_of_getElem? (i := 54) rfl)
set_option maxRecDepth 1000000 in
theorem mb_32 : Cond.instanceMethod (yM 32) ∈ lw_tbl := kiN_0_in _ (List.mem_of_getElem? (i := 42) rfl)
set_option maxRecDepth 1000000 in
theorem md_32 : Cond.selects (owM 32) (yM 32) (yM 32) ∈ lw_tbl := kxL_0_in _ (List.mem_of_getElem? (i := 8) rfl)
set_option maxRecDepth 1000000 in
theorem me_32 : (parseMethodDescriptor (yM 32).desc).map (fun d => d.parameters.length) = some (npM 32) := pd_11
theorem mt_32 : MtP 32 := ⟨rfl, Or.inr ma_32, fun h => absurd h (by decide), fun _ => ⟨mb_32, md_32⟩, fun h => absurd h (by decide), me_32⟩
set_option maxRecDepth 1000000 in
theorem ma_33 : cwM 33 ∈ lw_tbl := kcD_0_in _ (List.mem_of_getElem? (i := 55) rfl)
set_option maxRecDepth 1000000 in
theorem mb_33 : Cond.instanceMethod (yM 33) ∈ lw_tbl := kiN_0_in _ (List.mem_of_getElem? (i := 43) rfl)
set_option maxRecDepth 1000000 in
theorem md_33 : Cond.selects (owM 33) (yM 33) (yM 33) ∈ lw_tbl := kxL_0_in _ (List.mem_of_getElem? (i := 9) rfl)
set_option maxRecDepth 1000000 in
theorem me_33 : (parseMethodDescriptor (yM 33).desc).map (fun d => d.parameters.length) = some (npM 33) := pd_5
theorem mt_33 : MtP 33 := ⟨rfl, Or.inr ma_33, fun h => absurd h (by decide), fun _ => ⟨mb_33, md_33⟩, fun h => absurd h (by decide), me_33⟩
set_option maxRecDepth 1000000 in
theorem ma_34 : cwM 34 ∈ lw_tbl := kcD_0_in _ (List.mem_of_getElem? (i := 56) rfl)
set_option maxRecDepth 1000000 in
theorem mb_34 : Cond.instanceMethod (yM 34) ∈ lw_tbl := kiN_0_in _ (List.mem_of_getElem? (i := 44) rfl)
set_option maxRecDepth 1000000 in
theorem md_34 : Cond.selects (owM 34) (yM 34) (yM 34) ∈ lw_tbl := kxL_0_in _ (List.mem_of_getElem? (i := 10) rfl)
set_option maxRecDepth 1000000 in
theorem me_34 : (parseMethodDescriptor (yM 34).desc).map (fun d => d.parameters.length) = some (npM 34) := pd_15
theorem mt_34 : MtP 34 := ⟨rfl, Or.inr ma_34, fun h => absurd h (by decide), fun _ => ⟨mb_34, md_34⟩, fun h => absurd h (by decide), me_34⟩
set_option maxRecDepth 1000000 in
theorem ma_35 : cwM 35 ∈ lw_tbl := kcD_0_in _ (List.mem_of_getElem? (i := 52) rfl)
set_option maxRecDepth 1000000 in
theorem mb_35 : Cond.instanceMethod (yM 35) ∈ lw_tbl := kiN_0_in _ (List.mem_of_getElem? (i := 40) rfl)
set_option maxRecDepth 1000000 in
theorem md_35 : Cond.selects (owM 35) (yM 35) (yM 35) ∈ lw_tbl := kxL_0_in _ (List.mem_of_getElem? (i := 7) rfl)
set_option maxRecDepth 1000000 in
theorem me_35 : (parseMethodDescriptor (yM 35).desc).map (fun d => d.parameters.length) = some (npM 35) := pd_15
theorem mt_35 : MtP 35 := ⟨rfl, Or.inr ma_35, fun h => absurd h (by decide), fun _ => ⟨mb_35, md_35⟩, fun h => absurd h (by decide), me_35⟩
set_option maxRecDepth 1000000 in
theorem ma_36 : cwM 36 ∈ lw_tbl := kcD_0_in _ (List.mem_of_getElem? (i := 5) rfl)
set_option maxRecDepth 1000000 in
theorem mb_36 : Cond.instanceMethod (yM 36) ∈ lw_tbl := kiN_0_in _ (List.mem_of_getElem? (i := 5) rfl)
set_option maxRecDepth 1000000 in
theorem me_36 : (parseMethodDescriptor (yM 36).desc).map (fun d => d.parameters.length) = some (npM 36) := pd_0
theorem mt_36 : MtP 36 := ⟨rfl, Or.inr ma_36, fun h => absurd h (by decide), fun h => absurd h (by decide), fun _ => ⟨mb_36, rfl⟩, me_36⟩
theorem mt_37 : MtP 37 := ⟨rfl, Or.inr ma_0, fun h => absurd h (by decide), fun h => absurd h (by decide), fun _ => ⟨mb_0, rfl⟩, me_0⟩
theorem mt_38 : MtP 38 := ⟨rfl, Or.inr ma_0, fun h => absurd h (by decide), fun h => absurd h (by decide), fun _ => ⟨mb_0, rfl⟩, me_0⟩
theorem mt_39 : MtP 39 := ⟨rfl, Or.inr ma_0, fun h => absurd h (by decide), fun h => absurd h (by decide), fun _ => ⟨mb_0, rfl⟩, me_0⟩
theorem mt_40 : MtP 40 := ⟨rfl, Or.inr ma_0, fun h => absurd h (by decide), fun h => absurd h (by decide), fun _ => ⟨mb_0, rfl⟩, me_0⟩
theorem mt_41 : MtP 41 := ⟨rfl, Or.inr ma_0, fun h => absurd h (by decide), fun h => absurd h (by decide), fun _ => ⟨mb_0, rfl⟩, me_0⟩
theorem mt_42 : MtP 42 := ⟨rfl, Or.inr ma_0, fun h => absurd h (by decide), fun h => absurd h (by decide), fun _ => ⟨mb_0, rfl⟩, me_0⟩
theorem mt_43 : MtP 43 := ⟨rfl, Or.inr ma_0, fun h => absurd h (by decide), fun h => absurd h (by decide), fun _ => ⟨mb_0, rfl⟩, me_0⟩
set_option maxRecDepth 1000000 in
theorem ma_44 : cwM 44 ∈ lw_tbl := kcD_0_in _ (List.mem_of_getElem? (i := 0) rfl)
set_option maxRecDepth 1000000 in
theorem mb_44 : Cond.instanceMethod (yM 44) ∈ lw_tbl := kiN_0_in _ (List.mem_of_getElem? (i := 0) rfl)
set_option maxRecDepth 1000000 in
theorem me_44 : (parseMethodDescriptor (yM 44).desc).map (fun d => d.parameters.length) = some (npM 44) := pd_0
theorem mt_44 : MtP 44 := ⟨rfl, Or.inr ma_44, fun h => absurd h (by decide), fun h => absurd h (by decide), fun _ => ⟨mb_44, rfl⟩, me_44⟩
set_option maxRecDepth 1000000 in
theorem ma_45 : cwM 45 ∈ lw_tbl := kcD_60_in _ (List.mem_of_getElem? (i := 33) rfl)
set_option maxRecDepth 1000000 in
theorem mb_45 : Cond.instanceMethod (yM 45) ∈ lw_tbl := kiN_60_in _ (List.mem_of_getElem? (i := 10) rfl)
set_option maxRecDepth 1000000 in
theorem md_45 : Cond.selects (owM 45) (yM 45) (yM 45) ∈ lw_tbl := kxL_60_in _ (List.mem_of_getElem? (i := 14) rfl)
set_option maxRecDepth 1000000 in
theorem me_45 : (parseMethodDescriptor (yM 45).desc).map (fun d => d.parameters.length) = some (npM 45) := pd_16
theorem mt_45 : MtP 45 := ⟨rfl, Or.inr ma_45, fun h => absurd h (by decide), fun _ => ⟨mb_45, md_45⟩, fun h => absurd h (by decide), me_45⟩
set_option maxRecDepth 1000000 in
theorem ma_46 : cwM 46 ∈ lw_tbl := kcD_60_in _ (List.mem_of_getElem? (i := 46) rfl)
set_option maxRecDepth 1000000 in
theorem mb_46 : Cond.instanceMethod (yM 46) ∈ lw_tbl := kiN_60_in _ (List.mem_of_getElem? (i := 23) rfl)
set_option maxRecDepth 1000000 in
theorem md_46 : Cond.selects (owM 46) (yM 46) (yM 46) ∈ lw_tbl := kxL_60_in _ (List.mem_of_getElem? (i := 17) rfl)
set_option maxRecDepth 1000000 in
theorem me_46 : (parseMethodDescriptor (yM 46).desc).map (fun d => d.parameters.length) = some (npM 46) := pd_13
theorem mt_46 : MtP 46 := ⟨rfl, Or.inr ma_46, fun h => absurd h (by decide), fun _ => ⟨mb_46, md_46⟩, fun h => absurd h (by decide), me_46⟩
set_option maxRecDepth 1000000 in
theorem ma_47 : cwM 47 ∈ lw_tbl := kcD_60_in _ (List.mem_of_getElem? (i := 40) rfl)
set_option maxRecDepth 1000000 in
theorem mb_47 : Cond.instanceMethod (yM 47) ∈ lw_tbl := kiN_60_in _ (List.mem_of_getElem? (i := 17) rfl)
set_option maxRecDepth 1000000 in
theorem md_47 : Cond.selects (owM 47) (yM 47) (yM 47) ∈ lw_tbl := kxL_60_in _ (List.mem_of_getElem? (i := 15) rfl)
set_option maxRecDepth 1000000 in
theorem me_47 : (parseMethodDescriptor (yM 47).desc).map (fun d => d.parameters.length) = some (npM 47) := pd_3
theorem mt_47 : MtP 47 := ⟨rfl, Or.inr ma_47, fun h => absurd h (by decide), fun _ => ⟨mb_47, md_47⟩, fun h => absurd h (by decide), me_47⟩
set_option maxRecDepth 1000000 in
theorem ma_48 : cwM 48 ∈ lw_tbl := kcD_60_in _ (List.mem_of_getElem? (i := 44) rfl)
set_option maxRecDepth 1000000 in
theorem mb_48 : Cond.instanceMethod (yM 48) ∈ lw_tbl := kiN_60_in _ (List.mem_of_getElem? (i := 21) rfl)
set_option maxRecDepth 1000000 in
theorem md_48 : Cond.selects (owM 48) (yM 48) (yM 48) ∈ lw_tbl := kxL_60_in _ (List.mem_of_getElem? (i := 16) rfl)
set_option maxRecDepth 1000000 in
theorem me_48 : (parseMethodDescriptor (yM 48).desc).map (fun d => d.parameters.length) = some (npM 48) := pd_12
theorem mt_48 : MtP 48 := ⟨rfl, Or.inr ma_48, fun h => absurd h (by decide), fun _ => ⟨mb_48, md_48⟩, fun h => absurd h (by decide), me_48⟩
set_option maxRecDepth 1000000 in
theorem ma_49 : cwM 49 ∈ lw_tbl := kcD_60_in _ (List.mem_of_getElem? (i := 2) rfl)
set_option maxRecDepth 1000000 in
theorem mb_49 : Cond.instanceMethod (yM 49) ∈ lw_tbl := kiN_0_in _ (List.mem_of_getElem? (i := 50) rfl)
set_option maxRecDepth 1000000 in
theorem md_49 : Cond.selects (owM 49) (yM 49) (yM 49) ∈ lw_tbl := kxL_60_in _ (List.mem_of_getElem? (i := 4) rfl)
set_option maxRecDepth 1000000 in
theorem me_49 : (parseMethodDescriptor (yM 49).desc).map (fun d => d.parameters.length) = some (npM 49) := pd_12
theorem mt_49 : MtP 49 := ⟨rfl, Or.inr ma_49, fun h => absurd h (by decide), fun _ => ⟨mb_49, md_49⟩, fun h => absurd h (by decide), me_49⟩
set_option maxRecDepth 1000000 in
theorem ma_50 : cwM 50 ∈ lw_tbl := kcD_0_in _ (List.mem_of_getElem? (i := 49) rfl)
set_option maxRecDepth 1000000 in
theorem mb_50 : Cond.instanceMethod (yM 50) ∈ lw_tbl := kiN_0_in _ (List.mem_of_getElem? (i := 37) rfl)
set_option maxRecDepth 1000000 in
theorem md_50 : Cond.selects (owM 50) (yM 50) (yM 50) ∈ lw_tbl := kxL_0_in _ (List.mem_of_getElem? (i := 59) rfl)
set_option maxRecDepth 1000000 in
theorem me_50 : (parseMethodDescriptor (yM 50).desc).map (fun d => d.parameters.length) = some (npM 50) := pd_3
theorem mt_50 : MtP 50 := ⟨rfl, Or.inr ma_50, fun h => absurd h (by decide), fun _ => ⟨mb_50, md_50⟩, fun h => absurd h (by decide), me_50⟩
set_option maxRecDepth 1000000 in
theorem ma_51 : cwM 51 ∈ lw_tbl := kcD_60_in _ (List.mem_of_getElem? (i := 0) rfl)
set_option maxRecDepth 1000000 in
theorem mb_51 : Cond.instanceMethod (yM 51) ∈ lw_tbl := kiN_0_in _ (List.mem_of_getElem? (i := 48) rfl)
set_option maxRecDepth 1000000 in
theorem md_51 : Cond.selects (owM 51) (yM 51) (yM 51) ∈ lw_tbl := kxL_60_in _ (List.mem_of_getElem? (i := 2) rfl)
set_option maxRecDepth 1000000 in
theorem me_51 : (parseMethodDescriptor (yM 51).desc).map (fun d => d.parameters.length) = some (npM 51) := pd_3
theorem mt_51 : MtP 51 := ⟨rfl, Or.inr ma_51, fun h => absurd h (by decide), fun _ => ⟨mb_51, md_51⟩, fun h => absurd h (by decide), me_51⟩
set_option maxRecDepth 1000000 in
theorem ma_52 : cwM 52 ∈ lw_tbl := kcD_0_in _ (List.mem_of_getElem? (i := 51) rfl)
set_option maxRecDepth 1000000 in
theorem mb_52 : Cond.instanceMethod (yM 52) ∈ lw_tbl := kiN_0_in _ (List.mem_of_getElem? (i := 39) rfl)
set_option maxRecDepth 1000000 in
theorem md_52 : Cond.selects (owM 52) (yM 52) (yM 52) ∈ lw_tbl := kxL_60_in _ (List.mem_of_getElem? (i := 0) rfl)
set_option maxRecDepth 1000000 in
theorem me_52 : (parseMethodDescriptor (yM 52).desc).map (fun d => d.parameters.length) = some (npM 52) := pd_17
theorem mt_52 : MtP 52 := ⟨rfl, Or.inr ma_52, fun h => absurd h (by decide), fun _ => ⟨mb_52, md_52⟩, fun h => absurd h (by decide), me_52⟩
set_option maxRecDepth 1000000 in
theorem ma_53 : cwM 53 ∈ lw_tbl := kcD_0_in _ (List.mem_of_getElem? (i := 53) rfl)
set_option maxRecDepth 1000000 in
theorem mb_53 : Cond.instanceMethod (yM 53) ∈ lw_tbl := kiN_0_in _ (List.mem_of_getElem? (i := 41) rfl)
set_option maxRecDepth 1000000 in
theorem md_53 : Cond.selects (owM 53) (yM 53) (yM 53) ∈ lw_tbl := kxL_60_in _ (List.mem_of_getElem? (i := 1) rfl)
set_option maxRecDepth 1000000 in
theorem me_53 : (parseMethodDescriptor (yM 53).desc).map (fun d => d.parameters.length) = some (npM 53) := pd_5
theorem mt_53 : MtP 53 := ⟨rfl, Or.inr ma_53, fun h => absurd h (by decide), fun _ => ⟨mb_53, md_53⟩, fun h => absurd h (by decide), me_53⟩
theorem mt_54 : MtP 54 := ⟨rfl, Or.inr ma_0, fun h => absurd h (by decide), fun h => absurd h (by decide), fun _ => ⟨mb_0, rfl⟩, me_0⟩
theorem mt_55 : MtP 55 := ⟨rfl, Or.inr ma_0, fun h => absurd h (by decide), fun h => absurd h (by decide), fun _ => ⟨mb_0, rfl⟩, me_0⟩
theorem mt_56 : MtP 56 := ⟨rfl, Or.inr ma_0, fun h => absurd h (by decide), fun h => absurd h (by decide), fun _ => ⟨mb_0, rfl⟩, me_0⟩
theorem mt_57 : MtP 57 := ⟨rfl, Or.inr ma_0, fun h => absurd h (by decide), fun h => absurd h (by decide), fun _ => ⟨mb_0, rfl⟩, me_0⟩
set_option maxRecDepth 1000000 in
theorem ma_58 : cwM 58 ∈ lw_tbl := kcD_0_in _ (List.mem_of_getElem? (i := 6) rfl)
set_option maxRecDepth 1000000 in
theorem mb_58 : Cond.instanceMethod (yM 58) ∈ lw_tbl := kiN_0_in _ (List.mem_of_getElem? (i := 6) rfl)
set_option maxRecDepth 1000000 in
theorem md_58 : Cond.selects (owM 58) (yM 58) (yM 58) ∈ lw_tbl := kxL_0_in _ (List.mem_of_getElem? (i := 36) rfl)
set_option maxRecDepth 1000000 in
theorem me_58 : (parseMethodDescriptor (yM 58).desc).map (fun d => d.parameters.length) = some (npM 58) := pd_15
theorem mt_58 : MtP 58 := ⟨rfl, Or.inr ma_58, fun h => absurd h (by decide), fun _ => ⟨mb_58, md_58⟩, fun h => absurd h (by decide), me_58⟩
set_option maxRecDepth 1000000 in
theorem ma_59 : cwM 59 ∈ lw_tbl := kcD_0_in _ (List.mem_of_getElem? (i := 15) rfl)
set_option maxRecDepth 1000000 in
theorem mb_59 : Cond.instanceMethod (yM 59) ∈ lw_tbl := kiN_0_in _ (List.mem_of_getElem? (i := 17) rfl)
set_option maxRecDepth 1000000 in
theorem md_59 : Cond.selects (owM 59) (yM 59) (yM 59) ∈ lw_tbl := kxL_0_in _ (List.mem_of_getElem? (i := 41) rfl)
set_option maxRecDepth 1000000 in
theorem me_59 : (parseMethodDescriptor (yM 59).desc).map (fun d => d.parameters.length) = some (npM 59) := pd_5
theorem mt_59 : MtP 59 := ⟨rfl, Or.inr ma_59, fun h => absurd h (by decide), fun _ => ⟨mb_59, md_59⟩, fun h => absurd h (by decide), me_59⟩
set_option maxRecDepth 1000000 in
theorem ma_60 : cwM 60 ∈ lw_tbl := kcD_60_in _ (List.mem_of_getElem? (i := 1) rfl)
set_option maxRecDepth 1000000 in
theorem mb_60 : Cond.instanceMethod (yM 60) ∈ lw_tbl := kiN_0_in _ (List.mem_of_getElem? (i := 49) rfl)
set_option maxRecDepth 1000000 in
theorem md_60 : Cond.selects (owM 60) (yM 60) (yM 60) ∈ lw_tbl := kxL_60_in _ (List.mem_of_getElem? (i := 3) rfl)
set_option maxRecDepth 1000000 in
theorem me_60 : (parseMethodDescriptor (yM 60).desc).map (fun d => d.parameters.length) = some (npM 60) := pd_5
theorem mt_60 : MtP 60 := ⟨rfl, Or.inr ma_60, fun h => absurd h (by decide), fun _ => ⟨mb_60, md_60⟩, fun h => absurd h (by decide), me_60⟩
set_option maxRecDepth 1000000 in
theorem ma_61 : cwM 61 ∈ lw_tbl := kcD_0_in _ (List.mem_of_getElem? (i := 23) rfl)
set_option maxRecDepth 1000000 in
theorem mb_61 : Cond.instanceMethod (yM 61) ∈ lw_tbl := kiN_0_in _ (List.mem_of_getElem? (i := 21) rfl)
set_option maxRecDepth 1000000 in
theorem md_61 : Cond.selects (owM 61) (yM 61) (yM 61) ∈ lw_tbl := kxL_0_in _ (List.mem_of_getElem? (i := 45) rfl)
set_option maxRecDepth 1000000 in
theorem me_61 : (parseMethodDescriptor (yM 61).desc).map (fun d => d.parameters.length) = some (npM 61) := pd_3
theorem mt_61 : MtP 61 := ⟨rfl, Or.inr ma_61, fun h => absurd h (by decide), fun _ => ⟨mb_61, md_61⟩, fun h => absurd h (by decide), me_61⟩
set_option maxRecDepth 1000000 in
theorem ma_62 : cwM 62 ∈ lw_tbl := kcD_60_in _ (List.mem_of_getElem? (i := 8) rfl)
set_option maxRecDepth 1000000 in
theorem mb_62 : Cond.instanceMethod (yM 62) ∈ lw_tbl := kiN_0_in _ (List.mem_of_getElem? (i := 53) rfl)
set_option maxRecDepth 1000000 in
theorem md_62 : Cond.selects (owM 62) (yM 62) (yM 62) ∈ lw_tbl := kxL_60_in _ (List.mem_of_getElem? (i := 6) rfl)
set_option maxRecDepth 1000000 in
theorem me_62 : (parseMethodDescriptor (yM 62).desc).map (fun d => d.parameters.length) = some (npM 62) := pd_3
theorem mt_62 : MtP 62 := ⟨rfl, Or.inr ma_62, fun h => absurd h (by decide), fun _ => ⟨mb_62, md_62⟩, fun h => absurd h (by decide), me_62⟩
set_option maxRecDepth 1000000 in
theorem ma_63 : cwM 63 ∈ lw_tbl := kcD_0_in _ (List.mem_of_getElem? (i := 29) rfl)
set_option maxRecDepth 1000000 in
theorem mb_63 : Cond.instanceMethod (yM 63) ∈ lw_tbl := kiN_0_in _ (List.mem_of_getElem? (i := 23) rfl)
set_option maxRecDepth 1000000 in
theorem md_63 : Cond.selects (owM 63) (yM 63) (yM 63) ∈ lw_tbl := kxL_0_in _ (List.mem_of_getElem? (i := 47) rfl)
set_option maxRecDepth 1000000 in
theorem me_63 : (parseMethodDescriptor (yM 63).desc).map (fun d => d.parameters.length) = some (npM 63) := pd_3
theorem mt_63 : MtP 63 := ⟨rfl, Or.inr ma_63, fun h => absurd h (by decide), fun _ => ⟨mb_63, md_63⟩, fun h => absurd h (by decide), me_63⟩
set_option maxRecDepth 1000000 in
theorem ma_64 : cwM 64 ∈ lw_tbl := kcD_0_in _ (List.mem_of_getElem? (i := 30) rfl)
set_option maxRecDepth 1000000 in
theorem mb_64 : Cond.instanceMethod (yM 64) ∈ lw_tbl := kiN_0_in _ (List.mem_of_getElem? (i := 24) rfl)
set_option maxRecDepth 1000000 in
theorem md_64 : Cond.selects (owM 64) (yM 64) (yM 64) ∈ lw_tbl := kxL_0_in _ (List.mem_of_getElem? (i := 48) rfl)
set_option maxRecDepth 1000000 in
theorem me_64 : (parseMethodDescriptor (yM 64).desc).map (fun d => d.parameters.length) = some (npM 64) := pd_3
theorem mt_64 : MtP 64 := ⟨rfl, Or.inr ma_64, fun h => absurd h (by decide), fun _ => ⟨mb_64, md_64⟩, fun h => absurd h (by decide), me_64⟩
set_option maxRecDepth 1000000 in
theorem ma_65 : cwM 65 ∈ lw_tbl := kcD_0_in _ (List.mem_of_getElem? (i := 28) rfl)
set_option maxRecDepth 1000000 in
theorem mb_65 : Cond.instanceMethod (yM 65) ∈ lw_tbl := kiN_0_in _ (List.mem_of_getElem? (i := 22) rfl)
set_option maxRecDepth 1000000 in
theorem md_65 : Cond.selects (owM 65) (yM 65) (yM 65) ∈ lw_tbl := kxL_0_in _ (List.mem_of_getElem? (i := 46) rfl)
set_option maxRecDepth 1000000 in
theorem me_65 : (parseMethodDescriptor (yM 65).desc).map (fun d => d.parameters.length) = some (npM 65) := pd_3
theorem mt_65 : MtP 65 := ⟨rfl, Or.inr ma_65, fun h => absurd h (by decide), fun _ => ⟨mb_65, md_65⟩, fun h => absurd h (by decide), me_65⟩
set_option maxRecDepth 1000000 in
theorem ma_66 : cwM 66 ∈ lw_tbl := kcD_60_in _ (List.mem_of_getElem? (i := 6) rfl)
set_option maxRecDepth 1000000 in
theorem mb_66 : Cond.instanceMethod (yM 66) ∈ lw_tbl := kiN_0_in _ (List.mem_of_getElem? (i := 52) rfl)
set_option maxRecDepth 1000000 in
theorem md_66 : Cond.selects (owM 66) (yM 66) (yM 66) ∈ lw_tbl := kxL_60_in _ (List.mem_of_getElem? (i := 5) rfl)
set_option maxRecDepth 1000000 in
theorem me_66 : (parseMethodDescriptor (yM 66).desc).map (fun d => d.parameters.length) = some (npM 66) := pd_3
theorem mt_66 : MtP 66 := ⟨rfl, Or.inr ma_66, fun h => absurd h (by decide), fun _ => ⟨mb_66, md_66⟩, fun h => absurd h (by decide), me_66⟩
set_option maxRecDepth 1000000 in
theorem ma_67 : cwM 67 ∈ lw_tbl := kcD_60_in _ (List.mem_of_getElem? (i := 12) rfl)
set_option maxRecDepth 1000000 in
theorem mb_67 : Cond.instanceMethod (yM 67) ∈ lw_tbl := kiN_0_in _ (List.mem_of_getElem? (i := 56) rfl)
set_option maxRecDepth 1000000 in
theorem md_67 : Cond.selects (owM 67) (yM 67) (yM 67) ∈ lw_tbl := kxL_60_in _ (List.mem_of_getElem? (i := 7) rfl)
set_option maxRecDepth 1000000 in
theorem me_67 : (parseMethodDescriptor (yM 67).desc).map (fun d => d.parameters.length) = some (npM 67) := pd_3
theorem mt_67 : MtP 67 := ⟨rfl, Or.inr ma_67, fun h => absurd h (by decide), fun _ => ⟨mb_67, md_67⟩, fun h => absurd h (by decide), me_67⟩
set_option maxRecDepth 1000000 in
theorem ma_68 : cwM 68 ∈ lw_tbl := kcD_0_in _ (List.mem_of_getElem? (i := 46) rfl)
set_option maxRecDepth 1000000 in
theorem mb_68 : Cond.instanceMethod (yM 68) ∈ lw_tbl := kiN_0_in _ (List.mem_of_getElem? (i := 36) rfl)
set_option maxRecDepth 1000000 in
theorem md_68 : Cond.selects (owM 68) (yM 68) (yM 68) ∈ lw_tbl := kxL_0_in _ (List.mem_of_getElem? (i := 58) rfl)
set_option maxRecDepth 1000000 in
theorem me_68 : (parseMethodDescriptor (yM 68).desc).map (fun d => d.parameters.length) = some (npM 68) := pd_5
theorem mt_68 : MtP 68 := ⟨rfl, Or.inr ma_68, fun h => absurd h (by decide), fun _ => ⟨mb_68, md_68⟩, fun h => absurd h (by decide), me_68⟩
set_option maxRecDepth 1000000 in
theorem ma_69 : cwM 69 ∈ lw_tbl := kcD_60_in _ (List.mem_of_getElem? (i := 16) rfl)
set_option maxRecDepth 1000000 in
theorem mb_69 : Cond.instanceMethod (yM 69) ∈ lw_tbl := kiN_0_in _ (List.mem_of_getElem? (i := 59) rfl)
set_option maxRecDepth 1000000 in
theorem md_69 : Cond.selects (owM 69) (yM 69) (yM 69) ∈ lw_tbl := kxL_60_in _ (List.mem_of_getElem? (i := 8) rfl)
set_option maxRecDepth 1000000 in
theorem me_69 : (parseMethodDescriptor (yM 69).desc).map (fun d => d.parameters.length) = some (npM 69) := pd_5
theorem mt_69 : MtP 69 := ⟨rfl, Or.inr ma_69, fun h => absurd h (by decide), fun _ => ⟨mb_69, md_69⟩, fun h => absurd h (by decide), me_69⟩
set_option maxRecDepth 1000000 in
theorem ma_70 : cwM 70 ∈ lw_tbl := kcD_0_in _ (List.mem_of_getElem? (i := 31) rfl)
set_option maxRecDepth 1000000 in
theorem mb_70 : Cond.instanceMethod (yM 70) ∈ lw_tbl := kiN_0_in _ (List.mem_of_getElem? (i := 25) rfl)
set_option maxRecDepth 1000000 in
theorem md_70 : Cond.selects (owM 70) (yM 70) (yM 70) ∈ lw_tbl := kxL_0_in _ (List.mem_of_getElem? (i := 49) rfl)
set_option maxRecDepth 1000000 in
theorem me_70 : (parseMethodDescriptor (yM 70).desc).map (fun d => d.parameters.length) = some (npM 70) := pd_3
theorem mt_70 : MtP 70 := ⟨rfl, Or.inr ma_70, fun h => absurd h (by decide), fun _ => ⟨mb_70, md_70⟩, fun h => absurd h (by decide), me_70⟩
set_option maxRecDepth 1000000 in
theorem ma_71 : cwM 71 ∈ lw_tbl := kcD_0_in _ (List.mem_of_getElem? (i := 36) rfl)
set_option maxRecDepth 1000000 in
theorem mb_71 : Cond.instanceMethod (yM 71) ∈ lw_tbl := kiN_0_in _ (List.mem_of_getElem? (i := 27) rfl)
set_option maxRecDepth 1000000 in
theorem md_71 : Cond.selects (owM 71) (yM 71) (yM 71) ∈ lw_tbl := kxL_0_in _ (List.mem_of_getElem? (i := 50) rfl)
set_option maxRecDepth 1000000 in
theorem me_71 : (parseMethodDescriptor (yM 71).desc).map (fun d => d.parameters.length) = some (npM 71) := pd_3
theorem mt_71 : MtP 71 := ⟨rfl, Or.inr ma_71, fun h => absurd h (by decide), fun _ => ⟨mb_71, md_71⟩, fun h => absurd h (by decide), me_71⟩
set_option maxRecDepth 1000000 in
theorem ma_72 : cwM 72 ∈ lw_tbl := kcD_0_in _ (List.mem_of_getElem? (i := 37) rfl)
set_option maxRecDepth 1000000 in
theorem mb_72 : Cond.instanceMethod (yM 72) ∈ lw_tbl := kiN_0_in _ (List.mem_of_getElem? (i := 28) rfl)
set_option maxRecDepth 1000000 in
theorem md_72 : Cond.selects (owM 72) (yM 72) (yM 72) ∈ lw_tbl := kxL_0_in _ (List.mem_of_getElem? (i := 51) rfl)
set_option maxRecDepth 1000000 in
theorem me_72 : (parseMethodDescriptor (yM 72).desc).map (fun d => d.parameters.length) = some (npM 72) := pd_3
theorem mt_72 : MtP 72 := ⟨rfl, Or.inr ma_72, fun h => absurd h (by decide), fun _ => ⟨mb_72, md_72⟩, fun h => absurd h (by decide), me_72⟩
set_option maxRecDepth 1000000 in
theorem ma_73 : cwM 73 ∈ lw_tbl := kcD_0_in _ (List.mem_of_getElem? (i := 40) rfl)
set_option maxRecDepth 1000000 in
theorem mb_73 : Cond.instanceMethod (yM 73) ∈ lw_tbl := kiN_0_in _ (List.mem_of_getElem? (i := 30) rfl)
set_option maxRecDepth 1000000 in
theorem md_73 : Cond.selects (owM 73) (yM 73) (yM 73) ∈ lw_tbl := kxL_0_in _ (List.mem_of_getElem? (i := 53) rfl)
set_option maxRecDepth 1000000 in
theorem me_73 : (parseMethodDescriptor (yM 73).desc).map (fun d => d.parameters.length) = some (npM 73) := pd_15
theorem mt_73 : MtP 73 := ⟨rfl, Or.inr ma_73, fun h => absurd h (by decide), fun _ => ⟨mb_73, md_73⟩, fun h => absurd h (by decide), me_73⟩
set_option maxRecDepth 1000000 in
theorem ma_74 : cwM 74 ∈ lw_tbl := kcD_60_in _ (List.mem_of_getElem? (i := 21) rfl)
set_option maxRecDepth 1000000 in
theorem mb_74 : Cond.instanceMethod (yM 74) ∈ lw_tbl := kiN_60_in _ (List.mem_of_getElem? (i := 3) rfl)
set_option maxRecDepth 1000000 in
theorem md_74 : Cond.selects (owM 74) (yM 74) (yM 74) ∈ lw_tbl := kxL_60_in _ (List.mem_of_getElem? (i := 10) rfl)
set_option maxRecDepth 1000000 in
theorem me_74 : (parseMethodDescriptor (yM 74).desc).map (fun d => d.parameters.length) = some (npM 74) := pd_5
theorem mt_74 : MtP 74 := ⟨rfl, Or.inr ma_74, fun h => absurd h (by decide), fun _ => ⟨mb_74, md_74⟩, fun h => absurd h (by decide), me_74⟩
set_option maxRecDepth 1000000 in
theorem ma_75 : cwM 75 ∈ lw_tbl := kcD_60_in _ (List.mem_of_getElem? (i := 19) rfl)
set_option maxRecDepth 1000000 in
theorem mb_75 : Cond.instanceMethod (yM 75) ∈ lw_tbl := kiN_60_in _ (List.mem_of_getElem? (i := 1) rfl)
set_option maxRecDepth 1000000 in
theorem md_75 : Cond.selects (owM 75) (yM 75) (yM 75) ∈ lw_tbl := kxL_60_in _ (List.mem_of_getElem? (i := 9) rfl)
set_option maxRecDepth 1000000 in
theorem me_75 : (parseMethodDescriptor (yM 75).desc).map (fun d => d.parameters.length) = some (npM 75) := pd_5
theorem mt_75 : MtP 75 := ⟨rfl, Or.inr ma_75, fun h => absurd h (by decide), fun _ => ⟨mb_75, md_75⟩, fun h => absurd h (by decide), me_75⟩
set_option maxRecDepth 1000000 in
theorem ma_76 : cwM 76 ∈ lw_tbl := kcD_60_in _ (List.mem_of_getElem? (i := 26) rfl)
set_option maxRecDepth 1000000 in
theorem mb_76 : Cond.instanceMethod (yM 76) ∈ lw_tbl := kiN_60_in _ (List.mem_of_getElem? (i := 7) rfl)
set_option maxRecDepth 1000000 in
theorem md_76 : Cond.selects (owM 76) (yM 76) (yM 76) ∈ lw_tbl := kxL_60_in _ (List.mem_of_getElem? (i := 13) rfl)
set_option maxRecDepth 1000000 in
theorem me_76 : (parseMethodDescriptor (yM 76).desc).map (fun d => d.parameters.length) = some (npM 76) := pd_13
theorem mt_76 : MtP 76 := ⟨rfl, Or.inr ma_76, fun h => absurd h (by decide), fun _ => ⟨mb_76, md_76⟩, fun h => absurd h (by decide), me_76⟩
theorem mt_77 : MtP 77 := ⟨rfl, Or.inr ma_0, fun h => absurd h (by decide), fun h => absurd h (by decide), fun _ => ⟨mb_0, rfl⟩, me_0⟩
set_option maxRecDepth 1000000 in
theorem ma_78 : cwM 78 ∈ lw_tbl := kcD_0_in _ (List.mem_of_getElem? (i := 18) rfl)
set_option maxRecDepth 1000000 in
theorem mb_78 : Cond.instanceMethod (yM 78) ∈ lw_tbl := kiN_0_in _ (List.mem_of_getElem? (i := 19) rfl)
set_option maxRecDepth 1000000 in
theorem md_78 : Cond.selects (owM 78) (yM 78) (yM 78) ∈ lw_tbl := kxL_0_in _ (List.mem_of_getElem? (i := 43) rfl)
set_option maxRecDepth 1000000 in
theorem me_78 : (parseMethodDescriptor (yM 78).desc).map (fun d => d.parameters.length) = some (npM 78) := pd_15
theorem mt_78 : MtP 78 := ⟨rfl, Or.inr ma_78, fun h => absurd h (by decide), fun _ => ⟨mb_78, md_78⟩, fun h => absurd h (by decide), me_78⟩
set_option maxRecDepth 1000000 in
theorem ma_79 : cwM 79 ∈ lw_tbl := kcD_0_in _ (List.mem_of_getElem? (i := 41) rfl)
set_option maxRecDepth 1000000 in
theorem mb_79 : Cond.instanceMethod (yM 79) ∈ lw_tbl := kiN_0_in _ (List.mem_of_getElem? (i := 31) rfl)
set_option maxRecDepth 1000000 in
theorem md_79 : Cond.selects (owM 79) (yM 79) (yM 79) ∈ lw_tbl := kxL_0_in _ (List.mem_of_getElem? (i := 54) rfl)
set_option maxRecDepth 1000000 in
theorem me_79 : (parseMethodDescriptor (yM 79).desc).map (fun d => d.parameters.length) = some (npM 79) := pd_5
theorem mt_79 : MtP 79 := ⟨rfl, Or.inr ma_79, fun h => absurd h (by decide), fun _ => ⟨mb_79, md_79⟩, fun h => absurd h (by decide), me_79⟩
set_option maxRecDepth 1000000 in
theorem ma_80 : cwM 80 ∈ lw_tbl := kcD_0_in _ (List.mem_of_getElem? (i := 38) rfl)
set_option maxRecDepth 1000000 in
theorem mb_80 : Cond.instanceMethod (yM 80) ∈ lw_tbl := kiN_0_in _ (List.mem_of_getElem? (i := 29) rfl)
set_option maxRecDepth 1000000 in
theorem md_80 : Cond.selects (owM 80) (yM 80) (yM 80) ∈ lw_tbl := kxL_0_in _ (List.mem_of_getElem? (i := 52) rfl)
set_option maxRecDepth 1000000 in
theorem me_80 : (parseMethodDescriptor (yM 80).desc).map (fun d => d.parameters.length) = some (npM 80) := pd_11
theorem mt_80 : MtP 80 := ⟨rfl, Or.inr ma_80, fun h => absurd h (by decide), fun _ => ⟨mb_80, md_80⟩, fun h => absurd h (by decide), me_80⟩
set_option maxRecDepth 1000000 in
theorem ma_81 : cwM 81 ∈ lw_tbl := kcD_60_in _ (List.mem_of_getElem? (i := 23) rfl)
set_option maxRecDepth 1000000 in
theorem mb_81 : Cond.instanceMethod (yM 81) ∈ lw_tbl := kiN_60_in _ (List.mem_of_getElem? (i := 5) rfl)
set_option maxRecDepth 1000000 in
theorem md_81 : Cond.selects (owM 81) (yM 81) (yM 81) ∈ lw_tbl := kxL_60_in _ (List.mem_of_getElem? (i := 11) rfl)
set_option maxRecDepth 1000000 in
theorem me_81 : (parseMethodDescriptor (yM 81).desc).map (fun d => d.parameters.length) = some (npM 81) := pd_15
theorem mt_81 : MtP 81 := ⟨rfl, Or.inr ma_81, fun h => absurd h (by decide), fun _ => ⟨mb_81, md_81⟩, fun h => absurd h (by decide), me_81⟩
set_option maxRecDepth 1000000 in
theorem ma_82 : cwM 82 ∈ lw_tbl := kcD_60_in _ (List.mem_of_getElem? (i := 24) rfl)
set_option maxRecDepth 1000000 in
theorem mb_82 : Cond.instanceMethod (yM 82) ∈ lw_tbl := kiN_60_in _ (List.mem_of_getElem? (i := 6) rfl)
set_option maxRecDepth 1000000 in
theorem md_82 : Cond.selects (owM 82) (yM 82) (yM 82) ∈ lw_tbl := kxL_60_in _ (List.mem_of_getElem? (i := 12) rfl)
set_option maxRecDepth 1000000 in
theorem me_82 : (parseMethodDescriptor (yM 82).desc).map (fun d => d.parameters.length) = some (npM 82) := pd_15
theorem mt_82 : MtP 82 := ⟨rfl, Or.inr ma_82, fun h => absurd h (by decide), fun _ => ⟨mb_82, md_82⟩, fun h => absurd h (by decide), me_82⟩
set_option maxRecDepth 1000000 in
theorem ma_83 : cwM 83 ∈ lw_tbl := kcD_0_in _ (List.mem_of_getElem? (i := 43) rfl)
set_option maxRecDepth 1000000 in
theorem mb_83 : Cond.instanceMethod (yM 83) ∈ lw_tbl := kiN_0_in _ (List.mem_of_getElem? (i := 33) rfl)
set_option maxRecDepth 1000000 in
theorem md_83 : Cond.selects (owM 83) (yM 83) (yM 83) ∈ lw_tbl := kxL_0_in _ (List.mem_of_getElem? (i := 56) rfl)
set_option maxRecDepth 1000000 in
theorem me_83 : (parseMethodDescriptor (yM 83).desc).map (fun d => d.parameters.length) = some (npM 83) := pd_3
theorem mt_83 : MtP 83 := ⟨rfl, Or.inr ma_83, fun h => absurd h (by decide), fun _ => ⟨mb_83, md_83⟩, fun h => absurd h (by decide), me_83⟩
set_option maxRecDepth 1000000 in
theorem ma_84 : cwM 84 ∈ lw_tbl := kcD_0_in _ (List.mem_of_getElem? (i := 42) rfl)
set_option maxRecDepth 1000000 in
theorem mb_84 : Cond.instanceMethod (yM 84) ∈ lw_tbl := kiN_0_in _ (List.mem_of_getElem? (i := 32) rfl)
set_option maxRecDepth 1000000 in
theorem md_84 : Cond.selects (owM 84) (yM 84) (yM 84) ∈ lw_tbl := kxL_0_in _ (List.mem_of_getElem? (i := 55) rfl)
set_option maxRecDepth 1000000 in
theorem me_84 : (parseMethodDescriptor (yM 84).desc).map (fun d => d.parameters.length) = some (npM 84) := pd_15
theorem mt_84 : MtP 84 := ⟨rfl, Or.inr ma_84, fun h => absurd h (by decide), fun _ => ⟨mb_84, md_84⟩, fun h => absurd h (by decide), me_84⟩
set_option maxRecDepth 1000000 in
theorem ma_85 : cwM 85 ∈ lw_tbl := kcD_0_in _ (List.mem_of_getElem? (i := 19) rfl)
set_option maxRecDepth 1000000 in
theorem mb_85 : Cond.instanceMethod (yM 85) ∈ lw_tbl := kiN_0_in _ (List.mem_of_getElem? (i := 20) rfl)
set_option maxRecDepth 1000000 in
theorem md_85 : Cond.selects (owM 85) (yM 85) (yM 85) ∈ lw_tbl := kxL_0_in _ (List.mem_of_getElem? (i := 44) rfl)
set_option maxRecDepth 1000000 in
theorem me_85 : (parseMethodDescriptor (yM 85).desc).map (fun d => d.parameters.length) = some (npM 85) := pd_15
theorem mt_85 : MtP 85 := ⟨rfl, Or.inr ma_85, fun h => absurd h (by decide), fun _ => ⟨mb_85, md_85⟩, fun h => absurd h (by decide), me_85⟩
theorem mt_86 : MtP 86 := ⟨rfl, Or.inr ma_0, fun h => absurd h (by decide), fun h => absurd h (by decide), fun _ => ⟨mb_0, rfl⟩, me_0⟩
set_option maxRecDepth 1000000 in
theorem ma_87 : cwM 87 ∈ lw_tbl := kcD_0_in _ (List.mem_of_getElem? (i := 39) rfl)
set_option maxRecDepth 1000000 in
theorem mb_87 : Cond.static (yM 87) ∈ lw_tbl := ksT_0_in _ (List.mem_of_getElem? (i := 12) rfl)
set_option maxRecDepth 1000000 in
theorem me_87 : (parseMethodDescriptor (yM 87).desc).map (fun d => d.parameters.length) = some (npM 87) := pd_7
theorem mt_87 : MtP 87 := ⟨rfl, Or.inr ma_87, fun _ => Or.inr mb_87, fun h => absurd h (by decide), fun h => absurd h (by decide), me_87⟩
set_option maxRecDepth 1000000 in
theorem ma_88 : cwM 88 ∈ lw_tbl := kcD_60_in _ (List.mem_of_getElem? (i := 27) rfl)
set_option maxRecDepth 1000000 in
theorem mb_88 : Cond.static (yM 88) ∈ lw_tbl := ksT_0_in _ (List.mem_of_getElem? (i := 22) rfl)
set_option maxRecDepth 1000000 in
theorem me_88 : (parseMethodDescriptor (yM 88).desc).map (fun d => d.parameters.length) = some (npM 88) := pd_7
theorem mt_88 : MtP 88 := ⟨rfl, Or.inr ma_88, fun _ => Or.inr mb_88, fun h => absurd h (by decide), fun h => absurd h (by decide), me_88⟩
set_option maxRecDepth 1000000 in
theorem ma_89 : cwM 89 ∈ lw_tbl := kcD_0_in _ (List.mem_of_getElem? (i := 25) rfl)
set_option maxRecDepth 1000000 in
theorem mb_89 : Cond.static (yM 89) ∈ lw_tbl := ksT_0_in _ (List.mem_of_getElem? (i := 6) rfl)
set_option maxRecDepth 1000000 in
theorem me_89 : (parseMethodDescriptor (yM 89).desc).map (fun d => d.parameters.length) = some (npM 89) := pd_7
theorem mt_89 : MtP 89 := ⟨rfl, Or.inr ma_89, fun _ => Or.inr mb_89, fun h => absurd h (by decide), fun h => absurd h (by decide), me_89⟩
set_option maxRecDepth 1000000 in
theorem ma_90 : cwM 90 ∈ lw_tbl := kcD_0_in _ (List.mem_of_getElem? (i := 26) rfl)
set_option maxRecDepth 1000000 in
theorem mb_90 : Cond.static (yM 90) ∈ lw_tbl := ksT_0_in _ (List.mem_of_getElem? (i := 7) rfl)
set_option maxRecDepth 1000000 in
theorem me_90 : (parseMethodDescriptor (yM 90).desc).map (fun d => d.parameters.length) = some (npM 90) := pd_7
theorem mt_90 : MtP 90 := ⟨rfl, Or.inr ma_90, fun _ => Or.inr mb_90, fun h => absurd h (by decide), fun h => absurd h (by decide), me_90⟩
set_option maxRecDepth 1000000 in
theorem ma_91 : cwM 91 ∈ lw_tbl := kcD_0_in _ (List.mem_of_getElem? (i := 24) rfl)
set_option maxRecDepth 1000000 in
theorem mb_91 : Cond.static (yM 91) ∈ lw_tbl := ksT_0_in _ (List.mem_of_getElem? (i := 5) rfl)
set_option maxRecDepth 1000000 in
theorem me_91 : (parseMethodDescriptor (yM 91).desc).map (fun d => d.parameters.length) = some (npM 91) := pd_3
theorem mt_91 : MtP 91 := ⟨rfl, Or.inr ma_91, fun _ => Or.inr mb_91, fun h => absurd h (by decide), fun h => absurd h (by decide), me_91⟩
set_option maxRecDepth 1000000 in
theorem ma_92 : cwM 92 ∈ lw_tbl := kcD_0_in _ (List.mem_of_getElem? (i := 33) rfl)
set_option maxRecDepth 1000000 in
theorem mb_92 : Cond.static (yM 92) ∈ lw_tbl := ksT_0_in _ (List.mem_of_getElem? (i := 10) rfl)
set_option maxRecDepth 1000000 in
theorem me_92 : (parseMethodDescriptor (yM 92).desc).map (fun d => d.parameters.length) = some (npM 92) := pd_7
theorem mt_92 : MtP 92 := ⟨rfl, Or.inr ma_92, fun _ => Or.inr mb_92, fun h => absurd h (by decide), fun h => absurd h (by decide), me_92⟩
set_option maxRecDepth 1000000 in
theorem ma_93 : cwM 93 ∈ lw_tbl := kcD_0_in _ (List.mem_of_getElem? (i := 32) rfl)
set_option maxRecDepth 1000000 in
theorem mb_93 : Cond.static (yM 93) ∈ lw_tbl := ksT_0_in _ (List.mem_of_getElem? (i := 9) rfl)
set_option maxRecDepth 1000000 in
theorem me_93 : (parseMethodDescriptor (yM 93).desc).map (fun d => d.parameters.length) = some (npM 93) := pd_3
theorem mt_93 : MtP 93 := ⟨rfl, Or.inr ma_93, fun _ => Or.inr mb_93, fun h => absurd h (by decide), fun h => absurd h (by decide), me_93⟩
set_option maxRecDepth 1000000 in
theorem ma_94 : cwM 94 ∈ lw_tbl := kcD_60_in _ (List.mem_of_getElem? (i := 28) rfl)
set_option maxRecDepth 1000000 in
theorem mb_94 : Cond.static (yM 94) ∈ lw_tbl := ksT_0_in _ (List.mem_of_getElem? (i := 23) rfl)
set_option maxRecDepth 1000000 in
theorem me_94 : (parseMethodDescriptor (yM 94).desc).map (fun d => d.parameters.length) = some (npM 94) := pd_7
theorem mt_94 : MtP 94 := ⟨rfl, Or.inr ma_94, fun _ => Or.inr mb_94, fun h => absurd h (by decide), fun h => absurd h (by decide), me_94⟩
set_option maxRecDepth 1000000 in
theorem ma_95 : cwM 95 ∈ lw_tbl := kcD_60_in _ (List.mem_of_getElem? (i := 3) rfl)
set_option maxRecDepth 1000000 in
theorem mb_95 : Cond.static (yM 95) ∈ lw_tbl := ksT_0_in _ (List.mem_of_getElem? (i := 15) rfl)
set_option maxRecDepth 1000000 in
theorem me_95 : (parseMethodDescriptor (yM 95).desc).map (fun d => d.parameters.length) = some (npM 95) := pd_18
theorem mt_95 : MtP 95 := ⟨rfl, Or.inr ma_95, fun _ => Or.inr mb_95, fun h => absurd h (by decide), fun h => absurd h (by decide), me_95⟩
set_option maxRecDepth 1000000 in
theorem ma_96 : cwM 96 ∈ lw_tbl := kcD_0_in _ (List.mem_of_getElem? (i := 16) rfl)
set_option maxRecDepth 1000000 in
theorem mb_96 : Cond.static (yM 96) ∈ lw_tbl := ksT_0_in _ (List.mem_of_getElem? (i := 1) rfl)
set_option maxRecDepth 1000000 in
theorem me_96 : (parseMethodDescriptor (yM 96).desc).map (fun d => d.parameters.length) = some (npM 96) := pd_7
theorem mt_96 : MtP 96 := ⟨rfl, Or.inr ma_96, fun _ => Or.inr mb_96, fun h => absurd h (by decide), fun h => absurd h (by decide), me_96⟩
set_option maxRecDepth 1000000 in
theorem ma_97 : cwM 97 ∈ lw_tbl := kcD_60_in _ (List.mem_of_getElem? (i := 41) rfl)
set_option maxRecDepth 1000000 in
theorem mb_97 : Cond.instanceMethod (yM 97) ∈ lw_tbl := kiN_60_in _ (List.mem_of_getElem? (i := 18) rfl)
set_option maxRecDepth 1000000 in
theorem md_97 : Cond.selects (owM 97) (yM 97) (yM 97) ∈ lw_tbl := kxL_0_in _ (List.mem_of_getElem? (i := 30) rfl)
set_option maxRecDepth 1000000 in
theorem me_97 : (parseMethodDescriptor (yM 97).desc).map (fun d => d.parameters.length) = some (npM 97) := pd_5
theorem mt_97 : MtP 97 := ⟨rfl, Or.inr ma_97, fun h => absurd h (by decide), fun _ => ⟨mb_97, md_97⟩, fun h => absurd h (by decide), me_97⟩
set_option maxRecDepth 1000000 in
theorem ma_98 : cwM 98 ∈ lw_tbl := kcD_0_in _ (List.mem_of_getElem? (i := 27) rfl)
set_option maxRecDepth 1000000 in
theorem mb_98 : Cond.static (yM 98) ∈ lw_tbl := ksT_0_in _ (List.mem_of_getElem? (i := 8) rfl)
set_option maxRecDepth 1000000 in
theorem me_98 : (parseMethodDescriptor (yM 98).desc).map (fun d => d.parameters.length) = some (npM 98) := pd_3
theorem mt_98 : MtP 98 := ⟨rfl, Or.inr ma_98, fun _ => Or.inr mb_98, fun h => absurd h (by decide), fun h => absurd h (by decide), me_98⟩
set_option maxRecDepth 1000000 in
theorem ma_99 : cwM 99 ∈ lw_tbl := kcD_60_in _ (List.mem_of_getElem? (i := 11) rfl)
set_option maxRecDepth 1000000 in
theorem mb_99 : Cond.static (yM 99) ∈ lw_tbl := ksT_0_in _ (List.mem_of_getElem? (i := 18) rfl)
set_option maxRecDepth 1000000 in
theorem me_99 : (parseMethodDescriptor (yM 99).desc).map (fun d => d.parameters.length) = some (npM 99) := pd_5
theorem mt_99 : MtP 99 := ⟨rfl, Or.inr ma_99, fun _ => Or.inr mb_99, fun h => absurd h (by decide), fun h => absurd h (by decide), me_99⟩
set_option maxRecDepth 1000000 in
theorem ma_100 : cwM 100 ∈ lw_tbl := kcD_0_in _ (List.mem_of_getElem? (i := 34) rfl)
set_option maxRecDepth 1000000 in
theorem mb_100 : Cond.static (yM 100) ∈ lw_tbl := ksT_0_in _ (List.mem_of_getElem? (i := 11) rfl)
set_option maxRecDepth 1000000 in
theorem me_100 : (parseMethodDescriptor (yM 100).desc).map (fun d => d.parameters.length) = some (npM 100) := pd_3
theorem mt_100 : MtP 100 := ⟨rfl, Or.inr ma_100, fun _ => Or.inr mb_100, fun h => absurd h (by decide), fun h => absurd h (by decide), me_100⟩
set_option maxRecDepth 1000000 in
theorem ma_101 : cwM 101 ∈ lw_tbl := kcD_0_in _ (List.mem_of_getElem? (i := 50) rfl)
set_option maxRecDepth 1000000 in
theorem mb_101 : Cond.instanceMethod (yM 101) ∈ lw_tbl := kiN_0_in _ (List.mem_of_getElem? (i := 38) rfl)
set_option maxRecDepth 1000000 in
theorem md_101 : Cond.selects (owM 101) (yM 101) (yM 101) ∈ lw_tbl := kxL_0_in _ (List.mem_of_getElem? (i := 6) rfl)
set_option maxRecDepth 1000000 in
theorem me_101 : (parseMethodDescriptor (yM 101).desc).map (fun d => d.parameters.length) = some (npM 101) := pd_0
theorem mt_101 : MtP 101 := ⟨rfl, Or.inr ma_101, fun h => absurd h (by decide), fun _ => ⟨mb_101, md_101⟩, fun h => absurd h (by decide), me_101⟩
theorem mt_102 : MtP 102 := ⟨rfl, Or.inr ma_0, fun h => absurd h (by decide), fun h => absurd h (by decide), fun _ => ⟨mb_0, rfl⟩, me_0⟩
set_option maxRecDepth 1000000 in
theorem ma_103 : cwM 103 ∈ lw_tbl := kcD_60_in _ (List.mem_of_getElem? (i := 18) rfl)
set_option maxRecDepth 1000000 in
theorem mb_103 : Cond.static (yM 103) ∈ lw_tbl := ksT_0_in _ (List.mem_of_getElem? (i := 20) rfl)
set_option maxRecDepth 1000000 in
theorem me_103 : (parseMethodDescriptor (yM 103).desc).map (fun d => d.parameters.length) = some (npM 103) := pd_19
theorem mt_103 : MtP 103 := ⟨rfl, Or.inr ma_103, fun _ => Or.inr mb_103, fun h => absurd h (by decide), fun h => absurd h (by decide), me_103⟩
set_option maxRecDepth 1000000 in
theorem ma_104 : cwM 104 ∈ lw_tbl := kcD_0_in _ (List.mem_of_getElem? (i := 20) rfl)
set_option maxRecDepth 1000000 in
theorem mb_104 : Cond.static (yM 104) ∈ lw_tbl := ksT_0_in _ (List.mem_of_getElem? (i := 2) rfl)
set_option maxRecDepth 1000000 in
theorem me_104 : (parseMethodDescriptor (yM 104).desc).map (fun d => d.parameters.length) = some (npM 104) := pd_19
theorem mt_104 : MtP 104 := ⟨rfl, Or.inr ma_104, fun _ => Or.inr mb_104, fun h => absurd h (by decide), fun h => absurd h (by decide), me_104⟩
set_option maxRecDepth 1000000 in
theorem ma_105 : cwM 105 ∈ lw_tbl := kcD_0_in _ (List.mem_of_getElem? (i := 48) rfl)
set_option maxRecDepth 1000000 in
theorem mb_105 : Cond.static (yM 105) ∈ lw_tbl := ksT_0_in _ (List.mem_of_getElem? (i := 14) rfl)
set_option maxRecDepth 1000000 in
theorem me_105 : (parseMethodDescriptor (yM 105).desc).map (fun d => d.parameters.length) = some (npM 105) := pd_3
theorem mt_105 : MtP 105 := ⟨rfl, Or.inr ma_105, fun _ => Or.inr mb_105, fun h => absurd h (by decide), fun h => absurd h (by decide), me_105⟩
set_option maxRecDepth 1000000 in
theorem ma_106 : cwM 106 ∈ lw_tbl := kcD_0_in _ (List.mem_of_getElem? (i := 22) rfl)
set_option maxRecDepth 1000000 in
theorem mb_106 : Cond.static (yM 106) ∈ lw_tbl := ksT_0_in _ (List.mem_of_getElem? (i := 4) rfl)
set_option maxRecDepth 1000000 in
theorem me_106 : (parseMethodDescriptor (yM 106).desc).map (fun d => d.parameters.length) = some (npM 106) := pd_20
theorem mt_106 : MtP 106 := ⟨rfl, Or.inr ma_106, fun _ => Or.inr mb_106, fun h => absurd h (by decide), fun h => absurd h (by decide), me_106⟩
set_option maxRecDepth 1000000 in
theorem ma_107 : cwM 107 ∈ lw_tbl := kcD_0_in _ (List.mem_of_getElem? (i := 21) rfl)
set_option maxRecDepth 1000000 in
theorem mb_107 : Cond.static (yM 107) ∈ lw_tbl := ksT_0_in _ (List.mem_of_getElem? (i := 3) rfl)
set_option maxRecDepth 1000000 in
theorem me_107 : (parseMethodDescriptor (yM 107).desc).map (fun d => d.parameters.length) = some (npM 107) := pd_20
theorem mt_107 : MtP 107 := ⟨rfl, Or.inr ma_107, fun _ => Or.inr mb_107, fun h => absurd h (by decide), fun h => absurd h (by decide), me_107⟩
set_option maxRecDepth 1000000 in
theorem ma_108 : cwM 108 ∈ lw_tbl := kcD_60_in _ (List.mem_of_getElem? (i := 31) rfl)
set_option maxRecDepth 1000000 in
theorem mb_108 : Cond.static (yM 108) ∈ lw_tbl := ksT_0_in _ (List.mem_of_getElem? (i := 24) rfl)
set_option maxRecDepth 1000000 in
theorem me_108 : (parseMethodDescriptor (yM 108).desc).map (fun d => d.parameters.length) = some (npM 108) := pd_21
theorem mt_108 : MtP 108 := ⟨rfl, Or.inr ma_108, fun _ => Or.inr mb_108, fun h => absurd h (by decide), fun h => absurd h (by decide), me_108⟩
set_option maxRecDepth 1000000 in
theorem ma_109 : cwM 109 ∈ lw_tbl := kcD_60_in _ (List.mem_of_getElem? (i := 32) rfl)
set_option maxRecDepth 1000000 in
theorem mb_109 : Cond.static (yM 109) ∈ lw_tbl := ksT_0_in _ (List.mem_of_getElem? (i := 25) rfl)
set_option maxRecDepth 1000000 in
theorem me_109 : (parseMethodDescriptor (yM 109).desc).map (fun d => d.parameters.length) = some (npM 109) := pd_22
theorem mt_109 : MtP 109 := ⟨rfl, Or.inr ma_109, fun _ => Or.inr mb_109, fun h => absurd h (by decide), fun h => absurd h (by decide), me_109⟩
set_option maxRecDepth 1000000 in
theorem ma_110 : cwM 110 ∈ lw_tbl := kcD_0_in _ (List.mem_of_getElem? (i := 47) rfl)
set_option maxRecDepth 1000000 in
theorem mb_110 : Cond.static (yM 110) ∈ lw_tbl := ksT_0_in _ (List.mem_of_getElem? (i := 13) rfl)
set_option maxRecDepth 1000000 in
theorem me_110 : (parseMethodDescriptor (yM 110).desc).map (fun d => d.parameters.length) = some (npM 110) := pd_22
theorem mt_110 : MtP 110 := ⟨rfl, Or.inr ma_110, fun _ => Or.inr mb_110, fun h => absurd h (by decide), fun h => absurd h (by decide), me_110⟩
set_option maxRecDepth 1000000 in
theorem ma_111 : cwM 111 ∈ lw_tbl := kcD_60_in _ (List.mem_of_getElem? (i := 5) rfl)
set_option maxRecDepth 1000000 in
theorem mb_111 : Cond.static (yM 111) ∈ lw_tbl := ksT_0_in _ (List.mem_of_getElem? (i := 16) rfl)
set_option maxRecDepth 1000000 in
theorem me_111 : (parseMethodDescriptor (yM 111).desc).map (fun d => d.parameters.length) = some (npM 111) := pd_23
theorem mt_111 : MtP 111 := ⟨rfl, Or.inr ma_111, fun _ => Or.inr mb_111, fun h => absurd h (by decide), fun h => absurd h (by decide), me_111⟩
set_option maxRecDepth 1000000 in
theorem ma_112 : cwM 112 ∈ lw_tbl := kcD_60_in _ (List.mem_of_getElem? (i := 25) rfl)
set_option maxRecDepth 1000000 in
theorem mb_112 : Cond.static (yM 112) ∈ lw_tbl := ksT_0_in _ (List.mem_of_getElem? (i := 21) rfl)
set_option maxRecDepth 1000000 in
theorem me_112 : (parseMethodDescriptor (yM 112).desc).map (fun d => d.parameters.length) = some (npM 112) := pd_24
theorem mt_112 : MtP 112 := ⟨rfl, Or.inr ma_112, fun _ => Or.inr mb_112, fun h => absurd h (by decide), fun h => absurd h (by decide), me_112⟩
set_option maxRecDepth 1000000 in
theorem me_113 : (parseMethodDescriptor (yM 113).desc).map (fun d => d.parameters.length) = some (npM 113) := pd_25
theorem mt_113 : MtP 113 := ⟨rfl, Or.inl rfl, fun _ => Or.inl rfl, fun h => absurd h (by decide), fun h => absurd h (by decide), me_113⟩
theorem mt_all : ∀ k, 0 ≤ k → k < 114 → MtP k := (bt (bt (bt (bt (bt (bt (b1 mt_0) (bt (b1 mt_1) (b1 mt_2))) (bt (bt (b1 mt_3) (b1 mt_4)) (bt (b1 mt_5) (b1 mt_6)))) (bt (bt (b1 mt_7) (bt (b1 mt_8) (b1 mt_9))) (bt (bt (b1 mt_10) (b1 mt_11)) (bt (b1 mt_12) (b1 mt_13))))) (bt (bt (bt (b1 mt_14) (bt (b1 mt_15) (b1 mt_16))) (bt (bt (b1 mt_17) (b1 mt_18)) (bt (b1 mt_19) (b1 mt_20)))) (bt (bt (b1 mt_21) (bt (b1 mt_22) (b1 mt_23))) (bt (bt (b1 mt_24) (b1 mt_25)) (bt (b1 mt_26) (b1 mt_27)))))) (bt (bt (bt (bt (b1 mt_28) (bt (b1 mt_29) (b1 mt_30))) (bt (bt (b1 mt_31) (b1 mt_32)) (bt (b1 mt_33) (b1 mt_34)))) (bt (bt (b1 mt_35) (bt (b1 mt_36) (b1 mt_37))) (bt (bt (b1 mt_38) (b1 mt_39)) (bt (b1 mt_40) (b1 mt_41))))) (bt (bt (bt (b1 mt_42) (bt (b1 mt_43) (b1 mt_44))) (bt (bt (b1 mt_45) (b1 mt_46)) (bt (b1 mt_47) (b1 mt_48)))) (bt (bt (bt (b1 mt_49) (b1 mt_50)) (bt (b1 mt_51) (b1 mt_52))) (bt (bt (b1 mt_53) (b1 mt_54)) (bt (b1 mt_55) (b1 mt_56))))))) (bt (bt (bt (bt (bt (b1 mt_57) (bt (b1 mt_58) (b1 mt_59))) (bt (bt (b1 mt_60) (b1 mt_61)) (bt (b1 mt_62) (b1 mt_63)))) (bt (bt (b1 mt_64) (bt (b1 mt_65) (b1 mt_66))) (bt (bt (b1 mt_67) (b1 mt_68)) (bt (b1 mt_69) (b1 mt_70))))) (bt (bt (bt (b1 mt_71) (bt (b1 mt_72) (b1 mt_73))) (bt (bt (b1 mt_74) (b1 mt_75)) (bt (b1 mt_76) (b1 mt_77)))) (bt (bt (b1 mt_78) (bt (b1 mt_79) (b1 mt_80))) (bt (bt (b1 mt_81) (b1 mt_82)) (bt (b1 mt_83) (b1 mt_84)))))) (bt (bt (bt (bt (b1 mt_85) (bt (b1 mt_86) (b1 mt_87))) (bt (bt (b1 mt_88) (b1 mt_89)) (bt (b1 mt_90) (b1 mt_91)))) (bt (bt (b1 mt_92) (bt (b1 mt_93) (b1 mt_94))) (bt (bt (b1 mt_95) (b1 mt_96)) (bt (b1 mt_97) (b1 mt_98))))) (bt (bt (bt (b1 mt_99) (bt (b1 mt_100) (b1 mt_101))) (bt (bt (b1 mt_102) (b1 mt_103)) (bt (b1 mt_104) (b1 mt_105)))) (bt (bt (bt (b1 mt_106) (b1 mt_107)) (bt (b1 mt_108) (b1 mt_109))) (bt (bt (b1 mt_110) (b1 mt_111)) (bt (b1 mt_112) (b1 mt_113))))))))
