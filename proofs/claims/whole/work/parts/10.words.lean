def kfFB : Cond → Bool
  | .fieldLink .. | .fieldLinkNest .. => true
  | _ => false
def kfF_0 : List Cond := [flW (1, 9, 1, 0, 0), flW (2, 66, 1, 0, 1), flW (4, 237, 1, 0, 1), flW (1, 15, 1, 1, 0), flW (1, 19, 1, 2, 0), flW (2, 97, 1, 2, 1), flW (4, 231, 1, 2, 1), flW (1, 22, 1, 3, 0), flW (2, 100, 1, 3, 1), flW (4, 234, 1, 3, 1), flW (1, 25, 1, 4, 0), flW (2, 94, 1, 4, 1), flW (4, 228, 1, 4, 1), flW (0, 9, 0, 0, 0), flW (4, 277, 0, 0, 1), flW (0, 15, 0, 1, 0), flW (0, 18, 0, 2, 0), flW (0, 22, 0, 3, 0), flW (0, 25, 0, 4, 0), flW (2, 9, 2, 0, 0), flW (4, 129, 2, 0, 1), flW (2, 15, 2, 1, 0), flW (4, 118, 2, 1, 1), flW (2, 19, 2, 2, 0), flW (4, 132, 2, 2, 1), flW (2, 23, 2, 3, 0), flW (4, 107, 2, 3, 1), flW (2, 26, 2, 4, 0), flW (4, 98, 2, 4, 1), flW (2, 29, 2, 5, 0), flW (4, 101, 2, 5, 1), flW (2, 32, 2, 6, 0), flW (4, 126, 2, 6, 1), flW (2, 35, 2, 7, 0), flW (4, 211, 2, 7, 1), flW (2, 41, 2, 8, 0), flW (4, 188, 2, 8, 1), flW (2, 48, 2, 9, 0), flW (4, 268, 2, 9, 1), flW (3, 9, 3, 0, 0), flW (4, 154, 3, 0, 1), flW (3, 15, 3, 1, 0), flW (4, 149, 3, 1, 1), flW (3, 19, 3, 2, 0), flW (4, 163, 3, 2, 1), flW (3, 22, 3, 3, 0), flW (4, 307, 3, 3, 1), flW (3, 26, 3, 4, 0), flW (4, 304, 3, 4, 1), flW (4, 12, 4, 0, 0), flW (4, 16, 4, 1, 0), flW (4, 19, 4, 2, 0), flW (4, 23, 4, 3, 0), flW (4, 27, 4, 4, 0), flW (4, 30, 4, 5, 0), flW (4, 37, 4, 6, 0), flW (4, 41, 4, 7, 0), (Jvm.Cond.fieldLinkNest "StorageQuotas$TextReader" (46 : Nat) "StorageQuotas" "CREATE_NUMBERS" "[I" "StorageQuotas"), (Jvm.Cond.fieldLinkNest "StorageQuotas$TextReader" (49 : Nat) "StorageQuotas" "RESIZE_NUMBERS" "[I" "StorageQuotas"), (Jvm.Cond.fieldLinkNest "StorageQuotas$TextReader" (52 : Nat) "StorageQuotas" "DELETE_NUMBERS" "[I" "StorageQuotas")]
def kfF_60 : List Cond := [(Jvm.Cond.fieldLinkNest "StorageQuotas$TextReader" (55 : Nat) "StorageQuotas" "MOVE_NUMBERS" "[I" "StorageQuotas"), (Jvm.Cond.fieldLinkNest "StorageQuotas$TextReader" (58 : Nat) "StorageQuotas" "DAYS_NUMBERS" "[I" "StorageQuotas"), (Jvm.Cond.fieldLinkNest "StorageQuotas$TextReader" (61 : Nat) "StorageQuotas" "NO_COMMAND" "[I" "StorageQuotas"), (Jvm.Cond.fieldLink "java/lang/Throwable" (198 : Nat) "java/lang/Throwable" "backtrace" "Ljava/lang/Object;"), (Jvm.Cond.fieldLink "java/lang/Throwable" (13 : Nat) "java/lang/Throwable" "UNASSIGNED_STACK" "[Ljava/lang/StackTraceElement;"), (Jvm.Cond.fieldLink "java/lang/Throwable" (20 : Nat) "java/lang/Throwable" "SUPPRESSED_SENTINEL" "Ljava/util/List;"), (Jvm.Cond.fieldLink "java/lang/Throwable" (198 : Nat) "java/lang/Throwable" "backtrace" "Ljava/lang/Object;"), (Jvm.Cond.fieldLink "java/lang/Throwable" (31 : Nat) "java/lang/Throwable" "detailMessage" "Ljava/lang/String;"), (Jvm.Cond.fieldLink "java/lang/Throwable" (7 : Nat) "java/lang/Throwable" "cause" "Ljava/lang/Throwable;"), (Jvm.Cond.fieldLink "java/lang/Throwable" (17 : Nat) "java/lang/Throwable" "stackTrace" "[Ljava/lang/StackTraceElement;"), (Jvm.Cond.fieldLink "java/lang/Throwable" (24 : Nat) "java/lang/Throwable" "suppressedExceptions" "Ljava/util/List;"), flW (5, 29, 5, 0, 0), flW (5, 7, 5, 1, 0), flW (5, 87, 5, 2, 0), flW (5, 13, 5, 3, 0), flW (5, 17, 5, 4, 0), flW (5, 132, 5, 5, 0), flW (5, 135, 5, 6, 0), flW (5, 142, 5, 7, 0), flW (5, 20, 5, 8, 0), flW (5, 23, 5, 9, 0), flW (5, 26, 5, 10, 0)]
set_option maxRecDepth 1000000 in
theorem kfF_eq : lw_tbl.filter kfFB = kfF_0 ++ (kfF_60) := rfl
theorem kfF_0_in : ∀ w ∈ kfF_0, w ∈ lw_tbl := fun w h => (List.mem_filter.mp (by rw [kfF_eq]; exact List.mem_append_left _ h)).1
theorem kfF_60_in : ∀ w ∈ kfF_60, w ∈ lw_tbl := fun w h => (List.mem_filter.mp (by rw [kfF_eq]; exact List.mem_append_right _ (h))).1
def kmLB : Cond → Bool
  | .methodLink .. | .methodLinkNest .. => true
  | _ => false
def kmL_0 : List Cond := [mlW (6, 122, 44, 0), mlW (4, 3, 1000, 0), mlW (4, 11, 14, 1), mlW (2, 3, 1000, 0), mlW (2, 40, 4, 1), mlW (1, 3, 1000, 0), mlW (2, 47, 0, 1), mlW (0, 3, 1000, 0), mlW (4, 36, 36, 1), mlW (3, 3, 1000, 0), mlW (6, 167, 55, 0), mlW (6, 171, 56, 0), mlW (4, 158, 37, 1), mlW (3, 30, 38, 0), mlW (3, 38, 39, 0), mlW (3, 34, 40, 0), mlW (3, 42, 41, 0), mlW (3, 64, 43, 0), mlW (3, 68, 42, 0), mlW (6, 224, 73, 0), mlW (6, 240, 78, 0), mlW (6, 250, 81, 0), mlW (4, 121, 29, 1), mlW (6, 254, 82, 0), mlW (4, 258, 31, 1), mlW (6, 261, 84, 0), mlW (6, 265, 85, 0), mlW (6, 269, 86, 0), mlW (6, 126, 190, 0), mlW (6, 7, 45, 0), mlW (4, 45, 87, 0), (Jvm.Cond.methodLink "java/lang/Throwable" (1 : Nat) ({ cls := "java/lang/Object", name := "<init>", desc := "()V" } : Jvm.MethodName)), (Jvm.Cond.methodLink "java/lang/Throwable" (27 : Nat) ({ cls := "java/lang/Throwable", name := "fillInStackTrace", desc := "()Ljava/lang/Throwable;" } : Jvm.MethodName)), (Jvm.Cond.methodLink "java/lang/Throwable" (202 : Nat) ({ cls := "java/lang/Throwable", name := "fillInStackTrace", desc := "(I)Ljava/lang/Throwable;" } : Jvm.MethodName)), (Jvm.Cond.methodLink "StorageQuotas" (265 : Nat) ({ cls := "java/lang/IndexOutOfBoundsException", name := "<init>", desc := "(Ljava/lang/String;)V" } : Jvm.MethodName)), (Jvm.Cond.methodLink "java/lang/IndexOutOfBoundsException" (7 : Nat) ({ cls := "java/lang/RuntimeException", name := "<init>", desc := "(Ljava/lang/String;)V" } : Jvm.MethodName)), (Jvm.Cond.methodLink "java/lang/RuntimeException" (7 : Nat) ({ cls := "java/lang/Exception", name := "<init>", desc := "(Ljava/lang/String;)V" } : Jvm.MethodName)), (Jvm.Cond.methodLink "java/lang/Exception" (7 : Nat) ({ cls := "java/lang/Throwable", name := "<init>", desc := "(Ljava/lang/String;)V" } : Jvm.MethodName)), mlW (4, 49, 88, 0), mlW (4, 52, 93, 0), mlW (4, 240, 92, 0), mlW (4, 290, 100, 0), mlW (4, 56, 94, 0), (Jvm.Cond.methodLink "StorageQuotas" (117 : Nat) ({ cls := "java/lang/IllegalArgumentException", name := "<init>", desc := "(Ljava/lang/String;)V" } : Jvm.MethodName)), (Jvm.Cond.methodLink "java/lang/IllegalArgumentException" (7 : Nat) ({ cls := "java/lang/RuntimeException", name := "<init>", desc := "(Ljava/lang/String;)V" } : Jvm.MethodName)), mlW (4, 59, 16, 1), mlW (2, 69, 6, 1), (Jvm.Cond.methodLink "StorageQuotas" (67 : Nat) ({ cls := "java/lang/IllegalStateException", name := "<init>", desc := "(Ljava/lang/String;)V" } : Jvm.MethodName)), (Jvm.Cond.methodLink "java/lang/IllegalStateException" (7 : Nat) ({ cls := "java/lang/RuntimeException", name := "<init>", desc := "(Ljava/lang/String;)V" } : Jvm.MethodName)), mlW (4, 70, 101, 0), mlW (4, 179, 15, 1), mlW (2, 52, 1003, 0), mlW (2, 58, 5, 1), mlW (1, 28, 1003, 0), mlW (2, 62, 1, 1), mlW (0, 28, 1003, 0), mlW (4, 73, 17, 1), mlW (2, 73, 23, 0), mlW (2, 88, 99, 1), mlW (2, 111, 98, 1)]
def kmL_60 : List Cond := [mlW (2, 115, 24, 0), mlW (2, 118, 31, 0), mlW (2, 77, 26, 0), mlW (2, 131, 2, 1), mlW (2, 81, 7, 1), mlW (2, 85, 22, 0), mlW (2, 91, 27, 0), mlW (2, 133, 28, 0), mlW (2, 136, 29, 0), mlW (6, 135, 191, 0), mlW (6, 19, 46, 0), mlW (4, 77, 97, 0), mlW (4, 225, 6, 1), mlW (4, 81, 18, 1), mlW (2, 103, 19, 0), mlW (6, 139, 192, 0), mlW (6, 23, 47, 0), mlW (4, 84, 20, 1), mlW (2, 107, 8, 1), mlW (6, 143, 193, 0), mlW (6, 27, 48, 0), mlW (4, 87, 21, 1), mlW (6, 147, 194, 0), mlW (6, 31, 49, 0), mlW (4, 91, 91, 0), mlW (4, 208, 89, 0), mlW (4, 110, 90, 0), mlW (4, 214, 98, 0), mlW (4, 94, 95, 0), mlW (4, 104, 28, 1), mlW (6, 150, 195, 0), mlW (6, 34, 50, 0), mlW (6, 153, 196, 0), mlW (6, 37, 51, 0), mlW (6, 156, 197, 0), mlW (6, 40, 52, 0), mlW (4, 135, 35, 1), mlW (6, 160, 198, 0), mlW (6, 44, 53, 0), mlW (4, 139, 32, 1), mlW (4, 144, 33, 1), mlW (2, 139, 34, 0), mlW (2, 143, 30, 0), mlW (6, 164, 199, 0), mlW (6, 48, 54, 0), mlW (6, 175, 200, 0), mlW (6, 51, 57, 0), mlW (4, 166, 38, 1), mlW (4, 170, 102, 0), mlW (4, 173, 40, 1), mlW (6, 179, 201, 0), mlW (6, 55, 58, 0), mlW (6, 182, 202, 0), mlW (6, 58, 59, 0), mlW (4, 183, 96, 0), mlW (6, 185, 203, 0), mlW (6, 61, 60, 0), mlW (6, 188, 204, 0), mlW (6, 64, 61, 0), mlW (6, 191, 205, 0)]
def kmL_120 : List Cond := [mlW (6, 67, 62, 0), mlW (4, 192, 10, 1), mlW (1, 38, 9, 0), mlW (1, 34, 99, 1), mlW (6, 194, 206, 0), mlW (6, 70, 63, 0), mlW (6, 197, 207, 0), mlW (6, 73, 64, 0), mlW (6, 200, 208, 0), mlW (6, 76, 65, 0), mlW (6, 203, 209, 0), mlW (6, 79, 66, 0), mlW (4, 197, 30, 1), mlW (4, 200, 1001, 0), mlW (6, 206, 210, 0), mlW (6, 82, 67, 0), mlW (4, 205, 25, 1), mlW (2, 123, 1002, 0), mlW (2, 128, 1001, 0), mlW (6, 209, 211, 0), mlW (6, 85, 68, 0), mlW (6, 212, 212, 0), mlW (6, 88, 69, 0), mlW (4, 217, 11, 1), mlW (4, 221, 103, 0), mlW (6, 215, 213, 0), mlW (6, 91, 70, 0), mlW (6, 218, 214, 0), mlW (6, 94, 71, 0), mlW (6, 221, 215, 0), mlW (6, 97, 72, 0), mlW (6, 228, 216, 0), mlW (6, 100, 74, 0), mlW (4, 243, 12, 1), mlW (6, 231, 217, 0), mlW (6, 103, 75, 0), mlW (4, 246, 13, 1), mlW (6, 234, 218, 0), mlW (6, 106, 76, 0), mlW (4, 249, 23, 1), mlW (6, 237, 219, 0), mlW (6, 109, 77, 0), mlW (4, 255, 19, 1), mlW (6, 244, 220, 0), mlW (6, 112, 79, 0), mlW (6, 247, 221, 0), mlW (6, 115, 80, 0), mlW (6, 258, 222, 0), mlW (6, 119, 83, 0), mlW (4, 272, 3, 1), mlW (6, 125, 104, 0), mlW (5, 1, 1000, 0), mlW (6, 132, 105, 0), mlW (6, 131, 134, 0), mlW (5, 93, 108, 0), mlW (5, 33, 106, 0), mlW (5, 96, 109, 0), mlW (5, 99, 110, 0), mlW (5, 102, 114, 0), mlW (5, 37, 112, 0)]
def kmL_180 : List Cond := [mlW (5, 105, 107, 0), mlW (5, 108, 133, 0), mlW (5, 90, 132, 0), mlW (5, 111, 127, 0), mlW (5, 74, 125, 0), mlW (5, 78, 126, 0), mlW (5, 71, 124, 0), mlW (5, 56, 122, 0), mlW (5, 60, 123, 0), mlW (5, 45, 116, 0), mlW (5, 41, 115, 0), mlW (5, 64, 120, 0), mlW (5, 67, 121, 0), mlW (5, 48, 117, 0), mlW (5, 81, 113, 0), mlW (5, 84, 119, 0), mlW (5, 52, 118, 0), mlW (6, 138, 135, 0), mlW (5, 115, 128, 0), mlW (6, 142, 136, 0), mlW (5, 118, 129, 0), mlW (6, 146, 137, 0), mlW (5, 122, 130, 0), mlW (6, 149, 138, 0), mlW (5, 126, 111, 0), mlW (6, 152, 139, 0), mlW (6, 155, 140, 0), mlW (6, 159, 141, 0), mlW (6, 163, 142, 0), mlW (5, 129, 131, 0), mlW (6, 166, 143, 0), mlW (6, 170, 144, 0), mlW (6, 174, 151, 0), mlW (5, 158, 150, 0), mlW (5, 154, 149, 0), mlW (5, 138, 145, 0), mlW (5, 145, 146, 0), mlW (5, 148, 148, 0), mlW (5, 151, 147, 0), mlW (6, 178, 153, 0), mlW (5, 161, 152, 0), mlW (6, 181, 154, 0), mlW (6, 184, 155, 0), mlW (6, 187, 156, 0), mlW (6, 190, 157, 0), mlW (6, 193, 158, 0), mlW (6, 196, 159, 0), mlW (6, 199, 160, 0), mlW (6, 202, 161, 0), mlW (6, 205, 162, 0), mlW (6, 208, 163, 0), mlW (6, 211, 164, 0), mlW (6, 214, 168, 0), mlW (5, 170, 167, 0), mlW (5, 164, 166, 0), mlW (5, 167, 165, 0), mlW (6, 217, 170, 0), mlW (5, 173, 169, 0), mlW (6, 220, 171, 0), mlW (6, 223, 172, 0)]
def kmL_240 : List Cond := [mlW (6, 227, 173, 0), mlW (6, 230, 174, 0), mlW (6, 233, 175, 0), mlW (6, 236, 176, 0), mlW (6, 239, 179, 0), mlW (5, 179, 178, 0), mlW (5, 176, 177, 0), mlW (6, 243, 180, 0), mlW (6, 246, 181, 0), mlW (6, 249, 182, 0), mlW (6, 253, 184, 0), mlW (5, 182, 183, 0), mlW (6, 257, 185, 0), mlW (6, 260, 186, 0), mlW (6, 264, 187, 0), mlW (6, 268, 188, 0), mlW (6, 272, 189, 0)]
set_option maxRecDepth 1000000 in
theorem kmL_eq : lw_tbl.filter kmLB = kmL_0 ++ (kmL_60 ++ (kmL_120 ++ (kmL_180 ++ (kmL_240)))) := rfl
theorem kmL_0_in : ∀ w ∈ kmL_0, w ∈ lw_tbl := fun w h => (List.mem_filter.mp (by rw [kmL_eq]; exact List.mem_append_left _ h)).1
theorem kmL_60_in : ∀ w ∈ kmL_60, w ∈ lw_tbl := fun w h => (List.mem_filter.mp (by rw [kmL_eq]; exact List.mem_append_right _ (List.mem_append_left _ h))).1
theorem kmL_120_in : ∀ w ∈ kmL_120, w ∈ lw_tbl := fun w h => (List.mem_filter.mp (by rw [kmL_eq]; exact List.mem_append_right _ (List.mem_append_right _ (List.mem_append_left _ h)))).1
theorem kmL_180_in : ∀ w ∈ kmL_180, w ∈ lw_tbl := fun w h => (List.mem_filter.mp (by rw [kmL_eq]; exact List.mem_append_right _ (List.mem_append_right _ (List.mem_append_right _ (List.mem_append_left _ h))))).1
theorem kmL_240_in : ∀ w ∈ kmL_240, w ∈ lw_tbl := fun w h => (List.mem_filter.mp (by rw [kmL_eq]; exact List.mem_append_right _ (List.mem_append_right _ (List.mem_append_right _ (List.mem_append_right _ (h)))))).1
def kcDB : Cond → Bool
  | .code .. | .codeWith .. => true
  | _ => false
def kcD_0 : List Cond := [cwM 44, (Jvm.Cond.code ({ cls := "java/lang/Object", name := "<init>", desc := "()V" } : Jvm.MethodName) object_method_1_code (1 : Nat) (Option.none : Option Jvm.ClassFile.FieldType)), cwM 14, cwM 4, cwM 0, cwM 36, cwM 55, cwM 56, cwM 37, cwM 38, cwM 39, cwM 40, cwM 41, cwM 43, cwM 42, cwM 73, cwM 78, cwM 81, cwM 29, cwM 82, cwM 31, cwM 84, cwM 85, cwM 86, cwM 190, cwM 45, cwM 87, (Jvm.Cond.code ({ cls := "java/lang/Throwable", name := "<init>", desc := "()V" } : Jvm.MethodName) prog_16_method_1_code (1 : Nat) (Option.none : Option Jvm.ClassFile.FieldType)), (Jvm.Cond.code ({ cls := "java/lang/IndexOutOfBoundsException", name := "<init>", desc := "(Ljava/lang/String;)V" } : Jvm.MethodName) prog_11_method_2_code (2 : Nat) (Option.none : Option Jvm.ClassFile.FieldType)), (Jvm.Cond.code ({ cls := "java/lang/RuntimeException", name := "<init>", desc := "(Ljava/lang/String;)V" } : Jvm.MethodName) prog_13_method_2_code (2 : Nat) (Option.none : Option Jvm.ClassFile.FieldType)), (Jvm.Cond.code ({ cls := "java/lang/Exception", name := "<init>", desc := "(Ljava/lang/String;)V" } : Jvm.MethodName) prog_8_method_2_code (2 : Nat) (Option.none : Option Jvm.ClassFile.FieldType)), (Jvm.Cond.code ({ cls := "java/lang/Throwable", name := "<init>", desc := "(Ljava/lang/String;)V" } : Jvm.MethodName) prog_16_method_2_code (2 : Nat) (Option.none : Option Jvm.ClassFile.FieldType)), cwM 88, cwM 93, cwM 92, cwM 100, cwM 94, (Jvm.Cond.code ({ cls := "java/lang/IllegalArgumentException", name := "<init>", desc := "(Ljava/lang/String;)V" } : Jvm.MethodName) prog_9_method_2_code (2 : Nat) (Option.none : Option Jvm.ClassFile.FieldType)), cwM 16, cwM 6, (Jvm.Cond.code ({ cls := "java/lang/IllegalStateException", name := "<init>", desc := "(Ljava/lang/String;)V" } : Jvm.MethodName) prog_10_method_2_code (2 : Nat) (Option.none : Option Jvm.ClassFile.FieldType)), cwM 101, cwM 15, cwM 5, cwM 1, cwM 17, cwM 23, cwM 99, cwM 98, cwM 24, cwM 26, cwM 2, cwM 7, cwM 22, cwM 27, cwM 28, cwM 191, cwM 46, cwM 97, cwM 18]
def kcD_60 : List Cond := [cwM 19, cwM 192, cwM 47, cwM 20, cwM 8, cwM 193, cwM 48, cwM 21, cwM 194, cwM 49, cwM 91, cwM 89, cwM 90, cwM 95, cwM 195, cwM 50, cwM 196, cwM 51, cwM 197, cwM 52, cwM 35, cwM 198, cwM 53, cwM 32, cwM 33, cwM 34, cwM 30, cwM 199, cwM 54, cwM 200, cwM 57, cwM 102, cwM 201, cwM 58, cwM 202, cwM 59, cwM 96, cwM 203, cwM 60, cwM 204, cwM 61, cwM 205, cwM 62, cwM 10, cwM 9, cwM 206, cwM 63, cwM 207, cwM 64, cwM 208, cwM 65, cwM 209, cwM 66, (Jvm.Cond.code ({ cls := "java/lang/Math", name := "max", desc := "(II)I" } : Jvm.MethodName) prog_12_method_65_code (2 : Nat) (Option.some Jvm.ClassFile.FieldType.int)), cwM 210, cwM 67, cwM 25, (Jvm.Cond.code ({ cls := "java/lang/Math", name := "min", desc := "(II)I" } : Jvm.MethodName) prog_12_method_69_code (2 : Nat) (Option.some Jvm.ClassFile.FieldType.int)), cwM 211, cwM 68]
def kcD_120 : List Cond := [cwM 212, cwM 69, cwM 11, cwM 103, cwM 213, cwM 70, cwM 214, cwM 71, cwM 215, cwM 72, cwM 216, cwM 74, cwM 12, cwM 217, cwM 75, cwM 13, cwM 218, cwM 76, cwM 219, cwM 77, cwM 220, cwM 79, cwM 221, cwM 80, cwM 222, cwM 83, cwM 3, cwM 104, cwM 105, cwM 134, cwM 108, cwM 106, cwM 109, cwM 110, cwM 114, cwM 112, cwM 107, cwM 133, cwM 132, cwM 127, cwM 125, cwM 126, cwM 124, cwM 122, cwM 123, cwM 116, cwM 115, cwM 120, cwM 121, cwM 117, cwM 113, cwM 119, cwM 118, cwM 135, cwM 128, cwM 136, cwM 129, cwM 137, cwM 130, cwM 138]
def kcD_180 : List Cond := [cwM 111, cwM 139, cwM 140, cwM 141, cwM 142, cwM 131, cwM 143, cwM 144, cwM 151, cwM 150, cwM 149, cwM 145, cwM 146, cwM 148, cwM 147, cwM 153, cwM 152, cwM 154, cwM 155, cwM 156, cwM 157, cwM 158, cwM 159, cwM 160, cwM 161, cwM 162, cwM 163, cwM 164, cwM 168, cwM 167, cwM 166, cwM 165, cwM 170, cwM 169, cwM 171, cwM 172, cwM 173, cwM 174, cwM 175, cwM 176, cwM 179, cwM 178, cwM 177, cwM 180, cwM 181, cwM 182, cwM 184, cwM 183, cwM 185, cwM 186, cwM 187, cwM 188, cwM 189]
set_option maxRecDepth 1000000 in
theorem kcD_eq : lw_tbl.filter kcDB = kcD_0 ++ (kcD_60 ++ (kcD_120 ++ (kcD_180))) := rfl
theorem kcD_0_in : ∀ w ∈ kcD_0, w ∈ lw_tbl := fun w h => (List.mem_filter.mp (by rw [kcD_eq]; exact List.mem_append_left _ h)).1
theorem kcD_60_in : ∀ w ∈ kcD_60, w ∈ lw_tbl := fun w h => (List.mem_filter.mp (by rw [kcD_eq]; exact List.mem_append_right _ (List.mem_append_left _ h))).1
theorem kcD_120_in : ∀ w ∈ kcD_120, w ∈ lw_tbl := fun w h => (List.mem_filter.mp (by rw [kcD_eq]; exact List.mem_append_right _ (List.mem_append_right _ (List.mem_append_left _ h)))).1
theorem kcD_180_in : ∀ w ∈ kcD_180, w ∈ lw_tbl := fun w h => (List.mem_filter.mp (by rw [kcD_eq]; exact List.mem_append_right _ (List.mem_append_right _ (List.mem_append_right _ (h))))).1
def ksTB : Cond → Bool
  | .static _ => true
  | _ => false
def ksT_0 : List Cond := [.static (yM 39), .static (yM 190), .static (yM 87), .static (yM 88), .static (yM 93), .static (yM 92), .static (yM 100), .static (yM 94), (Jvm.Cond.static ({ cls := "java/lang/System", name := "arraycopy", desc := "(Ljava/lang/Object;ILjava/lang/Object;II)V" } : Jvm.MethodName)), .static (yM 99), .static (yM 98), .static (yM 191), .static (yM 192), .static (yM 193), .static (yM 194), .static (yM 91), .static (yM 89), .static (yM 90), .static (yM 95), .static (yM 195), .static (yM 196), .static (yM 197), .static (yM 198), .static (yM 199), .static (yM 200), .static (yM 201), .static (yM 202), .static (yM 96), .static (yM 203), .static (yM 204), .static (yM 205), .static (yM 206), .static (yM 207), .static (yM 208), .static (yM 209), (Jvm.Cond.static ({ cls := "java/lang/Math", name := "max", desc := "(II)I" } : Jvm.MethodName)), .static (yM 210), (Jvm.Cond.static ({ cls := "java/lang/Math", name := "min", desc := "(II)I" } : Jvm.MethodName)), .static (yM 211), .static (yM 212), .static (yM 103), .static (yM 213), .static (yM 214), .static (yM 215), .static (yM 216), .static (yM 217), .static (yM 218), .static (yM 219), .static (yM 220), .static (yM 221), .static (yM 222), .static (yM 108), .static (yM 106), .static (yM 109), .static (yM 110), .static (yM 123), .static (yM 111), .static (yM 148)]
set_option maxRecDepth 1000000 in
theorem ksT_eq : lw_tbl.filter ksTB = ksT_0 := rfl
theorem ksT_0_in : ∀ w ∈ ksT_0, w ∈ lw_tbl := fun w h => (List.mem_filter.mp (by rw [ksT_eq]; exact h)).1
def kiNB : Cond → Bool
  | .instanceMethod _ => true
  | _ => false
def kiN_0 : List Cond := [.instanceMethod (yM 44), (Jvm.Cond.instanceMethod ({ cls := "java/lang/Object", name := "<init>", desc := "()V" } : Jvm.MethodName)), .instanceMethod (yM 14), .instanceMethod (yM 4), .instanceMethod (yM 0), .instanceMethod (yM 36), .instanceMethod (yM 55), .instanceMethod (yM 56), .instanceMethod (yM 37), .instanceMethod (yM 38), .instanceMethod (yM 40), .instanceMethod (yM 41), .instanceMethod (yM 43), .instanceMethod (yM 42), .instanceMethod (yM 73), .instanceMethod (yM 78), .instanceMethod (yM 81), .instanceMethod (yM 29), .instanceMethod (yM 82), .instanceMethod (yM 31), .instanceMethod (yM 84), .instanceMethod (yM 85), .instanceMethod (yM 86), .instanceMethod (yM 45), (Jvm.Cond.instanceMethod ({ cls := "java/lang/Throwable", name := "<init>", desc := "()V" } : Jvm.MethodName)), (Jvm.Cond.instanceMethod ({ cls := "java/lang/Throwable", name := "fillInStackTrace", desc := "()Ljava/lang/Throwable;" } : Jvm.MethodName)), (Jvm.Cond.instanceMethod ({ cls := "java/lang/Throwable", name := "fillInStackTrace", desc := "(I)Ljava/lang/Throwable;" } : Jvm.MethodName)), (Jvm.Cond.instanceMethod ({ cls := "java/lang/IndexOutOfBoundsException", name := "<init>", desc := "(Ljava/lang/String;)V" } : Jvm.MethodName)), (Jvm.Cond.instanceMethod ({ cls := "java/lang/RuntimeException", name := "<init>", desc := "(Ljava/lang/String;)V" } : Jvm.MethodName)), (Jvm.Cond.instanceMethod ({ cls := "java/lang/Exception", name := "<init>", desc := "(Ljava/lang/String;)V" } : Jvm.MethodName)), (Jvm.Cond.instanceMethod ({ cls := "java/lang/Throwable", name := "<init>", desc := "(Ljava/lang/String;)V" } : Jvm.MethodName)), (Jvm.Cond.instanceMethod ({ cls := "java/lang/IllegalArgumentException", name := "<init>", desc := "(Ljava/lang/String;)V" } : Jvm.MethodName)), .instanceMethod (yM 16), .instanceMethod (yM 6), (Jvm.Cond.instanceMethod ({ cls := "java/lang/IllegalStateException", name := "<init>", desc := "(Ljava/lang/String;)V" } : Jvm.MethodName)), .instanceMethod (yM 101), .instanceMethod (yM 15), .instanceMethod (yM 5), .instanceMethod (yM 1), .instanceMethod (yM 17), .instanceMethod (yM 23), .instanceMethod (yM 24), .instanceMethod (yM 26), .instanceMethod (yM 2), .instanceMethod (yM 7), .instanceMethod (yM 22), .instanceMethod (yM 27), .instanceMethod (yM 28), .instanceMethod (yM 46), .instanceMethod (yM 97), .instanceMethod (yM 18), .instanceMethod (yM 19), .instanceMethod (yM 47), .instanceMethod (yM 20), .instanceMethod (yM 8), .instanceMethod (yM 48), .instanceMethod (yM 21), .instanceMethod (yM 49), .instanceMethod (yM 50), .instanceMethod (yM 51)]
def kiN_60 : List Cond := [.instanceMethod (yM 52), .instanceMethod (yM 35), .instanceMethod (yM 53), .instanceMethod (yM 32), .instanceMethod (yM 33), .instanceMethod (yM 34), .instanceMethod (yM 30), .instanceMethod (yM 54), .instanceMethod (yM 57), .instanceMethod (yM 102), .instanceMethod (yM 58), .instanceMethod (yM 59), .instanceMethod (yM 60), .instanceMethod (yM 61), .instanceMethod (yM 62), .instanceMethod (yM 10), .instanceMethod (yM 9), .instanceMethod (yM 63), .instanceMethod (yM 64), .instanceMethod (yM 65), .instanceMethod (yM 66), .instanceMethod (yM 67), .instanceMethod (yM 25), .instanceMethod (yM 68), .instanceMethod (yM 69), .instanceMethod (yM 11), .instanceMethod (yM 70), .instanceMethod (yM 71), .instanceMethod (yM 72), .instanceMethod (yM 74), .instanceMethod (yM 12), .instanceMethod (yM 75), .instanceMethod (yM 13), .instanceMethod (yM 76), .instanceMethod (yM 77), .instanceMethod (yM 79), .instanceMethod (yM 80), .instanceMethod (yM 83), .instanceMethod (yM 3), .instanceMethod (yM 104), .instanceMethod (yM 105), .instanceMethod (yM 134), .instanceMethod (yM 114), .instanceMethod (yM 112), .instanceMethod (yM 107), .instanceMethod (yM 133), .instanceMethod (yM 132), .instanceMethod (yM 127), .instanceMethod (yM 125), .instanceMethod (yM 126), .instanceMethod (yM 124), .instanceMethod (yM 122), .instanceMethod (yM 116), .instanceMethod (yM 115), .instanceMethod (yM 120), .instanceMethod (yM 121), .instanceMethod (yM 117), .instanceMethod (yM 113), .instanceMethod (yM 119), .instanceMethod (yM 118)]
def kiN_120 : List Cond := [.instanceMethod (yM 135), .instanceMethod (yM 128), .instanceMethod (yM 136), .instanceMethod (yM 129), .instanceMethod (yM 137), .instanceMethod (yM 130), .instanceMethod (yM 138), .instanceMethod (yM 139), .instanceMethod (yM 140), .instanceMethod (yM 141), .instanceMethod (yM 142), .instanceMethod (yM 131), .instanceMethod (yM 143), .instanceMethod (yM 144), .instanceMethod (yM 151), .instanceMethod (yM 150), .instanceMethod (yM 149), .instanceMethod (yM 145), .instanceMethod (yM 146), .instanceMethod (yM 147), .instanceMethod (yM 153), .instanceMethod (yM 152), .instanceMethod (yM 154), .instanceMethod (yM 155), .instanceMethod (yM 156), .instanceMethod (yM 157), .instanceMethod (yM 158), .instanceMethod (yM 159), .instanceMethod (yM 160), .instanceMethod (yM 161), .instanceMethod (yM 162), .instanceMethod (yM 163), .instanceMethod (yM 164), .instanceMethod (yM 168), .instanceMethod (yM 167), .instanceMethod (yM 166), .instanceMethod (yM 165), .instanceMethod (yM 170), .instanceMethod (yM 169), .instanceMethod (yM 171), .instanceMethod (yM 172), .instanceMethod (yM 173), .instanceMethod (yM 174), .instanceMethod (yM 175), .instanceMethod (yM 176), .instanceMethod (yM 179), .instanceMethod (yM 178), .instanceMethod (yM 177), .instanceMethod (yM 180), .instanceMethod (yM 181), .instanceMethod (yM 182), .instanceMethod (yM 184), .instanceMethod (yM 183), .instanceMethod (yM 185), .instanceMethod (yM 186), .instanceMethod (yM 187), .instanceMethod (yM 188), .instanceMethod (yM 189)]
set_option maxRecDepth 1000000 in
theorem kiN_eq : lw_tbl.filter kiNB = kiN_0 ++ (kiN_60 ++ (kiN_120)) := rfl
theorem kiN_0_in : ∀ w ∈ kiN_0, w ∈ lw_tbl := fun w h => (List.mem_filter.mp (by rw [kiN_eq]; exact List.mem_append_left _ h)).1
theorem kiN_60_in : ∀ w ∈ kiN_60, w ∈ lw_tbl := fun w h => (List.mem_filter.mp (by rw [kiN_eq]; exact List.mem_append_right _ (List.mem_append_left _ h))).1
theorem kiN_120_in : ∀ w ∈ kiN_120, w ∈ lw_tbl := fun w h => (List.mem_filter.mp (by rw [kiN_eq]; exact List.mem_append_right _ (List.mem_append_right _ (h)))).1
def kxLB : Cond → Bool
  | .selects .. => true
  | _ => false
def kxL_0 : List Cond := [.selects (owM 37) (yM 37) (yM 37), .selects (owM 38) (yM 38) (yM 38), .selects (owM 40) (yM 40) (yM 40), .selects (owM 41) (yM 41) (yM 41), .selects (owM 43) (yM 43) (yM 43), .selects (owM 42) (yM 42) (yM 42), .selects (owM 29) (yM 29) (yM 29), .selects (owM 31) (yM 31) (yM 31), .selects "java/lang/Throwable" ⟨"java/lang/Throwable", "fillInStackTrace", "(I)Ljava/lang/Throwable;"⟩ ⟨"java/lang/Throwable", "fillInStackTrace", "(I)Ljava/lang/Throwable;"⟩, .selects (owM 16) (yM 16) (yM 16), .selects (owM 6) (yM 6) (yM 6), .selects (owM 101) (yM 101) (yM 101), .selects (owM 15) (yM 15) (yM 15), .selects (owM 5) (yM 5) (yM 5), .selects (owM 1) (yM 1) (yM 1), .selects (owM 17) (yM 17) (yM 17), .selects (owM 23) (yM 23) (yM 23), .selects (owM 24) (yM 24) (yM 24), .selects (owM 26) (yM 26) (yM 26), .selects (owM 2) (yM 2) (yM 2), .selects (owM 7) (yM 7) (yM 7), .selects (owM 22) (yM 22) (yM 22), .selects (owM 27) (yM 27) (yM 27), .selects (owM 28) (yM 28) (yM 28), .selects (owM 97) (yM 97) (yM 97), .selects (owM 18) (yM 18) (yM 18), .selects (owM 19) (yM 19) (yM 19), .selects (owM 20) (yM 20) (yM 20), .selects (owM 8) (yM 8) (yM 8), .selects (owM 21) (yM 21) (yM 21), .selects (owM 35) (yM 35) (yM 35), .selects (owM 32) (yM 32) (yM 32), .selects (owM 33) (yM 33) (yM 33), .selects (owM 34) (yM 34) (yM 34), .selects (owM 30) (yM 30) (yM 30), .selects (owM 102) (yM 102) (yM 102), .selects (owM 10) (yM 10) (yM 10), .selects (owM 9) (yM 9) (yM 9), .selects (owM 25) (yM 25) (yM 25), .selects (owM 11) (yM 11) (yM 11), .selects (owM 12) (yM 12) (yM 12), .selects (owM 13) (yM 13) (yM 13), .selects (owM 3) (yM 3) (yM 3), .selects (owM 114) (yM 114) (yM 114), .selects (owM 112) (yM 112) (yM 112), .selects (owM 107) (yM 107) (yM 107), .selects (owM 133) (yM 133) (yM 133), .selects (owM 132) (yM 132) (yM 132), .selects (owM 127) (yM 127) (yM 127), .selects (owM 125) (yM 125) (yM 125), .selects (owM 126) (yM 126) (yM 126), .selects (owM 124) (yM 124) (yM 124), .selects (owM 122) (yM 122) (yM 122), .selects (owM 116) (yM 116) (yM 116), .selects (owM 115) (yM 115) (yM 115), .selects (owM 120) (yM 120) (yM 120), .selects (owM 121) (yM 121) (yM 121), .selects (owM 117) (yM 117) (yM 117), .selects (owM 113) (yM 113) (yM 113), .selects (owM 119) (yM 119) (yM 119)]
def kxL_60 : List Cond := [.selects (owM 118) (yM 118) (yM 118), .selects (owM 128) (yM 128) (yM 128), .selects (owM 129) (yM 129) (yM 129), .selects (owM 130) (yM 130) (yM 130), .selects (owM 131) (yM 131) (yM 131), .selects (owM 150) (yM 150) (yM 150), .selects (owM 149) (yM 149) (yM 149), .selects (owM 145) (yM 145) (yM 145), .selects (owM 146) (yM 146) (yM 146), .selects (owM 147) (yM 147) (yM 147), .selects (owM 152) (yM 152) (yM 152), .selects (owM 167) (yM 167) (yM 167), .selects (owM 166) (yM 166) (yM 166), .selects (owM 165) (yM 165) (yM 165), .selects (owM 169) (yM 169) (yM 169), .selects (owM 178) (yM 178) (yM 178), .selects (owM 177) (yM 177) (yM 177), .selects (owM 183) (yM 183) (yM 183), .selects (owM 55) (yM 55) (yM 55), .selects (owM 56) (yM 56) (yM 56), .selects (owM 73) (yM 73) (yM 73), .selects (owM 78) (yM 78) (yM 78), .selects (owM 81) (yM 81) (yM 81), .selects (owM 82) (yM 82) (yM 82), .selects (owM 84) (yM 84) (yM 84), .selects (owM 85) (yM 85) (yM 85), .selects (owM 86) (yM 86) (yM 86), .selects (owM 45) (yM 45) (yM 45), (Jvm.Cond.selects "java/lang/IndexOutOfBoundsException" ({ cls := "java/lang/Throwable", name := "fillInStackTrace", desc := "(I)Ljava/lang/Throwable;" } : Jvm.MethodName) ({ cls := "java/lang/Throwable", name := "fillInStackTrace", desc := "(I)Ljava/lang/Throwable;" } : Jvm.MethodName)), (Jvm.Cond.selects "java/lang/IndexOutOfBoundsException" ({ cls := "java/lang/Throwable", name := "fillInStackTrace", desc := "()Ljava/lang/Throwable;" } : Jvm.MethodName) ({ cls := "java/lang/Throwable", name := "fillInStackTrace", desc := "()Ljava/lang/Throwable;" } : Jvm.MethodName)), (Jvm.Cond.selects "java/lang/IllegalArgumentException" ({ cls := "java/lang/Throwable", name := "fillInStackTrace", desc := "()Ljava/lang/Throwable;" } : Jvm.MethodName) ({ cls := "java/lang/Throwable", name := "fillInStackTrace", desc := "()Ljava/lang/Throwable;" } : Jvm.MethodName)), (Jvm.Cond.selects "java/lang/IllegalStateException" ({ cls := "java/lang/Throwable", name := "fillInStackTrace", desc := "()Ljava/lang/Throwable;" } : Jvm.MethodName) ({ cls := "java/lang/Throwable", name := "fillInStackTrace", desc := "()Ljava/lang/Throwable;" } : Jvm.MethodName)), (Jvm.Cond.selects "java/lang/IllegalArgumentException" ({ cls := "java/lang/Throwable", name := "fillInStackTrace", desc := "(I)Ljava/lang/Throwable;" } : Jvm.MethodName) ({ cls := "java/lang/Throwable", name := "fillInStackTrace", desc := "(I)Ljava/lang/Throwable;" } : Jvm.MethodName)), (Jvm.Cond.selects "java/lang/IllegalStateException" ({ cls := "java/lang/Throwable", name := "fillInStackTrace", desc := "(I)Ljava/lang/Throwable;" } : Jvm.MethodName) ({ cls := "java/lang/Throwable", name := "fillInStackTrace", desc := "(I)Ljava/lang/Throwable;" } : Jvm.MethodName)), .selects (owM 46) (yM 46) (yM 46), .selects (owM 47) (yM 47) (yM 47), .selects (owM 48) (yM 48) (yM 48), .selects (owM 49) (yM 49) (yM 49), .selects (owM 50) (yM 50) (yM 50), .selects (owM 51) (yM 51) (yM 51), .selects (owM 52) (yM 52) (yM 52), .selects (owM 53) (yM 53) (yM 53), .selects (owM 54) (yM 54) (yM 54), .selects (owM 57) (yM 57) (yM 57), .selects (owM 58) (yM 58) (yM 58), .selects (owM 59) (yM 59) (yM 59), .selects (owM 60) (yM 60) (yM 60), .selects (owM 61) (yM 61) (yM 61), .selects (owM 62) (yM 62) (yM 62), .selects (owM 63) (yM 63) (yM 63), .selects (owM 64) (yM 64) (yM 64), .selects (owM 65) (yM 65) (yM 65), .selects (owM 66) (yM 66) (yM 66), .selects (owM 67) (yM 67) (yM 67), .selects (owM 68) (yM 68) (yM 68), .selects (owM 69) (yM 69) (yM 69), .selects (owM 70) (yM 70) (yM 70), .selects (owM 71) (yM 71) (yM 71), .selects (owM 72) (yM 72) (yM 72), .selects (owM 74) (yM 74) (yM 74)]
def kxL_120 : List Cond := [.selects (owM 75) (yM 75) (yM 75), .selects (owM 76) (yM 76) (yM 76), .selects (owM 77) (yM 77) (yM 77), .selects (owM 79) (yM 79) (yM 79), .selects (owM 80) (yM 80) (yM 80), .selects (owM 83) (yM 83) (yM 83), .selects (owM 105) (yM 105) (yM 105), .selects (owM 134) (yM 134) (yM 134), .selects (owM 135) (yM 135) (yM 135), .selects (owM 136) (yM 136) (yM 136), .selects (owM 137) (yM 137) (yM 137), .selects (owM 138) (yM 138) (yM 138), .selects (owM 139) (yM 139) (yM 139), .selects (owM 140) (yM 140) (yM 140), .selects (owM 141) (yM 141) (yM 141), .selects (owM 142) (yM 142) (yM 142), .selects (owM 143) (yM 143) (yM 143), .selects (owM 144) (yM 144) (yM 144), .selects (owM 151) (yM 151) (yM 151), .selects (owM 153) (yM 153) (yM 153), .selects (owM 154) (yM 154) (yM 154), .selects (owM 155) (yM 155) (yM 155), .selects (owM 156) (yM 156) (yM 156), .selects (owM 157) (yM 157) (yM 157), .selects (owM 158) (yM 158) (yM 158), .selects (owM 159) (yM 159) (yM 159), .selects (owM 160) (yM 160) (yM 160), .selects (owM 161) (yM 161) (yM 161), .selects (owM 162) (yM 162) (yM 162), .selects (owM 163) (yM 163) (yM 163), .selects (owM 164) (yM 164) (yM 164), .selects (owM 168) (yM 168) (yM 168), .selects (owM 170) (yM 170) (yM 170), .selects (owM 171) (yM 171) (yM 171), .selects (owM 172) (yM 172) (yM 172), .selects (owM 173) (yM 173) (yM 173), .selects (owM 174) (yM 174) (yM 174), .selects (owM 175) (yM 175) (yM 175), .selects (owM 176) (yM 176) (yM 176), .selects (owM 179) (yM 179) (yM 179), .selects (owM 180) (yM 180) (yM 180), .selects (owM 181) (yM 181) (yM 181), .selects (owM 182) (yM 182) (yM 182), .selects (owM 184) (yM 184) (yM 184), .selects (owM 185) (yM 185) (yM 185), .selects (owM 186) (yM 186) (yM 186), .selects (owM 187) (yM 187) (yM 187), .selects (owM 188) (yM 188) (yM 188), .selects (owM 189) (yM 189) (yM 189)]
set_option maxRecDepth 1000000 in
theorem kxL_eq : lw_tbl.filter kxLB = kxL_0 ++ (kxL_60 ++ (kxL_120)) := rfl
theorem kxL_0_in : ∀ w ∈ kxL_0, w ∈ lw_tbl := fun w h => (List.mem_filter.mp (by rw [kxL_eq]; exact List.mem_append_left _ h)).1
theorem kxL_60_in : ∀ w ∈ kxL_60, w ∈ lw_tbl := fun w h => (List.mem_filter.mp (by rw [kxL_eq]; exact List.mem_append_right _ (List.mem_append_left _ h))).1
theorem kxL_120_in : ∀ w ∈ kxL_120, w ∈ lw_tbl := fun w h => (List.mem_filter.mp (by rw [kxL_eq]; exact List.mem_append_right _ (List.mem_append_right _ (h)))).1
set_option maxRecDepth 1000000 in
theorem fw_0 : flW (1, 9, 1, 0, 0) ∈ lw_tbl := kfF_0_in _ (List.mem_of_getElem? (i := 0) rfl)
set_option maxRecDepth 1000000 in
theorem fw_1 : flW (2, 66, 1, 0, 1) ∈ lw_tbl := kfF_0_in _ (List.mem_of_getElem? (i := 1) rfl)
set_option maxRecDepth 1000000 in
theorem fw_2 : flW (4, 237, 1, 0, 1) ∈ lw_tbl := kfF_0_in _ (List.mem_of_getElem? (i := 2) rfl)
set_option maxRecDepth 1000000 in
theorem fw_3 : flW (1, 15, 1, 1, 0) ∈ lw_tbl := kfF_0_in _ (List.mem_of_getElem? (i := 3) rfl)
set_option maxRecDepth 1000000 in
theorem fw_4 : flW (1, 19, 1, 2, 0) ∈ lw_tbl := kfF_0_in _ (List.mem_of_getElem? (i := 4) rfl)
set_option maxRecDepth 1000000 in
theorem fw_5 : flW (2, 97, 1, 2, 1) ∈ lw_tbl := kfF_0_in _ (List.mem_of_getElem? (i := 5) rfl)
set_option maxRecDepth 1000000 in
theorem fw_6 : flW (4, 231, 1, 2, 1) ∈ lw_tbl := kfF_0_in _ (List.mem_of_getElem? (i := 6) rfl)
set_option maxRecDepth 1000000 in
theorem fw_7 : flW (1, 22, 1, 3, 0) ∈ lw_tbl := kfF_0_in _ (List.mem_of_getElem? (i := 7) rfl)
set_option maxRecDepth 1000000 in
theorem fw_8 : flW (2, 100, 1, 3, 1) ∈ lw_tbl := kfF_0_in _ (List.mem_of_getElem? (i := 8) rfl)
set_option maxRecDepth 1000000 in
theorem fw_9 : flW (4, 234, 1, 3, 1) ∈ lw_tbl := kfF_0_in _ (List.mem_of_getElem? (i := 9) rfl)
set_option maxRecDepth 1000000 in
theorem fw_10 : flW (1, 25, 1, 4, 0) ∈ lw_tbl := kfF_0_in _ (List.mem_of_getElem? (i := 10) rfl)
set_option maxRecDepth 1000000 in
theorem fw_11 : flW (2, 94, 1, 4, 1) ∈ lw_tbl := kfF_0_in _ (List.mem_of_getElem? (i := 11) rfl)
set_option maxRecDepth 1000000 in
theorem fw_12 : flW (4, 228, 1, 4, 1) ∈ lw_tbl := kfF_0_in _ (List.mem_of_getElem? (i := 12) rfl)
set_option maxRecDepth 1000000 in
theorem fw_13 : flW (0, 9, 0, 0, 0) ∈ lw_tbl := kfF_0_in _ (List.mem_of_getElem? (i := 13) rfl)
set_option maxRecDepth 1000000 in
theorem fw_14 : flW (4, 277, 0, 0, 1) ∈ lw_tbl := kfF_0_in _ (List.mem_of_getElem? (i := 14) rfl)
set_option maxRecDepth 1000000 in
theorem fw_15 : flW (0, 15, 0, 1, 0) ∈ lw_tbl := kfF_0_in _ (List.mem_of_getElem? (i := 15) rfl)
set_option maxRecDepth 1000000 in
theorem fw_16 : flW (0, 18, 0, 2, 0) ∈ lw_tbl := kfF_0_in _ (List.mem_of_getElem? (i := 16) rfl)
set_option maxRecDepth 1000000 in
theorem fw_17 : flW (0, 22, 0, 3, 0) ∈ lw_tbl := kfF_0_in _ (List.mem_of_getElem? (i := 17) rfl)
set_option maxRecDepth 1000000 in
theorem fw_18 : flW (0, 25, 0, 4, 0) ∈ lw_tbl := kfF_0_in _ (List.mem_of_getElem? (i := 18) rfl)
set_option maxRecDepth 1000000 in
theorem fw_19 : flW (2, 9, 2, 0, 0) ∈ lw_tbl := kfF_0_in _ (List.mem_of_getElem? (i := 19) rfl)
set_option maxRecDepth 1000000 in
theorem fw_20 : flW (4, 129, 2, 0, 1) ∈ lw_tbl := kfF_0_in _ (List.mem_of_getElem? (i := 20) rfl)
set_option maxRecDepth 1000000 in
theorem fw_21 : flW (2, 15, 2, 1, 0) ∈ lw_tbl := kfF_0_in _ (List.mem_of_getElem? (i := 21) rfl)
set_option maxRecDepth 1000000 in
theorem fw_22 : flW (4, 118, 2, 1, 1) ∈ lw_tbl := kfF_0_in _ (List.mem_of_getElem? (i := 22) rfl)
set_option maxRecDepth 1000000 in
theorem fw_23 : flW (2, 19, 2, 2, 0) ∈ lw_tbl := kfF_0_in _ (List.mem_of_getElem? (i := 23) rfl)
set_option maxRecDepth 1000000 in
theorem fw_24 : flW (4, 132, 2, 2, 1) ∈ lw_tbl := kfF_0_in _ (List.mem_of_getElem? (i := 24) rfl)
set_option maxRecDepth 1000000 in
theorem fw_25 : flW (2, 23, 2, 3, 0) ∈ lw_tbl := kfF_0_in _ (List.mem_of_getElem? (i := 25) rfl)
set_option maxRecDepth 1000000 in
theorem fw_26 : flW (4, 107, 2, 3, 1) ∈ lw_tbl := kfF_0_in _ (List.mem_of_getElem? (i := 26) rfl)
set_option maxRecDepth 1000000 in
theorem fw_27 : flW (2, 26, 2, 4, 0) ∈ lw_tbl := kfF_0_in _ (List.mem_of_getElem? (i := 27) rfl)
set_option maxRecDepth 1000000 in
theorem fw_28 : flW (4, 98, 2, 4, 1) ∈ lw_tbl := kfF_0_in _ (List.mem_of_getElem? (i := 28) rfl)
set_option maxRecDepth 1000000 in
theorem fw_29 : flW (2, 29, 2, 5, 0) ∈ lw_tbl := kfF_0_in _ (List.mem_of_getElem? (i := 29) rfl)
set_option maxRecDepth 1000000 in
theorem fw_30 : flW (4, 101, 2, 5, 1) ∈ lw_tbl := kfF_0_in _ (List.mem_of_getElem? (i := 30) rfl)
set_option maxRecDepth 1000000 in
theorem fw_31 : flW (2, 32, 2, 6, 0) ∈ lw_tbl := kfF_0_in _ (List.mem_of_getElem? (i := 31) rfl)
set_option maxRecDepth 1000000 in
theorem fw_32 : flW (4, 126, 2, 6, 1) ∈ lw_tbl := kfF_0_in _ (List.mem_of_getElem? (i := 32) rfl)
set_option maxRecDepth 1000000 in
theorem fw_33 : flW (2, 35, 2, 7, 0) ∈ lw_tbl := kfF_0_in _ (List.mem_of_getElem? (i := 33) rfl)
set_option maxRecDepth 1000000 in
theorem fw_34 : flW (4, 211, 2, 7, 1) ∈ lw_tbl := kfF_0_in _ (List.mem_of_getElem? (i := 34) rfl)
set_option maxRecDepth 1000000 in
theorem fw_35 : flW (2, 41, 2, 8, 0) ∈ lw_tbl := kfF_0_in _ (List.mem_of_getElem? (i := 35) rfl)
set_option maxRecDepth 1000000 in
theorem fw_36 : flW (4, 188, 2, 8, 1) ∈ lw_tbl := kfF_0_in _ (List.mem_of_getElem? (i := 36) rfl)
set_option maxRecDepth 1000000 in
theorem fw_37 : flW (2, 48, 2, 9, 0) ∈ lw_tbl := kfF_0_in _ (List.mem_of_getElem? (i := 37) rfl)
set_option maxRecDepth 1000000 in
theorem fw_38 : flW (4, 268, 2, 9, 1) ∈ lw_tbl := kfF_0_in _ (List.mem_of_getElem? (i := 38) rfl)
set_option maxRecDepth 1000000 in
theorem fw_39 : flW (3, 9, 3, 0, 0) ∈ lw_tbl := kfF_0_in _ (List.mem_of_getElem? (i := 39) rfl)
set_option maxRecDepth 1000000 in
theorem fw_40 : flW (4, 154, 3, 0, 1) ∈ lw_tbl := kfF_0_in _ (List.mem_of_getElem? (i := 40) rfl)
set_option maxRecDepth 1000000 in
theorem fw_41 : flW (3, 15, 3, 1, 0) ∈ lw_tbl := kfF_0_in _ (List.mem_of_getElem? (i := 41) rfl)
set_option maxRecDepth 1000000 in
theorem fw_42 : flW (4, 149, 3, 1, 1) ∈ lw_tbl := kfF_0_in _ (List.mem_of_getElem? (i := 42) rfl)
set_option maxRecDepth 1000000 in
theorem fw_43 : flW (3, 19, 3, 2, 0) ∈ lw_tbl := kfF_0_in _ (List.mem_of_getElem? (i := 43) rfl)
set_option maxRecDepth 1000000 in
theorem fw_44 : flW (4, 163, 3, 2, 1) ∈ lw_tbl := kfF_0_in _ (List.mem_of_getElem? (i := 44) rfl)
set_option maxRecDepth 1000000 in
theorem fw_45 : flW (3, 22, 3, 3, 0) ∈ lw_tbl := kfF_0_in _ (List.mem_of_getElem? (i := 45) rfl)
set_option maxRecDepth 1000000 in
theorem fw_46 : flW (4, 307, 3, 3, 1) ∈ lw_tbl := kfF_0_in _ (List.mem_of_getElem? (i := 46) rfl)
set_option maxRecDepth 1000000 in
theorem fw_47 : flW (3, 26, 3, 4, 0) ∈ lw_tbl := kfF_0_in _ (List.mem_of_getElem? (i := 47) rfl)
set_option maxRecDepth 1000000 in
theorem fw_48 : flW (4, 304, 3, 4, 1) ∈ lw_tbl := kfF_0_in _ (List.mem_of_getElem? (i := 48) rfl)
set_option maxRecDepth 1000000 in
theorem fw_49 : flW (4, 12, 4, 0, 0) ∈ lw_tbl := kfF_0_in _ (List.mem_of_getElem? (i := 49) rfl)
set_option maxRecDepth 1000000 in
theorem fw_50 : flW (4, 16, 4, 1, 0) ∈ lw_tbl := kfF_0_in _ (List.mem_of_getElem? (i := 50) rfl)
set_option maxRecDepth 1000000 in
theorem fw_51 : flW (4, 19, 4, 2, 0) ∈ lw_tbl := kfF_0_in _ (List.mem_of_getElem? (i := 51) rfl)
set_option maxRecDepth 1000000 in
theorem fw_52 : flW (4, 23, 4, 3, 0) ∈ lw_tbl := kfF_0_in _ (List.mem_of_getElem? (i := 52) rfl)
set_option maxRecDepth 1000000 in
theorem fw_53 : flW (4, 27, 4, 4, 0) ∈ lw_tbl := kfF_0_in _ (List.mem_of_getElem? (i := 53) rfl)
set_option maxRecDepth 1000000 in
theorem fw_54 : flW (4, 30, 4, 5, 0) ∈ lw_tbl := kfF_0_in _ (List.mem_of_getElem? (i := 54) rfl)
set_option maxRecDepth 1000000 in
theorem fw_55 : flW (4, 37, 4, 6, 0) ∈ lw_tbl := kfF_0_in _ (List.mem_of_getElem? (i := 55) rfl)
set_option maxRecDepth 1000000 in
theorem fw_56 : flW (4, 41, 4, 7, 0) ∈ lw_tbl := kfF_0_in _ (List.mem_of_getElem? (i := 56) rfl)
set_option maxRecDepth 1000000 in
theorem fw_57 : flW (5, 29, 5, 0, 0) ∈ lw_tbl := kfF_60_in _ (List.mem_of_getElem? (i := 11) rfl)
set_option maxRecDepth 1000000 in
theorem fw_58 : flW (5, 7, 5, 1, 0) ∈ lw_tbl := kfF_60_in _ (List.mem_of_getElem? (i := 12) rfl)
set_option maxRecDepth 1000000 in
theorem fw_59 : flW (5, 87, 5, 2, 0) ∈ lw_tbl := kfF_60_in _ (List.mem_of_getElem? (i := 13) rfl)
set_option maxRecDepth 1000000 in
theorem fw_60 : flW (5, 13, 5, 3, 0) ∈ lw_tbl := kfF_60_in _ (List.mem_of_getElem? (i := 14) rfl)
set_option maxRecDepth 1000000 in
theorem fw_61 : flW (5, 17, 5, 4, 0) ∈ lw_tbl := kfF_60_in _ (List.mem_of_getElem? (i := 15) rfl)
set_option maxRecDepth 1000000 in
theorem fw_62 : flW (5, 132, 5, 5, 0) ∈ lw_tbl := kfF_60_in _ (List.mem_of_getElem? (i := 16) rfl)
set_option maxRecDepth 1000000 in
theorem fw_63 : flW (5, 135, 5, 6, 0) ∈ lw_tbl := kfF_60_in _ (List.mem_of_getElem? (i := 17) rfl)
set_option maxRecDepth 1000000 in
theorem fw_64 : flW (5, 142, 5, 7, 0) ∈ lw_tbl := kfF_60_in _ (List.mem_of_getElem? (i := 18) rfl)
set_option maxRecDepth 1000000 in
theorem fw_65 : flW (5, 20, 5, 8, 0) ∈ lw_tbl := kfF_60_in _ (List.mem_of_getElem? (i := 19) rfl)
set_option maxRecDepth 1000000 in
theorem fw_66 : flW (5, 23, 5, 9, 0) ∈ lw_tbl := kfF_60_in _ (List.mem_of_getElem? (i := 20) rfl)
set_option maxRecDepth 1000000 in
theorem fw_67 : flW (5, 26, 5, 10, 0) ∈ lw_tbl := kfF_60_in _ (List.mem_of_getElem? (i := 21) rfl)
set_option maxRecDepth 1000000 in
theorem mw_0 : mlW (6, 122, 44, 0) ∈ lw_tbl := kmL_0_in _ (List.mem_of_getElem? (i := 0) rfl)
set_option maxRecDepth 1000000 in
theorem mw_1 : mlW (4, 3, 1000, 0) ∈ lw_tbl := kmL_0_in _ (List.mem_of_getElem? (i := 1) rfl)
set_option maxRecDepth 1000000 in
theorem mw_2 : mlW (4, 11, 14, 1) ∈ lw_tbl := kmL_0_in _ (List.mem_of_getElem? (i := 2) rfl)
set_option maxRecDepth 1000000 in
theorem mw_3 : mlW (2, 3, 1000, 0) ∈ lw_tbl := kmL_0_in _ (List.mem_of_getElem? (i := 3) rfl)
set_option maxRecDepth 1000000 in
theorem mw_4 : mlW (2, 40, 4, 1) ∈ lw_tbl := kmL_0_in _ (List.mem_of_getElem? (i := 4) rfl)
set_option maxRecDepth 1000000 in
theorem mw_5 : mlW (1, 3, 1000, 0) ∈ lw_tbl := kmL_0_in _ (List.mem_of_getElem? (i := 5) rfl)
set_option maxRecDepth 1000000 in
theorem mw_6 : mlW (2, 47, 0, 1) ∈ lw_tbl := kmL_0_in _ (List.mem_of_getElem? (i := 6) rfl)
set_option maxRecDepth 1000000 in
theorem mw_7 : mlW (0, 3, 1000, 0) ∈ lw_tbl := kmL_0_in _ (List.mem_of_getElem? (i := 7) rfl)
set_option maxRecDepth 1000000 in
theorem mw_8 : mlW (4, 36, 36, 1) ∈ lw_tbl := kmL_0_in _ (List.mem_of_getElem? (i := 8) rfl)
set_option maxRecDepth 1000000 in
theorem mw_9 : mlW (3, 3, 1000, 0) ∈ lw_tbl := kmL_0_in _ (List.mem_of_getElem? (i := 9) rfl)
set_option maxRecDepth 1000000 in
theorem mw_10 : mlW (6, 167, 55, 0) ∈ lw_tbl := kmL_0_in _ (List.mem_of_getElem? (i := 10) rfl)
set_option maxRecDepth 1000000 in
theorem mw_11 : mlW (6, 171, 56, 0) ∈ lw_tbl := kmL_0_in _ (List.mem_of_getElem? (i := 11) rfl)
set_option maxRecDepth 1000000 in
theorem mw_12 : mlW (4, 158, 37, 1) ∈ lw_tbl := kmL_0_in _ (List.mem_of_getElem? (i := 12) rfl)
set_option maxRecDepth 1000000 in
theorem mw_13 : mlW (3, 30, 38, 0) ∈ lw_tbl := kmL_0_in _ (List.mem_of_getElem? (i := 13) rfl)
set_option maxRecDepth 1000000 in
theorem mw_14 : mlW (3, 38, 39, 0) ∈ lw_tbl := kmL_0_in _ (List.mem_of_getElem? (i := 14) rfl)
set_option maxRecDepth 1000000 in
theorem mw_15 : mlW (3, 34, 40, 0) ∈ lw_tbl := kmL_0_in _ (List.mem_of_getElem? (i := 15) rfl)
set_option maxRecDepth 1000000 in
theorem mw_16 : mlW (3, 42, 41, 0) ∈ lw_tbl := kmL_0_in _ (List.mem_of_getElem? (i := 16) rfl)
set_option maxRecDepth 1000000 in
theorem mw_17 : mlW (3, 64, 43, 0) ∈ lw_tbl := kmL_0_in _ (List.mem_of_getElem? (i := 17) rfl)
set_option maxRecDepth 1000000 in
theorem mw_18 : mlW (3, 68, 42, 0) ∈ lw_tbl := kmL_0_in _ (List.mem_of_getElem? (i := 18) rfl)
set_option maxRecDepth 1000000 in
theorem mw_19 : mlW (6, 224, 73, 0) ∈ lw_tbl := kmL_0_in _ (List.mem_of_getElem? (i := 19) rfl)
set_option maxRecDepth 1000000 in
theorem mw_20 : mlW (6, 240, 78, 0) ∈ lw_tbl := kmL_0_in _ (List.mem_of_getElem? (i := 20) rfl)
set_option maxRecDepth 1000000 in
theorem mw_21 : mlW (6, 250, 81, 0) ∈ lw_tbl := kmL_0_in _ (List.mem_of_getElem? (i := 21) rfl)
set_option maxRecDepth 1000000 in
theorem mw_22 : mlW (4, 121, 29, 1) ∈ lw_tbl := kmL_0_in _ (List.mem_of_getElem? (i := 22) rfl)
set_option maxRecDepth 1000000 in
theorem mw_23 : mlW (6, 254, 82, 0) ∈ lw_tbl := kmL_0_in _ (List.mem_of_getElem? (i := 23) rfl)
set_option maxRecDepth 1000000 in
theorem mw_24 : mlW (4, 258, 31, 1) ∈ lw_tbl := kmL_0_in _ (List.mem_of_getElem? (i := 24) rfl)
set_option maxRecDepth 1000000 in
theorem mw_25 : mlW (6, 261, 84, 0) ∈ lw_tbl := kmL_0_in _ (List.mem_of_getElem? (i := 25) rfl)
set_option maxRecDepth 1000000 in
theorem mw_26 : mlW (6, 265, 85, 0) ∈ lw_tbl := kmL_0_in _ (List.mem_of_getElem? (i := 26) rfl)
set_option maxRecDepth 1000000 in
theorem mw_27 : mlW (6, 269, 86, 0) ∈ lw_tbl := kmL_0_in _ (List.mem_of_getElem? (i := 27) rfl)
set_option maxRecDepth 1000000 in
theorem mw_28 : mlW (6, 126, 190, 0) ∈ lw_tbl := kmL_0_in _ (List.mem_of_getElem? (i := 28) rfl)
set_option maxRecDepth 1000000 in
theorem mw_29 : mlW (6, 7, 45, 0) ∈ lw_tbl := kmL_0_in _ (List.mem_of_getElem? (i := 29) rfl)
set_option maxRecDepth 1000000 in
theorem mw_30 : mlW (4, 45, 87, 0) ∈ lw_tbl := kmL_0_in _ (List.mem_of_getElem? (i := 30) rfl)
set_option maxRecDepth 1000000 in
theorem mw_31 : mlW (4, 49, 88, 0) ∈ lw_tbl := kmL_0_in _ (List.mem_of_getElem? (i := 38) rfl)
set_option maxRecDepth 1000000 in
theorem mw_32 : mlW (4, 52, 93, 0) ∈ lw_tbl := kmL_0_in _ (List.mem_of_getElem? (i := 39) rfl)
set_option maxRecDepth 1000000 in
theorem mw_33 : mlW (4, 240, 92, 0) ∈ lw_tbl := kmL_0_in _ (List.mem_of_getElem? (i := 40) rfl)
set_option maxRecDepth 1000000 in
theorem mw_34 : mlW (4, 290, 100, 0) ∈ lw_tbl := kmL_0_in _ (List.mem_of_getElem? (i := 41) rfl)
set_option maxRecDepth 1000000 in
theorem mw_35 : mlW (4, 56, 94, 0) ∈ lw_tbl := kmL_0_in _ (List.mem_of_getElem? (i := 42) rfl)
set_option maxRecDepth 1000000 in
theorem mw_36 : mlW (4, 59, 16, 1) ∈ lw_tbl := kmL_0_in _ (List.mem_of_getElem? (i := 45) rfl)
set_option maxRecDepth 1000000 in
theorem mw_37 : mlW (2, 69, 6, 1) ∈ lw_tbl := kmL_0_in _ (List.mem_of_getElem? (i := 46) rfl)
set_option maxRecDepth 1000000 in
theorem mw_38 : mlW (4, 70, 101, 0) ∈ lw_tbl := kmL_0_in _ (List.mem_of_getElem? (i := 49) rfl)
set_option maxRecDepth 1000000 in
theorem mw_39 : mlW (4, 179, 15, 1) ∈ lw_tbl := kmL_0_in _ (List.mem_of_getElem? (i := 50) rfl)
set_option maxRecDepth 1000000 in
theorem mw_40 : mlW (2, 52, 1003, 0) ∈ lw_tbl := kmL_0_in _ (List.mem_of_getElem? (i := 51) rfl)
set_option maxRecDepth 1000000 in
theorem mw_41 : mlW (2, 58, 5, 1) ∈ lw_tbl := kmL_0_in _ (List.mem_of_getElem? (i := 52) rfl)
set_option maxRecDepth 1000000 in
theorem mw_42 : mlW (1, 28, 1003, 0) ∈ lw_tbl := kmL_0_in _ (List.mem_of_getElem? (i := 53) rfl)
set_option maxRecDepth 1000000 in
theorem mw_43 : mlW (2, 62, 1, 1) ∈ lw_tbl := kmL_0_in _ (List.mem_of_getElem? (i := 54) rfl)
set_option maxRecDepth 1000000 in
theorem mw_44 : mlW (0, 28, 1003, 0) ∈ lw_tbl := kmL_0_in _ (List.mem_of_getElem? (i := 55) rfl)
set_option maxRecDepth 1000000 in
theorem mw_45 : mlW (4, 73, 17, 1) ∈ lw_tbl := kmL_0_in _ (List.mem_of_getElem? (i := 56) rfl)
set_option maxRecDepth 1000000 in
theorem mw_46 : mlW (2, 73, 23, 0) ∈ lw_tbl := kmL_0_in _ (List.mem_of_getElem? (i := 57) rfl)
set_option maxRecDepth 1000000 in
theorem mw_47 : mlW (2, 88, 99, 1) ∈ lw_tbl := kmL_0_in _ (List.mem_of_getElem? (i := 58) rfl)
set_option maxRecDepth 1000000 in
theorem mw_48 : mlW (2, 111, 98, 1) ∈ lw_tbl := kmL_0_in _ (List.mem_of_getElem? (i := 59) rfl)
set_option maxRecDepth 1000000 in
theorem mw_49 : mlW (2, 115, 24, 0) ∈ lw_tbl := kmL_60_in _ (List.mem_of_getElem? (i := 0) rfl)
set_option maxRecDepth 1000000 in
theorem mw_50 : mlW (2, 118, 31, 0) ∈ lw_tbl := kmL_60_in _ (List.mem_of_getElem? (i := 1) rfl)
set_option maxRecDepth 1000000 in
theorem mw_51 : mlW (2, 77, 26, 0) ∈ lw_tbl := kmL_60_in _ (List.mem_of_getElem? (i := 2) rfl)
set_option maxRecDepth 1000000 in
theorem mw_52 : mlW (2, 131, 2, 1) ∈ lw_tbl := kmL_60_in _ (List.mem_of_getElem? (i := 3) rfl)
set_option maxRecDepth 1000000 in
theorem mw_53 : mlW (2, 81, 7, 1) ∈ lw_tbl := kmL_60_in _ (List.mem_of_getElem? (i := 4) rfl)
set_option maxRecDepth 1000000 in
theorem mw_54 : mlW (2, 85, 22, 0) ∈ lw_tbl := kmL_60_in _ (List.mem_of_getElem? (i := 5) rfl)
set_option maxRecDepth 1000000 in
theorem mw_55 : mlW (2, 91, 27, 0) ∈ lw_tbl := kmL_60_in _ (List.mem_of_getElem? (i := 6) rfl)
set_option maxRecDepth 1000000 in
theorem mw_56 : mlW (2, 133, 28, 0) ∈ lw_tbl := kmL_60_in _ (List.mem_of_getElem? (i := 7) rfl)
set_option maxRecDepth 1000000 in
theorem mw_57 : mlW (2, 136, 29, 0) ∈ lw_tbl := kmL_60_in _ (List.mem_of_getElem? (i := 8) rfl)
set_option maxRecDepth 1000000 in
theorem mw_58 : mlW (6, 135, 191, 0) ∈ lw_tbl := kmL_60_in _ (List.mem_of_getElem? (i := 9) rfl)
set_option maxRecDepth 1000000 in
theorem mw_59 : mlW (6, 19, 46, 0) ∈ lw_tbl := kmL_60_in _ (List.mem_of_getElem? (i := 10) rfl)
set_option maxRecDepth 1000000 in
theorem mw_60 : mlW (4, 77, 97, 0) ∈ lw_tbl := kmL_60_in _ (List.mem_of_getElem? (i := 11) rfl)
set_option maxRecDepth 1000000 in
theorem mw_61 : mlW (4, 225, 6, 1) ∈ lw_tbl := kmL_60_in _ (List.mem_of_getElem? (i := 12) rfl)
set_option maxRecDepth 1000000 in
theorem mw_62 : mlW (4, 81, 18, 1) ∈ lw_tbl := kmL_60_in _ (List.mem_of_getElem? (i := 13) rfl)
set_option maxRecDepth 1000000 in
theorem mw_63 : mlW (2, 103, 19, 0) ∈ lw_tbl := kmL_60_in _ (List.mem_of_getElem? (i := 14) rfl)
set_option maxRecDepth 1000000 in
theorem mw_64 : mlW (6, 139, 192, 0) ∈ lw_tbl := kmL_60_in _ (List.mem_of_getElem? (i := 15) rfl)
set_option maxRecDepth 1000000 in
theorem mw_65 : mlW (6, 23, 47, 0) ∈ lw_tbl := kmL_60_in _ (List.mem_of_getElem? (i := 16) rfl)
set_option maxRecDepth 1000000 in
theorem mw_66 : mlW (4, 84, 20, 1) ∈ lw_tbl := kmL_60_in _ (List.mem_of_getElem? (i := 17) rfl)
set_option maxRecDepth 1000000 in
theorem mw_67 : mlW (2, 107, 8, 1) ∈ lw_tbl := kmL_60_in _ (List.mem_of_getElem? (i := 18) rfl)
set_option maxRecDepth 1000000 in
theorem mw_68 : mlW (6, 143, 193, 0) ∈ lw_tbl := kmL_60_in _ (List.mem_of_getElem? (i := 19) rfl)
set_option maxRecDepth 1000000 in
theorem mw_69 : mlW (6, 27, 48, 0) ∈ lw_tbl := kmL_60_in _ (List.mem_of_getElem? (i := 20) rfl)
set_option maxRecDepth 1000000 in
theorem mw_70 : mlW (4, 87, 21, 1) ∈ lw_tbl := kmL_60_in _ (List.mem_of_getElem? (i := 21) rfl)
set_option maxRecDepth 1000000 in
theorem mw_71 : mlW (6, 147, 194, 0) ∈ lw_tbl := kmL_60_in _ (List.mem_of_getElem? (i := 22) rfl)
set_option maxRecDepth 1000000 in
theorem mw_72 : mlW (6, 31, 49, 0) ∈ lw_tbl := kmL_60_in _ (List.mem_of_getElem? (i := 23) rfl)
set_option maxRecDepth 1000000 in
theorem mw_73 : mlW (4, 91, 91, 0) ∈ lw_tbl := kmL_60_in _ (List.mem_of_getElem? (i := 24) rfl)
set_option maxRecDepth 1000000 in
theorem mw_74 : mlW (4, 208, 89, 0) ∈ lw_tbl := kmL_60_in _ (List.mem_of_getElem? (i := 25) rfl)
set_option maxRecDepth 1000000 in
theorem mw_75 : mlW (4, 110, 90, 0) ∈ lw_tbl := kmL_60_in _ (List.mem_of_getElem? (i := 26) rfl)
set_option maxRecDepth 1000000 in
theorem mw_76 : mlW (4, 214, 98, 0) ∈ lw_tbl := kmL_60_in _ (List.mem_of_getElem? (i := 27) rfl)
set_option maxRecDepth 1000000 in
theorem mw_77 : mlW (4, 94, 95, 0) ∈ lw_tbl := kmL_60_in _ (List.mem_of_getElem? (i := 28) rfl)
set_option maxRecDepth 1000000 in
theorem mw_78 : mlW (4, 104, 28, 1) ∈ lw_tbl := kmL_60_in _ (List.mem_of_getElem? (i := 29) rfl)
set_option maxRecDepth 1000000 in
theorem mw_79 : mlW (6, 150, 195, 0) ∈ lw_tbl := kmL_60_in _ (List.mem_of_getElem? (i := 30) rfl)
set_option maxRecDepth 1000000 in
theorem mw_80 : mlW (6, 34, 50, 0) ∈ lw_tbl := kmL_60_in _ (List.mem_of_getElem? (i := 31) rfl)
set_option maxRecDepth 1000000 in
theorem mw_81 : mlW (6, 153, 196, 0) ∈ lw_tbl := kmL_60_in _ (List.mem_of_getElem? (i := 32) rfl)
set_option maxRecDepth 1000000 in
theorem mw_82 : mlW (6, 37, 51, 0) ∈ lw_tbl := kmL_60_in _ (List.mem_of_getElem? (i := 33) rfl)
set_option maxRecDepth 1000000 in
theorem mw_83 : mlW (6, 156, 197, 0) ∈ lw_tbl := kmL_60_in _ (List.mem_of_getElem? (i := 34) rfl)
set_option maxRecDepth 1000000 in
theorem mw_84 : mlW (6, 40, 52, 0) ∈ lw_tbl := kmL_60_in _ (List.mem_of_getElem? (i := 35) rfl)
set_option maxRecDepth 1000000 in
theorem mw_85 : mlW (4, 135, 35, 1) ∈ lw_tbl := kmL_60_in _ (List.mem_of_getElem? (i := 36) rfl)
set_option maxRecDepth 1000000 in
theorem mw_86 : mlW (6, 160, 198, 0) ∈ lw_tbl := kmL_60_in _ (List.mem_of_getElem? (i := 37) rfl)
set_option maxRecDepth 1000000 in
theorem mw_87 : mlW (6, 44, 53, 0) ∈ lw_tbl := kmL_60_in _ (List.mem_of_getElem? (i := 38) rfl)
set_option maxRecDepth 1000000 in
theorem mw_88 : mlW (4, 139, 32, 1) ∈ lw_tbl := kmL_60_in _ (List.mem_of_getElem? (i := 39) rfl)
set_option maxRecDepth 1000000 in
theorem mw_89 : mlW (4, 144, 33, 1) ∈ lw_tbl := kmL_60_in _ (List.mem_of_getElem? (i := 40) rfl)
set_option maxRecDepth 1000000 in
theorem mw_90 : mlW (2, 139, 34, 0) ∈ lw_tbl := kmL_60_in _ (List.mem_of_getElem? (i := 41) rfl)
set_option maxRecDepth 1000000 in
theorem mw_91 : mlW (2, 143, 30, 0) ∈ lw_tbl := kmL_60_in _ (List.mem_of_getElem? (i := 42) rfl)
set_option maxRecDepth 1000000 in
theorem mw_92 : mlW (6, 164, 199, 0) ∈ lw_tbl := kmL_60_in _ (List.mem_of_getElem? (i := 43) rfl)
set_option maxRecDepth 1000000 in
theorem mw_93 : mlW (6, 48, 54, 0) ∈ lw_tbl := kmL_60_in _ (List.mem_of_getElem? (i := 44) rfl)
set_option maxRecDepth 1000000 in
theorem mw_94 : mlW (6, 175, 200, 0) ∈ lw_tbl := kmL_60_in _ (List.mem_of_getElem? (i := 45) rfl)
set_option maxRecDepth 1000000 in
theorem mw_95 : mlW (6, 51, 57, 0) ∈ lw_tbl := kmL_60_in _ (List.mem_of_getElem? (i := 46) rfl)
set_option maxRecDepth 1000000 in
theorem mw_96 : mlW (4, 166, 38, 1) ∈ lw_tbl := kmL_60_in _ (List.mem_of_getElem? (i := 47) rfl)
set_option maxRecDepth 1000000 in
theorem mw_97 : mlW (4, 170, 102, 0) ∈ lw_tbl := kmL_60_in _ (List.mem_of_getElem? (i := 48) rfl)
set_option maxRecDepth 1000000 in
theorem mw_98 : mlW (4, 173, 40, 1) ∈ lw_tbl := kmL_60_in _ (List.mem_of_getElem? (i := 49) rfl)
set_option maxRecDepth 1000000 in
theorem mw_99 : mlW (6, 179, 201, 0) ∈ lw_tbl := kmL_60_in _ (List.mem_of_getElem? (i := 50) rfl)
set_option maxRecDepth 1000000 in
theorem mw_100 : mlW (6, 55, 58, 0) ∈ lw_tbl := kmL_60_in _ (List.mem_of_getElem? (i := 51) rfl)
set_option maxRecDepth 1000000 in
theorem mw_101 : mlW (6, 182, 202, 0) ∈ lw_tbl := kmL_60_in _ (List.mem_of_getElem? (i := 52) rfl)
set_option maxRecDepth 1000000 in
theorem mw_102 : mlW (6, 58, 59, 0) ∈ lw_tbl := kmL_60_in _ (List.mem_of_getElem? (i := 53) rfl)
set_option maxRecDepth 1000000 in
theorem mw_103 : mlW (4, 183, 96, 0) ∈ lw_tbl := kmL_60_in _ (List.mem_of_getElem? (i := 54) rfl)
set_option maxRecDepth 1000000 in
theorem mw_104 : mlW (6, 185, 203, 0) ∈ lw_tbl := kmL_60_in _ (List.mem_of_getElem? (i := 55) rfl)
set_option maxRecDepth 1000000 in
theorem mw_105 : mlW (6, 61, 60, 0) ∈ lw_tbl := kmL_60_in _ (List.mem_of_getElem? (i := 56) rfl)
set_option maxRecDepth 1000000 in
theorem mw_106 : mlW (6, 188, 204, 0) ∈ lw_tbl := kmL_60_in _ (List.mem_of_getElem? (i := 57) rfl)
set_option maxRecDepth 1000000 in
theorem mw_107 : mlW (6, 64, 61, 0) ∈ lw_tbl := kmL_60_in _ (List.mem_of_getElem? (i := 58) rfl)
set_option maxRecDepth 1000000 in
theorem mw_108 : mlW (6, 191, 205, 0) ∈ lw_tbl := kmL_60_in _ (List.mem_of_getElem? (i := 59) rfl)
set_option maxRecDepth 1000000 in
theorem mw_109 : mlW (6, 67, 62, 0) ∈ lw_tbl := kmL_120_in _ (List.mem_of_getElem? (i := 0) rfl)
set_option maxRecDepth 1000000 in
theorem mw_110 : mlW (4, 192, 10, 1) ∈ lw_tbl := kmL_120_in _ (List.mem_of_getElem? (i := 1) rfl)
set_option maxRecDepth 1000000 in
theorem mw_111 : mlW (1, 38, 9, 0) ∈ lw_tbl := kmL_120_in _ (List.mem_of_getElem? (i := 2) rfl)
set_option maxRecDepth 1000000 in
theorem mw_112 : mlW (1, 34, 99, 1) ∈ lw_tbl := kmL_120_in _ (List.mem_of_getElem? (i := 3) rfl)
set_option maxRecDepth 1000000 in
theorem mw_113 : mlW (6, 194, 206, 0) ∈ lw_tbl := kmL_120_in _ (List.mem_of_getElem? (i := 4) rfl)
set_option maxRecDepth 1000000 in
theorem mw_114 : mlW (6, 70, 63, 0) ∈ lw_tbl := kmL_120_in _ (List.mem_of_getElem? (i := 5) rfl)
set_option maxRecDepth 1000000 in
theorem mw_115 : mlW (6, 197, 207, 0) ∈ lw_tbl := kmL_120_in _ (List.mem_of_getElem? (i := 6) rfl)
set_option maxRecDepth 1000000 in
theorem mw_116 : mlW (6, 73, 64, 0) ∈ lw_tbl := kmL_120_in _ (List.mem_of_getElem? (i := 7) rfl)
set_option maxRecDepth 1000000 in
theorem mw_117 : mlW (6, 200, 208, 0) ∈ lw_tbl := kmL_120_in _ (List.mem_of_getElem? (i := 8) rfl)
set_option maxRecDepth 1000000 in
theorem mw_118 : mlW (6, 76, 65, 0) ∈ lw_tbl := kmL_120_in _ (List.mem_of_getElem? (i := 9) rfl)
set_option maxRecDepth 1000000 in
theorem mw_119 : mlW (6, 203, 209, 0) ∈ lw_tbl := kmL_120_in _ (List.mem_of_getElem? (i := 10) rfl)
set_option maxRecDepth 1000000 in
theorem mw_120 : mlW (6, 79, 66, 0) ∈ lw_tbl := kmL_120_in _ (List.mem_of_getElem? (i := 11) rfl)
set_option maxRecDepth 1000000 in
theorem mw_121 : mlW (4, 197, 30, 1) ∈ lw_tbl := kmL_120_in _ (List.mem_of_getElem? (i := 12) rfl)
set_option maxRecDepth 1000000 in
theorem mw_122 : mlW (4, 200, 1001, 0) ∈ lw_tbl := kmL_120_in _ (List.mem_of_getElem? (i := 13) rfl)
set_option maxRecDepth 1000000 in
theorem mw_123 : mlW (6, 206, 210, 0) ∈ lw_tbl := kmL_120_in _ (List.mem_of_getElem? (i := 14) rfl)
set_option maxRecDepth 1000000 in
theorem mw_124 : mlW (6, 82, 67, 0) ∈ lw_tbl := kmL_120_in _ (List.mem_of_getElem? (i := 15) rfl)
set_option maxRecDepth 1000000 in
theorem mw_125 : mlW (4, 205, 25, 1) ∈ lw_tbl := kmL_120_in _ (List.mem_of_getElem? (i := 16) rfl)
set_option maxRecDepth 1000000 in
theorem mw_126 : mlW (2, 123, 1002, 0) ∈ lw_tbl := kmL_120_in _ (List.mem_of_getElem? (i := 17) rfl)
set_option maxRecDepth 1000000 in
theorem mw_127 : mlW (2, 128, 1001, 0) ∈ lw_tbl := kmL_120_in _ (List.mem_of_getElem? (i := 18) rfl)
set_option maxRecDepth 1000000 in
theorem mw_128 : mlW (6, 209, 211, 0) ∈ lw_tbl := kmL_120_in _ (List.mem_of_getElem? (i := 19) rfl)
set_option maxRecDepth 1000000 in
theorem mw_129 : mlW (6, 85, 68, 0) ∈ lw_tbl := kmL_120_in _ (List.mem_of_getElem? (i := 20) rfl)
set_option maxRecDepth 1000000 in
theorem mw_130 : mlW (6, 212, 212, 0) ∈ lw_tbl := kmL_120_in _ (List.mem_of_getElem? (i := 21) rfl)
set_option maxRecDepth 1000000 in
theorem mw_131 : mlW (6, 88, 69, 0) ∈ lw_tbl := kmL_120_in _ (List.mem_of_getElem? (i := 22) rfl)
set_option maxRecDepth 1000000 in
theorem mw_132 : mlW (4, 217, 11, 1) ∈ lw_tbl := kmL_120_in _ (List.mem_of_getElem? (i := 23) rfl)
set_option maxRecDepth 1000000 in
theorem mw_133 : mlW (4, 221, 103, 0) ∈ lw_tbl := kmL_120_in _ (List.mem_of_getElem? (i := 24) rfl)
set_option maxRecDepth 1000000 in
theorem mw_134 : mlW (6, 215, 213, 0) ∈ lw_tbl := kmL_120_in _ (List.mem_of_getElem? (i := 25) rfl)
set_option maxRecDepth 1000000 in
theorem mw_135 : mlW (6, 91, 70, 0) ∈ lw_tbl := kmL_120_in _ (List.mem_of_getElem? (i := 26) rfl)
set_option maxRecDepth 1000000 in
theorem mw_136 : mlW (6, 218, 214, 0) ∈ lw_tbl := kmL_120_in _ (List.mem_of_getElem? (i := 27) rfl)
set_option maxRecDepth 1000000 in
theorem mw_137 : mlW (6, 94, 71, 0) ∈ lw_tbl := kmL_120_in _ (List.mem_of_getElem? (i := 28) rfl)
set_option maxRecDepth 1000000 in
theorem mw_138 : mlW (6, 221, 215, 0) ∈ lw_tbl := kmL_120_in _ (List.mem_of_getElem? (i := 29) rfl)
set_option maxRecDepth 1000000 in
theorem mw_139 : mlW (6, 97, 72, 0) ∈ lw_tbl := kmL_120_in _ (List.mem_of_getElem? (i := 30) rfl)
set_option maxRecDepth 1000000 in
theorem mw_140 : mlW (6, 228, 216, 0) ∈ lw_tbl := kmL_120_in _ (List.mem_of_getElem? (i := 31) rfl)
set_option maxRecDepth 1000000 in
theorem mw_141 : mlW (6, 100, 74, 0) ∈ lw_tbl := kmL_120_in _ (List.mem_of_getElem? (i := 32) rfl)
set_option maxRecDepth 1000000 in
theorem mw_142 : mlW (4, 243, 12, 1) ∈ lw_tbl := kmL_120_in _ (List.mem_of_getElem? (i := 33) rfl)
set_option maxRecDepth 1000000 in
theorem mw_143 : mlW (6, 231, 217, 0) ∈ lw_tbl := kmL_120_in _ (List.mem_of_getElem? (i := 34) rfl)
set_option maxRecDepth 1000000 in
theorem mw_144 : mlW (6, 103, 75, 0) ∈ lw_tbl := kmL_120_in _ (List.mem_of_getElem? (i := 35) rfl)
set_option maxRecDepth 1000000 in
theorem mw_145 : mlW (4, 246, 13, 1) ∈ lw_tbl := kmL_120_in _ (List.mem_of_getElem? (i := 36) rfl)
set_option maxRecDepth 1000000 in
theorem mw_146 : mlW (6, 234, 218, 0) ∈ lw_tbl := kmL_120_in _ (List.mem_of_getElem? (i := 37) rfl)
set_option maxRecDepth 1000000 in
theorem mw_147 : mlW (6, 106, 76, 0) ∈ lw_tbl := kmL_120_in _ (List.mem_of_getElem? (i := 38) rfl)
set_option maxRecDepth 1000000 in
theorem mw_148 : mlW (4, 249, 23, 1) ∈ lw_tbl := kmL_120_in _ (List.mem_of_getElem? (i := 39) rfl)
set_option maxRecDepth 1000000 in
theorem mw_149 : mlW (6, 237, 219, 0) ∈ lw_tbl := kmL_120_in _ (List.mem_of_getElem? (i := 40) rfl)
set_option maxRecDepth 1000000 in
theorem mw_150 : mlW (6, 109, 77, 0) ∈ lw_tbl := kmL_120_in _ (List.mem_of_getElem? (i := 41) rfl)
set_option maxRecDepth 1000000 in
theorem mw_151 : mlW (4, 255, 19, 1) ∈ lw_tbl := kmL_120_in _ (List.mem_of_getElem? (i := 42) rfl)
set_option maxRecDepth 1000000 in
theorem mw_152 : mlW (6, 244, 220, 0) ∈ lw_tbl := kmL_120_in _ (List.mem_of_getElem? (i := 43) rfl)
set_option maxRecDepth 1000000 in
theorem mw_153 : mlW (6, 112, 79, 0) ∈ lw_tbl := kmL_120_in _ (List.mem_of_getElem? (i := 44) rfl)
set_option maxRecDepth 1000000 in
theorem mw_154 : mlW (6, 247, 221, 0) ∈ lw_tbl := kmL_120_in _ (List.mem_of_getElem? (i := 45) rfl)
set_option maxRecDepth 1000000 in
theorem mw_155 : mlW (6, 115, 80, 0) ∈ lw_tbl := kmL_120_in _ (List.mem_of_getElem? (i := 46) rfl)
set_option maxRecDepth 1000000 in
theorem mw_156 : mlW (6, 258, 222, 0) ∈ lw_tbl := kmL_120_in _ (List.mem_of_getElem? (i := 47) rfl)
set_option maxRecDepth 1000000 in
theorem mw_157 : mlW (6, 119, 83, 0) ∈ lw_tbl := kmL_120_in _ (List.mem_of_getElem? (i := 48) rfl)
set_option maxRecDepth 1000000 in
theorem mw_158 : mlW (4, 272, 3, 1) ∈ lw_tbl := kmL_120_in _ (List.mem_of_getElem? (i := 49) rfl)
set_option maxRecDepth 1000000 in
theorem mw_159 : mlW (6, 125, 104, 0) ∈ lw_tbl := kmL_120_in _ (List.mem_of_getElem? (i := 50) rfl)
set_option maxRecDepth 1000000 in
theorem mw_160 : mlW (5, 1, 1000, 0) ∈ lw_tbl := kmL_120_in _ (List.mem_of_getElem? (i := 51) rfl)
set_option maxRecDepth 1000000 in
theorem mw_161 : mlW (6, 132, 105, 0) ∈ lw_tbl := kmL_120_in _ (List.mem_of_getElem? (i := 52) rfl)
set_option maxRecDepth 1000000 in
theorem mw_162 : mlW (6, 131, 134, 0) ∈ lw_tbl := kmL_120_in _ (List.mem_of_getElem? (i := 53) rfl)
set_option maxRecDepth 1000000 in
theorem mw_163 : mlW (5, 93, 108, 0) ∈ lw_tbl := kmL_120_in _ (List.mem_of_getElem? (i := 54) rfl)
set_option maxRecDepth 1000000 in
theorem mw_164 : mlW (5, 33, 106, 0) ∈ lw_tbl := kmL_120_in _ (List.mem_of_getElem? (i := 55) rfl)
set_option maxRecDepth 1000000 in
theorem mw_165 : mlW (5, 96, 109, 0) ∈ lw_tbl := kmL_120_in _ (List.mem_of_getElem? (i := 56) rfl)
set_option maxRecDepth 1000000 in
theorem mw_166 : mlW (5, 99, 110, 0) ∈ lw_tbl := kmL_120_in _ (List.mem_of_getElem? (i := 57) rfl)
set_option maxRecDepth 1000000 in
theorem mw_167 : mlW (5, 102, 114, 0) ∈ lw_tbl := kmL_120_in _ (List.mem_of_getElem? (i := 58) rfl)
set_option maxRecDepth 1000000 in
theorem mw_168 : mlW (5, 37, 112, 0) ∈ lw_tbl := kmL_120_in _ (List.mem_of_getElem? (i := 59) rfl)
set_option maxRecDepth 1000000 in
theorem mw_169 : mlW (5, 105, 107, 0) ∈ lw_tbl := kmL_180_in _ (List.mem_of_getElem? (i := 0) rfl)
set_option maxRecDepth 1000000 in
theorem mw_170 : mlW (5, 108, 133, 0) ∈ lw_tbl := kmL_180_in _ (List.mem_of_getElem? (i := 1) rfl)
set_option maxRecDepth 1000000 in
theorem mw_171 : mlW (5, 90, 132, 0) ∈ lw_tbl := kmL_180_in _ (List.mem_of_getElem? (i := 2) rfl)
set_option maxRecDepth 1000000 in
theorem mw_172 : mlW (5, 111, 127, 0) ∈ lw_tbl := kmL_180_in _ (List.mem_of_getElem? (i := 3) rfl)
set_option maxRecDepth 1000000 in
theorem mw_173 : mlW (5, 74, 125, 0) ∈ lw_tbl := kmL_180_in _ (List.mem_of_getElem? (i := 4) rfl)
set_option maxRecDepth 1000000 in
theorem mw_174 : mlW (5, 78, 126, 0) ∈ lw_tbl := kmL_180_in _ (List.mem_of_getElem? (i := 5) rfl)
set_option maxRecDepth 1000000 in
theorem mw_175 : mlW (5, 71, 124, 0) ∈ lw_tbl := kmL_180_in _ (List.mem_of_getElem? (i := 6) rfl)
set_option maxRecDepth 1000000 in
theorem mw_176 : mlW (5, 56, 122, 0) ∈ lw_tbl := kmL_180_in _ (List.mem_of_getElem? (i := 7) rfl)
set_option maxRecDepth 1000000 in
theorem mw_177 : mlW (5, 60, 123, 0) ∈ lw_tbl := kmL_180_in _ (List.mem_of_getElem? (i := 8) rfl)
set_option maxRecDepth 1000000 in
theorem mw_178 : mlW (5, 45, 116, 0) ∈ lw_tbl := kmL_180_in _ (List.mem_of_getElem? (i := 9) rfl)
set_option maxRecDepth 1000000 in
theorem mw_179 : mlW (5, 41, 115, 0) ∈ lw_tbl := kmL_180_in _ (List.mem_of_getElem? (i := 10) rfl)
set_option maxRecDepth 1000000 in
theorem mw_180 : mlW (5, 64, 120, 0) ∈ lw_tbl := kmL_180_in _ (List.mem_of_getElem? (i := 11) rfl)
set_option maxRecDepth 1000000 in
theorem mw_181 : mlW (5, 67, 121, 0) ∈ lw_tbl := kmL_180_in _ (List.mem_of_getElem? (i := 12) rfl)
set_option maxRecDepth 1000000 in
theorem mw_182 : mlW (5, 48, 117, 0) ∈ lw_tbl := kmL_180_in _ (List.mem_of_getElem? (i := 13) rfl)
set_option maxRecDepth 1000000 in
theorem mw_183 : mlW (5, 81, 113, 0) ∈ lw_tbl := kmL_180_in _ (List.mem_of_getElem? (i := 14) rfl)
set_option maxRecDepth 1000000 in
theorem mw_184 : mlW (5, 84, 119, 0) ∈ lw_tbl := kmL_180_in _ (List.mem_of_getElem? (i := 15) rfl)
set_option maxRecDepth 1000000 in
theorem mw_185 : mlW (5, 52, 118, 0) ∈ lw_tbl := kmL_180_in _ (List.mem_of_getElem? (i := 16) rfl)
set_option maxRecDepth 1000000 in
theorem mw_186 : mlW (6, 138, 135, 0) ∈ lw_tbl := kmL_180_in _ (List.mem_of_getElem? (i := 17) rfl)
set_option maxRecDepth 1000000 in
theorem mw_187 : mlW (5, 115, 128, 0) ∈ lw_tbl := kmL_180_in _ (List.mem_of_getElem? (i := 18) rfl)
set_option maxRecDepth 1000000 in
theorem mw_188 : mlW (6, 142, 136, 0) ∈ lw_tbl := kmL_180_in _ (List.mem_of_getElem? (i := 19) rfl)
set_option maxRecDepth 1000000 in
theorem mw_189 : mlW (5, 118, 129, 0) ∈ lw_tbl := kmL_180_in _ (List.mem_of_getElem? (i := 20) rfl)
set_option maxRecDepth 1000000 in
theorem mw_190 : mlW (6, 146, 137, 0) ∈ lw_tbl := kmL_180_in _ (List.mem_of_getElem? (i := 21) rfl)
set_option maxRecDepth 1000000 in
theorem mw_191 : mlW (5, 122, 130, 0) ∈ lw_tbl := kmL_180_in _ (List.mem_of_getElem? (i := 22) rfl)
set_option maxRecDepth 1000000 in
theorem mw_192 : mlW (6, 149, 138, 0) ∈ lw_tbl := kmL_180_in _ (List.mem_of_getElem? (i := 23) rfl)
set_option maxRecDepth 1000000 in
theorem mw_193 : mlW (5, 126, 111, 0) ∈ lw_tbl := kmL_180_in _ (List.mem_of_getElem? (i := 24) rfl)
set_option maxRecDepth 1000000 in
theorem mw_194 : mlW (6, 152, 139, 0) ∈ lw_tbl := kmL_180_in _ (List.mem_of_getElem? (i := 25) rfl)
set_option maxRecDepth 1000000 in
theorem mw_195 : mlW (6, 155, 140, 0) ∈ lw_tbl := kmL_180_in _ (List.mem_of_getElem? (i := 26) rfl)
set_option maxRecDepth 1000000 in
theorem mw_196 : mlW (6, 159, 141, 0) ∈ lw_tbl := kmL_180_in _ (List.mem_of_getElem? (i := 27) rfl)
set_option maxRecDepth 1000000 in
theorem mw_197 : mlW (6, 163, 142, 0) ∈ lw_tbl := kmL_180_in _ (List.mem_of_getElem? (i := 28) rfl)
set_option maxRecDepth 1000000 in
theorem mw_198 : mlW (5, 129, 131, 0) ∈ lw_tbl := kmL_180_in _ (List.mem_of_getElem? (i := 29) rfl)
set_option maxRecDepth 1000000 in
theorem mw_199 : mlW (6, 166, 143, 0) ∈ lw_tbl := kmL_180_in _ (List.mem_of_getElem? (i := 30) rfl)
set_option maxRecDepth 1000000 in
theorem mw_200 : mlW (6, 170, 144, 0) ∈ lw_tbl := kmL_180_in _ (List.mem_of_getElem? (i := 31) rfl)
set_option maxRecDepth 1000000 in
theorem mw_201 : mlW (6, 174, 151, 0) ∈ lw_tbl := kmL_180_in _ (List.mem_of_getElem? (i := 32) rfl)
set_option maxRecDepth 1000000 in
theorem mw_202 : mlW (5, 158, 150, 0) ∈ lw_tbl := kmL_180_in _ (List.mem_of_getElem? (i := 33) rfl)
set_option maxRecDepth 1000000 in
theorem mw_203 : mlW (5, 154, 149, 0) ∈ lw_tbl := kmL_180_in _ (List.mem_of_getElem? (i := 34) rfl)
set_option maxRecDepth 1000000 in
theorem mw_204 : mlW (5, 138, 145, 0) ∈ lw_tbl := kmL_180_in _ (List.mem_of_getElem? (i := 35) rfl)
set_option maxRecDepth 1000000 in
theorem mw_205 : mlW (5, 145, 146, 0) ∈ lw_tbl := kmL_180_in _ (List.mem_of_getElem? (i := 36) rfl)
set_option maxRecDepth 1000000 in
theorem mw_206 : mlW (5, 148, 148, 0) ∈ lw_tbl := kmL_180_in _ (List.mem_of_getElem? (i := 37) rfl)
set_option maxRecDepth 1000000 in
theorem mw_207 : mlW (5, 151, 147, 0) ∈ lw_tbl := kmL_180_in _ (List.mem_of_getElem? (i := 38) rfl)
set_option maxRecDepth 1000000 in
theorem mw_208 : mlW (6, 178, 153, 0) ∈ lw_tbl := kmL_180_in _ (List.mem_of_getElem? (i := 39) rfl)
set_option maxRecDepth 1000000 in
theorem mw_209 : mlW (5, 161, 152, 0) ∈ lw_tbl := kmL_180_in _ (List.mem_of_getElem? (i := 40) rfl)
set_option maxRecDepth 1000000 in
theorem mw_210 : mlW (6, 181, 154, 0) ∈ lw_tbl := kmL_180_in _ (List.mem_of_getElem? (i := 41) rfl)
set_option maxRecDepth 1000000 in
theorem mw_211 : mlW (6, 184, 155, 0) ∈ lw_tbl := kmL_180_in _ (List.mem_of_getElem? (i := 42) rfl)
set_option maxRecDepth 1000000 in
theorem mw_212 : mlW (6, 187, 156, 0) ∈ lw_tbl := kmL_180_in _ (List.mem_of_getElem? (i := 43) rfl)
set_option maxRecDepth 1000000 in
theorem mw_213 : mlW (6, 190, 157, 0) ∈ lw_tbl := kmL_180_in _ (List.mem_of_getElem? (i := 44) rfl)
set_option maxRecDepth 1000000 in
theorem mw_214 : mlW (6, 193, 158, 0) ∈ lw_tbl := kmL_180_in _ (List.mem_of_getElem? (i := 45) rfl)
set_option maxRecDepth 1000000 in
theorem mw_215 : mlW (6, 196, 159, 0) ∈ lw_tbl := kmL_180_in _ (List.mem_of_getElem? (i := 46) rfl)
set_option maxRecDepth 1000000 in
theorem mw_216 : mlW (6, 199, 160, 0) ∈ lw_tbl := kmL_180_in _ (List.mem_of_getElem? (i := 47) rfl)
set_option maxRecDepth 1000000 in
theorem mw_217 : mlW (6, 202, 161, 0) ∈ lw_tbl := kmL_180_in _ (List.mem_of_getElem? (i := 48) rfl)
set_option maxRecDepth 1000000 in
theorem mw_218 : mlW (6, 205, 162, 0) ∈ lw_tbl := kmL_180_in _ (List.mem_of_getElem? (i := 49) rfl)
set_option maxRecDepth 1000000 in
theorem mw_219 : mlW (6, 208, 163, 0) ∈ lw_tbl := kmL_180_in _ (List.mem_of_getElem? (i := 50) rfl)
set_option maxRecDepth 1000000 in
theorem mw_220 : mlW (6, 211, 164, 0) ∈ lw_tbl := kmL_180_in _ (List.mem_of_getElem? (i := 51) rfl)
set_option maxRecDepth 1000000 in
theorem mw_221 : mlW (6, 214, 168, 0) ∈ lw_tbl := kmL_180_in _ (List.mem_of_getElem? (i := 52) rfl)
set_option maxRecDepth 1000000 in
theorem mw_222 : mlW (5, 170, 167, 0) ∈ lw_tbl := kmL_180_in _ (List.mem_of_getElem? (i := 53) rfl)
set_option maxRecDepth 1000000 in
theorem mw_223 : mlW (5, 164, 166, 0) ∈ lw_tbl := kmL_180_in _ (List.mem_of_getElem? (i := 54) rfl)
set_option maxRecDepth 1000000 in
theorem mw_224 : mlW (5, 167, 165, 0) ∈ lw_tbl := kmL_180_in _ (List.mem_of_getElem? (i := 55) rfl)
set_option maxRecDepth 1000000 in
theorem mw_225 : mlW (6, 217, 170, 0) ∈ lw_tbl := kmL_180_in _ (List.mem_of_getElem? (i := 56) rfl)
set_option maxRecDepth 1000000 in
theorem mw_226 : mlW (5, 173, 169, 0) ∈ lw_tbl := kmL_180_in _ (List.mem_of_getElem? (i := 57) rfl)
set_option maxRecDepth 1000000 in
theorem mw_227 : mlW (6, 220, 171, 0) ∈ lw_tbl := kmL_180_in _ (List.mem_of_getElem? (i := 58) rfl)
set_option maxRecDepth 1000000 in
theorem mw_228 : mlW (6, 223, 172, 0) ∈ lw_tbl := kmL_180_in _ (List.mem_of_getElem? (i := 59) rfl)
set_option maxRecDepth 1000000 in
theorem mw_229 : mlW (6, 227, 173, 0) ∈ lw_tbl := kmL_240_in _ (List.mem_of_getElem? (i := 0) rfl)
set_option maxRecDepth 1000000 in
theorem mw_230 : mlW (6, 230, 174, 0) ∈ lw_tbl := kmL_240_in _ (List.mem_of_getElem? (i := 1) rfl)
set_option maxRecDepth 1000000 in
theorem mw_231 : mlW (6, 233, 175, 0) ∈ lw_tbl := kmL_240_in _ (List.mem_of_getElem? (i := 2) rfl)
set_option maxRecDepth 1000000 in
theorem mw_232 : mlW (6, 236, 176, 0) ∈ lw_tbl := kmL_240_in _ (List.mem_of_getElem? (i := 3) rfl)
set_option maxRecDepth 1000000 in
theorem mw_233 : mlW (6, 239, 179, 0) ∈ lw_tbl := kmL_240_in _ (List.mem_of_getElem? (i := 4) rfl)
set_option maxRecDepth 1000000 in
theorem mw_234 : mlW (5, 179, 178, 0) ∈ lw_tbl := kmL_240_in _ (List.mem_of_getElem? (i := 5) rfl)
set_option maxRecDepth 1000000 in
theorem mw_235 : mlW (5, 176, 177, 0) ∈ lw_tbl := kmL_240_in _ (List.mem_of_getElem? (i := 6) rfl)
set_option maxRecDepth 1000000 in
theorem mw_236 : mlW (6, 243, 180, 0) ∈ lw_tbl := kmL_240_in _ (List.mem_of_getElem? (i := 7) rfl)
set_option maxRecDepth 1000000 in
theorem mw_237 : mlW (6, 246, 181, 0) ∈ lw_tbl := kmL_240_in _ (List.mem_of_getElem? (i := 8) rfl)
set_option maxRecDepth 1000000 in
theorem mw_238 : mlW (6, 249, 182, 0) ∈ lw_tbl := kmL_240_in _ (List.mem_of_getElem? (i := 9) rfl)
set_option maxRecDepth 1000000 in
theorem mw_239 : mlW (6, 253, 184, 0) ∈ lw_tbl := kmL_240_in _ (List.mem_of_getElem? (i := 10) rfl)
set_option maxRecDepth 1000000 in
theorem mw_240 : mlW (5, 182, 183, 0) ∈ lw_tbl := kmL_240_in _ (List.mem_of_getElem? (i := 11) rfl)
set_option maxRecDepth 1000000 in
theorem mw_241 : mlW (6, 257, 185, 0) ∈ lw_tbl := kmL_240_in _ (List.mem_of_getElem? (i := 12) rfl)
set_option maxRecDepth 1000000 in
theorem mw_242 : mlW (6, 260, 186, 0) ∈ lw_tbl := kmL_240_in _ (List.mem_of_getElem? (i := 13) rfl)
set_option maxRecDepth 1000000 in
theorem mw_243 : mlW (6, 264, 187, 0) ∈ lw_tbl := kmL_240_in _ (List.mem_of_getElem? (i := 14) rfl)
set_option maxRecDepth 1000000 in
theorem mw_244 : mlW (6, 268, 188, 0) ∈ lw_tbl := kmL_240_in _ (List.mem_of_getElem? (i := 15) rfl)
set_option maxRecDepth 1000000 in
theorem mw_245 : mlW (6, 272, 189, 0) ∈ lw_tbl := kmL_240_in _ (List.mem_of_getElem? (i := 16) rfl)
def flL_0 : List (Nat × Nat × Nat × Nat × Nat) := [(1, 9, 1, 0, 0), (2, 66, 1, 0, 1), (4, 237, 1, 0, 1), (1, 15, 1, 1, 0), (1, 19, 1, 2, 0), (2, 97, 1, 2, 1), (4, 231, 1, 2, 1), (1, 22, 1, 3, 0), (2, 100, 1, 3, 1), (4, 234, 1, 3, 1), (1, 25, 1, 4, 0), (2, 94, 1, 4, 1), (4, 228, 1, 4, 1), (0, 9, 0, 0, 0), (4, 277, 0, 0, 1), (0, 15, 0, 1, 0), (0, 18, 0, 2, 0), (0, 22, 0, 3, 0), (0, 25, 0, 4, 0), (2, 9, 2, 0, 0), (4, 129, 2, 0, 1), (2, 15, 2, 1, 0), (4, 118, 2, 1, 1), (2, 19, 2, 2, 0), (4, 132, 2, 2, 1), (2, 23, 2, 3, 0), (4, 107, 2, 3, 1), (2, 26, 2, 4, 0), (4, 98, 2, 4, 1), (2, 29, 2, 5, 0), (4, 101, 2, 5, 1), (2, 32, 2, 6, 0), (4, 126, 2, 6, 1), (2, 35, 2, 7, 0), (4, 211, 2, 7, 1), (2, 41, 2, 8, 0), (4, 188, 2, 8, 1), (2, 48, 2, 9, 0), (4, 268, 2, 9, 1), (3, 9, 3, 0, 0)]
set_option maxRecDepth 1000000 in
theorem flL_0_ok : ∀ e ∈ flL_0, flW e ∈ lw_tbl := List.forall_mem_cons.mpr ⟨fw_0, List.forall_mem_cons.mpr ⟨fw_1, List.forall_mem_cons.mpr ⟨fw_2, List.forall_mem_cons.mpr ⟨fw_3, List.forall_mem_cons.mpr ⟨fw_4, List.forall_mem_cons.mpr ⟨fw_5, List.forall_mem_cons.mpr ⟨fw_6, List.forall_mem_cons.mpr ⟨fw_7, List.forall_mem_cons.mpr ⟨fw_8, List.forall_mem_cons.mpr ⟨fw_9, List.forall_mem_cons.mpr ⟨fw_10, List.forall_mem_cons.mpr ⟨fw_11, List.forall_mem_cons.mpr ⟨fw_12, List.forall_mem_cons.mpr ⟨fw_13, List.forall_mem_cons.mpr ⟨fw_14, List.forall_mem_cons.mpr ⟨fw_15, List.forall_mem_cons.mpr ⟨fw_16, List.forall_mem_cons.mpr ⟨fw_17, List.forall_mem_cons.mpr ⟨fw_18, List.forall_mem_cons.mpr ⟨fw_19, List.forall_mem_cons.mpr ⟨fw_20, List.forall_mem_cons.mpr ⟨fw_21, List.forall_mem_cons.mpr ⟨fw_22, List.forall_mem_cons.mpr ⟨fw_23, List.forall_mem_cons.mpr ⟨fw_24, List.forall_mem_cons.mpr ⟨fw_25, List.forall_mem_cons.mpr ⟨fw_26, List.forall_mem_cons.mpr ⟨fw_27, List.forall_mem_cons.mpr ⟨fw_28, List.forall_mem_cons.mpr ⟨fw_29, List.forall_mem_cons.mpr ⟨fw_30, List.forall_mem_cons.mpr ⟨fw_31, List.forall_mem_cons.mpr ⟨fw_32, List.forall_mem_cons.mpr ⟨fw_33, List.forall_mem_cons.mpr ⟨fw_34, List.forall_mem_cons.mpr ⟨fw_35, List.forall_mem_cons.mpr ⟨fw_36, List.forall_mem_cons.mpr ⟨fw_37, List.forall_mem_cons.mpr ⟨fw_38, List.forall_mem_cons.mpr ⟨fw_39, fun _ h => absurd h List.not_mem_nil⟩⟩⟩⟩⟩⟩⟩⟩⟩⟩⟩⟩⟩⟩⟩⟩⟩⟩⟩⟩⟩⟩⟩⟩⟩⟩⟩⟩⟩⟩⟩⟩⟩⟩⟩⟩⟩⟩⟩⟩
def flL_40 : List (Nat × Nat × Nat × Nat × Nat) := [(4, 154, 3, 0, 1), (3, 15, 3, 1, 0), (4, 149, 3, 1, 1), (3, 19, 3, 2, 0), (4, 163, 3, 2, 1), (3, 22, 3, 3, 0), (4, 307, 3, 3, 1), (3, 26, 3, 4, 0), (4, 304, 3, 4, 1), (4, 12, 4, 0, 0), (4, 16, 4, 1, 0), (4, 19, 4, 2, 0), (4, 23, 4, 3, 0), (4, 27, 4, 4, 0), (4, 30, 4, 5, 0), (4, 37, 4, 6, 0), (4, 41, 4, 7, 0), (5, 29, 5, 0, 0), (5, 7, 5, 1, 0), (5, 87, 5, 2, 0), (5, 13, 5, 3, 0), (5, 17, 5, 4, 0), (5, 132, 5, 5, 0), (5, 135, 5, 6, 0), (5, 142, 5, 7, 0), (5, 20, 5, 8, 0), (5, 23, 5, 9, 0), (5, 26, 5, 10, 0)]
set_option maxRecDepth 1000000 in
theorem flL_40_ok : ∀ e ∈ flL_40, flW e ∈ lw_tbl := List.forall_mem_cons.mpr ⟨fw_40, List.forall_mem_cons.mpr ⟨fw_41, List.forall_mem_cons.mpr ⟨fw_42, List.forall_mem_cons.mpr ⟨fw_43, List.forall_mem_cons.mpr ⟨fw_44, List.forall_mem_cons.mpr ⟨fw_45, List.forall_mem_cons.mpr ⟨fw_46, List.forall_mem_cons.mpr ⟨fw_47, List.forall_mem_cons.mpr ⟨fw_48, List.forall_mem_cons.mpr ⟨fw_49, List.forall_mem_cons.mpr ⟨fw_50, List.forall_mem_cons.mpr ⟨fw_51, List.forall_mem_cons.mpr ⟨fw_52, List.forall_mem_cons.mpr ⟨fw_53, List.forall_mem_cons.mpr ⟨fw_54, List.forall_mem_cons.mpr ⟨fw_55, List.forall_mem_cons.mpr ⟨fw_56, List.forall_mem_cons.mpr ⟨fw_57, List.forall_mem_cons.mpr ⟨fw_58, List.forall_mem_cons.mpr ⟨fw_59, List.forall_mem_cons.mpr ⟨fw_60, List.forall_mem_cons.mpr ⟨fw_61, List.forall_mem_cons.mpr ⟨fw_62, List.forall_mem_cons.mpr ⟨fw_63, List.forall_mem_cons.mpr ⟨fw_64, List.forall_mem_cons.mpr ⟨fw_65, List.forall_mem_cons.mpr ⟨fw_66, List.forall_mem_cons.mpr ⟨fw_67, fun _ h => absurd h List.not_mem_nil⟩⟩⟩⟩⟩⟩⟩⟩⟩⟩⟩⟩⟩⟩⟩⟩⟩⟩⟩⟩⟩⟩⟩⟩⟩⟩⟩⟩
set_option maxRecDepth 1000000 in
theorem flL_eq : flL = flL_0 ++ flL_40 := by decide +kernel
theorem flL_ok : ∀ e ∈ flL, flW e ∈ lw_tbl := fun e h => by rw [flL_eq] at h; simp only [List.mem_append] at h; rcases h with (h | h) <;> first | exact flL_0_ok e h | exact flL_40_ok e h
def mlL_0 : List (Nat × Nat × Nat × Nat) := [(6, 122, 44, 0), (4, 3, 1000, 0), (4, 11, 14, 1), (2, 3, 1000, 0), (2, 40, 4, 1), (1, 3, 1000, 0), (2, 47, 0, 1), (0, 3, 1000, 0), (4, 36, 36, 1), (3, 3, 1000, 0), (6, 167, 55, 0), (6, 171, 56, 0), (4, 158, 37, 1), (3, 30, 38, 0), (3, 38, 39, 0), (3, 34, 40, 0), (3, 42, 41, 0), (3, 64, 43, 0), (3, 68, 42, 0), (6, 224, 73, 0), (6, 240, 78, 0), (6, 250, 81, 0), (4, 121, 29, 1), (6, 254, 82, 0), (4, 258, 31, 1), (6, 261, 84, 0), (6, 265, 85, 0), (6, 269, 86, 0), (6, 126, 190, 0), (6, 7, 45, 0), (4, 45, 87, 0), (4, 49, 88, 0), (4, 52, 93, 0), (4, 240, 92, 0), (4, 290, 100, 0), (4, 56, 94, 0), (4, 59, 16, 1), (2, 69, 6, 1), (4, 70, 101, 0), (4, 179, 15, 1)]
set_option maxRecDepth 1000000 in
theorem mlL_0_ok : ∀ e ∈ mlL_0, mlW e ∈ lw_tbl := List.forall_mem_cons.mpr ⟨mw_0, List.forall_mem_cons.mpr ⟨mw_1, List.forall_mem_cons.mpr ⟨mw_2, List.forall_mem_cons.mpr ⟨mw_3, List.forall_mem_cons.mpr ⟨mw_4, List.forall_mem_cons.mpr ⟨mw_5, List.forall_mem_cons.mpr ⟨mw_6, List.forall_mem_cons.mpr ⟨mw_7, List.forall_mem_cons.mpr ⟨mw_8, List.forall_mem_cons.mpr ⟨mw_9, List.forall_mem_cons.mpr ⟨mw_10, List.forall_mem_cons.mpr ⟨mw_11, List.forall_mem_cons.mpr ⟨mw_12, List.forall_mem_cons.mpr ⟨mw_13, List.forall_mem_cons.mpr ⟨mw_14, List.forall_mem_cons.mpr ⟨mw_15, List.forall_mem_cons.mpr ⟨mw_16, List.forall_mem_cons.mpr ⟨mw_17, List.forall_mem_cons.mpr ⟨mw_18, List.forall_mem_cons.mpr ⟨mw_19, List.forall_mem_cons.mpr ⟨mw_20, List.forall_mem_cons.mpr ⟨mw_21, List.forall_mem_cons.mpr ⟨mw_22, List.forall_mem_cons.mpr ⟨mw_23, List.forall_mem_cons.mpr ⟨mw_24, List.forall_mem_cons.mpr ⟨mw_25, List.forall_mem_cons.mpr ⟨mw_26, List.forall_mem_cons.mpr ⟨mw_27, List.forall_mem_cons.mpr ⟨mw_28, List.forall_mem_cons.mpr ⟨mw_29, List.forall_mem_cons.mpr ⟨mw_30, List.forall_mem_cons.mpr ⟨mw_31, List.forall_mem_cons.mpr ⟨mw_32, List.forall_mem_cons.mpr ⟨mw_33, List.forall_mem_cons.mpr ⟨mw_34, List.forall_mem_cons.mpr ⟨mw_35, List.forall_mem_cons.mpr ⟨mw_36, List.forall_mem_cons.mpr ⟨mw_37, List.forall_mem_cons.mpr ⟨mw_38, List.forall_mem_cons.mpr ⟨mw_39, fun _ h => absurd h List.not_mem_nil⟩⟩⟩⟩⟩⟩⟩⟩⟩⟩⟩⟩⟩⟩⟩⟩⟩⟩⟩⟩⟩⟩⟩⟩⟩⟩⟩⟩⟩⟩⟩⟩⟩⟩⟩⟩⟩⟩⟩⟩
def mlL_40 : List (Nat × Nat × Nat × Nat) := [(2, 52, 1003, 0), (2, 58, 5, 1), (1, 28, 1003, 0), (2, 62, 1, 1), (0, 28, 1003, 0), (4, 73, 17, 1), (2, 73, 23, 0), (2, 88, 99, 1), (2, 111, 98, 1), (2, 115, 24, 0), (2, 118, 31, 0), (2, 77, 26, 0), (2, 131, 2, 1), (2, 81, 7, 1), (2, 85, 22, 0), (2, 91, 27, 0), (2, 133, 28, 0), (2, 136, 29, 0), (6, 135, 191, 0), (6, 19, 46, 0), (4, 77, 97, 0), (4, 225, 6, 1), (4, 81, 18, 1), (2, 103, 19, 0), (6, 139, 192, 0), (6, 23, 47, 0), (4, 84, 20, 1), (2, 107, 8, 1), (6, 143, 193, 0), (6, 27, 48, 0), (4, 87, 21, 1), (6, 147, 194, 0), (6, 31, 49, 0), (4, 91, 91, 0), (4, 208, 89, 0), (4, 110, 90, 0), (4, 214, 98, 0), (4, 94, 95, 0), (4, 104, 28, 1), (6, 150, 195, 0)]
set_option maxRecDepth 1000000 in
theorem mlL_40_ok : ∀ e ∈ mlL_40, mlW e ∈ lw_tbl := List.forall_mem_cons.mpr ⟨mw_40, List.forall_mem_cons.mpr ⟨mw_41, List.forall_mem_cons.mpr ⟨mw_42, List.forall_mem_cons.mpr ⟨mw_43, List.forall_mem_cons.mpr ⟨mw_44, List.forall_mem_cons.mpr ⟨mw_45, List.forall_mem_cons.mpr ⟨mw_46, List.forall_mem_cons.mpr ⟨mw_47, List.forall_mem_cons.mpr ⟨mw_48, List.forall_mem_cons.mpr ⟨mw_49, List.forall_mem_cons.mpr ⟨mw_50, List.forall_mem_cons.mpr ⟨mw_51, List.forall_mem_cons.mpr ⟨mw_52, List.forall_mem_cons.mpr ⟨mw_53, List.forall_mem_cons.mpr ⟨mw_54, List.forall_mem_cons.mpr ⟨mw_55, List.forall_mem_cons.mpr ⟨mw_56, List.forall_mem_cons.mpr ⟨mw_57, List.forall_mem_cons.mpr ⟨mw_58, List.forall_mem_cons.mpr ⟨mw_59, List.forall_mem_cons.mpr ⟨mw_60, List.forall_mem_cons.mpr ⟨mw_61, List.forall_mem_cons.mpr ⟨mw_62, List.forall_mem_cons.mpr ⟨mw_63, List.forall_mem_cons.mpr ⟨mw_64, List.forall_mem_cons.mpr ⟨mw_65, List.forall_mem_cons.mpr ⟨mw_66, List.forall_mem_cons.mpr ⟨mw_67, List.forall_mem_cons.mpr ⟨mw_68, List.forall_mem_cons.mpr ⟨mw_69, List.forall_mem_cons.mpr ⟨mw_70, List.forall_mem_cons.mpr ⟨mw_71, List.forall_mem_cons.mpr ⟨mw_72, List.forall_mem_cons.mpr ⟨mw_73, List.forall_mem_cons.mpr ⟨mw_74, List.forall_mem_cons.mpr ⟨mw_75, List.forall_mem_cons.mpr ⟨mw_76, List.forall_mem_cons.mpr ⟨mw_77, List.forall_mem_cons.mpr ⟨mw_78, List.forall_mem_cons.mpr ⟨mw_79, fun _ h => absurd h List.not_mem_nil⟩⟩⟩⟩⟩⟩⟩⟩⟩⟩⟩⟩⟩⟩⟩⟩⟩⟩⟩⟩⟩⟩⟩⟩⟩⟩⟩⟩⟩⟩⟩⟩⟩⟩⟩⟩⟩⟩⟩⟩
def mlL_80 : List (Nat × Nat × Nat × Nat) := [(6, 34, 50, 0), (6, 153, 196, 0), (6, 37, 51, 0), (6, 156, 197, 0), (6, 40, 52, 0), (4, 135, 35, 1), (6, 160, 198, 0), (6, 44, 53, 0), (4, 139, 32, 1), (4, 144, 33, 1), (2, 139, 34, 0), (2, 143, 30, 0), (6, 164, 199, 0), (6, 48, 54, 0), (6, 175, 200, 0), (6, 51, 57, 0), (4, 166, 38, 1), (4, 170, 102, 0), (4, 173, 40, 1), (6, 179, 201, 0), (6, 55, 58, 0), (6, 182, 202, 0), (6, 58, 59, 0), (4, 183, 96, 0), (6, 185, 203, 0), (6, 61, 60, 0), (6, 188, 204, 0), (6, 64, 61, 0), (6, 191, 205, 0), (6, 67, 62, 0), (4, 192, 10, 1), (1, 38, 9, 0), (1, 34, 99, 1), (6, 194, 206, 0), (6, 70, 63, 0), (6, 197, 207, 0), (6, 73, 64, 0), (6, 200, 208, 0), (6, 76, 65, 0), (6, 203, 209, 0)]
set_option maxRecDepth 1000000 in
theorem mlL_80_ok : ∀ e ∈ mlL_80, mlW e ∈ lw_tbl := List.forall_mem_cons.mpr ⟨mw_80, List.forall_mem_cons.mpr ⟨mw_81, List.forall_mem_cons.mpr ⟨mw_82, List.forall_mem_cons.mpr ⟨mw_83, List.forall_mem_cons.mpr ⟨mw_84, List.forall_mem_cons.mpr ⟨mw_85, List.forall_mem_cons.mpr ⟨mw_86, List.forall_mem_cons.mpr ⟨mw_87, List.forall_mem_cons.mpr ⟨mw_88, List.forall_mem_cons.mpr ⟨mw_89, List.forall_mem_cons.mpr ⟨mw_90, List.forall_mem_cons.mpr ⟨mw_91, List.forall_mem_cons.mpr ⟨mw_92, List.forall_mem_cons.mpr ⟨mw_93, List.forall_mem_cons.mpr ⟨mw_94, List.forall_mem_cons.mpr ⟨mw_95, List.forall_mem_cons.mpr ⟨mw_96, List.forall_mem_cons.mpr ⟨mw_97, List.forall_mem_cons.mpr ⟨mw_98, List.forall_mem_cons.mpr ⟨mw_99, List.forall_mem_cons.mpr ⟨mw_100, List.forall_mem_cons.mpr ⟨mw_101, List.forall_mem_cons.mpr ⟨mw_102, List.forall_mem_cons.mpr ⟨mw_103, List.forall_mem_cons.mpr ⟨mw_104, List.forall_mem_cons.mpr ⟨mw_105, List.forall_mem_cons.mpr ⟨mw_106, List.forall_mem_cons.mpr ⟨mw_107, List.forall_mem_cons.mpr ⟨mw_108, List.forall_mem_cons.mpr ⟨mw_109, List.forall_mem_cons.mpr ⟨mw_110, List.forall_mem_cons.mpr ⟨mw_111, List.forall_mem_cons.mpr ⟨mw_112, List.forall_mem_cons.mpr ⟨mw_113, List.forall_mem_cons.mpr ⟨mw_114, List.forall_mem_cons.mpr ⟨mw_115, List.forall_mem_cons.mpr ⟨mw_116, List.forall_mem_cons.mpr ⟨mw_117, List.forall_mem_cons.mpr ⟨mw_118, List.forall_mem_cons.mpr ⟨mw_119, fun _ h => absurd h List.not_mem_nil⟩⟩⟩⟩⟩⟩⟩⟩⟩⟩⟩⟩⟩⟩⟩⟩⟩⟩⟩⟩⟩⟩⟩⟩⟩⟩⟩⟩⟩⟩⟩⟩⟩⟩⟩⟩⟩⟩⟩⟩
def mlL_120 : List (Nat × Nat × Nat × Nat) := [(6, 79, 66, 0), (4, 197, 30, 1), (4, 200, 1001, 0), (6, 206, 210, 0), (6, 82, 67, 0), (4, 205, 25, 1), (2, 123, 1002, 0), (2, 128, 1001, 0), (6, 209, 211, 0), (6, 85, 68, 0), (6, 212, 212, 0), (6, 88, 69, 0), (4, 217, 11, 1), (4, 221, 103, 0), (6, 215, 213, 0), (6, 91, 70, 0), (6, 218, 214, 0), (6, 94, 71, 0), (6, 221, 215, 0), (6, 97, 72, 0), (6, 228, 216, 0), (6, 100, 74, 0), (4, 243, 12, 1), (6, 231, 217, 0), (6, 103, 75, 0), (4, 246, 13, 1), (6, 234, 218, 0), (6, 106, 76, 0), (4, 249, 23, 1), (6, 237, 219, 0), (6, 109, 77, 0), (4, 255, 19, 1), (6, 244, 220, 0), (6, 112, 79, 0), (6, 247, 221, 0), (6, 115, 80, 0), (6, 258, 222, 0), (6, 119, 83, 0), (4, 272, 3, 1), (6, 125, 104, 0)]
set_option maxRecDepth 1000000 in
theorem mlL_120_ok : ∀ e ∈ mlL_120, mlW e ∈ lw_tbl := List.forall_mem_cons.mpr ⟨mw_120, List.forall_mem_cons.mpr ⟨mw_121, List.forall_mem_cons.mpr ⟨mw_122, List.forall_mem_cons.mpr ⟨mw_123, List.forall_mem_cons.mpr ⟨mw_124, List.forall_mem_cons.mpr ⟨mw_125, List.forall_mem_cons.mpr ⟨mw_126, List.forall_mem_cons.mpr ⟨mw_127, List.forall_mem_cons.mpr ⟨mw_128, List.forall_mem_cons.mpr ⟨mw_129, List.forall_mem_cons.mpr ⟨mw_130, List.forall_mem_cons.mpr ⟨mw_131, List.forall_mem_cons.mpr ⟨mw_132, List.forall_mem_cons.mpr ⟨mw_133, List.forall_mem_cons.mpr ⟨mw_134, List.forall_mem_cons.mpr ⟨mw_135, List.forall_mem_cons.mpr ⟨mw_136, List.forall_mem_cons.mpr ⟨mw_137, List.forall_mem_cons.mpr ⟨mw_138, List.forall_mem_cons.mpr ⟨mw_139, List.forall_mem_cons.mpr ⟨mw_140, List.forall_mem_cons.mpr ⟨mw_141, List.forall_mem_cons.mpr ⟨mw_142, List.forall_mem_cons.mpr ⟨mw_143, List.forall_mem_cons.mpr ⟨mw_144, List.forall_mem_cons.mpr ⟨mw_145, List.forall_mem_cons.mpr ⟨mw_146, List.forall_mem_cons.mpr ⟨mw_147, List.forall_mem_cons.mpr ⟨mw_148, List.forall_mem_cons.mpr ⟨mw_149, List.forall_mem_cons.mpr ⟨mw_150, List.forall_mem_cons.mpr ⟨mw_151, List.forall_mem_cons.mpr ⟨mw_152, List.forall_mem_cons.mpr ⟨mw_153, List.forall_mem_cons.mpr ⟨mw_154, List.forall_mem_cons.mpr ⟨mw_155, List.forall_mem_cons.mpr ⟨mw_156, List.forall_mem_cons.mpr ⟨mw_157, List.forall_mem_cons.mpr ⟨mw_158, List.forall_mem_cons.mpr ⟨mw_159, fun _ h => absurd h List.not_mem_nil⟩⟩⟩⟩⟩⟩⟩⟩⟩⟩⟩⟩⟩⟩⟩⟩⟩⟩⟩⟩⟩⟩⟩⟩⟩⟩⟩⟩⟩⟩⟩⟩⟩⟩⟩⟩⟩⟩⟩⟩
def mlL_160 : List (Nat × Nat × Nat × Nat) := [(5, 1, 1000, 0), (6, 132, 105, 0), (6, 131, 134, 0), (5, 93, 108, 0), (5, 33, 106, 0), (5, 96, 109, 0), (5, 99, 110, 0), (5, 102, 114, 0), (5, 37, 112, 0), (5, 105, 107, 0), (5, 108, 133, 0), (5, 90, 132, 0), (5, 111, 127, 0), (5, 74, 125, 0), (5, 78, 126, 0), (5, 71, 124, 0), (5, 56, 122, 0), (5, 60, 123, 0), (5, 45, 116, 0), (5, 41, 115, 0), (5, 64, 120, 0), (5, 67, 121, 0), (5, 48, 117, 0), (5, 81, 113, 0), (5, 84, 119, 0), (5, 52, 118, 0), (6, 138, 135, 0), (5, 115, 128, 0), (6, 142, 136, 0), (5, 118, 129, 0), (6, 146, 137, 0), (5, 122, 130, 0), (6, 149, 138, 0), (5, 126, 111, 0), (6, 152, 139, 0), (6, 155, 140, 0), (6, 159, 141, 0), (6, 163, 142, 0), (5, 129, 131, 0), (6, 166, 143, 0)]
set_option maxRecDepth 1000000 in
theorem mlL_160_ok : ∀ e ∈ mlL_160, mlW e ∈ lw_tbl := List.forall_mem_cons.mpr ⟨mw_160, List.forall_mem_cons.mpr ⟨mw_161, List.forall_mem_cons.mpr ⟨mw_162, List.forall_mem_cons.mpr ⟨mw_163, List.forall_mem_cons.mpr ⟨mw_164, List.forall_mem_cons.mpr ⟨mw_165, List.forall_mem_cons.mpr ⟨mw_166, List.forall_mem_cons.mpr ⟨mw_167, List.forall_mem_cons.mpr ⟨mw_168, List.forall_mem_cons.mpr ⟨mw_169, List.forall_mem_cons.mpr ⟨mw_170, List.forall_mem_cons.mpr ⟨mw_171, List.forall_mem_cons.mpr ⟨mw_172, List.forall_mem_cons.mpr ⟨mw_173, List.forall_mem_cons.mpr ⟨mw_174, List.forall_mem_cons.mpr ⟨mw_175, List.forall_mem_cons.mpr ⟨mw_176, List.forall_mem_cons.mpr ⟨mw_177, List.forall_mem_cons.mpr ⟨mw_178, List.forall_mem_cons.mpr ⟨mw_179, List.forall_mem_cons.mpr ⟨mw_180, List.forall_mem_cons.mpr ⟨mw_181, List.forall_mem_cons.mpr ⟨mw_182, List.forall_mem_cons.mpr ⟨mw_183, List.forall_mem_cons.mpr ⟨mw_184, List.forall_mem_cons.mpr ⟨mw_185, List.forall_mem_cons.mpr ⟨mw_186, List.forall_mem_cons.mpr ⟨mw_187, List.forall_mem_cons.mpr ⟨mw_188, List.forall_mem_cons.mpr ⟨mw_189, List.forall_mem_cons.mpr ⟨mw_190, List.forall_mem_cons.mpr ⟨mw_191, List.forall_mem_cons.mpr ⟨mw_192, List.forall_mem_cons.mpr ⟨mw_193, List.forall_mem_cons.mpr ⟨mw_194, List.forall_mem_cons.mpr ⟨mw_195, List.forall_mem_cons.mpr ⟨mw_196, List.forall_mem_cons.mpr ⟨mw_197, List.forall_mem_cons.mpr ⟨mw_198, List.forall_mem_cons.mpr ⟨mw_199, fun _ h => absurd h List.not_mem_nil⟩⟩⟩⟩⟩⟩⟩⟩⟩⟩⟩⟩⟩⟩⟩⟩⟩⟩⟩⟩⟩⟩⟩⟩⟩⟩⟩⟩⟩⟩⟩⟩⟩⟩⟩⟩⟩⟩⟩⟩
def mlL_200 : List (Nat × Nat × Nat × Nat) := [(6, 170, 144, 0), (6, 174, 151, 0), (5, 158, 150, 0), (5, 154, 149, 0), (5, 138, 145, 0), (5, 145, 146, 0), (5, 148, 148, 0), (5, 151, 147, 0), (6, 178, 153, 0), (5, 161, 152, 0), (6, 181, 154, 0), (6, 184, 155, 0), (6, 187, 156, 0), (6, 190, 157, 0), (6, 193, 158, 0), (6, 196, 159, 0), (6, 199, 160, 0), (6, 202, 161, 0), (6, 205, 162, 0), (6, 208, 163, 0), (6, 211, 164, 0), (6, 214, 168, 0), (5, 170, 167, 0), (5, 164, 166, 0), (5, 167, 165, 0), (6, 217, 170, 0), (5, 173, 169, 0), (6, 220, 171, 0), (6, 223, 172, 0), (6, 227, 173, 0), (6, 230, 174, 0), (6, 233, 175, 0), (6, 236, 176, 0), (6, 239, 179, 0), (5, 179, 178, 0), (5, 176, 177, 0), (6, 243, 180, 0), (6, 246, 181, 0), (6, 249, 182, 0), (6, 253, 184, 0)]
set_option maxRecDepth 1000000 in
theorem mlL_200_ok : ∀ e ∈ mlL_200, mlW e ∈ lw_tbl := List.forall_mem_cons.mpr ⟨mw_200, List.forall_mem_cons.mpr ⟨mw_201, List.forall_mem_cons.mpr ⟨mw_202, List.forall_mem_cons.mpr ⟨mw_203, List.forall_mem_cons.mpr ⟨mw_204, List.forall_mem_cons.mpr ⟨mw_205, List.forall_mem_cons.mpr ⟨mw_206, List.forall_mem_cons.mpr ⟨mw_207, List.forall_mem_cons.mpr ⟨mw_208, List.forall_mem_cons.mpr ⟨mw_209, List.forall_mem_cons.mpr ⟨mw_210, List.forall_mem_cons.mpr ⟨mw_211, List.forall_mem_cons.mpr ⟨mw_212, List.forall_mem_cons.mpr ⟨mw_213, List.forall_mem_cons.mpr ⟨mw_214, List.forall_mem_cons.mpr ⟨mw_215, List.forall_mem_cons.mpr ⟨mw_216, List.forall_mem_cons.mpr ⟨mw_217, List.forall_mem_cons.mpr ⟨mw_218, List.forall_mem_cons.mpr ⟨mw_219, List.forall_mem_cons.mpr ⟨mw_220, List.forall_mem_cons.mpr ⟨mw_221, List.forall_mem_cons.mpr ⟨mw_222, List.forall_mem_cons.mpr ⟨mw_223, List.forall_mem_cons.mpr ⟨mw_224, List.forall_mem_cons.mpr ⟨mw_225, List.forall_mem_cons.mpr ⟨mw_226, List.forall_mem_cons.mpr ⟨mw_227, List.forall_mem_cons.mpr ⟨mw_228, List.forall_mem_cons.mpr ⟨mw_229, List.forall_mem_cons.mpr ⟨mw_230, List.forall_mem_cons.mpr ⟨mw_231, List.forall_mem_cons.mpr ⟨mw_232, List.forall_mem_cons.mpr ⟨mw_233, List.forall_mem_cons.mpr ⟨mw_234, List.forall_mem_cons.mpr ⟨mw_235, List.forall_mem_cons.mpr ⟨mw_236, List.forall_mem_cons.mpr ⟨mw_237, List.forall_mem_cons.mpr ⟨mw_238, List.forall_mem_cons.mpr ⟨mw_239, fun _ h => absurd h List.not_mem_nil⟩⟩⟩⟩⟩⟩⟩⟩⟩⟩⟩⟩⟩⟩⟩⟩⟩⟩⟩⟩⟩⟩⟩⟩⟩⟩⟩⟩⟩⟩⟩⟩⟩⟩⟩⟩⟩⟩⟩⟩
def mlL_240 : List (Nat × Nat × Nat × Nat) := [(5, 182, 183, 0), (6, 257, 185, 0), (6, 260, 186, 0), (6, 264, 187, 0), (6, 268, 188, 0), (6, 272, 189, 0)]
set_option maxRecDepth 1000000 in
theorem mlL_240_ok : ∀ e ∈ mlL_240, mlW e ∈ lw_tbl := List.forall_mem_cons.mpr ⟨mw_240, List.forall_mem_cons.mpr ⟨mw_241, List.forall_mem_cons.mpr ⟨mw_242, List.forall_mem_cons.mpr ⟨mw_243, List.forall_mem_cons.mpr ⟨mw_244, List.forall_mem_cons.mpr ⟨mw_245, fun _ h => absurd h List.not_mem_nil⟩⟩⟩⟩⟩⟩
set_option maxRecDepth 1000000 in
theorem mlL_eq : mlL = mlL_0 ++ mlL_40 ++ mlL_80 ++ mlL_120 ++ mlL_160 ++ mlL_200 ++ mlL_240 := by decide +kernel
theorem mlL_ok : ∀ e ∈ mlL, mlW e ∈ lw_tbl := fun e h => by rw [mlL_eq] at h; simp only [List.mem_append] at h; rcases h with ((((((h | h) | h) | h) | h) | h) | h) <;> first | exact mlL_0_ok e h | exact mlL_40_ok e h | exact mlL_80_ok e h | exact mlL_120_ok e h | exact mlL_160_ok e h | exact mlL_200_ok e h | exact mlL_240_ok e h
set_option maxRecDepth 1000000 in
theorem pd_0 : (parseMethodDescriptor "()V").map (fun d => d.parameters.length) = some 0 := by decide +kernel
set_option maxRecDepth 1000000 in
theorem pd_1 : (parseMethodDescriptor "(LStorageQuotas$EventLog;)V").map (fun d => d.parameters.length) = some 1 := by decide +kernel
set_option maxRecDepth 1000000 in
theorem pd_2 : (parseMethodDescriptor "(III)V").map (fun d => d.parameters.length) = some 3 := by decide +kernel
set_option maxRecDepth 1000000 in
theorem pd_3 : (parseMethodDescriptor "(II)I").map (fun d => d.parameters.length) = some 2 := by decide +kernel
set_option maxRecDepth 1000000 in
theorem pd_4 : (parseMethodDescriptor "(LStorageQuotas$FileTable;)V").map (fun d => d.parameters.length) = some 1 := by decide +kernel
set_option maxRecDepth 1000000 in
theorem pd_5 : (parseMethodDescriptor "(I)I").map (fun d => d.parameters.length) = some 1 := by decide +kernel
set_option maxRecDepth 1000000 in
theorem pd_6 : (parseMethodDescriptor "(IIII)V").map (fun d => d.parameters.length) = some 4 := by decide +kernel
set_option maxRecDepth 1000000 in
theorem pd_7 : (parseMethodDescriptor "(I)V").map (fun d => d.parameters.length) = some 1 := by decide +kernel
set_option maxRecDepth 1000000 in
theorem pd_8 : (parseMethodDescriptor "(II)Z").map (fun d => d.parameters.length) = some 2 := by decide +kernel
set_option maxRecDepth 1000000 in
theorem pd_9 : (parseMethodDescriptor "(I[I)I").map (fun d => d.parameters.length) = some 2 := by decide +kernel
set_option maxRecDepth 1000000 in
theorem pd_10 : (parseMethodDescriptor "(LStorageQuotas$State;)V").map (fun d => d.parameters.length) = some 1 := by decide +kernel
set_option maxRecDepth 1000000 in
theorem pd_11 : (parseMethodDescriptor "(I)Z").map (fun d => d.parameters.length) = some 1 := by decide +kernel
set_option maxRecDepth 1000000 in
theorem pd_12 : (parseMethodDescriptor "(IIII)I").map (fun d => d.parameters.length) = some 4 := by decide +kernel
set_option maxRecDepth 1000000 in
theorem pd_13 : (parseMethodDescriptor "(III)I").map (fun d => d.parameters.length) = some 3 := by decide +kernel
set_option maxRecDepth 1000000 in
theorem pd_14 : (parseMethodDescriptor "(IIIIII)I").map (fun d => d.parameters.length) = some 6 := by decide +kernel
set_option maxRecDepth 1000000 in
theorem pd_15 : (parseMethodDescriptor "()I").map (fun d => d.parameters.length) = some 0 := by decide +kernel
set_option maxRecDepth 1000000 in
theorem pd_16 : (parseMethodDescriptor "()Z").map (fun d => d.parameters.length) = some 0 := by decide +kernel
set_option maxRecDepth 1000000 in
theorem pd_17 : (parseMethodDescriptor "(C)[I").map (fun d => d.parameters.length) = some 1 := by decide +kernel
set_option maxRecDepth 1000000 in
theorem pd_18 : (parseMethodDescriptor "(C)Z").map (fun d => d.parameters.length) = some 1 := by decide +kernel
set_option maxRecDepth 1000000 in
theorem pd_19 : (parseMethodDescriptor "(IIIII)I").map (fun d => d.parameters.length) = some 5 := by decide +kernel
set_option maxRecDepth 1000000 in
theorem pd_20 : (parseMethodDescriptor "(IZ)I").map (fun d => d.parameters.length) = some 2 := by decide +kernel
set_option maxRecDepth 1000000 in
theorem pd_21 : (parseMethodDescriptor "(II)V").map (fun d => d.parameters.length) = some 2 := by decide +kernel
set_option maxRecDepth 1000000 in
theorem pd_22 : (parseMethodDescriptor "([II)I").map (fun d => d.parameters.length) = some 2 := by decide +kernel
set_option maxRecDepth 1000000 in
theorem pd_23 : (parseMethodDescriptor "(III)Z").map (fun d => d.parameters.length) = some 3 := by decide +kernel
set_option maxRecDepth 1000000 in
theorem pd_24 : (parseMethodDescriptor "(IIIZ)I").map (fun d => d.parameters.length) = some 4 := by decide +kernel
set_option maxRecDepth 1000000 in
theorem pd_25 : (parseMethodDescriptor "(Z)I").map (fun d => d.parameters.length) = some 1 := by decide +kernel
set_option maxRecDepth 1000000 in
theorem pd_26 : (parseMethodDescriptor "(LStorageQuotas;IIIII[J)I").map (fun d => d.parameters.length) = some 7 := by decide +kernel
set_option maxRecDepth 1000000 in
theorem pd_27 : (parseMethodDescriptor "(LStorageQuotas;III[J)I").map (fun d => d.parameters.length) = some 5 := by decide +kernel
set_option maxRecDepth 1000000 in
theorem pd_28 : (parseMethodDescriptor "(LStorageQuotas;II[J)I").map (fun d => d.parameters.length) = some 4 := by decide +kernel
set_option maxRecDepth 1000000 in
theorem pd_29 : (parseMethodDescriptor "(LStorageQuotas;IIII[J)I").map (fun d => d.parameters.length) = some 6 := by decide +kernel
set_option maxRecDepth 1000000 in
theorem pd_30 : (parseMethodDescriptor "(LStorageQuotas;IZ[J)I").map (fun d => d.parameters.length) = some 4 := by decide +kernel
set_option maxRecDepth 1000000 in
theorem pd_31 : (parseMethodDescriptor "(LStorageQuotas;I[J)I").map (fun d => d.parameters.length) = some 3 := by decide +kernel
set_option maxRecDepth 1000000 in
theorem pd_32 : (parseMethodDescriptor "(LStorageQuotas;[J)I").map (fun d => d.parameters.length) = some 2 := by decide +kernel
set_option maxRecDepth 1000000 in
theorem pd_33 : (parseMethodDescriptor "([I)Z").map (fun d => d.parameters.length) = some 1 := by decide +kernel
set_option maxRecDepth 1000000 in
theorem ma_0 : cwM 0 ∈ lw_tbl := kcD_0_in _ (List.mem_of_getElem? (i := 4) rfl)
set_option maxRecDepth 1000000 in
theorem mb_0 : Cond.instanceMethod (yM 0) ∈ lw_tbl := kiN_0_in _ (List.mem_of_getElem? (i := 4) rfl)
set_option maxRecDepth 1000000 in
theorem me_0 : (parseMethodDescriptor (yM 0).desc).map (fun d => d.parameters.length) = some (npM 0) := pd_0
theorem mt_0 : MtP 0 := ⟨rfl, Or.inr ma_0, fun h => absurd h (by decide), fun h => absurd h (by decide), fun _ => ⟨mb_0, rfl⟩, me_0⟩
set_option maxRecDepth 1000000 in
theorem ma_1 : cwM 1 ∈ lw_tbl := kcD_0_in _ (List.mem_of_getElem? (i := 44) rfl)
set_option maxRecDepth 1000000 in
theorem mb_1 : Cond.instanceMethod (yM 1) ∈ lw_tbl := kiN_0_in _ (List.mem_of_getElem? (i := 38) rfl)
set_option maxRecDepth 1000000 in
theorem md_1 : Cond.selects (owM 1) (yM 1) (yM 1) ∈ lw_tbl := kxL_0_in _ (List.mem_of_getElem? (i := 14) rfl)
set_option maxRecDepth 1000000 in
theorem me_1 : (parseMethodDescriptor (yM 1).desc).map (fun d => d.parameters.length) = some (npM 1) := pd_1
theorem mt_1 : MtP 1 := ⟨rfl, Or.inr ma_1, fun h => absurd h (by decide), fun _ => ⟨mb_1, md_1⟩, fun h => absurd h (by decide), me_1⟩
set_option maxRecDepth 1000000 in
theorem ma_2 : cwM 2 ∈ lw_tbl := kcD_0_in _ (List.mem_of_getElem? (i := 51) rfl)
set_option maxRecDepth 1000000 in
theorem mb_2 : Cond.instanceMethod (yM 2) ∈ lw_tbl := kiN_0_in _ (List.mem_of_getElem? (i := 43) rfl)
set_option maxRecDepth 1000000 in
theorem md_2 : Cond.selects (owM 2) (yM 2) (yM 2) ∈ lw_tbl := kxL_0_in _ (List.mem_of_getElem? (i := 19) rfl)
set_option maxRecDepth 1000000 in
theorem me_2 : (parseMethodDescriptor (yM 2).desc).map (fun d => d.parameters.length) = some (npM 2) := pd_2
theorem mt_2 : MtP 2 := ⟨rfl, Or.inr ma_2, fun h => absurd h (by decide), fun _ => ⟨mb_2, md_2⟩, fun h => absurd h (by decide), me_2⟩
set_option maxRecDepth 1000000 in
theorem ma_3 : cwM 3 ∈ lw_tbl := kcD_120_in _ (List.mem_of_getElem? (i := 26) rfl)
set_option maxRecDepth 1000000 in
theorem mb_3 : Cond.instanceMethod (yM 3) ∈ lw_tbl := kiN_60_in _ (List.mem_of_getElem? (i := 38) rfl)
set_option maxRecDepth 1000000 in
theorem md_3 : Cond.selects (owM 3) (yM 3) (yM 3) ∈ lw_tbl := kxL_0_in _ (List.mem_of_getElem? (i := 42) rfl)
set_option maxRecDepth 1000000 in
theorem me_3 : (parseMethodDescriptor (yM 3).desc).map (fun d => d.parameters.length) = some (npM 3) := pd_3
theorem mt_3 : MtP 3 := ⟨rfl, Or.inr ma_3, fun h => absurd h (by decide), fun _ => ⟨mb_3, md_3⟩, fun h => absurd h (by decide), me_3⟩
set_option maxRecDepth 1000000 in
theorem ma_4 : cwM 4 ∈ lw_tbl := kcD_0_in _ (List.mem_of_getElem? (i := 3) rfl)
set_option maxRecDepth 1000000 in
theorem mb_4 : Cond.instanceMethod (yM 4) ∈ lw_tbl := kiN_0_in _ (List.mem_of_getElem? (i := 3) rfl)
set_option maxRecDepth 1000000 in
theorem me_4 : (parseMethodDescriptor (yM 4).desc).map (fun d => d.parameters.length) = some (npM 4) := pd_0
theorem mt_4 : MtP 4 := ⟨rfl, Or.inr ma_4, fun h => absurd h (by decide), fun h => absurd h (by decide), fun _ => ⟨mb_4, rfl⟩, me_4⟩
set_option maxRecDepth 1000000 in
theorem ma_5 : cwM 5 ∈ lw_tbl := kcD_0_in _ (List.mem_of_getElem? (i := 43) rfl)
set_option maxRecDepth 1000000 in
theorem mb_5 : Cond.instanceMethod (yM 5) ∈ lw_tbl := kiN_0_in _ (List.mem_of_getElem? (i := 37) rfl)
set_option maxRecDepth 1000000 in
theorem md_5 : Cond.selects (owM 5) (yM 5) (yM 5) ∈ lw_tbl := kxL_0_in _ (List.mem_of_getElem? (i := 13) rfl)
set_option maxRecDepth 1000000 in
theorem me_5 : (parseMethodDescriptor (yM 5).desc).map (fun d => d.parameters.length) = some (npM 5) := pd_4
theorem mt_5 : MtP 5 := ⟨rfl, Or.inr ma_5, fun h => absurd h (by decide), fun _ => ⟨mb_5, md_5⟩, fun h => absurd h (by decide), me_5⟩
set_option maxRecDepth 1000000 in
theorem ma_6 : cwM 6 ∈ lw_tbl := kcD_0_in _ (List.mem_of_getElem? (i := 39) rfl)
set_option maxRecDepth 1000000 in
theorem mb_6 : Cond.instanceMethod (yM 6) ∈ lw_tbl := kiN_0_in _ (List.mem_of_getElem? (i := 33) rfl)
set_option maxRecDepth 1000000 in
theorem md_6 : Cond.selects (owM 6) (yM 6) (yM 6) ∈ lw_tbl := kxL_0_in _ (List.mem_of_getElem? (i := 10) rfl)
set_option maxRecDepth 1000000 in
theorem me_6 : (parseMethodDescriptor (yM 6).desc).map (fun d => d.parameters.length) = some (npM 6) := pd_5
theorem mt_6 : MtP 6 := ⟨rfl, Or.inr ma_6, fun h => absurd h (by decide), fun _ => ⟨mb_6, md_6⟩, fun h => absurd h (by decide), me_6⟩
set_option maxRecDepth 1000000 in
theorem ma_7 : cwM 7 ∈ lw_tbl := kcD_0_in _ (List.mem_of_getElem? (i := 52) rfl)
set_option maxRecDepth 1000000 in
theorem mb_7 : Cond.instanceMethod (yM 7) ∈ lw_tbl := kiN_0_in _ (List.mem_of_getElem? (i := 44) rfl)
set_option maxRecDepth 1000000 in
theorem md_7 : Cond.selects (owM 7) (yM 7) (yM 7) ∈ lw_tbl := kxL_0_in _ (List.mem_of_getElem? (i := 20) rfl)
set_option maxRecDepth 1000000 in
theorem me_7 : (parseMethodDescriptor (yM 7).desc).map (fun d => d.parameters.length) = some (npM 7) := pd_6
theorem mt_7 : MtP 7 := ⟨rfl, Or.inr ma_7, fun h => absurd h (by decide), fun _ => ⟨mb_7, md_7⟩, fun h => absurd h (by decide), me_7⟩
set_option maxRecDepth 1000000 in
theorem ma_8 : cwM 8 ∈ lw_tbl := kcD_60_in _ (List.mem_of_getElem? (i := 4) rfl)
set_option maxRecDepth 1000000 in
theorem mb_8 : Cond.instanceMethod (yM 8) ∈ lw_tbl := kiN_0_in _ (List.mem_of_getElem? (i := 54) rfl)
set_option maxRecDepth 1000000 in
theorem md_8 : Cond.selects (owM 8) (yM 8) (yM 8) ∈ lw_tbl := kxL_0_in _ (List.mem_of_getElem? (i := 28) rfl)
set_option maxRecDepth 1000000 in
theorem me_8 : (parseMethodDescriptor (yM 8).desc).map (fun d => d.parameters.length) = some (npM 8) := pd_7
theorem mt_8 : MtP 8 := ⟨rfl, Or.inr ma_8, fun h => absurd h (by decide), fun _ => ⟨mb_8, md_8⟩, fun h => absurd h (by decide), me_8⟩
set_option maxRecDepth 1000000 in
theorem ma_9 : cwM 9 ∈ lw_tbl := kcD_60_in _ (List.mem_of_getElem? (i := 44) rfl)
set_option maxRecDepth 1000000 in
theorem mb_9 : Cond.instanceMethod (yM 9) ∈ lw_tbl := kiN_60_in _ (List.mem_of_getElem? (i := 16) rfl)
set_option maxRecDepth 1000000 in
theorem md_9 : Cond.selects (owM 9) (yM 9) (yM 9) ∈ lw_tbl := kxL_0_in _ (List.mem_of_getElem? (i := 37) rfl)
set_option maxRecDepth 1000000 in
theorem me_9 : (parseMethodDescriptor (yM 9).desc).map (fun d => d.parameters.length) = some (npM 9) := pd_8
theorem mt_9 : MtP 9 := ⟨rfl, Or.inr ma_9, fun h => absurd h (by decide), fun _ => ⟨mb_9, md_9⟩, fun h => absurd h (by decide), me_9⟩
set_option maxRecDepth 1000000 in
theorem ma_10 : cwM 10 ∈ lw_tbl := kcD_60_in _ (List.mem_of_getElem? (i := 43) rfl)
set_option maxRecDepth 1000000 in
theorem mb_10 : Cond.instanceMethod (yM 10) ∈ lw_tbl := kiN_60_in _ (List.mem_of_getElem? (i := 15) rfl)
set_option maxRecDepth 1000000 in
theorem md_10 : Cond.selects (owM 10) (yM 10) (yM 10) ∈ lw_tbl := kxL_0_in _ (List.mem_of_getElem? (i := 36) rfl)
set_option maxRecDepth 1000000 in
theorem me_10 : (parseMethodDescriptor (yM 10).desc).map (fun d => d.parameters.length) = some (npM 10) := pd_3
theorem mt_10 : MtP 10 := ⟨rfl, Or.inr ma_10, fun h => absurd h (by decide), fun _ => ⟨mb_10, md_10⟩, fun h => absurd h (by decide), me_10⟩
set_option maxRecDepth 1000000 in
theorem ma_11 : cwM 11 ∈ lw_tbl := kcD_120_in _ (List.mem_of_getElem? (i := 2) rfl)
set_option maxRecDepth 1000000 in
theorem mb_11 : Cond.instanceMethod (yM 11) ∈ lw_tbl := kiN_60_in _ (List.mem_of_getElem? (i := 25) rfl)
set_option maxRecDepth 1000000 in
theorem md_11 : Cond.selects (owM 11) (yM 11) (yM 11) ∈ lw_tbl := kxL_0_in _ (List.mem_of_getElem? (i := 39) rfl)
set_option maxRecDepth 1000000 in
theorem me_11 : (parseMethodDescriptor (yM 11).desc).map (fun d => d.parameters.length) = some (npM 11) := pd_9
theorem mt_11 : MtP 11 := ⟨rfl, Or.inr ma_11, fun h => absurd h (by decide), fun _ => ⟨mb_11, md_11⟩, fun h => absurd h (by decide), me_11⟩
set_option maxRecDepth 1000000 in
theorem ma_12 : cwM 12 ∈ lw_tbl := kcD_120_in _ (List.mem_of_getElem? (i := 12) rfl)
set_option maxRecDepth 1000000 in
theorem mb_12 : Cond.instanceMethod (yM 12) ∈ lw_tbl := kiN_60_in _ (List.mem_of_getElem? (i := 30) rfl)
set_option maxRecDepth 1000000 in
theorem md_12 : Cond.selects (owM 12) (yM 12) (yM 12) ∈ lw_tbl := kxL_0_in _ (List.mem_of_getElem? (i := 40) rfl)
set_option maxRecDepth 1000000 in
theorem me_12 : (parseMethodDescriptor (yM 12).desc).map (fun d => d.parameters.length) = some (npM 12) := pd_5
theorem mt_12 : MtP 12 := ⟨rfl, Or.inr ma_12, fun h => absurd h (by decide), fun _ => ⟨mb_12, md_12⟩, fun h => absurd h (by decide), me_12⟩
set_option maxRecDepth 1000000 in
theorem ma_13 : cwM 13 ∈ lw_tbl := kcD_120_in _ (List.mem_of_getElem? (i := 15) rfl)
set_option maxRecDepth 1000000 in
theorem mb_13 : Cond.instanceMethod (yM 13) ∈ lw_tbl := kiN_60_in _ (List.mem_of_getElem? (i := 32) rfl)
set_option maxRecDepth 1000000 in
theorem md_13 : Cond.selects (owM 13) (yM 13) (yM 13) ∈ lw_tbl := kxL_0_in _ (List.mem_of_getElem? (i := 41) rfl)
set_option maxRecDepth 1000000 in
theorem me_13 : (parseMethodDescriptor (yM 13).desc).map (fun d => d.parameters.length) = some (npM 13) := pd_5
theorem mt_13 : MtP 13 := ⟨rfl, Or.inr ma_13, fun h => absurd h (by decide), fun _ => ⟨mb_13, md_13⟩, fun h => absurd h (by decide), me_13⟩
set_option maxRecDepth 1000000 in
theorem ma_14 : cwM 14 ∈ lw_tbl := kcD_0_in _ (List.mem_of_getElem? (i := 2) rfl)
set_option maxRecDepth 1000000 in
theorem mb_14 : Cond.instanceMethod (yM 14) ∈ lw_tbl := kiN_0_in _ (List.mem_of_getElem? (i := 2) rfl)
set_option maxRecDepth 1000000 in
theorem me_14 : (parseMethodDescriptor (yM 14).desc).map (fun d => d.parameters.length) = some (npM 14) := pd_0
theorem mt_14 : MtP 14 := ⟨rfl, Or.inr ma_14, fun h => absurd h (by decide), fun h => absurd h (by decide), fun _ => ⟨mb_14, rfl⟩, me_14⟩
set_option maxRecDepth 1000000 in
theorem ma_15 : cwM 15 ∈ lw_tbl := kcD_0_in _ (List.mem_of_getElem? (i := 42) rfl)
set_option maxRecDepth 1000000 in
theorem mb_15 : Cond.instanceMethod (yM 15) ∈ lw_tbl := kiN_0_in _ (List.mem_of_getElem? (i := 36) rfl)
set_option maxRecDepth 1000000 in
theorem md_15 : Cond.selects (owM 15) (yM 15) (yM 15) ∈ lw_tbl := kxL_0_in _ (List.mem_of_getElem? (i := 12) rfl)
set_option maxRecDepth 1000000 in
theorem me_15 : (parseMethodDescriptor (yM 15).desc).map (fun d => d.parameters.length) = some (npM 15) := pd_10
theorem mt_15 : MtP 15 := ⟨rfl, Or.inr ma_15, fun h => absurd h (by decide), fun _ => ⟨mb_15, md_15⟩, fun h => absurd h (by decide), me_15⟩
set_option maxRecDepth 1000000 in
theorem ma_16 : cwM 16 ∈ lw_tbl := kcD_0_in _ (List.mem_of_getElem? (i := 38) rfl)
set_option maxRecDepth 1000000 in
theorem mb_16 : Cond.instanceMethod (yM 16) ∈ lw_tbl := kiN_0_in _ (List.mem_of_getElem? (i := 32) rfl)
set_option maxRecDepth 1000000 in
theorem md_16 : Cond.selects (owM 16) (yM 16) (yM 16) ∈ lw_tbl := kxL_0_in _ (List.mem_of_getElem? (i := 9) rfl)
set_option maxRecDepth 1000000 in
theorem me_16 : (parseMethodDescriptor (yM 16).desc).map (fun d => d.parameters.length) = some (npM 16) := pd_11
theorem mt_16 : MtP 16 := ⟨rfl, Or.inr ma_16, fun h => absurd h (by decide), fun _ => ⟨mb_16, md_16⟩, fun h => absurd h (by decide), me_16⟩
set_option maxRecDepth 1000000 in
theorem ma_17 : cwM 17 ∈ lw_tbl := kcD_0_in _ (List.mem_of_getElem? (i := 45) rfl)
set_option maxRecDepth 1000000 in
theorem mb_17 : Cond.instanceMethod (yM 17) ∈ lw_tbl := kiN_0_in _ (List.mem_of_getElem? (i := 39) rfl)
set_option maxRecDepth 1000000 in
theorem md_17 : Cond.selects (owM 17) (yM 17) (yM 17) ∈ lw_tbl := kxL_0_in _ (List.mem_of_getElem? (i := 15) rfl)
set_option maxRecDepth 1000000 in
theorem me_17 : (parseMethodDescriptor (yM 17).desc).map (fun d => d.parameters.length) = some (npM 17) := pd_12
theorem mt_17 : MtP 17 := ⟨rfl, Or.inr ma_17, fun h => absurd h (by decide), fun _ => ⟨mb_17, md_17⟩, fun h => absurd h (by decide), me_17⟩
set_option maxRecDepth 1000000 in
theorem ma_18 : cwM 18 ∈ lw_tbl := kcD_0_in _ (List.mem_of_getElem? (i := 59) rfl)
set_option maxRecDepth 1000000 in
theorem mb_18 : Cond.instanceMethod (yM 18) ∈ lw_tbl := kiN_0_in _ (List.mem_of_getElem? (i := 50) rfl)
set_option maxRecDepth 1000000 in
theorem md_18 : Cond.selects (owM 18) (yM 18) (yM 18) ∈ lw_tbl := kxL_0_in _ (List.mem_of_getElem? (i := 25) rfl)
set_option maxRecDepth 1000000 in
theorem me_18 : (parseMethodDescriptor (yM 18).desc).map (fun d => d.parameters.length) = some (npM 18) := pd_3
theorem mt_18 : MtP 18 := ⟨rfl, Or.inr ma_18, fun h => absurd h (by decide), fun _ => ⟨mb_18, md_18⟩, fun h => absurd h (by decide), me_18⟩
set_option maxRecDepth 1000000 in
theorem ma_19 : cwM 19 ∈ lw_tbl := kcD_60_in _ (List.mem_of_getElem? (i := 0) rfl)
set_option maxRecDepth 1000000 in
theorem mb_19 : Cond.instanceMethod (yM 19) ∈ lw_tbl := kiN_0_in _ (List.mem_of_getElem? (i := 51) rfl)
set_option maxRecDepth 1000000 in
theorem md_19 : Cond.selects (owM 19) (yM 19) (yM 19) ∈ lw_tbl := kxL_0_in _ (List.mem_of_getElem? (i := 26) rfl)
set_option maxRecDepth 1000000 in
theorem me_19 : (parseMethodDescriptor (yM 19).desc).map (fun d => d.parameters.length) = some (npM 19) := pd_13
theorem mt_19 : MtP 19 := ⟨rfl, Or.inr ma_19, fun h => absurd h (by decide), fun _ => ⟨mb_19, md_19⟩, fun h => absurd h (by decide), me_19⟩
set_option maxRecDepth 1000000 in
theorem ma_20 : cwM 20 ∈ lw_tbl := kcD_60_in _ (List.mem_of_getElem? (i := 3) rfl)
set_option maxRecDepth 1000000 in
theorem mb_20 : Cond.instanceMethod (yM 20) ∈ lw_tbl := kiN_0_in _ (List.mem_of_getElem? (i := 53) rfl)
set_option maxRecDepth 1000000 in
theorem md_20 : Cond.selects (owM 20) (yM 20) (yM 20) ∈ lw_tbl := kxL_0_in _ (List.mem_of_getElem? (i := 27) rfl)
set_option maxRecDepth 1000000 in
theorem me_20 : (parseMethodDescriptor (yM 20).desc).map (fun d => d.parameters.length) = some (npM 20) := pd_5
theorem mt_20 : MtP 20 := ⟨rfl, Or.inr ma_20, fun h => absurd h (by decide), fun _ => ⟨mb_20, md_20⟩, fun h => absurd h (by decide), me_20⟩
set_option maxRecDepth 1000000 in
theorem ma_21 : cwM 21 ∈ lw_tbl := kcD_60_in _ (List.mem_of_getElem? (i := 7) rfl)
set_option maxRecDepth 1000000 in
theorem mb_21 : Cond.instanceMethod (yM 21) ∈ lw_tbl := kiN_0_in _ (List.mem_of_getElem? (i := 56) rfl)
set_option maxRecDepth 1000000 in
theorem md_21 : Cond.selects (owM 21) (yM 21) (yM 21) ∈ lw_tbl := kxL_0_in _ (List.mem_of_getElem? (i := 29) rfl)
set_option maxRecDepth 1000000 in
theorem me_21 : (parseMethodDescriptor (yM 21).desc).map (fun d => d.parameters.length) = some (npM 21) := pd_13
theorem mt_21 : MtP 21 := ⟨rfl, Or.inr ma_21, fun h => absurd h (by decide), fun _ => ⟨mb_21, md_21⟩, fun h => absurd h (by decide), me_21⟩
set_option maxRecDepth 1000000 in
theorem ma_22 : cwM 22 ∈ lw_tbl := kcD_0_in _ (List.mem_of_getElem? (i := 53) rfl)
set_option maxRecDepth 1000000 in
theorem mb_22 : Cond.instanceMethod (yM 22) ∈ lw_tbl := kiN_0_in _ (List.mem_of_getElem? (i := 45) rfl)
set_option maxRecDepth 1000000 in
theorem md_22 : Cond.selects (owM 22) (yM 22) (yM 22) ∈ lw_tbl := kxL_0_in _ (List.mem_of_getElem? (i := 21) rfl)
set_option maxRecDepth 1000000 in
theorem me_22 : (parseMethodDescriptor (yM 22).desc).map (fun d => d.parameters.length) = some (npM 22) := pd_2
theorem mt_22 : MtP 22 := ⟨rfl, Or.inr ma_22, fun h => absurd h (by decide), fun _ => ⟨mb_22, md_22⟩, fun h => absurd h (by decide), me_22⟩
set_option maxRecDepth 1000000 in
theorem ma_23 : cwM 23 ∈ lw_tbl := kcD_0_in _ (List.mem_of_getElem? (i := 46) rfl)
set_option maxRecDepth 1000000 in
theorem mb_23 : Cond.instanceMethod (yM 23) ∈ lw_tbl := kiN_0_in _ (List.mem_of_getElem? (i := 40) rfl)
set_option maxRecDepth 1000000 in
theorem md_23 : Cond.selects (owM 23) (yM 23) (yM 23) ∈ lw_tbl := kxL_0_in _ (List.mem_of_getElem? (i := 16) rfl)
set_option maxRecDepth 1000000 in
theorem me_23 : (parseMethodDescriptor (yM 23).desc).map (fun d => d.parameters.length) = some (npM 23) := pd_14
theorem mt_23 : MtP 23 := ⟨rfl, Or.inr ma_23, fun h => absurd h (by decide), fun _ => ⟨mb_23, md_23⟩, fun h => absurd h (by decide), me_23⟩
set_option maxRecDepth 1000000 in
theorem ma_24 : cwM 24 ∈ lw_tbl := kcD_0_in _ (List.mem_of_getElem? (i := 49) rfl)
set_option maxRecDepth 1000000 in
theorem mb_24 : Cond.instanceMethod (yM 24) ∈ lw_tbl := kiN_0_in _ (List.mem_of_getElem? (i := 41) rfl)
set_option maxRecDepth 1000000 in
theorem md_24 : Cond.selects (owM 24) (yM 24) (yM 24) ∈ lw_tbl := kxL_0_in _ (List.mem_of_getElem? (i := 17) rfl)
set_option maxRecDepth 1000000 in
theorem me_24 : (parseMethodDescriptor (yM 24).desc).map (fun d => d.parameters.length) = some (npM 24) := pd_3
theorem mt_24 : MtP 24 := ⟨rfl, Or.inr ma_24, fun h => absurd h (by decide), fun _ => ⟨mb_24, md_24⟩, fun h => absurd h (by decide), me_24⟩
set_option maxRecDepth 1000000 in
theorem ma_25 : cwM 25 ∈ lw_tbl := kcD_60_in _ (List.mem_of_getElem? (i := 56) rfl)
set_option maxRecDepth 1000000 in
theorem mb_25 : Cond.instanceMethod (yM 25) ∈ lw_tbl := kiN_60_in _ (List.mem_of_getElem? (i := 22) rfl)
set_option maxRecDepth 1000000 in
theorem md_25 : Cond.selects (owM 25) (yM 25) (yM 25) ∈ lw_tbl := kxL_0_in _ (List.mem_of_getElem? (i := 38) rfl)
set_option maxRecDepth 1000000 in
theorem me_25 : (parseMethodDescriptor (yM 25).desc).map (fun d => d.parameters.length) = some (npM 25) := pd_5
theorem mt_25 : MtP 25 := ⟨rfl, Or.inr ma_25, fun h => absurd h (by decide), fun _ => ⟨mb_25, md_25⟩, fun h => absurd h (by decide), me_25⟩
set_option maxRecDepth 1000000 in
theorem ma_26 : cwM 26 ∈ lw_tbl := kcD_0_in _ (List.mem_of_getElem? (i := 50) rfl)
set_option maxRecDepth 1000000 in
theorem mb_26 : Cond.instanceMethod (yM 26) ∈ lw_tbl := kiN_0_in _ (List.mem_of_getElem? (i := 42) rfl)
set_option maxRecDepth 1000000 in
theorem md_26 : Cond.selects (owM 26) (yM 26) (yM 26) ∈ lw_tbl := kxL_0_in _ (List.mem_of_getElem? (i := 18) rfl)
set_option maxRecDepth 1000000 in
theorem me_26 : (parseMethodDescriptor (yM 26).desc).map (fun d => d.parameters.length) = some (npM 26) := pd_2
theorem mt_26 : MtP 26 := ⟨rfl, Or.inr ma_26, fun h => absurd h (by decide), fun _ => ⟨mb_26, md_26⟩, fun h => absurd h (by decide), me_26⟩
set_option maxRecDepth 1000000 in
theorem ma_27 : cwM 27 ∈ lw_tbl := kcD_0_in _ (List.mem_of_getElem? (i := 54) rfl)
set_option maxRecDepth 1000000 in
theorem mb_27 : Cond.instanceMethod (yM 27) ∈ lw_tbl := kiN_0_in _ (List.mem_of_getElem? (i := 46) rfl)
set_option maxRecDepth 1000000 in
theorem md_27 : Cond.selects (owM 27) (yM 27) (yM 27) ∈ lw_tbl := kxL_0_in _ (List.mem_of_getElem? (i := 22) rfl)
set_option maxRecDepth 1000000 in
theorem me_27 : (parseMethodDescriptor (yM 27).desc).map (fun d => d.parameters.length) = some (npM 27) := pd_0
theorem mt_27 : MtP 27 := ⟨rfl, Or.inr ma_27, fun h => absurd h (by decide), fun _ => ⟨mb_27, md_27⟩, fun h => absurd h (by decide), me_27⟩
set_option maxRecDepth 1000000 in
theorem ma_28 : cwM 28 ∈ lw_tbl := kcD_0_in _ (List.mem_of_getElem? (i := 55) rfl)
set_option maxRecDepth 1000000 in
theorem mb_28 : Cond.instanceMethod (yM 28) ∈ lw_tbl := kiN_0_in _ (List.mem_of_getElem? (i := 47) rfl)
set_option maxRecDepth 1000000 in
theorem md_28 : Cond.selects (owM 28) (yM 28) (yM 28) ∈ lw_tbl := kxL_0_in _ (List.mem_of_getElem? (i := 23) rfl)
set_option maxRecDepth 1000000 in
theorem me_28 : (parseMethodDescriptor (yM 28).desc).map (fun d => d.parameters.length) = some (npM 28) := pd_7
theorem mt_28 : MtP 28 := ⟨rfl, Or.inr ma_28, fun h => absurd h (by decide), fun _ => ⟨mb_28, md_28⟩, fun h => absurd h (by decide), me_28⟩
set_option maxRecDepth 1000000 in
theorem ma_29 : cwM 29 ∈ lw_tbl := kcD_0_in _ (List.mem_of_getElem? (i := 18) rfl)
set_option maxRecDepth 1000000 in
theorem mb_29 : Cond.instanceMethod (yM 29) ∈ lw_tbl := kiN_0_in _ (List.mem_of_getElem? (i := 17) rfl)
set_option maxRecDepth 1000000 in
theorem md_29 : Cond.selects (owM 29) (yM 29) (yM 29) ∈ lw_tbl := kxL_0_in _ (List.mem_of_getElem? (i := 6) rfl)
set_option maxRecDepth 1000000 in
theorem me_29 : (parseMethodDescriptor (yM 29).desc).map (fun d => d.parameters.length) = some (npM 29) := pd_11
theorem mt_29 : MtP 29 := ⟨rfl, Or.inr ma_29, fun h => absurd h (by decide), fun _ => ⟨mb_29, md_29⟩, fun h => absurd h (by decide), me_29⟩
set_option maxRecDepth 1000000 in
theorem ma_30 : cwM 30 ∈ lw_tbl := kcD_60_in _ (List.mem_of_getElem? (i := 26) rfl)
set_option maxRecDepth 1000000 in
theorem mb_30 : Cond.instanceMethod (yM 30) ∈ lw_tbl := kiN_60_in _ (List.mem_of_getElem? (i := 6) rfl)
set_option maxRecDepth 1000000 in
theorem md_30 : Cond.selects (owM 30) (yM 30) (yM 30) ∈ lw_tbl := kxL_0_in _ (List.mem_of_getElem? (i := 34) rfl)
set_option maxRecDepth 1000000 in
theorem me_30 : (parseMethodDescriptor (yM 30).desc).map (fun d => d.parameters.length) = some (npM 30) := pd_5
theorem mt_30 : MtP 30 := ⟨rfl, Or.inr ma_30, fun h => absurd h (by decide), fun _ => ⟨mb_30, md_30⟩, fun h => absurd h (by decide), me_30⟩
set_option maxRecDepth 1000000 in
theorem ma_31 : cwM 31 ∈ lw_tbl := kcD_0_in _ (List.mem_of_getElem? (i := 20) rfl)
set_option maxRecDepth 1000000 in
theorem mb_31 : Cond.instanceMethod (yM 31) ∈ lw_tbl := kiN_0_in _ (List.mem_of_getElem? (i := 19) rfl)
set_option maxRecDepth 1000000 in
theorem md_31 : Cond.selects (owM 31) (yM 31) (yM 31) ∈ lw_tbl := kxL_0_in _ (List.mem_of_getElem? (i := 7) rfl)
set_option maxRecDepth 1000000 in
theorem me_31 : (parseMethodDescriptor (yM 31).desc).map (fun d => d.parameters.length) = some (npM 31) := pd_11
theorem mt_31 : MtP 31 := ⟨rfl, Or.inr ma_31, fun h => absurd h (by decide), fun _ => ⟨mb_31, md_31⟩, fun h => absurd h (by decide), me_31⟩
set_option maxRecDepth 1000000 in
theorem ma_32 : cwM 32 ∈ lw_tbl := kcD_60_in _ (List.mem_of_getElem? (i := 23) rfl)
set_option maxRecDepth 1000000 in
theorem mb_32 : Cond.instanceMethod (yM 32) ∈ lw_tbl := kiN_60_in _ (List.mem_of_getElem? (i := 3) rfl)
set_option maxRecDepth 1000000 in
theorem md_32 : Cond.selects (owM 32) (yM 32) (yM 32) ∈ lw_tbl := kxL_0_in _ (List.mem_of_getElem? (i := 31) rfl)
set_option maxRecDepth 1000000 in
theorem me_32 : (parseMethodDescriptor (yM 32).desc).map (fun d => d.parameters.length) = some (npM 32) := pd_11
theorem mt_32 : MtP 32 := ⟨rfl, Or.inr ma_32, fun h => absurd h (by decide), fun _ => ⟨mb_32, md_32⟩, fun h => absurd h (by decide), me_32⟩
set_option maxRecDepth 1000000 in
theorem ma_33 : cwM 33 ∈ lw_tbl := kcD_60_in _ (List.mem_of_getElem? (i := 24) rfl)
set_option maxRecDepth 1000000 in
theorem mb_33 : Cond.instanceMethod (yM 33) ∈ lw_tbl := kiN_60_in _ (List.mem_of_getElem? (i := 4) rfl)
set_option maxRecDepth 1000000 in
theorem md_33 : Cond.selects (owM 33) (yM 33) (yM 33) ∈ lw_tbl := kxL_0_in _ (List.mem_of_getElem? (i := 32) rfl)
set_option maxRecDepth 1000000 in
theorem me_33 : (parseMethodDescriptor (yM 33).desc).map (fun d => d.parameters.length) = some (npM 33) := pd_5
theorem mt_33 : MtP 33 := ⟨rfl, Or.inr ma_33, fun h => absurd h (by decide), fun _ => ⟨mb_33, md_33⟩, fun h => absurd h (by decide), me_33⟩
set_option maxRecDepth 1000000 in
theorem ma_34 : cwM 34 ∈ lw_tbl := kcD_60_in _ (List.mem_of_getElem? (i := 25) rfl)
set_option maxRecDepth 1000000 in
theorem mb_34 : Cond.instanceMethod (yM 34) ∈ lw_tbl := kiN_60_in _ (List.mem_of_getElem? (i := 5) rfl)
set_option maxRecDepth 1000000 in
theorem md_34 : Cond.selects (owM 34) (yM 34) (yM 34) ∈ lw_tbl := kxL_0_in _ (List.mem_of_getElem? (i := 33) rfl)
set_option maxRecDepth 1000000 in
theorem me_34 : (parseMethodDescriptor (yM 34).desc).map (fun d => d.parameters.length) = some (npM 34) := pd_15
theorem mt_34 : MtP 34 := ⟨rfl, Or.inr ma_34, fun h => absurd h (by decide), fun _ => ⟨mb_34, md_34⟩, fun h => absurd h (by decide), me_34⟩
set_option maxRecDepth 1000000 in
theorem ma_35 : cwM 35 ∈ lw_tbl := kcD_60_in _ (List.mem_of_getElem? (i := 20) rfl)
set_option maxRecDepth 1000000 in
theorem mb_35 : Cond.instanceMethod (yM 35) ∈ lw_tbl := kiN_60_in _ (List.mem_of_getElem? (i := 1) rfl)
set_option maxRecDepth 1000000 in
theorem md_35 : Cond.selects (owM 35) (yM 35) (yM 35) ∈ lw_tbl := kxL_0_in _ (List.mem_of_getElem? (i := 30) rfl)
set_option maxRecDepth 1000000 in
theorem me_35 : (parseMethodDescriptor (yM 35).desc).map (fun d => d.parameters.length) = some (npM 35) := pd_15
theorem mt_35 : MtP 35 := ⟨rfl, Or.inr ma_35, fun h => absurd h (by decide), fun _ => ⟨mb_35, md_35⟩, fun h => absurd h (by decide), me_35⟩
set_option maxRecDepth 1000000 in
theorem ma_36 : cwM 36 ∈ lw_tbl := kcD_0_in _ (List.mem_of_getElem? (i := 5) rfl)
set_option maxRecDepth 1000000 in
theorem mb_36 : Cond.instanceMethod (yM 36) ∈ lw_tbl := kiN_0_in _ (List.mem_of_getElem? (i := 5) rfl)
set_option maxRecDepth 1000000 in
theorem me_36 : (parseMethodDescriptor (yM 36).desc).map (fun d => d.parameters.length) = some (npM 36) := pd_0
theorem mt_36 : MtP 36 := ⟨rfl, Or.inr ma_36, fun h => absurd h (by decide), fun h => absurd h (by decide), fun _ => ⟨mb_36, rfl⟩, me_36⟩
set_option maxRecDepth 1000000 in
theorem ma_37 : cwM 37 ∈ lw_tbl := kcD_0_in _ (List.mem_of_getElem? (i := 8) rfl)
set_option maxRecDepth 1000000 in
theorem mb_37 : Cond.instanceMethod (yM 37) ∈ lw_tbl := kiN_0_in _ (List.mem_of_getElem? (i := 8) rfl)
set_option maxRecDepth 1000000 in
theorem md_37 : Cond.selects (owM 37) (yM 37) (yM 37) ∈ lw_tbl := kxL_0_in _ (List.mem_of_getElem? (i := 0) rfl)
set_option maxRecDepth 1000000 in
theorem me_37 : (parseMethodDescriptor (yM 37).desc).map (fun d => d.parameters.length) = some (npM 37) := pd_15
theorem mt_37 : MtP 37 := ⟨rfl, Or.inr ma_37, fun h => absurd h (by decide), fun _ => ⟨mb_37, md_37⟩, fun h => absurd h (by decide), me_37⟩
set_option maxRecDepth 1000000 in
theorem ma_38 : cwM 38 ∈ lw_tbl := kcD_0_in _ (List.mem_of_getElem? (i := 9) rfl)
set_option maxRecDepth 1000000 in
theorem mb_38 : Cond.instanceMethod (yM 38) ∈ lw_tbl := kiN_0_in _ (List.mem_of_getElem? (i := 9) rfl)
set_option maxRecDepth 1000000 in
theorem md_38 : Cond.selects (owM 38) (yM 38) (yM 38) ∈ lw_tbl := kxL_0_in _ (List.mem_of_getElem? (i := 1) rfl)
set_option maxRecDepth 1000000 in
theorem me_38 : (parseMethodDescriptor (yM 38).desc).map (fun d => d.parameters.length) = some (npM 38) := pd_16
theorem mt_38 : MtP 38 := ⟨rfl, Or.inr ma_38, fun h => absurd h (by decide), fun _ => ⟨mb_38, md_38⟩, fun h => absurd h (by decide), me_38⟩
set_option maxRecDepth 1000000 in
theorem ma_39 : cwM 39 ∈ lw_tbl := kcD_0_in _ (List.mem_of_getElem? (i := 10) rfl)
set_option maxRecDepth 1000000 in
theorem mb_39 : Cond.static (yM 39) ∈ lw_tbl := ksT_0_in _ (List.mem_of_getElem? (i := 0) rfl)
set_option maxRecDepth 1000000 in
theorem me_39 : (parseMethodDescriptor (yM 39).desc).map (fun d => d.parameters.length) = some (npM 39) := pd_17
theorem mt_39 : MtP 39 := ⟨rfl, Or.inr ma_39, fun _ => Or.inr mb_39, fun h => absurd h (by decide), fun h => absurd h (by decide), me_39⟩
set_option maxRecDepth 1000000 in
theorem ma_40 : cwM 40 ∈ lw_tbl := kcD_0_in _ (List.mem_of_getElem? (i := 11) rfl)
set_option maxRecDepth 1000000 in
theorem mb_40 : Cond.instanceMethod (yM 40) ∈ lw_tbl := kiN_0_in _ (List.mem_of_getElem? (i := 10) rfl)
set_option maxRecDepth 1000000 in
theorem md_40 : Cond.selects (owM 40) (yM 40) (yM 40) ∈ lw_tbl := kxL_0_in _ (List.mem_of_getElem? (i := 2) rfl)
set_option maxRecDepth 1000000 in
theorem me_40 : (parseMethodDescriptor (yM 40).desc).map (fun d => d.parameters.length) = some (npM 40) := pd_18
theorem mt_40 : MtP 40 := ⟨rfl, Or.inr ma_40, fun h => absurd h (by decide), fun _ => ⟨mb_40, md_40⟩, fun h => absurd h (by decide), me_40⟩
set_option maxRecDepth 1000000 in
theorem ma_41 : cwM 41 ∈ lw_tbl := kcD_0_in _ (List.mem_of_getElem? (i := 12) rfl)
set_option maxRecDepth 1000000 in
theorem mb_41 : Cond.instanceMethod (yM 41) ∈ lw_tbl := kiN_0_in _ (List.mem_of_getElem? (i := 11) rfl)
set_option maxRecDepth 1000000 in
theorem md_41 : Cond.selects (owM 41) (yM 41) (yM 41) ∈ lw_tbl := kxL_0_in _ (List.mem_of_getElem? (i := 3) rfl)
set_option maxRecDepth 1000000 in
theorem me_41 : (parseMethodDescriptor (yM 41).desc).map (fun d => d.parameters.length) = some (npM 41) := pd_3
theorem mt_41 : MtP 41 := ⟨rfl, Or.inr ma_41, fun h => absurd h (by decide), fun _ => ⟨mb_41, md_41⟩, fun h => absurd h (by decide), me_41⟩
set_option maxRecDepth 1000000 in
theorem ma_42 : cwM 42 ∈ lw_tbl := kcD_0_in _ (List.mem_of_getElem? (i := 14) rfl)
set_option maxRecDepth 1000000 in
theorem mb_42 : Cond.instanceMethod (yM 42) ∈ lw_tbl := kiN_0_in _ (List.mem_of_getElem? (i := 13) rfl)
set_option maxRecDepth 1000000 in
theorem md_42 : Cond.selects (owM 42) (yM 42) (yM 42) ∈ lw_tbl := kxL_0_in _ (List.mem_of_getElem? (i := 5) rfl)
set_option maxRecDepth 1000000 in
theorem me_42 : (parseMethodDescriptor (yM 42).desc).map (fun d => d.parameters.length) = some (npM 42) := pd_8
theorem mt_42 : MtP 42 := ⟨rfl, Or.inr ma_42, fun h => absurd h (by decide), fun _ => ⟨mb_42, md_42⟩, fun h => absurd h (by decide), me_42⟩
set_option maxRecDepth 1000000 in
theorem ma_43 : cwM 43 ∈ lw_tbl := kcD_0_in _ (List.mem_of_getElem? (i := 13) rfl)
set_option maxRecDepth 1000000 in
theorem mb_43 : Cond.instanceMethod (yM 43) ∈ lw_tbl := kiN_0_in _ (List.mem_of_getElem? (i := 12) rfl)
set_option maxRecDepth 1000000 in
theorem md_43 : Cond.selects (owM 43) (yM 43) (yM 43) ∈ lw_tbl := kxL_0_in _ (List.mem_of_getElem? (i := 4) rfl)
set_option maxRecDepth 1000000 in
theorem me_43 : (parseMethodDescriptor (yM 43).desc).map (fun d => d.parameters.length) = some (npM 43) := pd_15
theorem mt_43 : MtP 43 := ⟨rfl, Or.inr ma_43, fun h => absurd h (by decide), fun _ => ⟨mb_43, md_43⟩, fun h => absurd h (by decide), me_43⟩
set_option maxRecDepth 1000000 in
theorem ma_44 : cwM 44 ∈ lw_tbl := kcD_0_in _ (List.mem_of_getElem? (i := 0) rfl)
set_option maxRecDepth 1000000 in
theorem mb_44 : Cond.instanceMethod (yM 44) ∈ lw_tbl := kiN_0_in _ (List.mem_of_getElem? (i := 0) rfl)
set_option maxRecDepth 1000000 in
theorem me_44 : (parseMethodDescriptor (yM 44).desc).map (fun d => d.parameters.length) = some (npM 44) := pd_0
theorem mt_44 : MtP 44 := ⟨rfl, Or.inr ma_44, fun h => absurd h (by decide), fun h => absurd h (by decide), fun _ => ⟨mb_44, rfl⟩, me_44⟩
set_option maxRecDepth 1000000 in
theorem ma_45 : cwM 45 ∈ lw_tbl := kcD_0_in _ (List.mem_of_getElem? (i := 25) rfl)
set_option maxRecDepth 1000000 in
theorem mb_45 : Cond.instanceMethod (yM 45) ∈ lw_tbl := kiN_0_in _ (List.mem_of_getElem? (i := 23) rfl)
set_option maxRecDepth 1000000 in
theorem md_45 : Cond.selects (owM 45) (yM 45) (yM 45) ∈ lw_tbl := kxL_60_in _ (List.mem_of_getElem? (i := 27) rfl)
set_option maxRecDepth 1000000 in
theorem me_45 : (parseMethodDescriptor (yM 45).desc).map (fun d => d.parameters.length) = some (npM 45) := pd_19
theorem mt_45 : MtP 45 := ⟨rfl, Or.inr ma_45, fun h => absurd h (by decide), fun _ => ⟨mb_45, md_45⟩, fun h => absurd h (by decide), me_45⟩
set_option maxRecDepth 1000000 in
theorem ma_46 : cwM 46 ∈ lw_tbl := kcD_0_in _ (List.mem_of_getElem? (i := 57) rfl)
set_option maxRecDepth 1000000 in
theorem mb_46 : Cond.instanceMethod (yM 46) ∈ lw_tbl := kiN_0_in _ (List.mem_of_getElem? (i := 48) rfl)
set_option maxRecDepth 1000000 in
theorem md_46 : Cond.selects (owM 46) (yM 46) (yM 46) ∈ lw_tbl := kxL_60_in _ (List.mem_of_getElem? (i := 34) rfl)
set_option maxRecDepth 1000000 in
theorem me_46 : (parseMethodDescriptor (yM 46).desc).map (fun d => d.parameters.length) = some (npM 46) := pd_13
theorem mt_46 : MtP 46 := ⟨rfl, Or.inr ma_46, fun h => absurd h (by decide), fun _ => ⟨mb_46, md_46⟩, fun h => absurd h (by decide), me_46⟩
set_option maxRecDepth 1000000 in
theorem ma_47 : cwM 47 ∈ lw_tbl := kcD_60_in _ (List.mem_of_getElem? (i := 2) rfl)
set_option maxRecDepth 1000000 in
theorem mb_47 : Cond.instanceMethod (yM 47) ∈ lw_tbl := kiN_0_in _ (List.mem_of_getElem? (i := 52) rfl)
set_option maxRecDepth 1000000 in
theorem md_47 : Cond.selects (owM 47) (yM 47) (yM 47) ∈ lw_tbl := kxL_60_in _ (List.mem_of_getElem? (i := 35) rfl)
set_option maxRecDepth 1000000 in
theorem me_47 : (parseMethodDescriptor (yM 47).desc).map (fun d => d.parameters.length) = some (npM 47) := pd_3
theorem mt_47 : MtP 47 := ⟨rfl, Or.inr ma_47, fun h => absurd h (by decide), fun _ => ⟨mb_47, md_47⟩, fun h => absurd h (by decide), me_47⟩
set_option maxRecDepth 1000000 in
theorem ma_48 : cwM 48 ∈ lw_tbl := kcD_60_in _ (List.mem_of_getElem? (i := 6) rfl)
set_option maxRecDepth 1000000 in
theorem mb_48 : Cond.instanceMethod (yM 48) ∈ lw_tbl := kiN_0_in _ (List.mem_of_getElem? (i := 55) rfl)
set_option maxRecDepth 1000000 in
theorem md_48 : Cond.selects (owM 48) (yM 48) (yM 48) ∈ lw_tbl := kxL_60_in _ (List.mem_of_getElem? (i := 36) rfl)
set_option maxRecDepth 1000000 in
theorem me_48 : (parseMethodDescriptor (yM 48).desc).map (fun d => d.parameters.length) = some (npM 48) := pd_12
theorem mt_48 : MtP 48 := ⟨rfl, Or.inr ma_48, fun h => absurd h (by decide), fun _ => ⟨mb_48, md_48⟩, fun h => absurd h (by decide), me_48⟩
set_option maxRecDepth 1000000 in
theorem ma_49 : cwM 49 ∈ lw_tbl := kcD_60_in _ (List.mem_of_getElem? (i := 9) rfl)
set_option maxRecDepth 1000000 in
theorem mb_49 : Cond.instanceMethod (yM 49) ∈ lw_tbl := kiN_0_in _ (List.mem_of_getElem? (i := 57) rfl)
set_option maxRecDepth 1000000 in
theorem md_49 : Cond.selects (owM 49) (yM 49) (yM 49) ∈ lw_tbl := kxL_60_in _ (List.mem_of_getElem? (i := 37) rfl)
set_option maxRecDepth 1000000 in
theorem me_49 : (parseMethodDescriptor (yM 49).desc).map (fun d => d.parameters.length) = some (npM 49) := pd_12
theorem mt_49 : MtP 49 := ⟨rfl, Or.inr ma_49, fun h => absurd h (by decide), fun _ => ⟨mb_49, md_49⟩, fun h => absurd h (by decide), me_49⟩
set_option maxRecDepth 1000000 in
theorem ma_50 : cwM 50 ∈ lw_tbl := kcD_60_in _ (List.mem_of_getElem? (i := 15) rfl)
set_option maxRecDepth 1000000 in
theorem mb_50 : Cond.instanceMethod (yM 50) ∈ lw_tbl := kiN_0_in _ (List.mem_of_getElem? (i := 58) rfl)
set_option maxRecDepth 1000000 in
theorem md_50 : Cond.selects (owM 50) (yM 50) (yM 50) ∈ lw_tbl := kxL_60_in _ (List.mem_of_getElem? (i := 38) rfl)
set_option maxRecDepth 1000000 in
theorem me_50 : (parseMethodDescriptor (yM 50).desc).map (fun d => d.parameters.length) = some (npM 50) := pd_3
theorem mt_50 : MtP 50 := ⟨rfl, Or.inr ma_50, fun h => absurd h (by decide), fun _ => ⟨mb_50, md_50⟩, fun h => absurd h (by decide), me_50⟩
set_option maxRecDepth 1000000 in
theorem ma_51 : cwM 51 ∈ lw_tbl := kcD_60_in _ (List.mem_of_getElem? (i := 17) rfl)
set_option maxRecDepth 1000000 in
theorem mb_51 : Cond.instanceMethod (yM 51) ∈ lw_tbl := kiN_0_in _ (List.mem_of_getElem? (i := 59) rfl)
set_option maxRecDepth 1000000 in
theorem md_51 : Cond.selects (owM 51) (yM 51) (yM 51) ∈ lw_tbl := kxL_60_in _ (List.mem_of_getElem? (i := 39) rfl)
set_option maxRecDepth 1000000 in
theorem me_51 : (parseMethodDescriptor (yM 51).desc).map (fun d => d.parameters.length) = some (npM 51) := pd_3
theorem mt_51 : MtP 51 := ⟨rfl, Or.inr ma_51, fun h => absurd h (by decide), fun _ => ⟨mb_51, md_51⟩, fun h => absurd h (by decide), me_51⟩
set_option maxRecDepth 1000000 in
theorem ma_52 : cwM 52 ∈ lw_tbl := kcD_60_in _ (List.mem_of_getElem? (i := 19) rfl)
set_option maxRecDepth 1000000 in
theorem mb_52 : Cond.instanceMethod (yM 52) ∈ lw_tbl := kiN_60_in _ (List.mem_of_getElem? (i := 0) rfl)
set_option maxRecDepth 1000000 in
theorem md_52 : Cond.selects (owM 52) (yM 52) (yM 52) ∈ lw_tbl := kxL_60_in _ (List.mem_of_getElem? (i := 40) rfl)
set_option maxRecDepth 1000000 in
theorem me_52 : (parseMethodDescriptor (yM 52).desc).map (fun d => d.parameters.length) = some (npM 52) := pd_20
theorem mt_52 : MtP 52 := ⟨rfl, Or.inr ma_52, fun h => absurd h (by decide), fun _ => ⟨mb_52, md_52⟩, fun h => absurd h (by decide), me_52⟩
set_option maxRecDepth 1000000 in
theorem ma_53 : cwM 53 ∈ lw_tbl := kcD_60_in _ (List.mem_of_getElem? (i := 22) rfl)
set_option maxRecDepth 1000000 in
theorem mb_53 : Cond.instanceMethod (yM 53) ∈ lw_tbl := kiN_60_in _ (List.mem_of_getElem? (i := 2) rfl)
set_option maxRecDepth 1000000 in
theorem md_53 : Cond.selects (owM 53) (yM 53) (yM 53) ∈ lw_tbl := kxL_60_in _ (List.mem_of_getElem? (i := 41) rfl)
set_option maxRecDepth 1000000 in
theorem me_53 : (parseMethodDescriptor (yM 53).desc).map (fun d => d.parameters.length) = some (npM 53) := pd_5
theorem mt_53 : MtP 53 := ⟨rfl, Or.inr ma_53, fun h => absurd h (by decide), fun _ => ⟨mb_53, md_53⟩, fun h => absurd h (by decide), me_53⟩
set_option maxRecDepth 1000000 in
theorem ma_54 : cwM 54 ∈ lw_tbl := kcD_60_in _ (List.mem_of_getElem? (i := 28) rfl)
set_option maxRecDepth 1000000 in
theorem mb_54 : Cond.instanceMethod (yM 54) ∈ lw_tbl := kiN_60_in _ (List.mem_of_getElem? (i := 7) rfl)
set_option maxRecDepth 1000000 in
theorem md_54 : Cond.selects (owM 54) (yM 54) (yM 54) ∈ lw_tbl := kxL_60_in _ (List.mem_of_getElem? (i := 42) rfl)
set_option maxRecDepth 1000000 in
theorem me_54 : (parseMethodDescriptor (yM 54).desc).map (fun d => d.parameters.length) = some (npM 54) := pd_5
theorem mt_54 : MtP 54 := ⟨rfl, Or.inr ma_54, fun h => absurd h (by decide), fun _ => ⟨mb_54, md_54⟩, fun h => absurd h (by decide), me_54⟩
set_option maxRecDepth 1000000 in
theorem ma_55 : cwM 55 ∈ lw_tbl := kcD_0_in _ (List.mem_of_getElem? (i := 6) rfl)
set_option maxRecDepth 1000000 in
theorem mb_55 : Cond.instanceMethod (yM 55) ∈ lw_tbl := kiN_0_in _ (List.mem_of_getElem? (i := 6) rfl)
set_option maxRecDepth 1000000 in
theorem md_55 : Cond.selects (owM 55) (yM 55) (yM 55) ∈ lw_tbl := kxL_60_in _ (List.mem_of_getElem? (i := 18) rfl)
set_option maxRecDepth 1000000 in
theorem me_55 : (parseMethodDescriptor (yM 55).desc).map (fun d => d.parameters.length) = some (npM 55) := pd_15
theorem mt_55 : MtP 55 := ⟨rfl, Or.inr ma_55, fun h => absurd h (by decide), fun _ => ⟨mb_55, md_55⟩, fun h => absurd h (by decide), me_55⟩
set_option maxRecDepth 1000000 in
theorem ma_56 : cwM 56 ∈ lw_tbl := kcD_0_in _ (List.mem_of_getElem? (i := 7) rfl)
set_option maxRecDepth 1000000 in
theorem mb_56 : Cond.instanceMethod (yM 56) ∈ lw_tbl := kiN_0_in _ (List.mem_of_getElem? (i := 7) rfl)
set_option maxRecDepth 1000000 in
theorem md_56 : Cond.selects (owM 56) (yM 56) (yM 56) ∈ lw_tbl := kxL_60_in _ (List.mem_of_getElem? (i := 19) rfl)
set_option maxRecDepth 1000000 in
theorem me_56 : (parseMethodDescriptor (yM 56).desc).map (fun d => d.parameters.length) = some (npM 56) := pd_15
theorem mt_56 : MtP 56 := ⟨rfl, Or.inr ma_56, fun h => absurd h (by decide), fun _ => ⟨mb_56, md_56⟩, fun h => absurd h (by decide), me_56⟩
set_option maxRecDepth 1000000 in
theorem ma_57 : cwM 57 ∈ lw_tbl := kcD_60_in _ (List.mem_of_getElem? (i := 30) rfl)
set_option maxRecDepth 1000000 in
theorem mb_57 : Cond.instanceMethod (yM 57) ∈ lw_tbl := kiN_60_in _ (List.mem_of_getElem? (i := 8) rfl)
set_option maxRecDepth 1000000 in
theorem md_57 : Cond.selects (owM 57) (yM 57) (yM 57) ∈ lw_tbl := kxL_60_in _ (List.mem_of_getElem? (i := 43) rfl)
set_option maxRecDepth 1000000 in
theorem me_57 : (parseMethodDescriptor (yM 57).desc).map (fun d => d.parameters.length) = some (npM 57) := pd_15
theorem mt_57 : MtP 57 := ⟨rfl, Or.inr ma_57, fun h => absurd h (by decide), fun _ => ⟨mb_57, md_57⟩, fun h => absurd h (by decide), me_57⟩
set_option maxRecDepth 1000000 in
theorem ma_58 : cwM 58 ∈ lw_tbl := kcD_60_in _ (List.mem_of_getElem? (i := 33) rfl)
set_option maxRecDepth 1000000 in
theorem mb_58 : Cond.instanceMethod (yM 58) ∈ lw_tbl := kiN_60_in _ (List.mem_of_getElem? (i := 10) rfl)
set_option maxRecDepth 1000000 in
theorem md_58 : Cond.selects (owM 58) (yM 58) (yM 58) ∈ lw_tbl := kxL_60_in _ (List.mem_of_getElem? (i := 44) rfl)
set_option maxRecDepth 1000000 in
theorem me_58 : (parseMethodDescriptor (yM 58).desc).map (fun d => d.parameters.length) = some (npM 58) := pd_15
theorem mt_58 : MtP 58 := ⟨rfl, Or.inr ma_58, fun h => absurd h (by decide), fun _ => ⟨mb_58, md_58⟩, fun h => absurd h (by decide), me_58⟩
set_option maxRecDepth 1000000 in
theorem ma_59 : cwM 59 ∈ lw_tbl := kcD_60_in _ (List.mem_of_getElem? (i := 35) rfl)
set_option maxRecDepth 1000000 in
theorem mb_59 : Cond.instanceMethod (yM 59) ∈ lw_tbl := kiN_60_in _ (List.mem_of_getElem? (i := 11) rfl)
set_option maxRecDepth 1000000 in
theorem md_59 : Cond.selects (owM 59) (yM 59) (yM 59) ∈ lw_tbl := kxL_60_in _ (List.mem_of_getElem? (i := 45) rfl)
set_option maxRecDepth 1000000 in
theorem me_59 : (parseMethodDescriptor (yM 59).desc).map (fun d => d.parameters.length) = some (npM 59) := pd_5
theorem mt_59 : MtP 59 := ⟨rfl, Or.inr ma_59, fun h => absurd h (by decide), fun _ => ⟨mb_59, md_59⟩, fun h => absurd h (by decide), me_59⟩
set_option maxRecDepth 1000000 in
theorem ma_60 : cwM 60 ∈ lw_tbl := kcD_60_in _ (List.mem_of_getElem? (i := 38) rfl)
set_option maxRecDepth 1000000 in
theorem mb_60 : Cond.instanceMethod (yM 60) ∈ lw_tbl := kiN_60_in _ (List.mem_of_getElem? (i := 12) rfl)
set_option maxRecDepth 1000000 in
theorem md_60 : Cond.selects (owM 60) (yM 60) (yM 60) ∈ lw_tbl := kxL_60_in _ (List.mem_of_getElem? (i := 46) rfl)
set_option maxRecDepth 1000000 in
theorem me_60 : (parseMethodDescriptor (yM 60).desc).map (fun d => d.parameters.length) = some (npM 60) := pd_5
theorem mt_60 : MtP 60 := ⟨rfl, Or.inr ma_60, fun h => absurd h (by decide), fun _ => ⟨mb_60, md_60⟩, fun h => absurd h (by decide), me_60⟩
set_option maxRecDepth 1000000 in
theorem ma_61 : cwM 61 ∈ lw_tbl := kcD_60_in _ (List.mem_of_getElem? (i := 40) rfl)
set_option maxRecDepth 1000000 in
theorem mb_61 : Cond.instanceMethod (yM 61) ∈ lw_tbl := kiN_60_in _ (List.mem_of_getElem? (i := 13) rfl)
set_option maxRecDepth 1000000 in
theorem md_61 : Cond.selects (owM 61) (yM 61) (yM 61) ∈ lw_tbl := kxL_60_in _ (List.mem_of_getElem? (i := 47) rfl)
set_option maxRecDepth 1000000 in
theorem me_61 : (parseMethodDescriptor (yM 61).desc).map (fun d => d.parameters.length) = some (npM 61) := pd_3
theorem mt_61 : MtP 61 := ⟨rfl, Or.inr ma_61, fun h => absurd h (by decide), fun _ => ⟨mb_61, md_61⟩, fun h => absurd h (by decide), me_61⟩
set_option maxRecDepth 1000000 in
theorem ma_62 : cwM 62 ∈ lw_tbl := kcD_60_in _ (List.mem_of_getElem? (i := 42) rfl)
set_option maxRecDepth 1000000 in
theorem mb_62 : Cond.instanceMethod (yM 62) ∈ lw_tbl := kiN_60_in _ (List.mem_of_getElem? (i := 14) rfl)
set_option maxRecDepth 1000000 in
theorem md_62 : Cond.selects (owM 62) (yM 62) (yM 62) ∈ lw_tbl := kxL_60_in _ (List.mem_of_getElem? (i := 48) rfl)
set_option maxRecDepth 1000000 in
theorem me_62 : (parseMethodDescriptor (yM 62).desc).map (fun d => d.parameters.length) = some (npM 62) := pd_3
theorem mt_62 : MtP 62 := ⟨rfl, Or.inr ma_62, fun h => absurd h (by decide), fun _ => ⟨mb_62, md_62⟩, fun h => absurd h (by decide), me_62⟩
set_option maxRecDepth 1000000 in
theorem ma_63 : cwM 63 ∈ lw_tbl := kcD_60_in _ (List.mem_of_getElem? (i := 46) rfl)
set_option maxRecDepth 1000000 in
theorem mb_63 : Cond.instanceMethod (yM 63) ∈ lw_tbl := kiN_60_in _ (List.mem_of_getElem? (i := 17) rfl)
set_option maxRecDepth 1000000 in
theorem md_63 : Cond.selects (owM 63) (yM 63) (yM 63) ∈ lw_tbl := kxL_60_in _ (List.mem_of_getElem? (i := 49) rfl)
set_option maxRecDepth 1000000 in
theorem me_63 : (parseMethodDescriptor (yM 63).desc).map (fun d => d.parameters.length) = some (npM 63) := pd_3
theorem mt_63 : MtP 63 := ⟨rfl, Or.inr ma_63, fun h => absurd h (by decide), fun _ => ⟨mb_63, md_63⟩, fun h => absurd h (by decide), me_63⟩
set_option maxRecDepth 1000000 in
theorem ma_64 : cwM 64 ∈ lw_tbl := kcD_60_in _ (List.mem_of_getElem? (i := 48) rfl)
set_option maxRecDepth 1000000 in
theorem mb_64 : Cond.instanceMethod (yM 64) ∈ lw_tbl := kiN_60_in _ (List.mem_of_getElem? (i := 18) rfl)
set_option maxRecDepth 1000000 in
theorem md_64 : Cond.selects (owM 64) (yM 64) (yM 64) ∈ lw_tbl := kxL_60_in _ (List.mem_of_getElem? (i := 50) rfl)
set_option maxRecDepth 1000000 in
theorem me_64 : (parseMethodDescriptor (yM 64).desc).map (fun d => d.parameters.length) = some (npM 64) := pd_3
theorem mt_64 : MtP 64 := ⟨rfl, Or.inr ma_64, fun h => absurd h (by decide), fun _ => ⟨mb_64, md_64⟩, fun h => absurd h (by decide), me_64⟩
set_option maxRecDepth 1000000 in
theorem ma_65 : cwM 65 ∈ lw_tbl := kcD_60_in _ (List.mem_of_getElem? (i := 50) rfl)
set_option maxRecDepth 1000000 in
theorem mb_65 : Cond.instanceMethod (yM 65) ∈ lw_tbl := kiN_60_in _ (List.mem_of_getElem? (i := 19) rfl)
set_option maxRecDepth 1000000 in
theorem md_65 : Cond.selects (owM 65) (yM 65) (yM 65) ∈ lw_tbl := kxL_60_in _ (List.mem_of_getElem? (i := 51) rfl)
set_option maxRecDepth 1000000 in
theorem me_65 : (parseMethodDescriptor (yM 65).desc).map (fun d => d.parameters.length) = some (npM 65) := pd_3
theorem mt_65 : MtP 65 := ⟨rfl, Or.inr ma_65, fun h => absurd h (by decide), fun _ => ⟨mb_65, md_65⟩, fun h => absurd h (by decide), me_65⟩
set_option maxRecDepth 1000000 in
theorem ma_66 : cwM 66 ∈ lw_tbl := kcD_60_in _ (List.mem_of_getElem? (i := 52) rfl)
set_option maxRecDepth 1000000 in
theorem mb_66 : Cond.instanceMethod (yM 66) ∈ lw_tbl := kiN_60_in _ (List.mem_of_getElem? (i := 20) rfl)
set_option maxRecDepth 1000000 in
theorem md_66 : Cond.selects (owM 66) (yM 66) (yM 66) ∈ lw_tbl := kxL_60_in _ (List.mem_of_getElem? (i := 52) rfl)
set_option maxRecDepth 1000000 in
theorem me_66 : (parseMethodDescriptor (yM 66).desc).map (fun d => d.parameters.length) = some (npM 66) := pd_3
theorem mt_66 : MtP 66 := ⟨rfl, Or.inr ma_66, fun h => absurd h (by decide), fun _ => ⟨mb_66, md_66⟩, fun h => absurd h (by decide), me_66⟩
set_option maxRecDepth 1000000 in
theorem ma_67 : cwM 67 ∈ lw_tbl := kcD_60_in _ (List.mem_of_getElem? (i := 55) rfl)
set_option maxRecDepth 1000000 in
theorem mb_67 : Cond.instanceMethod (yM 67) ∈ lw_tbl := kiN_60_in _ (List.mem_of_getElem? (i := 21) rfl)
set_option maxRecDepth 1000000 in
theorem md_67 : Cond.selects (owM 67) (yM 67) (yM 67) ∈ lw_tbl := kxL_60_in _ (List.mem_of_getElem? (i := 53) rfl)
set_option maxRecDepth 1000000 in
theorem me_67 : (parseMethodDescriptor (yM 67).desc).map (fun d => d.parameters.length) = some (npM 67) := pd_3
theorem mt_67 : MtP 67 := ⟨rfl, Or.inr ma_67, fun h => absurd h (by decide), fun _ => ⟨mb_67, md_67⟩, fun h => absurd h (by decide), me_67⟩
set_option maxRecDepth 1000000 in
theorem ma_68 : cwM 68 ∈ lw_tbl := kcD_60_in _ (List.mem_of_getElem? (i := 59) rfl)
set_option maxRecDepth 1000000 in
theorem mb_68 : Cond.instanceMethod (yM 68) ∈ lw_tbl := kiN_60_in _ (List.mem_of_getElem? (i := 23) rfl)
set_option maxRecDepth 1000000 in
theorem md_68 : Cond.selects (owM 68) (yM 68) (yM 68) ∈ lw_tbl := kxL_60_in _ (List.mem_of_getElem? (i := 54) rfl)
set_option maxRecDepth 1000000 in
theorem me_68 : (parseMethodDescriptor (yM 68).desc).map (fun d => d.parameters.length) = some (npM 68) := pd_5
theorem mt_68 : MtP 68 := ⟨rfl, Or.inr ma_68, fun h => absurd h (by decide), fun _ => ⟨mb_68, md_68⟩, fun h => absurd h (by decide), me_68⟩
set_option maxRecDepth 1000000 in
theorem ma_69 : cwM 69 ∈ lw_tbl := kcD_120_in _ (List.mem_of_getElem? (i := 1) rfl)
set_option maxRecDepth 1000000 in
theorem mb_69 : Cond.instanceMethod (yM 69) ∈ lw_tbl := kiN_60_in _ (List.mem_of_getElem? (i := 24) rfl)
set_option maxRecDepth 1000000 in
theorem md_69 : Cond.selects (owM 69) (yM 69) (yM 69) ∈ lw_tbl := kxL_60_in _ (List.mem_of_getElem? (i := 55) rfl)
set_option maxRecDepth 1000000 in
theorem me_69 : (parseMethodDescriptor (yM 69).desc).map (fun d => d.parameters.length) = some (npM 69) := pd_5
theorem mt_69 : MtP 69 := ⟨rfl, Or.inr ma_69, fun h => absurd h (by decide), fun _ => ⟨mb_69, md_69⟩, fun h => absurd h (by decide), me_69⟩
set_option maxRecDepth 1000000 in
theorem ma_70 : cwM 70 ∈ lw_tbl := kcD_120_in _ (List.mem_of_getElem? (i := 5) rfl)
set_option maxRecDepth 1000000 in
theorem mb_70 : Cond.instanceMethod (yM 70) ∈ lw_tbl := kiN_60_in _ (List.mem_of_getElem? (i := 26) rfl)
set_option maxRecDepth 1000000 in
theorem md_70 : Cond.selects (owM 70) (yM 70) (yM 70) ∈ lw_tbl := kxL_60_in _ (List.mem_of_getElem? (i := 56) rfl)
set_option maxRecDepth 1000000 in
theorem me_70 : (parseMethodDescriptor (yM 70).desc).map (fun d => d.parameters.length) = some (npM 70) := pd_3
theorem mt_70 : MtP 70 := ⟨rfl, Or.inr ma_70, fun h => absurd h (by decide), fun _ => ⟨mb_70, md_70⟩, fun h => absurd h (by decide), me_70⟩
set_option maxRecDepth 1000000 in
theorem ma_71 : cwM 71 ∈ lw_tbl := kcD_120_in _ (List.mem_of_getElem? (i := 7) rfl)
set_option maxRecDepth 1000000 in
theorem mb_71 : Cond.instanceMethod (yM 71) ∈ lw_tbl := kiN_60_in _ (List.mem_of_getElem? (i := 27) rfl)
set_option maxRecDepth 1000000 in
theorem md_71 : Cond.selects (owM 71) (yM 71) (yM 71) ∈ lw_tbl := kxL_60_in _ (List.mem_of_getElem? (i := 57) rfl)
set_option maxRecDepth 1000000 in
theorem me_71 : (parseMethodDescriptor (yM 71).desc).map (fun d => d.parameters.length) = some (npM 71) := pd_3
theorem mt_71 : MtP 71 := ⟨rfl, Or.inr ma_71, fun h => absurd h (by decide), fun _ => ⟨mb_71, md_71⟩, fun h => absurd h (by decide), me_71⟩
set_option maxRecDepth 1000000 in
theorem ma_72 : cwM 72 ∈ lw_tbl := kcD_120_in _ (List.mem_of_getElem? (i := 9) rfl)
set_option maxRecDepth 1000000 in
theorem mb_72 : Cond.instanceMethod (yM 72) ∈ lw_tbl := kiN_60_in _ (List.mem_of_getElem? (i := 28) rfl)
set_option maxRecDepth 1000000 in
theorem md_72 : Cond.selects (owM 72) (yM 72) (yM 72) ∈ lw_tbl := kxL_60_in _ (List.mem_of_getElem? (i := 58) rfl)
set_option maxRecDepth 1000000 in
theorem me_72 : (parseMethodDescriptor (yM 72).desc).map (fun d => d.parameters.length) = some (npM 72) := pd_3
theorem mt_72 : MtP 72 := ⟨rfl, Or.inr ma_72, fun h => absurd h (by decide), fun _ => ⟨mb_72, md_72⟩, fun h => absurd h (by decide), me_72⟩
set_option maxRecDepth 1000000 in
theorem ma_73 : cwM 73 ∈ lw_tbl := kcD_0_in _ (List.mem_of_getElem? (i := 15) rfl)
set_option maxRecDepth 1000000 in
theorem mb_73 : Cond.instanceMethod (yM 73) ∈ lw_tbl := kiN_0_in _ (List.mem_of_getElem? (i := 14) rfl)
set_option maxRecDepth 1000000 in
theorem md_73 : Cond.selects (owM 73) (yM 73) (yM 73) ∈ lw_tbl := kxL_60_in _ (List.mem_of_getElem? (i := 20) rfl)
set_option maxRecDepth 1000000 in
theorem me_73 : (parseMethodDescriptor (yM 73).desc).map (fun d => d.parameters.length) = some (npM 73) := pd_15
theorem mt_73 : MtP 73 := ⟨rfl, Or.inr ma_73, fun h => absurd h (by decide), fun _ => ⟨mb_73, md_73⟩, fun h => absurd h (by decide), me_73⟩
set_option maxRecDepth 1000000 in
theorem ma_74 : cwM 74 ∈ lw_tbl := kcD_120_in _ (List.mem_of_getElem? (i := 11) rfl)
set_option maxRecDepth 1000000 in
theorem mb_74 : Cond.instanceMethod (yM 74) ∈ lw_tbl := kiN_60_in _ (List.mem_of_getElem? (i := 29) rfl)
set_option maxRecDepth 1000000 in
theorem md_74 : Cond.selects (owM 74) (yM 74) (yM 74) ∈ lw_tbl := kxL_60_in _ (List.mem_of_getElem? (i := 59) rfl)
set_option maxRecDepth 1000000 in
theorem me_74 : (parseMethodDescriptor (yM 74).desc).map (fun d => d.parameters.length) = some (npM 74) := pd_5
theorem mt_74 : MtP 74 := ⟨rfl, Or.inr ma_74, fun h => absurd h (by decide), fun _ => ⟨mb_74, md_74⟩, fun h => absurd h (by decide), me_74⟩
set_option maxRecDepth 1000000 in
theorem ma_75 : cwM 75 ∈ lw_tbl := kcD_120_in _ (List.mem_of_getElem? (i := 14) rfl)
set_option maxRecDepth 1000000 in
theorem mb_75 : Cond.instanceMethod (yM 75) ∈ lw_tbl := kiN_60_in _ (List.mem_of_getElem? (i := 31) rfl)
set_option maxRecDepth 1000000 in
theorem md_75 : Cond.selects (owM 75) (yM 75) (yM 75) ∈ lw_tbl := kxL_120_in _ (List.mem_of_getElem? (i := 0) rfl)
set_option maxRecDepth 1000000 in
theorem me_75 : (parseMethodDescriptor (yM 75).desc).map (fun d => d.parameters.length) = some (npM 75) := pd_5
theorem mt_75 : MtP 75 := ⟨rfl, Or.inr ma_75, fun h => absurd h (by decide), fun _ => ⟨mb_75, md_75⟩, fun h => absurd h (by decide), me_75⟩
set_option maxRecDepth 1000000 in
theorem ma_76 : cwM 76 ∈ lw_tbl := kcD_120_in _ (List.mem_of_getElem? (i := 17) rfl)
set_option maxRecDepth 1000000 in
theorem mb_76 : Cond.instanceMethod (yM 76) ∈ lw_tbl := kiN_60_in _ (List.mem_of_getElem? (i := 33) rfl)
set_option maxRecDepth 1000000 in
theorem md_76 : Cond.selects (owM 76) (yM 76) (yM 76) ∈ lw_tbl := kxL_120_in _ (List.mem_of_getElem? (i := 1) rfl)
set_option maxRecDepth 1000000 in
theorem me_76 : (parseMethodDescriptor (yM 76).desc).map (fun d => d.parameters.length) = some (npM 76) := pd_13
theorem mt_76 : MtP 76 := ⟨rfl, Or.inr ma_76, fun h => absurd h (by decide), fun _ => ⟨mb_76, md_76⟩, fun h => absurd h (by decide), me_76⟩
set_option maxRecDepth 1000000 in
theorem ma_77 : cwM 77 ∈ lw_tbl := kcD_120_in _ (List.mem_of_getElem? (i := 19) rfl)
set_option maxRecDepth 1000000 in
theorem mb_77 : Cond.instanceMethod (yM 77) ∈ lw_tbl := kiN_60_in _ (List.mem_of_getElem? (i := 34) rfl)
set_option maxRecDepth 1000000 in
theorem md_77 : Cond.selects (owM 77) (yM 77) (yM 77) ∈ lw_tbl := kxL_120_in _ (List.mem_of_getElem? (i := 2) rfl)
set_option maxRecDepth 1000000 in
theorem me_77 : (parseMethodDescriptor (yM 77).desc).map (fun d => d.parameters.length) = some (npM 77) := pd_13
theorem mt_77 : MtP 77 := ⟨rfl, Or.inr ma_77, fun h => absurd h (by decide), fun _ => ⟨mb_77, md_77⟩, fun h => absurd h (by decide), me_77⟩
set_option maxRecDepth 1000000 in
theorem ma_78 : cwM 78 ∈ lw_tbl := kcD_0_in _ (List.mem_of_getElem? (i := 16) rfl)
set_option maxRecDepth 1000000 in
theorem mb_78 : Cond.instanceMethod (yM 78) ∈ lw_tbl := kiN_0_in _ (List.mem_of_getElem? (i := 15) rfl)
set_option maxRecDepth 1000000 in
theorem md_78 : Cond.selects (owM 78) (yM 78) (yM 78) ∈ lw_tbl := kxL_60_in _ (List.mem_of_getElem? (i := 21) rfl)
set_option maxRecDepth 1000000 in
theorem me_78 : (parseMethodDescriptor (yM 78).desc).map (fun d => d.parameters.length) = some (npM 78) := pd_15
theorem mt_78 : MtP 78 := ⟨rfl, Or.inr ma_78, fun h => absurd h (by decide), fun _ => ⟨mb_78, md_78⟩, fun h => absurd h (by decide), me_78⟩
set_option maxRecDepth 1000000 in
theorem ma_79 : cwM 79 ∈ lw_tbl := kcD_120_in _ (List.mem_of_getElem? (i := 21) rfl)
set_option maxRecDepth 1000000 in
theorem mb_79 : Cond.instanceMethod (yM 79) ∈ lw_tbl := kiN_60_in _ (List.mem_of_getElem? (i := 35) rfl)
set_option maxRecDepth 1000000 in
theorem md_79 : Cond.selects (owM 79) (yM 79) (yM 79) ∈ lw_tbl := kxL_120_in _ (List.mem_of_getElem? (i := 3) rfl)
set_option maxRecDepth 1000000 in
theorem me_79 : (parseMethodDescriptor (yM 79).desc).map (fun d => d.parameters.length) = some (npM 79) := pd_5
theorem mt_79 : MtP 79 := ⟨rfl, Or.inr ma_79, fun h => absurd h (by decide), fun _ => ⟨mb_79, md_79⟩, fun h => absurd h (by decide), me_79⟩
set_option maxRecDepth 1000000 in
theorem ma_80 : cwM 80 ∈ lw_tbl := kcD_120_in _ (List.mem_of_getElem? (i := 23) rfl)
set_option maxRecDepth 1000000 in
theorem mb_80 : Cond.instanceMethod (yM 80) ∈ lw_tbl := kiN_60_in _ (List.mem_of_getElem? (i := 36) rfl)
set_option maxRecDepth 1000000 in
theorem md_80 : Cond.selects (owM 80) (yM 80) (yM 80) ∈ lw_tbl := kxL_120_in _ (List.mem_of_getElem? (i := 4) rfl)
set_option maxRecDepth 1000000 in
theorem me_80 : (parseMethodDescriptor (yM 80).desc).map (fun d => d.parameters.length) = some (npM 80) := pd_11
theorem mt_80 : MtP 80 := ⟨rfl, Or.inr ma_80, fun h => absurd h (by decide), fun _ => ⟨mb_80, md_80⟩, fun h => absurd h (by decide), me_80⟩
set_option maxRecDepth 1000000 in
theorem ma_81 : cwM 81 ∈ lw_tbl := kcD_0_in _ (List.mem_of_getElem? (i := 17) rfl)
set_option maxRecDepth 1000000 in
theorem mb_81 : Cond.instanceMethod (yM 81) ∈ lw_tbl := kiN_0_in _ (List.mem_of_getElem? (i := 16) rfl)
set_option maxRecDepth 1000000 in
theorem md_81 : Cond.selects (owM 81) (yM 81) (yM 81) ∈ lw_tbl := kxL_60_in _ (List.mem_of_getElem? (i := 22) rfl)
set_option maxRecDepth 1000000 in
theorem me_81 : (parseMethodDescriptor (yM 81).desc).map (fun d => d.parameters.length) = some (npM 81) := pd_15
theorem mt_81 : MtP 81 := ⟨rfl, Or.inr ma_81, fun h => absurd h (by decide), fun _ => ⟨mb_81, md_81⟩, fun h => absurd h (by decide), me_81⟩
set_option maxRecDepth 1000000 in
theorem ma_82 : cwM 82 ∈ lw_tbl := kcD_0_in _ (List.mem_of_getElem? (i := 19) rfl)
set_option maxRecDepth 1000000 in
theorem mb_82 : Cond.instanceMethod (yM 82) ∈ lw_tbl := kiN_0_in _ (List.mem_of_getElem? (i := 18) rfl)
set_option maxRecDepth 1000000 in
theorem md_82 : Cond.selects (owM 82) (yM 82) (yM 82) ∈ lw_tbl := kxL_60_in _ (List.mem_of_getElem? (i := 23) rfl)
set_option maxRecDepth 1000000 in
theorem me_82 : (parseMethodDescriptor (yM 82).desc).map (fun d => d.parameters.length) = some (npM 82) := pd_15
theorem mt_82 : MtP 82 := ⟨rfl, Or.inr ma_82, fun h => absurd h (by decide), fun _ => ⟨mb_82, md_82⟩, fun h => absurd h (by decide), me_82⟩
set_option maxRecDepth 1000000 in
theorem ma_83 : cwM 83 ∈ lw_tbl := kcD_120_in _ (List.mem_of_getElem? (i := 25) rfl)
set_option maxRecDepth 1000000 in
theorem mb_83 : Cond.instanceMethod (yM 83) ∈ lw_tbl := kiN_60_in _ (List.mem_of_getElem? (i := 37) rfl)
set_option maxRecDepth 1000000 in
theorem md_83 : Cond.selects (owM 83) (yM 83) (yM 83) ∈ lw_tbl := kxL_120_in _ (List.mem_of_getElem? (i := 5) rfl)
set_option maxRecDepth 1000000 in
theorem me_83 : (parseMethodDescriptor (yM 83).desc).map (fun d => d.parameters.length) = some (npM 83) := pd_3
theorem mt_83 : MtP 83 := ⟨rfl, Or.inr ma_83, fun h => absurd h (by decide), fun _ => ⟨mb_83, md_83⟩, fun h => absurd h (by decide), me_83⟩
set_option maxRecDepth 1000000 in
theorem ma_84 : cwM 84 ∈ lw_tbl := kcD_0_in _ (List.mem_of_getElem? (i := 21) rfl)
set_option maxRecDepth 1000000 in
theorem mb_84 : Cond.instanceMethod (yM 84) ∈ lw_tbl := kiN_0_in _ (List.mem_of_getElem? (i := 20) rfl)
set_option maxRecDepth 1000000 in
theorem md_84 : Cond.selects (owM 84) (yM 84) (yM 84) ∈ lw_tbl := kxL_60_in _ (List.mem_of_getElem? (i := 24) rfl)
set_option maxRecDepth 1000000 in
theorem me_84 : (parseMethodDescriptor (yM 84).desc).map (fun d => d.parameters.length) = some (npM 84) := pd_15
theorem mt_84 : MtP 84 := ⟨rfl, Or.inr ma_84, fun h => absurd h (by decide), fun _ => ⟨mb_84, md_84⟩, fun h => absurd h (by decide), me_84⟩
set_option maxRecDepth 1000000 in
theorem ma_85 : cwM 85 ∈ lw_tbl := kcD_0_in _ (List.mem_of_getElem? (i := 22) rfl)
set_option maxRecDepth 1000000 in
theorem mb_85 : Cond.instanceMethod (yM 85) ∈ lw_tbl := kiN_0_in _ (List.mem_of_getElem? (i := 21) rfl)
set_option maxRecDepth 1000000 in
theorem md_85 : Cond.selects (owM 85) (yM 85) (yM 85) ∈ lw_tbl := kxL_60_in _ (List.mem_of_getElem? (i := 25) rfl)
set_option maxRecDepth 1000000 in
theorem me_85 : (parseMethodDescriptor (yM 85).desc).map (fun d => d.parameters.length) = some (npM 85) := pd_15
theorem mt_85 : MtP 85 := ⟨rfl, Or.inr ma_85, fun h => absurd h (by decide), fun _ => ⟨mb_85, md_85⟩, fun h => absurd h (by decide), me_85⟩
set_option maxRecDepth 1000000 in
theorem ma_86 : cwM 86 ∈ lw_tbl := kcD_0_in _ (List.mem_of_getElem? (i := 23) rfl)
set_option maxRecDepth 1000000 in
theorem mb_86 : Cond.instanceMethod (yM 86) ∈ lw_tbl := kiN_0_in _ (List.mem_of_getElem? (i := 22) rfl)
set_option maxRecDepth 1000000 in
theorem md_86 : Cond.selects (owM 86) (yM 86) (yM 86) ∈ lw_tbl := kxL_60_in _ (List.mem_of_getElem? (i := 26) rfl)
set_option maxRecDepth 1000000 in
theorem me_86 : (parseMethodDescriptor (yM 86).desc).map (fun d => d.parameters.length) = some (npM 86) := pd_15
theorem mt_86 : MtP 86 := ⟨rfl, Or.inr ma_86, fun h => absurd h (by decide), fun _ => ⟨mb_86, md_86⟩, fun h => absurd h (by decide), me_86⟩
set_option maxRecDepth 1000000 in
theorem ma_87 : cwM 87 ∈ lw_tbl := kcD_0_in _ (List.mem_of_getElem? (i := 26) rfl)
set_option maxRecDepth 1000000 in
theorem mb_87 : Cond.static (yM 87) ∈ lw_tbl := ksT_0_in _ (List.mem_of_getElem? (i := 2) rfl)
set_option maxRecDepth 1000000 in
theorem me_87 : (parseMethodDescriptor (yM 87).desc).map (fun d => d.parameters.length) = some (npM 87) := pd_7
theorem mt_87 : MtP 87 := ⟨rfl, Or.inr ma_87, fun _ => Or.inr mb_87, fun h => absurd h (by decide), fun h => absurd h (by decide), me_87⟩
set_option maxRecDepth 1000000 in
theorem ma_88 : cwM 88 ∈ lw_tbl := kcD_0_in _ (List.mem_of_getElem? (i := 32) rfl)
set_option maxRecDepth 1000000 in
theorem mb_88 : Cond.static (yM 88) ∈ lw_tbl := ksT_0_in _ (List.mem_of_getElem? (i := 3) rfl)
set_option maxRecDepth 1000000 in
theorem me_88 : (parseMethodDescriptor (yM 88).desc).map (fun d => d.parameters.length) = some (npM 88) := pd_7
theorem mt_88 : MtP 88 := ⟨rfl, Or.inr ma_88, fun _ => Or.inr mb_88, fun h => absurd h (by decide), fun h => absurd h (by decide), me_88⟩
set_option maxRecDepth 1000000 in
theorem ma_89 : cwM 89 ∈ lw_tbl := kcD_60_in _ (List.mem_of_getElem? (i := 11) rfl)
set_option maxRecDepth 1000000 in
theorem mb_89 : Cond.static (yM 89) ∈ lw_tbl := ksT_0_in _ (List.mem_of_getElem? (i := 16) rfl)
set_option maxRecDepth 1000000 in
theorem me_89 : (parseMethodDescriptor (yM 89).desc).map (fun d => d.parameters.length) = some (npM 89) := pd_7
theorem mt_89 : MtP 89 := ⟨rfl, Or.inr ma_89, fun _ => Or.inr mb_89, fun h => absurd h (by decide), fun h => absurd h (by decide), me_89⟩
set_option maxRecDepth 1000000 in
theorem ma_90 : cwM 90 ∈ lw_tbl := kcD_60_in _ (List.mem_of_getElem? (i := 12) rfl)
set_option maxRecDepth 1000000 in
theorem mb_90 : Cond.static (yM 90) ∈ lw_tbl := ksT_0_in _ (List.mem_of_getElem? (i := 17) rfl)
set_option maxRecDepth 1000000 in
theorem me_90 : (parseMethodDescriptor (yM 90).desc).map (fun d => d.parameters.length) = some (npM 90) := pd_7
theorem mt_90 : MtP 90 := ⟨rfl, Or.inr ma_90, fun _ => Or.inr mb_90, fun h => absurd h (by decide), fun h => absurd h (by decide), me_90⟩
set_option maxRecDepth 1000000 in
theorem ma_91 : cwM 91 ∈ lw_tbl := kcD_60_in _ (List.mem_of_getElem? (i := 10) rfl)
set_option maxRecDepth 1000000 in
theorem mb_91 : Cond.static (yM 91) ∈ lw_tbl := ksT_0_in _ (List.mem_of_getElem? (i := 15) rfl)
set_option maxRecDepth 1000000 in
theorem me_91 : (parseMethodDescriptor (yM 91).desc).map (fun d => d.parameters.length) = some (npM 91) := pd_3
theorem mt_91 : MtP 91 := ⟨rfl, Or.inr ma_91, fun _ => Or.inr mb_91, fun h => absurd h (by decide), fun h => absurd h (by decide), me_91⟩
set_option maxRecDepth 1000000 in
theorem ma_92 : cwM 92 ∈ lw_tbl := kcD_0_in _ (List.mem_of_getElem? (i := 34) rfl)
set_option maxRecDepth 1000000 in
theorem mb_92 : Cond.static (yM 92) ∈ lw_tbl := ksT_0_in _ (List.mem_of_getElem? (i := 5) rfl)
set_option maxRecDepth 1000000 in
theorem me_92 : (parseMethodDescriptor (yM 92).desc).map (fun d => d.parameters.length) = some (npM 92) := pd_7
theorem mt_92 : MtP 92 := ⟨rfl, Or.inr ma_92, fun _ => Or.inr mb_92, fun h => absurd h (by decide), fun h => absurd h (by decide), me_92⟩
set_option maxRecDepth 1000000 in
theorem ma_93 : cwM 93 ∈ lw_tbl := kcD_0_in _ (List.mem_of_getElem? (i := 33) rfl)
set_option maxRecDepth 1000000 in
theorem mb_93 : Cond.static (yM 93) ∈ lw_tbl := ksT_0_in _ (List.mem_of_getElem? (i := 4) rfl)
set_option maxRecDepth 1000000 in
theorem me_93 : (parseMethodDescriptor (yM 93).desc).map (fun d => d.parameters.length) = some (npM 93) := pd_3
theorem mt_93 : MtP 93 := ⟨rfl, Or.inr ma_93, fun _ => Or.inr mb_93, fun h => absurd h (by decide), fun h => absurd h (by decide), me_93⟩
set_option maxRecDepth 1000000 in
theorem ma_94 : cwM 94 ∈ lw_tbl := kcD_0_in _ (List.mem_of_getElem? (i := 36) rfl)
set_option maxRecDepth 1000000 in
theorem mb_94 : Cond.static (yM 94) ∈ lw_tbl := ksT_0_in _ (List.mem_of_getElem? (i := 7) rfl)
set_option maxRecDepth 1000000 in
theorem me_94 : (parseMethodDescriptor (yM 94).desc).map (fun d => d.parameters.length) = some (npM 94) := pd_7
theorem mt_94 : MtP 94 := ⟨rfl, Or.inr ma_94, fun _ => Or.inr mb_94, fun h => absurd h (by decide), fun h => absurd h (by decide), me_94⟩
set_option maxRecDepth 1000000 in
theorem ma_95 : cwM 95 ∈ lw_tbl := kcD_60_in _ (List.mem_of_getElem? (i := 13) rfl)
set_option maxRecDepth 1000000 in
theorem mb_95 : Cond.static (yM 95) ∈ lw_tbl := ksT_0_in _ (List.mem_of_getElem? (i := 18) rfl)
set_option maxRecDepth 1000000 in
theorem me_95 : (parseMethodDescriptor (yM 95).desc).map (fun d => d.parameters.length) = some (npM 95) := pd_21
theorem mt_95 : MtP 95 := ⟨rfl, Or.inr ma_95, fun _ => Or.inr mb_95, fun h => absurd h (by decide), fun h => absurd h (by decide), me_95⟩
set_option maxRecDepth 1000000 in
theorem ma_96 : cwM 96 ∈ lw_tbl := kcD_60_in _ (List.mem_of_getElem? (i := 36) rfl)
set_option maxRecDepth 1000000 in
theorem mb_96 : Cond.static (yM 96) ∈ lw_tbl := ksT_0_in _ (List.mem_of_getElem? (i := 27) rfl)
set_option maxRecDepth 1000000 in
theorem me_96 : (parseMethodDescriptor (yM 96).desc).map (fun d => d.parameters.length) = some (npM 96) := pd_7
theorem mt_96 : MtP 96 := ⟨rfl, Or.inr ma_96, fun _ => Or.inr mb_96, fun h => absurd h (by decide), fun h => absurd h (by decide), me_96⟩
set_option maxRecDepth 1000000 in
theorem ma_97 : cwM 97 ∈ lw_tbl := kcD_0_in _ (List.mem_of_getElem? (i := 58) rfl)
set_option maxRecDepth 1000000 in
theorem mb_97 : Cond.instanceMethod (yM 97) ∈ lw_tbl := kiN_0_in _ (List.mem_of_getElem? (i := 49) rfl)
set_option maxRecDepth 1000000 in
theorem md_97 : Cond.selects (owM 97) (yM 97) (yM 97) ∈ lw_tbl := kxL_0_in _ (List.mem_of_getElem? (i := 24) rfl)
set_option maxRecDepth 1000000 in
theorem me_97 : (parseMethodDescriptor (yM 97).desc).map (fun d => d.parameters.length) = some (npM 97) := pd_5
theorem mt_97 : MtP 97 := ⟨rfl, Or.inr ma_97, fun h => absurd h (by decide), fun _ => ⟨mb_97, md_97⟩, fun h => absurd h (by decide), me_97⟩
set_option maxRecDepth 1000000 in
theorem ma_98 : cwM 98 ∈ lw_tbl := kcD_0_in _ (List.mem_of_getElem? (i := 48) rfl)
set_option maxRecDepth 1000000 in
theorem mb_98 : Cond.static (yM 98) ∈ lw_tbl := ksT_0_in _ (List.mem_of_getElem? (i := 10) rfl)
set_option maxRecDepth 1000000 in
theorem me_98 : (parseMethodDescriptor (yM 98).desc).map (fun d => d.parameters.length) = some (npM 98) := pd_3
theorem mt_98 : MtP 98 := ⟨rfl, Or.inr ma_98, fun _ => Or.inr mb_98, fun h => absurd h (by decide), fun h => absurd h (by decide), me_98⟩
set_option maxRecDepth 1000000 in
theorem ma_99 : cwM 99 ∈ lw_tbl := kcD_0_in _ (List.mem_of_getElem? (i := 47) rfl)
set_option maxRecDepth 1000000 in
theorem mb_99 : Cond.static (yM 99) ∈ lw_tbl := ksT_0_in _ (List.mem_of_getElem? (i := 9) rfl)
set_option maxRecDepth 1000000 in
theorem me_99 : (parseMethodDescriptor (yM 99).desc).map (fun d => d.parameters.length) = some (npM 99) := pd_5
theorem mt_99 : MtP 99 := ⟨rfl, Or.inr ma_99, fun _ => Or.inr mb_99, fun h => absurd h (by decide), fun h => absurd h (by decide), me_99⟩
set_option maxRecDepth 1000000 in
theorem ma_100 : cwM 100 ∈ lw_tbl := kcD_0_in _ (List.mem_of_getElem? (i := 35) rfl)
set_option maxRecDepth 1000000 in
theorem mb_100 : Cond.static (yM 100) ∈ lw_tbl := ksT_0_in _ (List.mem_of_getElem? (i := 6) rfl)
set_option maxRecDepth 1000000 in
theorem me_100 : (parseMethodDescriptor (yM 100).desc).map (fun d => d.parameters.length) = some (npM 100) := pd_3
theorem mt_100 : MtP 100 := ⟨rfl, Or.inr ma_100, fun _ => Or.inr mb_100, fun h => absurd h (by decide), fun h => absurd h (by decide), me_100⟩
set_option maxRecDepth 1000000 in
theorem ma_101 : cwM 101 ∈ lw_tbl := kcD_0_in _ (List.mem_of_getElem? (i := 41) rfl)
set_option maxRecDepth 1000000 in
theorem mb_101 : Cond.instanceMethod (yM 101) ∈ lw_tbl := kiN_0_in _ (List.mem_of_getElem? (i := 35) rfl)
set_option maxRecDepth 1000000 in
theorem md_101 : Cond.selects (owM 101) (yM 101) (yM 101) ∈ lw_tbl := kxL_0_in _ (List.mem_of_getElem? (i := 11) rfl)
set_option maxRecDepth 1000000 in
theorem me_101 : (parseMethodDescriptor (yM 101).desc).map (fun d => d.parameters.length) = some (npM 101) := pd_0
theorem mt_101 : MtP 101 := ⟨rfl, Or.inr ma_101, fun h => absurd h (by decide), fun _ => ⟨mb_101, md_101⟩, fun h => absurd h (by decide), me_101⟩
set_option maxRecDepth 1000000 in
theorem ma_102 : cwM 102 ∈ lw_tbl := kcD_60_in _ (List.mem_of_getElem? (i := 31) rfl)
set_option maxRecDepth 1000000 in
theorem mb_102 : Cond.instanceMethod (yM 102) ∈ lw_tbl := kiN_60_in _ (List.mem_of_getElem? (i := 9) rfl)
set_option maxRecDepth 1000000 in
theorem md_102 : Cond.selects (owM 102) (yM 102) (yM 102) ∈ lw_tbl := kxL_0_in _ (List.mem_of_getElem? (i := 35) rfl)
set_option maxRecDepth 1000000 in
theorem me_102 : (parseMethodDescriptor (yM 102).desc).map (fun d => d.parameters.length) = some (npM 102) := pd_16
theorem mt_102 : MtP 102 := ⟨rfl, Or.inr ma_102, fun h => absurd h (by decide), fun _ => ⟨mb_102, md_102⟩, fun h => absurd h (by decide), me_102⟩
set_option maxRecDepth 1000000 in
theorem ma_103 : cwM 103 ∈ lw_tbl := kcD_120_in _ (List.mem_of_getElem? (i := 3) rfl)
set_option maxRecDepth 1000000 in
theorem mb_103 : Cond.static (yM 103) ∈ lw_tbl := ksT_0_in _ (List.mem_of_getElem? (i := 40) rfl)
set_option maxRecDepth 1000000 in
theorem me_103 : (parseMethodDescriptor (yM 103).desc).map (fun d => d.parameters.length) = some (npM 103) := pd_22
theorem mt_103 : MtP 103 := ⟨rfl, Or.inr ma_103, fun _ => Or.inr mb_103, fun h => absurd h (by decide), fun h => absurd h (by decide), me_103⟩
set_option maxRecDepth 1000000 in
theorem ma_104 : cwM 104 ∈ lw_tbl := kcD_120_in _ (List.mem_of_getElem? (i := 27) rfl)
set_option maxRecDepth 1000000 in
theorem mb_104 : Cond.instanceMethod (yM 104) ∈ lw_tbl := kiN_60_in _ (List.mem_of_getElem? (i := 39) rfl)
set_option maxRecDepth 1000000 in
theorem me_104 : (parseMethodDescriptor (yM 104).desc).map (fun d => d.parameters.length) = some (npM 104) := pd_0
theorem mt_104 : MtP 104 := ⟨rfl, Or.inr ma_104, fun h => absurd h (by decide), fun h => absurd h (by decide), fun _ => ⟨mb_104, rfl⟩, me_104⟩
set_option maxRecDepth 1000000 in
theorem ma_105 : cwM 105 ∈ lw_tbl := kcD_120_in _ (List.mem_of_getElem? (i := 28) rfl)
set_option maxRecDepth 1000000 in
theorem mb_105 : Cond.instanceMethod (yM 105) ∈ lw_tbl := kiN_60_in _ (List.mem_of_getElem? (i := 40) rfl)
set_option maxRecDepth 1000000 in
theorem md_105 : Cond.selects (owM 105) (yM 105) (yM 105) ∈ lw_tbl := kxL_120_in _ (List.mem_of_getElem? (i := 6) rfl)
set_option maxRecDepth 1000000 in
theorem me_105 : (parseMethodDescriptor (yM 105).desc).map (fun d => d.parameters.length) = some (npM 105) := pd_15
theorem mt_105 : MtP 105 := ⟨rfl, Or.inr ma_105, fun h => absurd h (by decide), fun _ => ⟨mb_105, md_105⟩, fun h => absurd h (by decide), me_105⟩
set_option maxRecDepth 1000000 in
theorem ma_106 : cwM 106 ∈ lw_tbl := kcD_120_in _ (List.mem_of_getElem? (i := 31) rfl)
set_option maxRecDepth 1000000 in
theorem mb_106 : Cond.static (yM 106) ∈ lw_tbl := ksT_0_in _ (List.mem_of_getElem? (i := 52) rfl)
set_option maxRecDepth 1000000 in
theorem me_106 : (parseMethodDescriptor (yM 106).desc).map (fun d => d.parameters.length) = some (npM 106) := pd_23
theorem mt_106 : MtP 106 := ⟨rfl, Or.inr ma_106, fun _ => Or.inr mb_106, fun h => absurd h (by decide), fun h => absurd h (by decide), me_106⟩
set_option maxRecDepth 1000000 in
theorem ma_107 : cwM 107 ∈ lw_tbl := kcD_120_in _ (List.mem_of_getElem? (i := 36) rfl)
set_option maxRecDepth 1000000 in
theorem mb_107 : Cond.instanceMethod (yM 107) ∈ lw_tbl := kiN_60_in _ (List.mem_of_getElem? (i := 44) rfl)
set_option maxRecDepth 1000000 in
theorem md_107 : Cond.selects (owM 107) (yM 107) (yM 107) ∈ lw_tbl := kxL_0_in _ (List.mem_of_getElem? (i := 45) rfl)
set_option maxRecDepth 1000000 in
theorem me_107 : (parseMethodDescriptor (yM 107).desc).map (fun d => d.parameters.length) = some (npM 107) := pd_11
theorem mt_107 : MtP 107 := ⟨rfl, Or.inr ma_107, fun h => absurd h (by decide), fun _ => ⟨mb_107, md_107⟩, fun h => absurd h (by decide), me_107⟩
set_option maxRecDepth 1000000 in
theorem ma_108 : cwM 108 ∈ lw_tbl := kcD_120_in _ (List.mem_of_getElem? (i := 30) rfl)
set_option maxRecDepth 1000000 in
theorem mb_108 : Cond.static (yM 108) ∈ lw_tbl := ksT_0_in _ (List.mem_of_getElem? (i := 51) rfl)
set_option maxRecDepth 1000000 in
theorem me_108 : (parseMethodDescriptor (yM 108).desc).map (fun d => d.parameters.length) = some (npM 108) := pd_11
theorem mt_108 : MtP 108 := ⟨rfl, Or.inr ma_108, fun _ => Or.inr mb_108, fun h => absurd h (by decide), fun h => absurd h (by decide), me_108⟩
set_option maxRecDepth 1000000 in
theorem ma_109 : cwM 109 ∈ lw_tbl := kcD_120_in _ (List.mem_of_getElem? (i := 32) rfl)
set_option maxRecDepth 1000000 in
theorem mb_109 : Cond.static (yM 109) ∈ lw_tbl := ksT_0_in _ (List.mem_of_getElem? (i := 53) rfl)
set_option maxRecDepth 1000000 in
theorem me_109 : (parseMethodDescriptor (yM 109).desc).map (fun d => d.parameters.length) = some (npM 109) := pd_11
theorem mt_109 : MtP 109 := ⟨rfl, Or.inr ma_109, fun _ => Or.inr mb_109, fun h => absurd h (by decide), fun h => absurd h (by decide), me_109⟩
set_option maxRecDepth 1000000 in
theorem ma_110 : cwM 110 ∈ lw_tbl := kcD_120_in _ (List.mem_of_getElem? (i := 33) rfl)
set_option maxRecDepth 1000000 in
theorem mb_110 : Cond.static (yM 110) ∈ lw_tbl := ksT_0_in _ (List.mem_of_getElem? (i := 54) rfl)
set_option maxRecDepth 1000000 in
theorem me_110 : (parseMethodDescriptor (yM 110).desc).map (fun d => d.parameters.length) = some (npM 110) := pd_8
theorem mt_110 : MtP 110 := ⟨rfl, Or.inr ma_110, fun _ => Or.inr mb_110, fun h => absurd h (by decide), fun h => absurd h (by decide), me_110⟩
set_option maxRecDepth 1000000 in
theorem ma_111 : cwM 111 ∈ lw_tbl := kcD_180_in _ (List.mem_of_getElem? (i := 0) rfl)
set_option maxRecDepth 1000000 in
theorem mb_111 : Cond.static (yM 111) ∈ lw_tbl := ksT_0_in _ (List.mem_of_getElem? (i := 56) rfl)
set_option maxRecDepth 1000000 in
theorem me_111 : (parseMethodDescriptor (yM 111).desc).map (fun d => d.parameters.length) = some (npM 111) := pd_8
theorem mt_111 : MtP 111 := ⟨rfl, Or.inr ma_111, fun _ => Or.inr mb_111, fun h => absurd h (by decide), fun h => absurd h (by decide), me_111⟩
set_option maxRecDepth 1000000 in
theorem ma_112 : cwM 112 ∈ lw_tbl := kcD_120_in _ (List.mem_of_getElem? (i := 35) rfl)
set_option maxRecDepth 1000000 in
theorem mb_112 : Cond.instanceMethod (yM 112) ∈ lw_tbl := kiN_60_in _ (List.mem_of_getElem? (i := 43) rfl)
set_option maxRecDepth 1000000 in
theorem md_112 : Cond.selects (owM 112) (yM 112) (yM 112) ∈ lw_tbl := kxL_0_in _ (List.mem_of_getElem? (i := 44) rfl)
set_option maxRecDepth 1000000 in
theorem me_112 : (parseMethodDescriptor (yM 112).desc).map (fun d => d.parameters.length) = some (npM 112) := pd_3
theorem mt_112 : MtP 112 := ⟨rfl, Or.inr ma_112, fun h => absurd h (by decide), fun _ => ⟨mb_112, md_112⟩, fun h => absurd h (by decide), me_112⟩
set_option maxRecDepth 1000000 in
theorem ma_113 : cwM 113 ∈ lw_tbl := kcD_120_in _ (List.mem_of_getElem? (i := 50) rfl)
set_option maxRecDepth 1000000 in
theorem mb_113 : Cond.instanceMethod (yM 113) ∈ lw_tbl := kiN_60_in _ (List.mem_of_getElem? (i := 57) rfl)
set_option maxRecDepth 1000000 in
theorem md_113 : Cond.selects (owM 113) (yM 113) (yM 113) ∈ lw_tbl := kxL_0_in _ (List.mem_of_getElem? (i := 58) rfl)
set_option maxRecDepth 1000000 in
theorem me_113 : (parseMethodDescriptor (yM 113).desc).map (fun d => d.parameters.length) = some (npM 113) := pd_2
theorem mt_113 : MtP 113 := ⟨rfl, Or.inr ma_113, fun h => absurd h (by decide), fun _ => ⟨mb_113, md_113⟩, fun h => absurd h (by decide), me_113⟩
set_option maxRecDepth 1000000 in
theorem ma_114 : cwM 114 ∈ lw_tbl := kcD_120_in _ (List.mem_of_getElem? (i := 34) rfl)
set_option maxRecDepth 1000000 in
theorem mb_114 : Cond.instanceMethod (yM 114) ∈ lw_tbl := kiN_60_in _ (List.mem_of_getElem? (i := 42) rfl)
set_option maxRecDepth 1000000 in
theorem md_114 : Cond.selects (owM 114) (yM 114) (yM 114) ∈ lw_tbl := kxL_0_in _ (List.mem_of_getElem? (i := 43) rfl)
set_option maxRecDepth 1000000 in
theorem me_114 : (parseMethodDescriptor (yM 114).desc).map (fun d => d.parameters.length) = some (npM 114) := pd_3
theorem mt_114 : MtP 114 := ⟨rfl, Or.inr ma_114, fun h => absurd h (by decide), fun _ => ⟨mb_114, md_114⟩, fun h => absurd h (by decide), me_114⟩
set_option maxRecDepth 1000000 in
theorem ma_115 : cwM 115 ∈ lw_tbl := kcD_120_in _ (List.mem_of_getElem? (i := 46) rfl)
set_option maxRecDepth 1000000 in
theorem mb_115 : Cond.instanceMethod (yM 115) ∈ lw_tbl := kiN_60_in _ (List.mem_of_getElem? (i := 53) rfl)
set_option maxRecDepth 1000000 in
theorem md_115 : Cond.selects (owM 115) (yM 115) (yM 115) ∈ lw_tbl := kxL_0_in _ (List.mem_of_getElem? (i := 54) rfl)
set_option maxRecDepth 1000000 in
theorem me_115 : (parseMethodDescriptor (yM 115).desc).map (fun d => d.parameters.length) = some (npM 115) := pd_8
theorem mt_115 : MtP 115 := ⟨rfl, Or.inr ma_115, fun h => absurd h (by decide), fun _ => ⟨mb_115, md_115⟩, fun h => absurd h (by decide), me_115⟩
set_option maxRecDepth 1000000 in
theorem ma_116 : cwM 116 ∈ lw_tbl := kcD_120_in _ (List.mem_of_getElem? (i := 45) rfl)
set_option maxRecDepth 1000000 in
theorem mb_116 : Cond.instanceMethod (yM 116) ∈ lw_tbl := kiN_60_in _ (List.mem_of_getElem? (i := 52) rfl)
set_option maxRecDepth 1000000 in
theorem md_116 : Cond.selects (owM 116) (yM 116) (yM 116) ∈ lw_tbl := kxL_0_in _ (List.mem_of_getElem? (i := 53) rfl)
set_option maxRecDepth 1000000 in
theorem me_116 : (parseMethodDescriptor (yM 116).desc).map (fun d => d.parameters.length) = some (npM 116) := pd_3
theorem mt_116 : MtP 116 := ⟨rfl, Or.inr ma_116, fun h => absurd h (by decide), fun _ => ⟨mb_116, md_116⟩, fun h => absurd h (by decide), me_116⟩
set_option maxRecDepth 1000000 in
theorem ma_117 : cwM 117 ∈ lw_tbl := kcD_120_in _ (List.mem_of_getElem? (i := 49) rfl)
set_option maxRecDepth 1000000 in
theorem mb_117 : Cond.instanceMethod (yM 117) ∈ lw_tbl := kiN_60_in _ (List.mem_of_getElem? (i := 56) rfl)
set_option maxRecDepth 1000000 in
theorem md_117 : Cond.selects (owM 117) (yM 117) (yM 117) ∈ lw_tbl := kxL_0_in _ (List.mem_of_getElem? (i := 57) rfl)
set_option maxRecDepth 1000000 in
theorem me_117 : (parseMethodDescriptor (yM 117).desc).map (fun d => d.parameters.length) = some (npM 117) := pd_2
theorem mt_117 : MtP 117 := ⟨rfl, Or.inr ma_117, fun h => absurd h (by decide), fun _ => ⟨mb_117, md_117⟩, fun h => absurd h (by decide), me_117⟩
set_option maxRecDepth 1000000 in
theorem ma_118 : cwM 118 ∈ lw_tbl := kcD_120_in _ (List.mem_of_getElem? (i := 52) rfl)
set_option maxRecDepth 1000000 in
theorem mb_118 : Cond.instanceMethod (yM 118) ∈ lw_tbl := kiN_60_in _ (List.mem_of_getElem? (i := 59) rfl)
set_option maxRecDepth 1000000 in
theorem md_118 : Cond.selects (owM 118) (yM 118) (yM 118) ∈ lw_tbl := kxL_60_in _ (List.mem_of_getElem? (i := 0) rfl)
set_option maxRecDepth 1000000 in
theorem me_118 : (parseMethodDescriptor (yM 118).desc).map (fun d => d.parameters.length) = some (npM 118) := pd_21
theorem mt_118 : MtP 118 := ⟨rfl, Or.inr ma_118, fun h => absurd h (by decide), fun _ => ⟨mb_118, md_118⟩, fun h => absurd h (by decide), me_118⟩
set_option maxRecDepth 1000000 in
theorem ma_119 : cwM 119 ∈ lw_tbl := kcD_120_in _ (List.mem_of_getElem? (i := 51) rfl)
set_option maxRecDepth 1000000 in
theorem mb_119 : Cond.instanceMethod (yM 119) ∈ lw_tbl := kiN_60_in _ (List.mem_of_getElem? (i := 58) rfl)
set_option maxRecDepth 1000000 in
theorem md_119 : Cond.selects (owM 119) (yM 119) (yM 119) ∈ lw_tbl := kxL_0_in _ (List.mem_of_getElem? (i := 59) rfl)
set_option maxRecDepth 1000000 in
theorem me_119 : (parseMethodDescriptor (yM 119).desc).map (fun d => d.parameters.length) = some (npM 119) := pd_0
theorem mt_119 : MtP 119 := ⟨rfl, Or.inr ma_119, fun h => absurd h (by decide), fun _ => ⟨mb_119, md_119⟩, fun h => absurd h (by decide), me_119⟩
set_option maxRecDepth 1000000 in
theorem ma_120 : cwM 120 ∈ lw_tbl := kcD_120_in _ (List.mem_of_getElem? (i := 47) rfl)
set_option maxRecDepth 1000000 in
theorem mb_120 : Cond.instanceMethod (yM 120) ∈ lw_tbl := kiN_60_in _ (List.mem_of_getElem? (i := 54) rfl)
set_option maxRecDepth 1000000 in
theorem md_120 : Cond.selects (owM 120) (yM 120) (yM 120) ∈ lw_tbl := kxL_0_in _ (List.mem_of_getElem? (i := 55) rfl)
set_option maxRecDepth 1000000 in
theorem me_120 : (parseMethodDescriptor (yM 120).desc).map (fun d => d.parameters.length) = some (npM 120) := pd_23
theorem mt_120 : MtP 120 := ⟨rfl, Or.inr ma_120, fun h => absurd h (by decide), fun _ => ⟨mb_120, md_120⟩, fun h => absurd h (by decide), me_120⟩
set_option maxRecDepth 1000000 in
theorem ma_121 : cwM 121 ∈ lw_tbl := kcD_120_in _ (List.mem_of_getElem? (i := 48) rfl)
set_option maxRecDepth 1000000 in
theorem mb_121 : Cond.instanceMethod (yM 121) ∈ lw_tbl := kiN_60_in _ (List.mem_of_getElem? (i := 55) rfl)
set_option maxRecDepth 1000000 in
theorem md_121 : Cond.selects (owM 121) (yM 121) (yM 121) ∈ lw_tbl := kxL_0_in _ (List.mem_of_getElem? (i := 56) rfl)
set_option maxRecDepth 1000000 in
theorem me_121 : (parseMethodDescriptor (yM 121).desc).map (fun d => d.parameters.length) = some (npM 121) := pd_24
theorem mt_121 : MtP 121 := ⟨rfl, Or.inr ma_121, fun h => absurd h (by decide), fun _ => ⟨mb_121, md_121⟩, fun h => absurd h (by decide), me_121⟩
set_option maxRecDepth 1000000 in
theorem ma_122 : cwM 122 ∈ lw_tbl := kcD_120_in _ (List.mem_of_getElem? (i := 43) rfl)
set_option maxRecDepth 1000000 in
theorem mb_122 : Cond.instanceMethod (yM 122) ∈ lw_tbl := kiN_60_in _ (List.mem_of_getElem? (i := 51) rfl)
set_option maxRecDepth 1000000 in
theorem md_122 : Cond.selects (owM 122) (yM 122) (yM 122) ∈ lw_tbl := kxL_0_in _ (List.mem_of_getElem? (i := 52) rfl)
set_option maxRecDepth 1000000 in
theorem me_122 : (parseMethodDescriptor (yM 122).desc).map (fun d => d.parameters.length) = some (npM 122) := pd_11
theorem mt_122 : MtP 122 := ⟨rfl, Or.inr ma_122, fun h => absurd h (by decide), fun _ => ⟨mb_122, md_122⟩, fun h => absurd h (by decide), me_122⟩
set_option maxRecDepth 1000000 in
theorem ma_123 : cwM 123 ∈ lw_tbl := kcD_120_in _ (List.mem_of_getElem? (i := 44) rfl)
set_option maxRecDepth 1000000 in
theorem mb_123 : Cond.static (yM 123) ∈ lw_tbl := ksT_0_in _ (List.mem_of_getElem? (i := 55) rfl)
set_option maxRecDepth 1000000 in
theorem me_123 : (parseMethodDescriptor (yM 123).desc).map (fun d => d.parameters.length) = some (npM 123) := pd_13
theorem mt_123 : MtP 123 := ⟨rfl, Or.inr ma_123, fun _ => Or.inr mb_123, fun h => absurd h (by decide), fun h => absurd h (by decide), me_123⟩
set_option maxRecDepth 1000000 in
theorem ma_124 : cwM 124 ∈ lw_tbl := kcD_120_in _ (List.mem_of_getElem? (i := 42) rfl)
set_option maxRecDepth 1000000 in
theorem mb_124 : Cond.instanceMethod (yM 124) ∈ lw_tbl := kiN_60_in _ (List.mem_of_getElem? (i := 50) rfl)
set_option maxRecDepth 1000000 in
theorem md_124 : Cond.selects (owM 124) (yM 124) (yM 124) ∈ lw_tbl := kxL_0_in _ (List.mem_of_getElem? (i := 51) rfl)
set_option maxRecDepth 1000000 in
theorem me_124 : (parseMethodDescriptor (yM 124).desc).map (fun d => d.parameters.length) = some (npM 124) := pd_3
theorem mt_124 : MtP 124 := ⟨rfl, Or.inr ma_124, fun h => absurd h (by decide), fun _ => ⟨mb_124, md_124⟩, fun h => absurd h (by decide), me_124⟩
set_option maxRecDepth 1000000 in
theorem ma_125 : cwM 125 ∈ lw_tbl := kcD_120_in _ (List.mem_of_getElem? (i := 40) rfl)
set_option maxRecDepth 1000000 in
theorem mb_125 : Cond.instanceMethod (yM 125) ∈ lw_tbl := kiN_60_in _ (List.mem_of_getElem? (i := 48) rfl)
set_option maxRecDepth 1000000 in
theorem md_125 : Cond.selects (owM 125) (yM 125) (yM 125) ∈ lw_tbl := kxL_0_in _ (List.mem_of_getElem? (i := 49) rfl)
set_option maxRecDepth 1000000 in
theorem me_125 : (parseMethodDescriptor (yM 125).desc).map (fun d => d.parameters.length) = some (npM 125) := pd_6
theorem mt_125 : MtP 125 := ⟨rfl, Or.inr ma_125, fun h => absurd h (by decide), fun _ => ⟨mb_125, md_125⟩, fun h => absurd h (by decide), me_125⟩
set_option maxRecDepth 1000000 in
theorem ma_126 : cwM 126 ∈ lw_tbl := kcD_120_in _ (List.mem_of_getElem? (i := 41) rfl)
set_option maxRecDepth 1000000 in
theorem mb_126 : Cond.instanceMethod (yM 126) ∈ lw_tbl := kiN_60_in _ (List.mem_of_getElem? (i := 49) rfl)
set_option maxRecDepth 1000000 in
theorem md_126 : Cond.selects (owM 126) (yM 126) (yM 126) ∈ lw_tbl := kxL_0_in _ (List.mem_of_getElem? (i := 50) rfl)
set_option maxRecDepth 1000000 in
theorem me_126 : (parseMethodDescriptor (yM 126).desc).map (fun d => d.parameters.length) = some (npM 126) := pd_3
theorem mt_126 : MtP 126 := ⟨rfl, Or.inr ma_126, fun h => absurd h (by decide), fun _ => ⟨mb_126, md_126⟩, fun h => absurd h (by decide), me_126⟩
set_option maxRecDepth 1000000 in
theorem ma_127 : cwM 127 ∈ lw_tbl := kcD_120_in _ (List.mem_of_getElem? (i := 39) rfl)
set_option maxRecDepth 1000000 in
theorem mb_127 : Cond.instanceMethod (yM 127) ∈ lw_tbl := kiN_60_in _ (List.mem_of_getElem? (i := 47) rfl)
set_option maxRecDepth 1000000 in
theorem md_127 : Cond.selects (owM 127) (yM 127) (yM 127) ∈ lw_tbl := kxL_0_in _ (List.mem_of_getElem? (i := 48) rfl)
set_option maxRecDepth 1000000 in
theorem me_127 : (parseMethodDescriptor (yM 127).desc).map (fun d => d.parameters.length) = some (npM 127) := pd_12
theorem mt_127 : MtP 127 := ⟨rfl, Or.inr ma_127, fun h => absurd h (by decide), fun _ => ⟨mb_127, md_127⟩, fun h => absurd h (by decide), me_127⟩
set_option maxRecDepth 1000000 in
theorem ma_128 : cwM 128 ∈ lw_tbl := kcD_120_in _ (List.mem_of_getElem? (i := 54) rfl)
set_option maxRecDepth 1000000 in
theorem mb_128 : Cond.instanceMethod (yM 128) ∈ lw_tbl := kiN_120_in _ (List.mem_of_getElem? (i := 1) rfl)
set_option maxRecDepth 1000000 in
theorem md_128 : Cond.selects (owM 128) (yM 128) (yM 128) ∈ lw_tbl := kxL_60_in _ (List.mem_of_getElem? (i := 1) rfl)
set_option maxRecDepth 1000000 in
theorem me_128 : (parseMethodDescriptor (yM 128).desc).map (fun d => d.parameters.length) = some (npM 128) := pd_3
theorem mt_128 : MtP 128 := ⟨rfl, Or.inr ma_128, fun h => absurd h (by decide), fun _ => ⟨mb_128, md_128⟩, fun h => absurd h (by decide), me_128⟩
set_option maxRecDepth 1000000 in
theorem ma_129 : cwM 129 ∈ lw_tbl := kcD_120_in _ (List.mem_of_getElem? (i := 56) rfl)
set_option maxRecDepth 1000000 in
theorem mb_129 : Cond.instanceMethod (yM 129) ∈ lw_tbl := kiN_120_in _ (List.mem_of_getElem? (i := 3) rfl)
set_option maxRecDepth 1000000 in
theorem md_129 : Cond.selects (owM 129) (yM 129) (yM 129) ∈ lw_tbl := kxL_60_in _ (List.mem_of_getElem? (i := 2) rfl)
set_option maxRecDepth 1000000 in
theorem me_129 : (parseMethodDescriptor (yM 129).desc).map (fun d => d.parameters.length) = some (npM 129) := pd_5
theorem mt_129 : MtP 129 := ⟨rfl, Or.inr ma_129, fun h => absurd h (by decide), fun _ => ⟨mb_129, md_129⟩, fun h => absurd h (by decide), me_129⟩
set_option maxRecDepth 1000000 in
theorem ma_130 : cwM 130 ∈ lw_tbl := kcD_120_in _ (List.mem_of_getElem? (i := 58) rfl)
set_option maxRecDepth 1000000 in
theorem mb_130 : Cond.instanceMethod (yM 130) ∈ lw_tbl := kiN_120_in _ (List.mem_of_getElem? (i := 5) rfl)
set_option maxRecDepth 1000000 in
theorem md_130 : Cond.selects (owM 130) (yM 130) (yM 130) ∈ lw_tbl := kxL_60_in _ (List.mem_of_getElem? (i := 3) rfl)
set_option maxRecDepth 1000000 in
theorem me_130 : (parseMethodDescriptor (yM 130).desc).map (fun d => d.parameters.length) = some (npM 130) := pd_13
theorem mt_130 : MtP 130 := ⟨rfl, Or.inr ma_130, fun h => absurd h (by decide), fun _ => ⟨mb_130, md_130⟩, fun h => absurd h (by decide), me_130⟩
set_option maxRecDepth 1000000 in
theorem ma_131 : cwM 131 ∈ lw_tbl := kcD_180_in _ (List.mem_of_getElem? (i := 5) rfl)
set_option maxRecDepth 1000000 in
theorem mb_131 : Cond.instanceMethod (yM 131) ∈ lw_tbl := kiN_120_in _ (List.mem_of_getElem? (i := 11) rfl)
set_option maxRecDepth 1000000 in
theorem md_131 : Cond.selects (owM 131) (yM 131) (yM 131) ∈ lw_tbl := kxL_60_in _ (List.mem_of_getElem? (i := 4) rfl)
set_option maxRecDepth 1000000 in
theorem me_131 : (parseMethodDescriptor (yM 131).desc).map (fun d => d.parameters.length) = some (npM 131) := pd_5
theorem mt_131 : MtP 131 := ⟨rfl, Or.inr ma_131, fun h => absurd h (by decide), fun _ => ⟨mb_131, md_131⟩, fun h => absurd h (by decide), me_131⟩
set_option maxRecDepth 1000000 in
theorem ma_132 : cwM 132 ∈ lw_tbl := kcD_120_in _ (List.mem_of_getElem? (i := 38) rfl)
set_option maxRecDepth 1000000 in
theorem mb_132 : Cond.instanceMethod (yM 132) ∈ lw_tbl := kiN_60_in _ (List.mem_of_getElem? (i := 46) rfl)
set_option maxRecDepth 1000000 in
theorem md_132 : Cond.selects (owM 132) (yM 132) (yM 132) ∈ lw_tbl := kxL_0_in _ (List.mem_of_getElem? (i := 47) rfl)
set_option maxRecDepth 1000000 in
theorem me_132 : (parseMethodDescriptor (yM 132).desc).map (fun d => d.parameters.length) = some (npM 132) := pd_21
theorem mt_132 : MtP 132 := ⟨rfl, Or.inr ma_132, fun h => absurd h (by decide), fun _ => ⟨mb_132, md_132⟩, fun h => absurd h (by decide), me_132⟩
set_option maxRecDepth 1000000 in
theorem ma_133 : cwM 133 ∈ lw_tbl := kcD_120_in _ (List.mem_of_getElem? (i := 37) rfl)
set_option maxRecDepth 1000000 in
theorem mb_133 : Cond.instanceMethod (yM 133) ∈ lw_tbl := kiN_60_in _ (List.mem_of_getElem? (i := 45) rfl)
set_option maxRecDepth 1000000 in
theorem md_133 : Cond.selects (owM 133) (yM 133) (yM 133) ∈ lw_tbl := kxL_0_in _ (List.mem_of_getElem? (i := 46) rfl)
set_option maxRecDepth 1000000 in
theorem me_133 : (parseMethodDescriptor (yM 133).desc).map (fun d => d.parameters.length) = some (npM 133) := pd_0
theorem mt_133 : MtP 133 := ⟨rfl, Or.inr ma_133, fun h => absurd h (by decide), fun _ => ⟨mb_133, md_133⟩, fun h => absurd h (by decide), me_133⟩
set_option maxRecDepth 1000000 in
theorem ma_134 : cwM 134 ∈ lw_tbl := kcD_120_in _ (List.mem_of_getElem? (i := 29) rfl)
set_option maxRecDepth 1000000 in
theorem mb_134 : Cond.instanceMethod (yM 134) ∈ lw_tbl := kiN_60_in _ (List.mem_of_getElem? (i := 41) rfl)
set_option maxRecDepth 1000000 in
theorem md_134 : Cond.selects (owM 134) (yM 134) (yM 134) ∈ lw_tbl := kxL_120_in _ (List.mem_of_getElem? (i := 7) rfl)
set_option maxRecDepth 1000000 in
theorem me_134 : (parseMethodDescriptor (yM 134).desc).map (fun d => d.parameters.length) = some (npM 134) := pd_19
theorem mt_134 : MtP 134 := ⟨rfl, Or.inr ma_134, fun h => absurd h (by decide), fun _ => ⟨mb_134, md_134⟩, fun h => absurd h (by decide), me_134⟩
set_option maxRecDepth 1000000 in
theorem ma_135 : cwM 135 ∈ lw_tbl := kcD_120_in _ (List.mem_of_getElem? (i := 53) rfl)
set_option maxRecDepth 1000000 in
theorem mb_135 : Cond.instanceMethod (yM 135) ∈ lw_tbl := kiN_120_in _ (List.mem_of_getElem? (i := 0) rfl)
set_option maxRecDepth 1000000 in
theorem md_135 : Cond.selects (owM 135) (yM 135) (yM 135) ∈ lw_tbl := kxL_120_in _ (List.mem_of_getElem? (i := 8) rfl)
set_option maxRecDepth 1000000 in
theorem me_135 : (parseMethodDescriptor (yM 135).desc).map (fun d => d.parameters.length) = some (npM 135) := pd_13
theorem mt_135 : MtP 135 := ⟨rfl, Or.inr ma_135, fun h => absurd h (by decide), fun _ => ⟨mb_135, md_135⟩, fun h => absurd h (by decide), me_135⟩
set_option maxRecDepth 1000000 in
theorem ma_136 : cwM 136 ∈ lw_tbl := kcD_120_in _ (List.mem_of_getElem? (i := 55) rfl)
set_option maxRecDepth 1000000 in
theorem mb_136 : Cond.instanceMethod (yM 136) ∈ lw_tbl := kiN_120_in _ (List.mem_of_getElem? (i := 2) rfl)
set_option maxRecDepth 1000000 in
theorem md_136 : Cond.selects (owM 136) (yM 136) (yM 136) ∈ lw_tbl := kxL_120_in _ (List.mem_of_getElem? (i := 9) rfl)
set_option maxRecDepth 1000000 in
theorem me_136 : (parseMethodDescriptor (yM 136).desc).map (fun d => d.parameters.length) = some (npM 136) := pd_3
theorem mt_136 : MtP 136 := ⟨rfl, Or.inr ma_136, fun h => absurd h (by decide), fun _ => ⟨mb_136, md_136⟩, fun h => absurd h (by decide), me_136⟩
set_option maxRecDepth 1000000 in
theorem ma_137 : cwM 137 ∈ lw_tbl := kcD_120_in _ (List.mem_of_getElem? (i := 57) rfl)
set_option maxRecDepth 1000000 in
theorem mb_137 : Cond.instanceMethod (yM 137) ∈ lw_tbl := kiN_120_in _ (List.mem_of_getElem? (i := 4) rfl)
set_option maxRecDepth 1000000 in
theorem md_137 : Cond.selects (owM 137) (yM 137) (yM 137) ∈ lw_tbl := kxL_120_in _ (List.mem_of_getElem? (i := 10) rfl)
set_option maxRecDepth 1000000 in
theorem me_137 : (parseMethodDescriptor (yM 137).desc).map (fun d => d.parameters.length) = some (npM 137) := pd_12
theorem mt_137 : MtP 137 := ⟨rfl, Or.inr ma_137, fun h => absurd h (by decide), fun _ => ⟨mb_137, md_137⟩, fun h => absurd h (by decide), me_137⟩
set_option maxRecDepth 1000000 in
theorem ma_138 : cwM 138 ∈ lw_tbl := kcD_120_in _ (List.mem_of_getElem? (i := 59) rfl)
set_option maxRecDepth 1000000 in
theorem mb_138 : Cond.instanceMethod (yM 138) ∈ lw_tbl := kiN_120_in _ (List.mem_of_getElem? (i := 6) rfl)
set_option maxRecDepth 1000000 in
theorem md_138 : Cond.selects (owM 138) (yM 138) (yM 138) ∈ lw_tbl := kxL_120_in _ (List.mem_of_getElem? (i := 11) rfl)
set_option maxRecDepth 1000000 in
theorem me_138 : (parseMethodDescriptor (yM 138).desc).map (fun d => d.parameters.length) = some (npM 138) := pd_12
theorem mt_138 : MtP 138 := ⟨rfl, Or.inr ma_138, fun h => absurd h (by decide), fun _ => ⟨mb_138, md_138⟩, fun h => absurd h (by decide), me_138⟩
set_option maxRecDepth 1000000 in
theorem ma_139 : cwM 139 ∈ lw_tbl := kcD_180_in _ (List.mem_of_getElem? (i := 1) rfl)
set_option maxRecDepth 1000000 in
theorem mb_139 : Cond.instanceMethod (yM 139) ∈ lw_tbl := kiN_120_in _ (List.mem_of_getElem? (i := 7) rfl)
set_option maxRecDepth 1000000 in
theorem md_139 : Cond.selects (owM 139) (yM 139) (yM 139) ∈ lw_tbl := kxL_120_in _ (List.mem_of_getElem? (i := 12) rfl)
set_option maxRecDepth 1000000 in
theorem me_139 : (parseMethodDescriptor (yM 139).desc).map (fun d => d.parameters.length) = some (npM 139) := pd_3
theorem mt_139 : MtP 139 := ⟨rfl, Or.inr ma_139, fun h => absurd h (by decide), fun _ => ⟨mb_139, md_139⟩, fun h => absurd h (by decide), me_139⟩
set_option maxRecDepth 1000000 in
theorem ma_140 : cwM 140 ∈ lw_tbl := kcD_180_in _ (List.mem_of_getElem? (i := 2) rfl)
set_option maxRecDepth 1000000 in
theorem mb_140 : Cond.instanceMethod (yM 140) ∈ lw_tbl := kiN_120_in _ (List.mem_of_getElem? (i := 8) rfl)
set_option maxRecDepth 1000000 in
theorem md_140 : Cond.selects (owM 140) (yM 140) (yM 140) ∈ lw_tbl := kxL_120_in _ (List.mem_of_getElem? (i := 13) rfl)
set_option maxRecDepth 1000000 in
theorem me_140 : (parseMethodDescriptor (yM 140).desc).map (fun d => d.parameters.length) = some (npM 140) := pd_3
theorem mt_140 : MtP 140 := ⟨rfl, Or.inr ma_140, fun h => absurd h (by decide), fun _ => ⟨mb_140, md_140⟩, fun h => absurd h (by decide), me_140⟩
set_option maxRecDepth 1000000 in
theorem ma_141 : cwM 141 ∈ lw_tbl := kcD_180_in _ (List.mem_of_getElem? (i := 3) rfl)
set_option maxRecDepth 1000000 in
theorem mb_141 : Cond.instanceMethod (yM 141) ∈ lw_tbl := kiN_120_in _ (List.mem_of_getElem? (i := 9) rfl)
set_option maxRecDepth 1000000 in
theorem md_141 : Cond.selects (owM 141) (yM 141) (yM 141) ∈ lw_tbl := kxL_120_in _ (List.mem_of_getElem? (i := 14) rfl)
set_option maxRecDepth 1000000 in
theorem me_141 : (parseMethodDescriptor (yM 141).desc).map (fun d => d.parameters.length) = some (npM 141) := pd_20
theorem mt_141 : MtP 141 := ⟨rfl, Or.inr ma_141, fun h => absurd h (by decide), fun _ => ⟨mb_141, md_141⟩, fun h => absurd h (by decide), me_141⟩
set_option maxRecDepth 1000000 in
theorem ma_142 : cwM 142 ∈ lw_tbl := kcD_180_in _ (List.mem_of_getElem? (i := 4) rfl)
set_option maxRecDepth 1000000 in
theorem mb_142 : Cond.instanceMethod (yM 142) ∈ lw_tbl := kiN_120_in _ (List.mem_of_getElem? (i := 10) rfl)
set_option maxRecDepth 1000000 in
theorem md_142 : Cond.selects (owM 142) (yM 142) (yM 142) ∈ lw_tbl := kxL_120_in _ (List.mem_of_getElem? (i := 15) rfl)
set_option maxRecDepth 1000000 in
theorem me_142 : (parseMethodDescriptor (yM 142).desc).map (fun d => d.parameters.length) = some (npM 142) := pd_5
theorem mt_142 : MtP 142 := ⟨rfl, Or.inr ma_142, fun h => absurd h (by decide), fun _ => ⟨mb_142, md_142⟩, fun h => absurd h (by decide), me_142⟩
set_option maxRecDepth 1000000 in
theorem ma_143 : cwM 143 ∈ lw_tbl := kcD_180_in _ (List.mem_of_getElem? (i := 6) rfl)
set_option maxRecDepth 1000000 in
theorem mb_143 : Cond.instanceMethod (yM 143) ∈ lw_tbl := kiN_120_in _ (List.mem_of_getElem? (i := 12) rfl)
set_option maxRecDepth 1000000 in
theorem md_143 : Cond.selects (owM 143) (yM 143) (yM 143) ∈ lw_tbl := kxL_120_in _ (List.mem_of_getElem? (i := 16) rfl)
set_option maxRecDepth 1000000 in
theorem me_143 : (parseMethodDescriptor (yM 143).desc).map (fun d => d.parameters.length) = some (npM 143) := pd_5
theorem mt_143 : MtP 143 := ⟨rfl, Or.inr ma_143, fun h => absurd h (by decide), fun _ => ⟨mb_143, md_143⟩, fun h => absurd h (by decide), me_143⟩
set_option maxRecDepth 1000000 in
theorem ma_144 : cwM 144 ∈ lw_tbl := kcD_180_in _ (List.mem_of_getElem? (i := 7) rfl)
set_option maxRecDepth 1000000 in
theorem mb_144 : Cond.instanceMethod (yM 144) ∈ lw_tbl := kiN_120_in _ (List.mem_of_getElem? (i := 13) rfl)
set_option maxRecDepth 1000000 in
theorem md_144 : Cond.selects (owM 144) (yM 144) (yM 144) ∈ lw_tbl := kxL_120_in _ (List.mem_of_getElem? (i := 17) rfl)
set_option maxRecDepth 1000000 in
theorem me_144 : (parseMethodDescriptor (yM 144).desc).map (fun d => d.parameters.length) = some (npM 144) := pd_15
theorem mt_144 : MtP 144 := ⟨rfl, Or.inr ma_144, fun h => absurd h (by decide), fun _ => ⟨mb_144, md_144⟩, fun h => absurd h (by decide), me_144⟩
set_option maxRecDepth 1000000 in
theorem ma_145 : cwM 145 ∈ lw_tbl := kcD_180_in _ (List.mem_of_getElem? (i := 11) rfl)
set_option maxRecDepth 1000000 in
theorem mb_145 : Cond.instanceMethod (yM 145) ∈ lw_tbl := kiN_120_in _ (List.mem_of_getElem? (i := 17) rfl)
set_option maxRecDepth 1000000 in
theorem md_145 : Cond.selects (owM 145) (yM 145) (yM 145) ∈ lw_tbl := kxL_60_in _ (List.mem_of_getElem? (i := 7) rfl)
set_option maxRecDepth 1000000 in
theorem me_145 : (parseMethodDescriptor (yM 145).desc).map (fun d => d.parameters.length) = some (npM 145) := pd_15
theorem mt_145 : MtP 145 := ⟨rfl, Or.inr ma_145, fun h => absurd h (by decide), fun _ => ⟨mb_145, md_145⟩, fun h => absurd h (by decide), me_145⟩
set_option maxRecDepth 1000000 in
theorem ma_146 : cwM 146 ∈ lw_tbl := kcD_180_in _ (List.mem_of_getElem? (i := 12) rfl)
set_option maxRecDepth 1000000 in
theorem mb_146 : Cond.instanceMethod (yM 146) ∈ lw_tbl := kiN_120_in _ (List.mem_of_getElem? (i := 18) rfl)
set_option maxRecDepth 1000000 in
theorem md_146 : Cond.selects (owM 146) (yM 146) (yM 146) ∈ lw_tbl := kxL_60_in _ (List.mem_of_getElem? (i := 8) rfl)
set_option maxRecDepth 1000000 in
theorem me_146 : (parseMethodDescriptor (yM 146).desc).map (fun d => d.parameters.length) = some (npM 146) := pd_11
theorem mt_146 : MtP 146 := ⟨rfl, Or.inr ma_146, fun h => absurd h (by decide), fun _ => ⟨mb_146, md_146⟩, fun h => absurd h (by decide), me_146⟩
set_option maxRecDepth 1000000 in
theorem ma_147 : cwM 147 ∈ lw_tbl := kcD_180_in _ (List.mem_of_getElem? (i := 14) rfl)
set_option maxRecDepth 1000000 in
theorem mb_147 : Cond.instanceMethod (yM 147) ∈ lw_tbl := kiN_120_in _ (List.mem_of_getElem? (i := 19) rfl)
set_option maxRecDepth 1000000 in
theorem md_147 : Cond.selects (owM 147) (yM 147) (yM 147) ∈ lw_tbl := kxL_60_in _ (List.mem_of_getElem? (i := 9) rfl)
set_option maxRecDepth 1000000 in
theorem me_147 : (parseMethodDescriptor (yM 147).desc).map (fun d => d.parameters.length) = some (npM 147) := pd_3
theorem mt_147 : MtP 147 := ⟨rfl, Or.inr ma_147, fun h => absurd h (by decide), fun _ => ⟨mb_147, md_147⟩, fun h => absurd h (by decide), me_147⟩
set_option maxRecDepth 1000000 in
theorem ma_148 : cwM 148 ∈ lw_tbl := kcD_180_in _ (List.mem_of_getElem? (i := 13) rfl)
set_option maxRecDepth 1000000 in
theorem mb_148 : Cond.static (yM 148) ∈ lw_tbl := ksT_0_in _ (List.mem_of_getElem? (i := 57) rfl)
set_option maxRecDepth 1000000 in
theorem me_148 : (parseMethodDescriptor (yM 148).desc).map (fun d => d.parameters.length) = some (npM 148) := pd_3
theorem mt_148 : MtP 148 := ⟨rfl, Or.inr ma_148, fun _ => Or.inr mb_148, fun h => absurd h (by decide), fun h => absurd h (by decide), me_148⟩
set_option maxRecDepth 1000000 in
theorem ma_149 : cwM 149 ∈ lw_tbl := kcD_180_in _ (List.mem_of_getElem? (i := 10) rfl)
set_option maxRecDepth 1000000 in
theorem mb_149 : Cond.instanceMethod (yM 149) ∈ lw_tbl := kiN_120_in _ (List.mem_of_getElem? (i := 16) rfl)
set_option maxRecDepth 1000000 in
theorem md_149 : Cond.selects (owM 149) (yM 149) (yM 149) ∈ lw_tbl := kxL_60_in _ (List.mem_of_getElem? (i := 6) rfl)
set_option maxRecDepth 1000000 in
theorem me_149 : (parseMethodDescriptor (yM 149).desc).map (fun d => d.parameters.length) = some (npM 149) := pd_16
theorem mt_149 : MtP 149 := ⟨rfl, Or.inr ma_149, fun h => absurd h (by decide), fun _ => ⟨mb_149, md_149⟩, fun h => absurd h (by decide), me_149⟩
set_option maxRecDepth 1000000 in
theorem ma_150 : cwM 150 ∈ lw_tbl := kcD_180_in _ (List.mem_of_getElem? (i := 9) rfl)
set_option maxRecDepth 1000000 in
theorem mb_150 : Cond.instanceMethod (yM 150) ∈ lw_tbl := kiN_120_in _ (List.mem_of_getElem? (i := 15) rfl)
set_option maxRecDepth 1000000 in
theorem md_150 : Cond.selects (owM 150) (yM 150) (yM 150) ∈ lw_tbl := kxL_60_in _ (List.mem_of_getElem? (i := 5) rfl)
set_option maxRecDepth 1000000 in
theorem me_150 : (parseMethodDescriptor (yM 150).desc).map (fun d => d.parameters.length) = some (npM 150) := pd_16
theorem mt_150 : MtP 150 := ⟨rfl, Or.inr ma_150, fun h => absurd h (by decide), fun _ => ⟨mb_150, md_150⟩, fun h => absurd h (by decide), me_150⟩
set_option maxRecDepth 1000000 in
theorem ma_151 : cwM 151 ∈ lw_tbl := kcD_180_in _ (List.mem_of_getElem? (i := 8) rfl)
set_option maxRecDepth 1000000 in
theorem mb_151 : Cond.instanceMethod (yM 151) ∈ lw_tbl := kiN_120_in _ (List.mem_of_getElem? (i := 14) rfl)
set_option maxRecDepth 1000000 in
theorem md_151 : Cond.selects (owM 151) (yM 151) (yM 151) ∈ lw_tbl := kxL_120_in _ (List.mem_of_getElem? (i := 18) rfl)
set_option maxRecDepth 1000000 in
theorem me_151 : (parseMethodDescriptor (yM 151).desc).map (fun d => d.parameters.length) = some (npM 151) := pd_15
theorem mt_151 : MtP 151 := ⟨rfl, Or.inr ma_151, fun h => absurd h (by decide), fun _ => ⟨mb_151, md_151⟩, fun h => absurd h (by decide), me_151⟩
set_option maxRecDepth 1000000 in
theorem ma_152 : cwM 152 ∈ lw_tbl := kcD_180_in _ (List.mem_of_getElem? (i := 16) rfl)
set_option maxRecDepth 1000000 in
theorem mb_152 : Cond.instanceMethod (yM 152) ∈ lw_tbl := kiN_120_in _ (List.mem_of_getElem? (i := 21) rfl)
set_option maxRecDepth 1000000 in
theorem md_152 : Cond.selects (owM 152) (yM 152) (yM 152) ∈ lw_tbl := kxL_60_in _ (List.mem_of_getElem? (i := 10) rfl)
set_option maxRecDepth 1000000 in
theorem me_152 : (parseMethodDescriptor (yM 152).desc).map (fun d => d.parameters.length) = some (npM 152) := pd_16
theorem mt_152 : MtP 152 := ⟨rfl, Or.inr ma_152, fun h => absurd h (by decide), fun _ => ⟨mb_152, md_152⟩, fun h => absurd h (by decide), me_152⟩
set_option maxRecDepth 1000000 in
theorem ma_153 : cwM 153 ∈ lw_tbl := kcD_180_in _ (List.mem_of_getElem? (i := 15) rfl)
set_option maxRecDepth 1000000 in
theorem mb_153 : Cond.instanceMethod (yM 153) ∈ lw_tbl := kiN_120_in _ (List.mem_of_getElem? (i := 20) rfl)
set_option maxRecDepth 1000000 in
theorem md_153 : Cond.selects (owM 153) (yM 153) (yM 153) ∈ lw_tbl := kxL_120_in _ (List.mem_of_getElem? (i := 19) rfl)
set_option maxRecDepth 1000000 in
theorem me_153 : (parseMethodDescriptor (yM 153).desc).map (fun d => d.parameters.length) = some (npM 153) := pd_15
theorem mt_153 : MtP 153 := ⟨rfl, Or.inr ma_153, fun h => absurd h (by decide), fun _ => ⟨mb_153, md_153⟩, fun h => absurd h (by decide), me_153⟩
set_option maxRecDepth 1000000 in
theorem ma_154 : cwM 154 ∈ lw_tbl := kcD_180_in _ (List.mem_of_getElem? (i := 17) rfl)
set_option maxRecDepth 1000000 in
theorem mb_154 : Cond.instanceMethod (yM 154) ∈ lw_tbl := kiN_120_in _ (List.mem_of_getElem? (i := 22) rfl)
set_option maxRecDepth 1000000 in
theorem md_154 : Cond.selects (owM 154) (yM 154) (yM 154) ∈ lw_tbl := kxL_120_in _ (List.mem_of_getElem? (i := 20) rfl)
set_option maxRecDepth 1000000 in
theorem me_154 : (parseMethodDescriptor (yM 154).desc).map (fun d => d.parameters.length) = some (npM 154) := pd_15
theorem mt_154 : MtP 154 := ⟨rfl, Or.inr ma_154, fun h => absurd h (by decide), fun _ => ⟨mb_154, md_154⟩, fun h => absurd h (by decide), me_154⟩
set_option maxRecDepth 1000000 in
theorem ma_155 : cwM 155 ∈ lw_tbl := kcD_180_in _ (List.mem_of_getElem? (i := 18) rfl)
set_option maxRecDepth 1000000 in
theorem mb_155 : Cond.instanceMethod (yM 155) ∈ lw_tbl := kiN_120_in _ (List.mem_of_getElem? (i := 23) rfl)
set_option maxRecDepth 1000000 in
theorem md_155 : Cond.selects (owM 155) (yM 155) (yM 155) ∈ lw_tbl := kxL_120_in _ (List.mem_of_getElem? (i := 21) rfl)
set_option maxRecDepth 1000000 in
theorem me_155 : (parseMethodDescriptor (yM 155).desc).map (fun d => d.parameters.length) = some (npM 155) := pd_5
theorem mt_155 : MtP 155 := ⟨rfl, Or.inr ma_155, fun h => absurd h (by decide), fun _ => ⟨mb_155, md_155⟩, fun h => absurd h (by decide), me_155⟩
set_option maxRecDepth 1000000 in
theorem ma_156 : cwM 156 ∈ lw_tbl := kcD_180_in _ (List.mem_of_getElem? (i := 19) rfl)
set_option maxRecDepth 1000000 in
theorem mb_156 : Cond.instanceMethod (yM 156) ∈ lw_tbl := kiN_120_in _ (List.mem_of_getElem? (i := 24) rfl)
set_option maxRecDepth 1000000 in
theorem md_156 : Cond.selects (owM 156) (yM 156) (yM 156) ∈ lw_tbl := kxL_120_in _ (List.mem_of_getElem? (i := 22) rfl)
set_option maxRecDepth 1000000 in
theorem me_156 : (parseMethodDescriptor (yM 156).desc).map (fun d => d.parameters.length) = some (npM 156) := pd_5
theorem mt_156 : MtP 156 := ⟨rfl, Or.inr ma_156, fun h => absurd h (by decide), fun _ => ⟨mb_156, md_156⟩, fun h => absurd h (by decide), me_156⟩
set_option maxRecDepth 1000000 in
theorem ma_157 : cwM 157 ∈ lw_tbl := kcD_180_in _ (List.mem_of_getElem? (i := 20) rfl)
set_option maxRecDepth 1000000 in
theorem mb_157 : Cond.instanceMethod (yM 157) ∈ lw_tbl := kiN_120_in _ (List.mem_of_getElem? (i := 25) rfl)
set_option maxRecDepth 1000000 in
theorem md_157 : Cond.selects (owM 157) (yM 157) (yM 157) ∈ lw_tbl := kxL_120_in _ (List.mem_of_getElem? (i := 23) rfl)
set_option maxRecDepth 1000000 in
theorem me_157 : (parseMethodDescriptor (yM 157).desc).map (fun d => d.parameters.length) = some (npM 157) := pd_3
theorem mt_157 : MtP 157 := ⟨rfl, Or.inr ma_157, fun h => absurd h (by decide), fun _ => ⟨mb_157, md_157⟩, fun h => absurd h (by decide), me_157⟩
set_option maxRecDepth 1000000 in
theorem ma_158 : cwM 158 ∈ lw_tbl := kcD_180_in _ (List.mem_of_getElem? (i := 21) rfl)
set_option maxRecDepth 1000000 in
theorem mb_158 : Cond.instanceMethod (yM 158) ∈ lw_tbl := kiN_120_in _ (List.mem_of_getElem? (i := 26) rfl)
set_option maxRecDepth 1000000 in
theorem md_158 : Cond.selects (owM 158) (yM 158) (yM 158) ∈ lw_tbl := kxL_120_in _ (List.mem_of_getElem? (i := 24) rfl)
set_option maxRecDepth 1000000 in
theorem me_158 : (parseMethodDescriptor (yM 158).desc).map (fun d => d.parameters.length) = some (npM 158) := pd_3
theorem mt_158 : MtP 158 := ⟨rfl, Or.inr ma_158, fun h => absurd h (by decide), fun _ => ⟨mb_158, md_158⟩, fun h => absurd h (by decide), me_158⟩
set_option maxRecDepth 1000000 in
theorem ma_159 : cwM 159 ∈ lw_tbl := kcD_180_in _ (List.mem_of_getElem? (i := 22) rfl)
set_option maxRecDepth 1000000 in
theorem mb_159 : Cond.instanceMethod (yM 159) ∈ lw_tbl := kiN_120_in _ (List.mem_of_getElem? (i := 27) rfl)
set_option maxRecDepth 1000000 in
theorem md_159 : Cond.selects (owM 159) (yM 159) (yM 159) ∈ lw_tbl := kxL_120_in _ (List.mem_of_getElem? (i := 25) rfl)
set_option maxRecDepth 1000000 in
theorem me_159 : (parseMethodDescriptor (yM 159).desc).map (fun d => d.parameters.length) = some (npM 159) := pd_3
theorem mt_159 : MtP 159 := ⟨rfl, Or.inr ma_159, fun h => absurd h (by decide), fun _ => ⟨mb_159, md_159⟩, fun h => absurd h (by decide), me_159⟩
set_option maxRecDepth 1000000 in
theorem ma_160 : cwM 160 ∈ lw_tbl := kcD_180_in _ (List.mem_of_getElem? (i := 23) rfl)
set_option maxRecDepth 1000000 in
theorem mb_160 : Cond.instanceMethod (yM 160) ∈ lw_tbl := kiN_120_in _ (List.mem_of_getElem? (i := 28) rfl)
set_option maxRecDepth 1000000 in
theorem md_160 : Cond.selects (owM 160) (yM 160) (yM 160) ∈ lw_tbl := kxL_120_in _ (List.mem_of_getElem? (i := 26) rfl)
set_option maxRecDepth 1000000 in
theorem me_160 : (parseMethodDescriptor (yM 160).desc).map (fun d => d.parameters.length) = some (npM 160) := pd_3
theorem mt_160 : MtP 160 := ⟨rfl, Or.inr ma_160, fun h => absurd h (by decide), fun _ => ⟨mb_160, md_160⟩, fun h => absurd h (by decide), me_160⟩
set_option maxRecDepth 1000000 in
theorem ma_161 : cwM 161 ∈ lw_tbl := kcD_180_in _ (List.mem_of_getElem? (i := 24) rfl)
set_option maxRecDepth 1000000 in
theorem mb_161 : Cond.instanceMethod (yM 161) ∈ lw_tbl := kiN_120_in _ (List.mem_of_getElem? (i := 29) rfl)
set_option maxRecDepth 1000000 in
theorem md_161 : Cond.selects (owM 161) (yM 161) (yM 161) ∈ lw_tbl := kxL_120_in _ (List.mem_of_getElem? (i := 27) rfl)
set_option maxRecDepth 1000000 in
theorem me_161 : (parseMethodDescriptor (yM 161).desc).map (fun d => d.parameters.length) = some (npM 161) := pd_3
theorem mt_161 : MtP 161 := ⟨rfl, Or.inr ma_161, fun h => absurd h (by decide), fun _ => ⟨mb_161, md_161⟩, fun h => absurd h (by decide), me_161⟩
set_option maxRecDepth 1000000 in
theorem ma_162 : cwM 162 ∈ lw_tbl := kcD_180_in _ (List.mem_of_getElem? (i := 25) rfl)
set_option maxRecDepth 1000000 in
theorem mb_162 : Cond.instanceMethod (yM 162) ∈ lw_tbl := kiN_120_in _ (List.mem_of_getElem? (i := 30) rfl)
set_option maxRecDepth 1000000 in
theorem md_162 : Cond.selects (owM 162) (yM 162) (yM 162) ∈ lw_tbl := kxL_120_in _ (List.mem_of_getElem? (i := 28) rfl)
set_option maxRecDepth 1000000 in
theorem me_162 : (parseMethodDescriptor (yM 162).desc).map (fun d => d.parameters.length) = some (npM 162) := pd_3
theorem mt_162 : MtP 162 := ⟨rfl, Or.inr ma_162, fun h => absurd h (by decide), fun _ => ⟨mb_162, md_162⟩, fun h => absurd h (by decide), me_162⟩
set_option maxRecDepth 1000000 in
theorem ma_163 : cwM 163 ∈ lw_tbl := kcD_180_in _ (List.mem_of_getElem? (i := 26) rfl)
set_option maxRecDepth 1000000 in
theorem mb_163 : Cond.instanceMethod (yM 163) ∈ lw_tbl := kiN_120_in _ (List.mem_of_getElem? (i := 31) rfl)
set_option maxRecDepth 1000000 in
theorem md_163 : Cond.selects (owM 163) (yM 163) (yM 163) ∈ lw_tbl := kxL_120_in _ (List.mem_of_getElem? (i := 29) rfl)
set_option maxRecDepth 1000000 in
theorem me_163 : (parseMethodDescriptor (yM 163).desc).map (fun d => d.parameters.length) = some (npM 163) := pd_3
theorem mt_163 : MtP 163 := ⟨rfl, Or.inr ma_163, fun h => absurd h (by decide), fun _ => ⟨mb_163, md_163⟩, fun h => absurd h (by decide), me_163⟩
set_option maxRecDepth 1000000 in
theorem ma_164 : cwM 164 ∈ lw_tbl := kcD_180_in _ (List.mem_of_getElem? (i := 27) rfl)
set_option maxRecDepth 1000000 in
theorem mb_164 : Cond.instanceMethod (yM 164) ∈ lw_tbl := kiN_120_in _ (List.mem_of_getElem? (i := 32) rfl)
set_option maxRecDepth 1000000 in
theorem md_164 : Cond.selects (owM 164) (yM 164) (yM 164) ∈ lw_tbl := kxL_120_in _ (List.mem_of_getElem? (i := 30) rfl)
set_option maxRecDepth 1000000 in
theorem me_164 : (parseMethodDescriptor (yM 164).desc).map (fun d => d.parameters.length) = some (npM 164) := pd_5
theorem mt_164 : MtP 164 := ⟨rfl, Or.inr ma_164, fun h => absurd h (by decide), fun _ => ⟨mb_164, md_164⟩, fun h => absurd h (by decide), me_164⟩
set_option maxRecDepth 1000000 in
theorem ma_165 : cwM 165 ∈ lw_tbl := kcD_180_in _ (List.mem_of_getElem? (i := 31) rfl)
set_option maxRecDepth 1000000 in
theorem mb_165 : Cond.instanceMethod (yM 165) ∈ lw_tbl := kiN_120_in _ (List.mem_of_getElem? (i := 36) rfl)
set_option maxRecDepth 1000000 in
theorem md_165 : Cond.selects (owM 165) (yM 165) (yM 165) ∈ lw_tbl := kxL_60_in _ (List.mem_of_getElem? (i := 13) rfl)
set_option maxRecDepth 1000000 in
theorem me_165 : (parseMethodDescriptor (yM 165).desc).map (fun d => d.parameters.length) = some (npM 165) := pd_5
theorem mt_165 : MtP 165 := ⟨rfl, Or.inr ma_165, fun h => absurd h (by decide), fun _ => ⟨mb_165, md_165⟩, fun h => absurd h (by decide), me_165⟩
set_option maxRecDepth 1000000 in
theorem ma_166 : cwM 166 ∈ lw_tbl := kcD_180_in _ (List.mem_of_getElem? (i := 30) rfl)
set_option maxRecDepth 1000000 in
theorem mb_166 : Cond.instanceMethod (yM 166) ∈ lw_tbl := kiN_120_in _ (List.mem_of_getElem? (i := 35) rfl)
set_option maxRecDepth 1000000 in
theorem md_166 : Cond.selects (owM 166) (yM 166) (yM 166) ∈ lw_tbl := kxL_60_in _ (List.mem_of_getElem? (i := 12) rfl)
set_option maxRecDepth 1000000 in
theorem me_166 : (parseMethodDescriptor (yM 166).desc).map (fun d => d.parameters.length) = some (npM 166) := pd_0
theorem mt_166 : MtP 166 := ⟨rfl, Or.inr ma_166, fun h => absurd h (by decide), fun _ => ⟨mb_166, md_166⟩, fun h => absurd h (by decide), me_166⟩
set_option maxRecDepth 1000000 in
theorem ma_167 : cwM 167 ∈ lw_tbl := kcD_180_in _ (List.mem_of_getElem? (i := 29) rfl)
set_option maxRecDepth 1000000 in
theorem mb_167 : Cond.instanceMethod (yM 167) ∈ lw_tbl := kiN_120_in _ (List.mem_of_getElem? (i := 34) rfl)
set_option maxRecDepth 1000000 in
theorem md_167 : Cond.selects (owM 167) (yM 167) (yM 167) ∈ lw_tbl := kxL_60_in _ (List.mem_of_getElem? (i := 11) rfl)
set_option maxRecDepth 1000000 in
theorem me_167 : (parseMethodDescriptor (yM 167).desc).map (fun d => d.parameters.length) = some (npM 167) := pd_5
theorem mt_167 : MtP 167 := ⟨rfl, Or.inr ma_167, fun h => absurd h (by decide), fun _ => ⟨mb_167, md_167⟩, fun h => absurd h (by decide), me_167⟩
set_option maxRecDepth 1000000 in
theorem ma_168 : cwM 168 ∈ lw_tbl := kcD_180_in _ (List.mem_of_getElem? (i := 28) rfl)
set_option maxRecDepth 1000000 in
theorem mb_168 : Cond.instanceMethod (yM 168) ∈ lw_tbl := kiN_120_in _ (List.mem_of_getElem? (i := 33) rfl)
set_option maxRecDepth 1000000 in
theorem md_168 : Cond.selects (owM 168) (yM 168) (yM 168) ∈ lw_tbl := kxL_120_in _ (List.mem_of_getElem? (i := 31) rfl)
set_option maxRecDepth 1000000 in
theorem me_168 : (parseMethodDescriptor (yM 168).desc).map (fun d => d.parameters.length) = some (npM 168) := pd_5
theorem mt_168 : MtP 168 := ⟨rfl, Or.inr ma_168, fun h => absurd h (by decide), fun _ => ⟨mb_168, md_168⟩, fun h => absurd h (by decide), me_168⟩
set_option maxRecDepth 1000000 in
theorem ma_169 : cwM 169 ∈ lw_tbl := kcD_180_in _ (List.mem_of_getElem? (i := 33) rfl)
set_option maxRecDepth 1000000 in
theorem mb_169 : Cond.instanceMethod (yM 169) ∈ lw_tbl := kiN_120_in _ (List.mem_of_getElem? (i := 38) rfl)
set_option maxRecDepth 1000000 in
theorem md_169 : Cond.selects (owM 169) (yM 169) (yM 169) ∈ lw_tbl := kxL_60_in _ (List.mem_of_getElem? (i := 14) rfl)
set_option maxRecDepth 1000000 in
theorem me_169 : (parseMethodDescriptor (yM 169).desc).map (fun d => d.parameters.length) = some (npM 169) := pd_13
theorem mt_169 : MtP 169 := ⟨rfl, Or.inr ma_169, fun h => absurd h (by decide), fun _ => ⟨mb_169, md_169⟩, fun h => absurd h (by decide), me_169⟩
set_option maxRecDepth 1000000 in
theorem ma_170 : cwM 170 ∈ lw_tbl := kcD_180_in _ (List.mem_of_getElem? (i := 32) rfl)
set_option maxRecDepth 1000000 in
theorem mb_170 : Cond.instanceMethod (yM 170) ∈ lw_tbl := kiN_120_in _ (List.mem_of_getElem? (i := 37) rfl)
set_option maxRecDepth 1000000 in
theorem md_170 : Cond.selects (owM 170) (yM 170) (yM 170) ∈ lw_tbl := kxL_120_in _ (List.mem_of_getElem? (i := 32) rfl)
set_option maxRecDepth 1000000 in
theorem me_170 : (parseMethodDescriptor (yM 170).desc).map (fun d => d.parameters.length) = some (npM 170) := pd_3
theorem mt_170 : MtP 170 := ⟨rfl, Or.inr ma_170, fun h => absurd h (by decide), fun _ => ⟨mb_170, md_170⟩, fun h => absurd h (by decide), me_170⟩
set_option maxRecDepth 1000000 in
theorem ma_171 : cwM 171 ∈ lw_tbl := kcD_180_in _ (List.mem_of_getElem? (i := 34) rfl)
set_option maxRecDepth 1000000 in
theorem mb_171 : Cond.instanceMethod (yM 171) ∈ lw_tbl := kiN_120_in _ (List.mem_of_getElem? (i := 39) rfl)
set_option maxRecDepth 1000000 in
theorem md_171 : Cond.selects (owM 171) (yM 171) (yM 171) ∈ lw_tbl := kxL_120_in _ (List.mem_of_getElem? (i := 33) rfl)
set_option maxRecDepth 1000000 in
theorem me_171 : (parseMethodDescriptor (yM 171).desc).map (fun d => d.parameters.length) = some (npM 171) := pd_3
theorem mt_171 : MtP 171 := ⟨rfl, Or.inr ma_171, fun h => absurd h (by decide), fun _ => ⟨mb_171, md_171⟩, fun h => absurd h (by decide), me_171⟩
set_option maxRecDepth 1000000 in
theorem ma_172 : cwM 172 ∈ lw_tbl := kcD_180_in _ (List.mem_of_getElem? (i := 35) rfl)
set_option maxRecDepth 1000000 in
theorem mb_172 : Cond.instanceMethod (yM 172) ∈ lw_tbl := kiN_120_in _ (List.mem_of_getElem? (i := 40) rfl)
set_option maxRecDepth 1000000 in
theorem md_172 : Cond.selects (owM 172) (yM 172) (yM 172) ∈ lw_tbl := kxL_120_in _ (List.mem_of_getElem? (i := 34) rfl)
set_option maxRecDepth 1000000 in
theorem me_172 : (parseMethodDescriptor (yM 172).desc).map (fun d => d.parameters.length) = some (npM 172) := pd_3
theorem mt_172 : MtP 172 := ⟨rfl, Or.inr ma_172, fun h => absurd h (by decide), fun _ => ⟨mb_172, md_172⟩, fun h => absurd h (by decide), me_172⟩
set_option maxRecDepth 1000000 in
theorem ma_173 : cwM 173 ∈ lw_tbl := kcD_180_in _ (List.mem_of_getElem? (i := 36) rfl)
set_option maxRecDepth 1000000 in
theorem mb_173 : Cond.instanceMethod (yM 173) ∈ lw_tbl := kiN_120_in _ (List.mem_of_getElem? (i := 41) rfl)
set_option maxRecDepth 1000000 in
theorem md_173 : Cond.selects (owM 173) (yM 173) (yM 173) ∈ lw_tbl := kxL_120_in _ (List.mem_of_getElem? (i := 35) rfl)
set_option maxRecDepth 1000000 in
theorem me_173 : (parseMethodDescriptor (yM 173).desc).map (fun d => d.parameters.length) = some (npM 173) := pd_15
theorem mt_173 : MtP 173 := ⟨rfl, Or.inr ma_173, fun h => absurd h (by decide), fun _ => ⟨mb_173, md_173⟩, fun h => absurd h (by decide), me_173⟩
set_option maxRecDepth 1000000 in
theorem ma_174 : cwM 174 ∈ lw_tbl := kcD_180_in _ (List.mem_of_getElem? (i := 37) rfl)
set_option maxRecDepth 1000000 in
theorem mb_174 : Cond.instanceMethod (yM 174) ∈ lw_tbl := kiN_120_in _ (List.mem_of_getElem? (i := 42) rfl)
set_option maxRecDepth 1000000 in
theorem md_174 : Cond.selects (owM 174) (yM 174) (yM 174) ∈ lw_tbl := kxL_120_in _ (List.mem_of_getElem? (i := 36) rfl)
set_option maxRecDepth 1000000 in
theorem me_174 : (parseMethodDescriptor (yM 174).desc).map (fun d => d.parameters.length) = some (npM 174) := pd_5
theorem mt_174 : MtP 174 := ⟨rfl, Or.inr ma_174, fun h => absurd h (by decide), fun _ => ⟨mb_174, md_174⟩, fun h => absurd h (by decide), me_174⟩
set_option maxRecDepth 1000000 in
theorem ma_175 : cwM 175 ∈ lw_tbl := kcD_180_in _ (List.mem_of_getElem? (i := 38) rfl)
set_option maxRecDepth 1000000 in
theorem mb_175 : Cond.instanceMethod (yM 175) ∈ lw_tbl := kiN_120_in _ (List.mem_of_getElem? (i := 43) rfl)
set_option maxRecDepth 1000000 in
theorem md_175 : Cond.selects (owM 175) (yM 175) (yM 175) ∈ lw_tbl := kxL_120_in _ (List.mem_of_getElem? (i := 37) rfl)
set_option maxRecDepth 1000000 in
theorem me_175 : (parseMethodDescriptor (yM 175).desc).map (fun d => d.parameters.length) = some (npM 175) := pd_5
theorem mt_175 : MtP 175 := ⟨rfl, Or.inr ma_175, fun h => absurd h (by decide), fun _ => ⟨mb_175, md_175⟩, fun h => absurd h (by decide), me_175⟩
set_option maxRecDepth 1000000 in
theorem ma_176 : cwM 176 ∈ lw_tbl := kcD_180_in _ (List.mem_of_getElem? (i := 39) rfl)
set_option maxRecDepth 1000000 in
theorem mb_176 : Cond.instanceMethod (yM 176) ∈ lw_tbl := kiN_120_in _ (List.mem_of_getElem? (i := 44) rfl)
set_option maxRecDepth 1000000 in
theorem md_176 : Cond.selects (owM 176) (yM 176) (yM 176) ∈ lw_tbl := kxL_120_in _ (List.mem_of_getElem? (i := 38) rfl)
set_option maxRecDepth 1000000 in
theorem me_176 : (parseMethodDescriptor (yM 176).desc).map (fun d => d.parameters.length) = some (npM 176) := pd_13
theorem mt_176 : MtP 176 := ⟨rfl, Or.inr ma_176, fun h => absurd h (by decide), fun _ => ⟨mb_176, md_176⟩, fun h => absurd h (by decide), me_176⟩
set_option maxRecDepth 1000000 in
theorem ma_177 : cwM 177 ∈ lw_tbl := kcD_180_in _ (List.mem_of_getElem? (i := 42) rfl)
set_option maxRecDepth 1000000 in
theorem mb_177 : Cond.instanceMethod (yM 177) ∈ lw_tbl := kiN_120_in _ (List.mem_of_getElem? (i := 47) rfl)
set_option maxRecDepth 1000000 in
theorem md_177 : Cond.selects (owM 177) (yM 177) (yM 177) ∈ lw_tbl := kxL_60_in _ (List.mem_of_getElem? (i := 16) rfl)
set_option maxRecDepth 1000000 in
theorem me_177 : (parseMethodDescriptor (yM 177).desc).map (fun d => d.parameters.length) = some (npM 177) := pd_12
theorem mt_177 : MtP 177 := ⟨rfl, Or.inr ma_177, fun h => absurd h (by decide), fun _ => ⟨mb_177, md_177⟩, fun h => absurd h (by decide), me_177⟩
set_option maxRecDepth 1000000 in
theorem ma_178 : cwM 178 ∈ lw_tbl := kcD_180_in _ (List.mem_of_getElem? (i := 41) rfl)
set_option maxRecDepth 1000000 in
theorem mb_178 : Cond.instanceMethod (yM 178) ∈ lw_tbl := kiN_120_in _ (List.mem_of_getElem? (i := 46) rfl)
set_option maxRecDepth 1000000 in
theorem md_178 : Cond.selects (owM 178) (yM 178) (yM 178) ∈ lw_tbl := kxL_60_in _ (List.mem_of_getElem? (i := 15) rfl)
set_option maxRecDepth 1000000 in
theorem me_178 : (parseMethodDescriptor (yM 178).desc).map (fun d => d.parameters.length) = some (npM 178) := pd_13
theorem mt_178 : MtP 178 := ⟨rfl, Or.inr ma_178, fun h => absurd h (by decide), fun _ => ⟨mb_178, md_178⟩, fun h => absurd h (by decide), me_178⟩
set_option maxRecDepth 1000000 in
theorem ma_179 : cwM 179 ∈ lw_tbl := kcD_180_in _ (List.mem_of_getElem? (i := 40) rfl)
set_option maxRecDepth 1000000 in
theorem mb_179 : Cond.instanceMethod (yM 179) ∈ lw_tbl := kiN_120_in _ (List.mem_of_getElem? (i := 45) rfl)
set_option maxRecDepth 1000000 in
theorem md_179 : Cond.selects (owM 179) (yM 179) (yM 179) ∈ lw_tbl := kxL_120_in _ (List.mem_of_getElem? (i := 39) rfl)
set_option maxRecDepth 1000000 in
theorem me_179 : (parseMethodDescriptor (yM 179).desc).map (fun d => d.parameters.length) = some (npM 179) := pd_13
theorem mt_179 : MtP 179 := ⟨rfl, Or.inr ma_179, fun h => absurd h (by decide), fun _ => ⟨mb_179, md_179⟩, fun h => absurd h (by decide), me_179⟩
set_option maxRecDepth 1000000 in
theorem ma_180 : cwM 180 ∈ lw_tbl := kcD_180_in _ (List.mem_of_getElem? (i := 43) rfl)
set_option maxRecDepth 1000000 in
theorem mb_180 : Cond.instanceMethod (yM 180) ∈ lw_tbl := kiN_120_in _ (List.mem_of_getElem? (i := 48) rfl)
set_option maxRecDepth 1000000 in
theorem md_180 : Cond.selects (owM 180) (yM 180) (yM 180) ∈ lw_tbl := kxL_120_in _ (List.mem_of_getElem? (i := 40) rfl)
set_option maxRecDepth 1000000 in
theorem me_180 : (parseMethodDescriptor (yM 180).desc).map (fun d => d.parameters.length) = some (npM 180) := pd_15
theorem mt_180 : MtP 180 := ⟨rfl, Or.inr ma_180, fun h => absurd h (by decide), fun _ => ⟨mb_180, md_180⟩, fun h => absurd h (by decide), me_180⟩
set_option maxRecDepth 1000000 in
theorem ma_181 : cwM 181 ∈ lw_tbl := kcD_180_in _ (List.mem_of_getElem? (i := 44) rfl)
set_option maxRecDepth 1000000 in
theorem mb_181 : Cond.instanceMethod (yM 181) ∈ lw_tbl := kiN_120_in _ (List.mem_of_getElem? (i := 49) rfl)
set_option maxRecDepth 1000000 in
theorem md_181 : Cond.selects (owM 181) (yM 181) (yM 181) ∈ lw_tbl := kxL_120_in _ (List.mem_of_getElem? (i := 41) rfl)
set_option maxRecDepth 1000000 in
theorem me_181 : (parseMethodDescriptor (yM 181).desc).map (fun d => d.parameters.length) = some (npM 181) := pd_5
theorem mt_181 : MtP 181 := ⟨rfl, Or.inr ma_181, fun h => absurd h (by decide), fun _ => ⟨mb_181, md_181⟩, fun h => absurd h (by decide), me_181⟩
set_option maxRecDepth 1000000 in
theorem ma_182 : cwM 182 ∈ lw_tbl := kcD_180_in _ (List.mem_of_getElem? (i := 45) rfl)
set_option maxRecDepth 1000000 in
theorem mb_182 : Cond.instanceMethod (yM 182) ∈ lw_tbl := kiN_120_in _ (List.mem_of_getElem? (i := 50) rfl)
set_option maxRecDepth 1000000 in
theorem md_182 : Cond.selects (owM 182) (yM 182) (yM 182) ∈ lw_tbl := kxL_120_in _ (List.mem_of_getElem? (i := 42) rfl)
set_option maxRecDepth 1000000 in
theorem me_182 : (parseMethodDescriptor (yM 182).desc).map (fun d => d.parameters.length) = some (npM 182) := pd_11
theorem mt_182 : MtP 182 := ⟨rfl, Or.inr ma_182, fun h => absurd h (by decide), fun _ => ⟨mb_182, md_182⟩, fun h => absurd h (by decide), me_182⟩
set_option maxRecDepth 1000000 in
theorem ma_183 : cwM 183 ∈ lw_tbl := kcD_180_in _ (List.mem_of_getElem? (i := 47) rfl)
set_option maxRecDepth 1000000 in
theorem mb_183 : Cond.instanceMethod (yM 183) ∈ lw_tbl := kiN_120_in _ (List.mem_of_getElem? (i := 52) rfl)
set_option maxRecDepth 1000000 in
theorem md_183 : Cond.selects (owM 183) (yM 183) (yM 183) ∈ lw_tbl := kxL_60_in _ (List.mem_of_getElem? (i := 17) rfl)
set_option maxRecDepth 1000000 in
theorem me_183 : (parseMethodDescriptor (yM 183).desc).map (fun d => d.parameters.length) = some (npM 183) := pd_25
theorem mt_183 : MtP 183 := ⟨rfl, Or.inr ma_183, fun h => absurd h (by decide), fun _ => ⟨mb_183, md_183⟩, fun h => absurd h (by decide), me_183⟩
set_option maxRecDepth 1000000 in
theorem ma_184 : cwM 184 ∈ lw_tbl := kcD_180_in _ (List.mem_of_getElem? (i := 46) rfl)
set_option maxRecDepth 1000000 in
theorem mb_184 : Cond.instanceMethod (yM 184) ∈ lw_tbl := kiN_120_in _ (List.mem_of_getElem? (i := 51) rfl)
set_option maxRecDepth 1000000 in
theorem md_184 : Cond.selects (owM 184) (yM 184) (yM 184) ∈ lw_tbl := kxL_120_in _ (List.mem_of_getElem? (i := 43) rfl)
set_option maxRecDepth 1000000 in
theorem me_184 : (parseMethodDescriptor (yM 184).desc).map (fun d => d.parameters.length) = some (npM 184) := pd_15
theorem mt_184 : MtP 184 := ⟨rfl, Or.inr ma_184, fun h => absurd h (by decide), fun _ => ⟨mb_184, md_184⟩, fun h => absurd h (by decide), me_184⟩
set_option maxRecDepth 1000000 in
theorem ma_185 : cwM 185 ∈ lw_tbl := kcD_180_in _ (List.mem_of_getElem? (i := 48) rfl)
set_option maxRecDepth 1000000 in
theorem mb_185 : Cond.instanceMethod (yM 185) ∈ lw_tbl := kiN_120_in _ (List.mem_of_getElem? (i := 53) rfl)
set_option maxRecDepth 1000000 in
theorem md_185 : Cond.selects (owM 185) (yM 185) (yM 185) ∈ lw_tbl := kxL_120_in _ (List.mem_of_getElem? (i := 44) rfl)
set_option maxRecDepth 1000000 in
theorem me_185 : (parseMethodDescriptor (yM 185).desc).map (fun d => d.parameters.length) = some (npM 185) := pd_15
theorem mt_185 : MtP 185 := ⟨rfl, Or.inr ma_185, fun h => absurd h (by decide), fun _ => ⟨mb_185, md_185⟩, fun h => absurd h (by decide), me_185⟩
set_option maxRecDepth 1000000 in
theorem ma_186 : cwM 186 ∈ lw_tbl := kcD_180_in _ (List.mem_of_getElem? (i := 49) rfl)
set_option maxRecDepth 1000000 in
theorem mb_186 : Cond.instanceMethod (yM 186) ∈ lw_tbl := kiN_120_in _ (List.mem_of_getElem? (i := 54) rfl)
set_option maxRecDepth 1000000 in
theorem md_186 : Cond.selects (owM 186) (yM 186) (yM 186) ∈ lw_tbl := kxL_120_in _ (List.mem_of_getElem? (i := 45) rfl)
set_option maxRecDepth 1000000 in
theorem me_186 : (parseMethodDescriptor (yM 186).desc).map (fun d => d.parameters.length) = some (npM 186) := pd_3
theorem mt_186 : MtP 186 := ⟨rfl, Or.inr ma_186, fun h => absurd h (by decide), fun _ => ⟨mb_186, md_186⟩, fun h => absurd h (by decide), me_186⟩
set_option maxRecDepth 1000000 in
theorem ma_187 : cwM 187 ∈ lw_tbl := kcD_180_in _ (List.mem_of_getElem? (i := 50) rfl)
set_option maxRecDepth 1000000 in
theorem mb_187 : Cond.instanceMethod (yM 187) ∈ lw_tbl := kiN_120_in _ (List.mem_of_getElem? (i := 55) rfl)
set_option maxRecDepth 1000000 in
theorem md_187 : Cond.selects (owM 187) (yM 187) (yM 187) ∈ lw_tbl := kxL_120_in _ (List.mem_of_getElem? (i := 46) rfl)
set_option maxRecDepth 1000000 in
theorem me_187 : (parseMethodDescriptor (yM 187).desc).map (fun d => d.parameters.length) = some (npM 187) := pd_15
theorem mt_187 : MtP 187 := ⟨rfl, Or.inr ma_187, fun h => absurd h (by decide), fun _ => ⟨mb_187, md_187⟩, fun h => absurd h (by decide), me_187⟩
set_option maxRecDepth 1000000 in
theorem ma_188 : cwM 188 ∈ lw_tbl := kcD_180_in _ (List.mem_of_getElem? (i := 51) rfl)
set_option maxRecDepth 1000000 in
theorem mb_188 : Cond.instanceMethod (yM 188) ∈ lw_tbl := kiN_120_in _ (List.mem_of_getElem? (i := 56) rfl)
set_option maxRecDepth 1000000 in
theorem md_188 : Cond.selects (owM 188) (yM 188) (yM 188) ∈ lw_tbl := kxL_120_in _ (List.mem_of_getElem? (i := 47) rfl)
set_option maxRecDepth 1000000 in
theorem me_188 : (parseMethodDescriptor (yM 188).desc).map (fun d => d.parameters.length) = some (npM 188) := pd_15
theorem mt_188 : MtP 188 := ⟨rfl, Or.inr ma_188, fun h => absurd h (by decide), fun _ => ⟨mb_188, md_188⟩, fun h => absurd h (by decide), me_188⟩
set_option maxRecDepth 1000000 in
theorem ma_189 : cwM 189 ∈ lw_tbl := kcD_180_in _ (List.mem_of_getElem? (i := 52) rfl)
set_option maxRecDepth 1000000 in
theorem mb_189 : Cond.instanceMethod (yM 189) ∈ lw_tbl := kiN_120_in _ (List.mem_of_getElem? (i := 57) rfl)
set_option maxRecDepth 1000000 in
theorem md_189 : Cond.selects (owM 189) (yM 189) (yM 189) ∈ lw_tbl := kxL_120_in _ (List.mem_of_getElem? (i := 48) rfl)
set_option maxRecDepth 1000000 in
theorem me_189 : (parseMethodDescriptor (yM 189).desc).map (fun d => d.parameters.length) = some (npM 189) := pd_15
theorem mt_189 : MtP 189 := ⟨rfl, Or.inr ma_189, fun h => absurd h (by decide), fun _ => ⟨mb_189, md_189⟩, fun h => absurd h (by decide), me_189⟩
set_option maxRecDepth 1000000 in
theorem ma_190 : cwM 190 ∈ lw_tbl := kcD_0_in _ (List.mem_of_getElem? (i := 24) rfl)
set_option maxRecDepth 1000000 in
theorem mb_190 : Cond.static (yM 190) ∈ lw_tbl := ksT_0_in _ (List.mem_of_getElem? (i := 1) rfl)
set_option maxRecDepth 1000000 in
theorem me_190 : (parseMethodDescriptor (yM 190).desc).map (fun d => d.parameters.length) = some (npM 190) := pd_26
theorem mt_190 : MtP 190 := ⟨rfl, Or.inr ma_190, fun _ => Or.inr mb_190, fun h => absurd h (by decide), fun h => absurd h (by decide), me_190⟩
set_option maxRecDepth 1000000 in
theorem ma_191 : cwM 191 ∈ lw_tbl := kcD_0_in _ (List.mem_of_getElem? (i := 56) rfl)
set_option maxRecDepth 1000000 in
theorem mb_191 : Cond.static (yM 191) ∈ lw_tbl := ksT_0_in _ (List.mem_of_getElem? (i := 11) rfl)
set_option maxRecDepth 1000000 in
theorem me_191 : (parseMethodDescriptor (yM 191).desc).map (fun d => d.parameters.length) = some (npM 191) := pd_27
theorem mt_191 : MtP 191 := ⟨rfl, Or.inr ma_191, fun _ => Or.inr mb_191, fun h => absurd h (by decide), fun h => absurd h (by decide), me_191⟩
set_option maxRecDepth 1000000 in
theorem ma_192 : cwM 192 ∈ lw_tbl := kcD_60_in _ (List.mem_of_getElem? (i := 1) rfl)
set_option maxRecDepth 1000000 in
theorem mb_192 : Cond.static (yM 192) ∈ lw_tbl := ksT_0_in _ (List.mem_of_getElem? (i := 12) rfl)
set_option maxRecDepth 1000000 in
theorem me_192 : (parseMethodDescriptor (yM 192).desc).map (fun d => d.parameters.length) = some (npM 192) := pd_28
theorem mt_192 : MtP 192 := ⟨rfl, Or.inr ma_192, fun _ => Or.inr mb_192, fun h => absurd h (by decide), fun h => absurd h (by decide), me_192⟩
set_option maxRecDepth 1000000 in
theorem ma_193 : cwM 193 ∈ lw_tbl := kcD_60_in _ (List.mem_of_getElem? (i := 5) rfl)
set_option maxRecDepth 1000000 in
theorem mb_193 : Cond.static (yM 193) ∈ lw_tbl := ksT_0_in _ (List.mem_of_getElem? (i := 13) rfl)
set_option maxRecDepth 1000000 in
theorem me_193 : (parseMethodDescriptor (yM 193).desc).map (fun d => d.parameters.length) = some (npM 193) := pd_29
theorem mt_193 : MtP 193 := ⟨rfl, Or.inr ma_193, fun _ => Or.inr mb_193, fun h => absurd h (by decide), fun h => absurd h (by decide), me_193⟩
set_option maxRecDepth 1000000 in
theorem ma_194 : cwM 194 ∈ lw_tbl := kcD_60_in _ (List.mem_of_getElem? (i := 8) rfl)
set_option maxRecDepth 1000000 in
theorem mb_194 : Cond.static (yM 194) ∈ lw_tbl := ksT_0_in _ (List.mem_of_getElem? (i := 14) rfl)
set_option maxRecDepth 1000000 in
theorem me_194 : (parseMethodDescriptor (yM 194).desc).map (fun d => d.parameters.length) = some (npM 194) := pd_29
theorem mt_194 : MtP 194 := ⟨rfl, Or.inr ma_194, fun _ => Or.inr mb_194, fun h => absurd h (by decide), fun h => absurd h (by decide), me_194⟩
set_option maxRecDepth 1000000 in
theorem ma_195 : cwM 195 ∈ lw_tbl := kcD_60_in _ (List.mem_of_getElem? (i := 14) rfl)
set_option maxRecDepth 1000000 in
theorem mb_195 : Cond.static (yM 195) ∈ lw_tbl := ksT_0_in _ (List.mem_of_getElem? (i := 19) rfl)
set_option maxRecDepth 1000000 in
theorem me_195 : (parseMethodDescriptor (yM 195).desc).map (fun d => d.parameters.length) = some (npM 195) := pd_28
theorem mt_195 : MtP 195 := ⟨rfl, Or.inr ma_195, fun _ => Or.inr mb_195, fun h => absurd h (by decide), fun h => absurd h (by decide), me_195⟩
set_option maxRecDepth 1000000 in
theorem ma_196 : cwM 196 ∈ lw_tbl := kcD_60_in _ (List.mem_of_getElem? (i := 16) rfl)
set_option maxRecDepth 1000000 in
theorem mb_196 : Cond.static (yM 196) ∈ lw_tbl := ksT_0_in _ (List.mem_of_getElem? (i := 20) rfl)
set_option maxRecDepth 1000000 in
theorem me_196 : (parseMethodDescriptor (yM 196).desc).map (fun d => d.parameters.length) = some (npM 196) := pd_28
theorem mt_196 : MtP 196 := ⟨rfl, Or.inr ma_196, fun _ => Or.inr mb_196, fun h => absurd h (by decide), fun h => absurd h (by decide), me_196⟩
set_option maxRecDepth 1000000 in
theorem ma_197 : cwM 197 ∈ lw_tbl := kcD_60_in _ (List.mem_of_getElem? (i := 18) rfl)
set_option maxRecDepth 1000000 in
theorem mb_197 : Cond.static (yM 197) ∈ lw_tbl := ksT_0_in _ (List.mem_of_getElem? (i := 21) rfl)
set_option maxRecDepth 1000000 in
theorem me_197 : (parseMethodDescriptor (yM 197).desc).map (fun d => d.parameters.length) = some (npM 197) := pd_30
theorem mt_197 : MtP 197 := ⟨rfl, Or.inr ma_197, fun _ => Or.inr mb_197, fun h => absurd h (by decide), fun h => absurd h (by decide), me_197⟩
set_option maxRecDepth 1000000 in
theorem ma_198 : cwM 198 ∈ lw_tbl := kcD_60_in _ (List.mem_of_getElem? (i := 21) rfl)
set_option maxRecDepth 1000000 in
theorem mb_198 : Cond.static (yM 198) ∈ lw_tbl := ksT_0_in _ (List.mem_of_getElem? (i := 22) rfl)
set_option maxRecDepth 1000000 in
theorem me_198 : (parseMethodDescriptor (yM 198).desc).map (fun d => d.parameters.length) = some (npM 198) := pd_31
theorem mt_198 : MtP 198 := ⟨rfl, Or.inr ma_198, fun _ => Or.inr mb_198, fun h => absurd h (by decide), fun h => absurd h (by decide), me_198⟩
set_option maxRecDepth 1000000 in
theorem ma_199 : cwM 199 ∈ lw_tbl := kcD_60_in _ (List.mem_of_getElem? (i := 27) rfl)
set_option maxRecDepth 1000000 in
theorem mb_199 : Cond.static (yM 199) ∈ lw_tbl := ksT_0_in _ (List.mem_of_getElem? (i := 23) rfl)
set_option maxRecDepth 1000000 in
theorem me_199 : (parseMethodDescriptor (yM 199).desc).map (fun d => d.parameters.length) = some (npM 199) := pd_31
theorem mt_199 : MtP 199 := ⟨rfl, Or.inr ma_199, fun _ => Or.inr mb_199, fun h => absurd h (by decide), fun h => absurd h (by decide), me_199⟩
set_option maxRecDepth 1000000 in
theorem ma_200 : cwM 200 ∈ lw_tbl := kcD_60_in _ (List.mem_of_getElem? (i := 29) rfl)
set_option maxRecDepth 1000000 in
theorem mb_200 : Cond.static (yM 200) ∈ lw_tbl := ksT_0_in _ (List.mem_of_getElem? (i := 24) rfl)
set_option maxRecDepth 1000000 in
theorem me_200 : (parseMethodDescriptor (yM 200).desc).map (fun d => d.parameters.length) = some (npM 200) := pd_32
theorem mt_200 : MtP 200 := ⟨rfl, Or.inr ma_200, fun _ => Or.inr mb_200, fun h => absurd h (by decide), fun h => absurd h (by decide), me_200⟩
set_option maxRecDepth 1000000 in
theorem ma_201 : cwM 201 ∈ lw_tbl := kcD_60_in _ (List.mem_of_getElem? (i := 32) rfl)
set_option maxRecDepth 1000000 in
theorem mb_201 : Cond.static (yM 201) ∈ lw_tbl := ksT_0_in _ (List.mem_of_getElem? (i := 25) rfl)
set_option maxRecDepth 1000000 in
theorem me_201 : (parseMethodDescriptor (yM 201).desc).map (fun d => d.parameters.length) = some (npM 201) := pd_32
theorem mt_201 : MtP 201 := ⟨rfl, Or.inr ma_201, fun _ => Or.inr mb_201, fun h => absurd h (by decide), fun h => absurd h (by decide), me_201⟩
set_option maxRecDepth 1000000 in
theorem ma_202 : cwM 202 ∈ lw_tbl := kcD_60_in _ (List.mem_of_getElem? (i := 34) rfl)
set_option maxRecDepth 1000000 in
theorem mb_202 : Cond.static (yM 202) ∈ lw_tbl := ksT_0_in _ (List.mem_of_getElem? (i := 26) rfl)
set_option maxRecDepth 1000000 in
theorem me_202 : (parseMethodDescriptor (yM 202).desc).map (fun d => d.parameters.length) = some (npM 202) := pd_31
theorem mt_202 : MtP 202 := ⟨rfl, Or.inr ma_202, fun _ => Or.inr mb_202, fun h => absurd h (by decide), fun h => absurd h (by decide), me_202⟩
set_option maxRecDepth 1000000 in
theorem ma_203 : cwM 203 ∈ lw_tbl := kcD_60_in _ (List.mem_of_getElem? (i := 37) rfl)
set_option maxRecDepth 1000000 in
theorem mb_203 : Cond.static (yM 203) ∈ lw_tbl := ksT_0_in _ (List.mem_of_getElem? (i := 28) rfl)
set_option maxRecDepth 1000000 in
theorem me_203 : (parseMethodDescriptor (yM 203).desc).map (fun d => d.parameters.length) = some (npM 203) := pd_31
theorem mt_203 : MtP 203 := ⟨rfl, Or.inr ma_203, fun _ => Or.inr mb_203, fun h => absurd h (by decide), fun h => absurd h (by decide), me_203⟩
set_option maxRecDepth 1000000 in
theorem ma_204 : cwM 204 ∈ lw_tbl := kcD_60_in _ (List.mem_of_getElem? (i := 39) rfl)
set_option maxRecDepth 1000000 in
theorem mb_204 : Cond.static (yM 204) ∈ lw_tbl := ksT_0_in _ (List.mem_of_getElem? (i := 29) rfl)
set_option maxRecDepth 1000000 in
theorem me_204 : (parseMethodDescriptor (yM 204).desc).map (fun d => d.parameters.length) = some (npM 204) := pd_28
theorem mt_204 : MtP 204 := ⟨rfl, Or.inr ma_204, fun _ => Or.inr mb_204, fun h => absurd h (by decide), fun h => absurd h (by decide), me_204⟩
set_option maxRecDepth 1000000 in
theorem ma_205 : cwM 205 ∈ lw_tbl := kcD_60_in _ (List.mem_of_getElem? (i := 41) rfl)
set_option maxRecDepth 1000000 in
theorem mb_205 : Cond.static (yM 205) ∈ lw_tbl := ksT_0_in _ (List.mem_of_getElem? (i := 30) rfl)
set_option maxRecDepth 1000000 in
theorem me_205 : (parseMethodDescriptor (yM 205).desc).map (fun d => d.parameters.length) = some (npM 205) := pd_28
theorem mt_205 : MtP 205 := ⟨rfl, Or.inr ma_205, fun _ => Or.inr mb_205, fun h => absurd h (by decide), fun h => absurd h (by decide), me_205⟩
set_option maxRecDepth 1000000 in
theorem ma_206 : cwM 206 ∈ lw_tbl := kcD_60_in _ (List.mem_of_getElem? (i := 45) rfl)
set_option maxRecDepth 1000000 in
theorem mb_206 : Cond.static (yM 206) ∈ lw_tbl := ksT_0_in _ (List.mem_of_getElem? (i := 31) rfl)
set_option maxRecDepth 1000000 in
theorem me_206 : (parseMethodDescriptor (yM 206).desc).map (fun d => d.parameters.length) = some (npM 206) := pd_28
theorem mt_206 : MtP 206 := ⟨rfl, Or.inr ma_206, fun _ => Or.inr mb_206, fun h => absurd h (by decide), fun h => absurd h (by decide), me_206⟩
set_option maxRecDepth 1000000 in
theorem ma_207 : cwM 207 ∈ lw_tbl := kcD_60_in _ (List.mem_of_getElem? (i := 47) rfl)
set_option maxRecDepth 1000000 in
theorem mb_207 : Cond.static (yM 207) ∈ lw_tbl := ksT_0_in _ (List.mem_of_getElem? (i := 32) rfl)
set_option maxRecDepth 1000000 in
theorem me_207 : (parseMethodDescriptor (yM 207).desc).map (fun d => d.parameters.length) = some (npM 207) := pd_28
theorem mt_207 : MtP 207 := ⟨rfl, Or.inr ma_207, fun _ => Or.inr mb_207, fun h => absurd h (by decide), fun h => absurd h (by decide), me_207⟩
set_option maxRecDepth 1000000 in
theorem ma_208 : cwM 208 ∈ lw_tbl := kcD_60_in _ (List.mem_of_getElem? (i := 49) rfl)
set_option maxRecDepth 1000000 in
theorem mb_208 : Cond.static (yM 208) ∈ lw_tbl := ksT_0_in _ (List.mem_of_getElem? (i := 33) rfl)
set_option maxRecDepth 1000000 in
theorem me_208 : (parseMethodDescriptor (yM 208).desc).map (fun d => d.parameters.length) = some (npM 208) := pd_28
theorem mt_208 : MtP 208 := ⟨rfl, Or.inr ma_208, fun _ => Or.inr mb_208, fun h => absurd h (by decide), fun h => absurd h (by decide), me_208⟩
set_option maxRecDepth 1000000 in
theorem ma_209 : cwM 209 ∈ lw_tbl := kcD_60_in _ (List.mem_of_getElem? (i := 51) rfl)
set_option maxRecDepth 1000000 in
theorem mb_209 : Cond.static (yM 209) ∈ lw_tbl := ksT_0_in _ (List.mem_of_getElem? (i := 34) rfl)
set_option maxRecDepth 1000000 in
theorem me_209 : (parseMethodDescriptor (yM 209).desc).map (fun d => d.parameters.length) = some (npM 209) := pd_28
theorem mt_209 : MtP 209 := ⟨rfl, Or.inr ma_209, fun _ => Or.inr mb_209, fun h => absurd h (by decide), fun h => absurd h (by decide), me_209⟩
set_option maxRecDepth 1000000 in
theorem ma_210 : cwM 210 ∈ lw_tbl := kcD_60_in _ (List.mem_of_getElem? (i := 54) rfl)
set_option maxRecDepth 1000000 in
theorem mb_210 : Cond.static (yM 210) ∈ lw_tbl := ksT_0_in _ (List.mem_of_getElem? (i := 36) rfl)
set_option maxRecDepth 1000000 in
theorem me_210 : (parseMethodDescriptor (yM 210).desc).map (fun d => d.parameters.length) = some (npM 210) := pd_28
theorem mt_210 : MtP 210 := ⟨rfl, Or.inr ma_210, fun _ => Or.inr mb_210, fun h => absurd h (by decide), fun h => absurd h (by decide), me_210⟩
set_option maxRecDepth 1000000 in
theorem ma_211 : cwM 211 ∈ lw_tbl := kcD_60_in _ (List.mem_of_getElem? (i := 58) rfl)
set_option maxRecDepth 1000000 in
theorem mb_211 : Cond.static (yM 211) ∈ lw_tbl := ksT_0_in _ (List.mem_of_getElem? (i := 38) rfl)
set_option maxRecDepth 1000000 in
theorem me_211 : (parseMethodDescriptor (yM 211).desc).map (fun d => d.parameters.length) = some (npM 211) := pd_31
theorem mt_211 : MtP 211 := ⟨rfl, Or.inr ma_211, fun _ => Or.inr mb_211, fun h => absurd h (by decide), fun h => absurd h (by decide), me_211⟩
set_option maxRecDepth 1000000 in
theorem ma_212 : cwM 212 ∈ lw_tbl := kcD_120_in _ (List.mem_of_getElem? (i := 0) rfl)
set_option maxRecDepth 1000000 in
theorem mb_212 : Cond.static (yM 212) ∈ lw_tbl := ksT_0_in _ (List.mem_of_getElem? (i := 39) rfl)
set_option maxRecDepth 1000000 in
theorem me_212 : (parseMethodDescriptor (yM 212).desc).map (fun d => d.parameters.length) = some (npM 212) := pd_31
theorem mt_212 : MtP 212 := ⟨rfl, Or.inr ma_212, fun _ => Or.inr mb_212, fun h => absurd h (by decide), fun h => absurd h (by decide), me_212⟩
set_option maxRecDepth 1000000 in
theorem ma_213 : cwM 213 ∈ lw_tbl := kcD_120_in _ (List.mem_of_getElem? (i := 4) rfl)
set_option maxRecDepth 1000000 in
theorem mb_213 : Cond.static (yM 213) ∈ lw_tbl := ksT_0_in _ (List.mem_of_getElem? (i := 41) rfl)
set_option maxRecDepth 1000000 in
theorem me_213 : (parseMethodDescriptor (yM 213).desc).map (fun d => d.parameters.length) = some (npM 213) := pd_28
theorem mt_213 : MtP 213 := ⟨rfl, Or.inr ma_213, fun _ => Or.inr mb_213, fun h => absurd h (by decide), fun h => absurd h (by decide), me_213⟩
set_option maxRecDepth 1000000 in
theorem ma_214 : cwM 214 ∈ lw_tbl := kcD_120_in _ (List.mem_of_getElem? (i := 6) rfl)
set_option maxRecDepth 1000000 in
theorem mb_214 : Cond.static (yM 214) ∈ lw_tbl := ksT_0_in _ (List.mem_of_getElem? (i := 42) rfl)
set_option maxRecDepth 1000000 in
theorem me_214 : (parseMethodDescriptor (yM 214).desc).map (fun d => d.parameters.length) = some (npM 214) := pd_28
theorem mt_214 : MtP 214 := ⟨rfl, Or.inr ma_214, fun _ => Or.inr mb_214, fun h => absurd h (by decide), fun h => absurd h (by decide), me_214⟩
set_option maxRecDepth 1000000 in
theorem ma_215 : cwM 215 ∈ lw_tbl := kcD_120_in _ (List.mem_of_getElem? (i := 8) rfl)
set_option maxRecDepth 1000000 in
theorem mb_215 : Cond.static (yM 215) ∈ lw_tbl := ksT_0_in _ (List.mem_of_getElem? (i := 43) rfl)
set_option maxRecDepth 1000000 in
theorem me_215 : (parseMethodDescriptor (yM 215).desc).map (fun d => d.parameters.length) = some (npM 215) := pd_28
theorem mt_215 : MtP 215 := ⟨rfl, Or.inr ma_215, fun _ => Or.inr mb_215, fun h => absurd h (by decide), fun h => absurd h (by decide), me_215⟩
set_option maxRecDepth 1000000 in
theorem ma_216 : cwM 216 ∈ lw_tbl := kcD_120_in _ (List.mem_of_getElem? (i := 10) rfl)
set_option maxRecDepth 1000000 in
theorem mb_216 : Cond.static (yM 216) ∈ lw_tbl := ksT_0_in _ (List.mem_of_getElem? (i := 44) rfl)
set_option maxRecDepth 1000000 in
theorem me_216 : (parseMethodDescriptor (yM 216).desc).map (fun d => d.parameters.length) = some (npM 216) := pd_31
theorem mt_216 : MtP 216 := ⟨rfl, Or.inr ma_216, fun _ => Or.inr mb_216, fun h => absurd h (by decide), fun h => absurd h (by decide), me_216⟩
set_option maxRecDepth 1000000 in
theorem ma_217 : cwM 217 ∈ lw_tbl := kcD_120_in _ (List.mem_of_getElem? (i := 13) rfl)
set_option maxRecDepth 1000000 in
theorem mb_217 : Cond.static (yM 217) ∈ lw_tbl := ksT_0_in _ (List.mem_of_getElem? (i := 45) rfl)
set_option maxRecDepth 1000000 in
theorem me_217 : (parseMethodDescriptor (yM 217).desc).map (fun d => d.parameters.length) = some (npM 217) := pd_31
theorem mt_217 : MtP 217 := ⟨rfl, Or.inr ma_217, fun _ => Or.inr mb_217, fun h => absurd h (by decide), fun h => absurd h (by decide), me_217⟩
set_option maxRecDepth 1000000 in
theorem ma_218 : cwM 218 ∈ lw_tbl := kcD_120_in _ (List.mem_of_getElem? (i := 16) rfl)
set_option maxRecDepth 1000000 in
theorem mb_218 : Cond.static (yM 218) ∈ lw_tbl := ksT_0_in _ (List.mem_of_getElem? (i := 46) rfl)
set_option maxRecDepth 1000000 in
theorem me_218 : (parseMethodDescriptor (yM 218).desc).map (fun d => d.parameters.length) = some (npM 218) := pd_27
theorem mt_218 : MtP 218 := ⟨rfl, Or.inr ma_218, fun _ => Or.inr mb_218, fun h => absurd h (by decide), fun h => absurd h (by decide), me_218⟩
set_option maxRecDepth 1000000 in
theorem ma_219 : cwM 219 ∈ lw_tbl := kcD_120_in _ (List.mem_of_getElem? (i := 18) rfl)
set_option maxRecDepth 1000000 in
theorem mb_219 : Cond.static (yM 219) ∈ lw_tbl := ksT_0_in _ (List.mem_of_getElem? (i := 47) rfl)
set_option maxRecDepth 1000000 in
theorem me_219 : (parseMethodDescriptor (yM 219).desc).map (fun d => d.parameters.length) = some (npM 219) := pd_27
theorem mt_219 : MtP 219 := ⟨rfl, Or.inr ma_219, fun _ => Or.inr mb_219, fun h => absurd h (by decide), fun h => absurd h (by decide), me_219⟩
set_option maxRecDepth 1000000 in
theorem ma_220 : cwM 220 ∈ lw_tbl := kcD_120_in _ (List.mem_of_getElem? (i := 20) rfl)
set_option maxRecDepth 1000000 in
theorem mb_220 : Cond.static (yM 220) ∈ lw_tbl := ksT_0_in _ (List.mem_of_getElem? (i := 48) rfl)
set_option maxRecDepth 1000000 in
theorem me_220 : (parseMethodDescriptor (yM 220).desc).map (fun d => d.parameters.length) = some (npM 220) := pd_31
theorem mt_220 : MtP 220 := ⟨rfl, Or.inr ma_220, fun _ => Or.inr mb_220, fun h => absurd h (by decide), fun h => absurd h (by decide), me_220⟩
set_option maxRecDepth 1000000 in
theorem ma_221 : cwM 221 ∈ lw_tbl := kcD_120_in _ (List.mem_of_getElem? (i := 22) rfl)
set_option maxRecDepth 1000000 in
theorem mb_221 : Cond.static (yM 221) ∈ lw_tbl := ksT_0_in _ (List.mem_of_getElem? (i := 49) rfl)
set_option maxRecDepth 1000000 in
theorem me_221 : (parseMethodDescriptor (yM 221).desc).map (fun d => d.parameters.length) = some (npM 221) := pd_31
theorem mt_221 : MtP 221 := ⟨rfl, Or.inr ma_221, fun _ => Or.inr mb_221, fun h => absurd h (by decide), fun h => absurd h (by decide), me_221⟩
set_option maxRecDepth 1000000 in
theorem ma_222 : cwM 222 ∈ lw_tbl := kcD_120_in _ (List.mem_of_getElem? (i := 24) rfl)
set_option maxRecDepth 1000000 in
theorem mb_222 : Cond.static (yM 222) ∈ lw_tbl := ksT_0_in _ (List.mem_of_getElem? (i := 50) rfl)
set_option maxRecDepth 1000000 in
theorem me_222 : (parseMethodDescriptor (yM 222).desc).map (fun d => d.parameters.length) = some (npM 222) := pd_28
theorem mt_222 : MtP 222 := ⟨rfl, Or.inr ma_222, fun _ => Or.inr mb_222, fun h => absurd h (by decide), fun h => absurd h (by decide), me_222⟩
set_option maxRecDepth 1000000 in
theorem me_223 : (parseMethodDescriptor (yM 223).desc).map (fun d => d.parameters.length) = some (npM 223) := pd_33
theorem mt_223 : MtP 223 := ⟨rfl, Or.inl rfl, fun _ => Or.inl rfl, fun h => absurd h (by decide), fun h => absurd h (by decide), me_223⟩
theorem mt_all : ∀ k, 0 ≤ k → k < 224 → MtP k := (bt (bt (bt (bt (bt (bt (bt (b1 mt_0) (bt (b1 mt_1) (b1 mt_2))) (bt (bt (b1 mt_3) (b1 mt_4)) (bt (b1 mt_5) (b1 mt_6)))) (bt (bt (b1 mt_7) (bt (b1 mt_8) (b1 mt_9))) (bt (bt (b1 mt_10) (b1 mt_11)) (bt (b1 mt_12) (b1 mt_13))))) (bt (bt (bt (b1 mt_14) (bt (b1 mt_15) (b1 mt_16))) (bt (bt (b1 mt_17) (b1 mt_18)) (bt (b1 mt_19) (b1 mt_20)))) (bt (bt (b1 mt_21) (bt (b1 mt_22) (b1 mt_23))) (bt (bt (b1 mt_24) (b1 mt_25)) (bt (b1 mt_26) (b1 mt_27)))))) (bt (bt (bt (bt (b1 mt_28) (bt (b1 mt_29) (b1 mt_30))) (bt (bt (b1 mt_31) (b1 mt_32)) (bt (b1 mt_33) (b1 mt_34)))) (bt (bt (b1 mt_35) (bt (b1 mt_36) (b1 mt_37))) (bt (bt (b1 mt_38) (b1 mt_39)) (bt (b1 mt_40) (b1 mt_41))))) (bt (bt (bt (b1 mt_42) (bt (b1 mt_43) (b1 mt_44))) (bt (bt (b1 mt_45) (b1 mt_46)) (bt (b1 mt_47) (b1 mt_48)))) (bt (bt (b1 mt_49) (bt (b1 mt_50) (b1 mt_51))) (bt (bt (b1 mt_52) (b1 mt_53)) (bt (b1 mt_54) (b1 mt_55))))))) (bt (bt (bt (bt (bt (b1 mt_56) (bt (b1 mt_57) (b1 mt_58))) (bt (bt (b1 mt_59) (b1 mt_60)) (bt (b1 mt_61) (b1 mt_62)))) (bt (bt (b1 mt_63) (bt (b1 mt_64) (b1 mt_65))) (bt (bt (b1 mt_66) (b1 mt_67)) (bt (b1 mt_68) (b1 mt_69))))) (bt (bt (bt (b1 mt_70) (bt (b1 mt_71) (b1 mt_72))) (bt (bt (b1 mt_73) (b1 mt_74)) (bt (b1 mt_75) (b1 mt_76)))) (bt (bt (b1 mt_77) (bt (b1 mt_78) (b1 mt_79))) (bt (bt (b1 mt_80) (b1 mt_81)) (bt (b1 mt_82) (b1 mt_83)))))) (bt (bt (bt (bt (b1 mt_84) (bt (b1 mt_85) (b1 mt_86))) (bt (bt (b1 mt_87) (b1 mt_88)) (bt (b1 mt_89) (b1 mt_90)))) (bt (bt (b1 mt_91) (bt (b1 mt_92) (b1 mt_93))) (bt (bt (b1 mt_94) (b1 mt_95)) (bt (b1 mt_96) (b1 mt_97))))) (bt (bt (bt (b1 mt_98) (bt (b1 mt_99) (b1 mt_100))) (bt (bt (b1 mt_101) (b1 mt_102)) (bt (b1 mt_103) (b1 mt_104)))) (bt (bt (b1 mt_105) (bt (b1 mt_106) (b1 mt_107))) (bt (bt (b1 mt_108) (b1 mt_109)) (bt (b1 mt_110) (b1 mt_111)))))))) (bt (bt (bt (bt (bt (bt (b1 mt_112) (bt (b1 mt_113) (b1 mt_114))) (bt (bt (b1 mt_115) (b1 mt_116)) (bt (b1 mt_117) (b1 mt_118)))) (bt (bt (b1 mt_119) (bt (b1 mt_120) (b1 mt_121))) (bt (bt (b1 mt_122) (b1 mt_123)) (bt (b1 mt_124) (b1 mt_125))))) (bt (bt (bt (b1 mt_126) (bt (b1 mt_127) (b1 mt_128))) (bt (bt (b1 mt_129) (b1 mt_130)) (bt (b1 mt_131) (b1 mt_132)))) (bt (bt (b1 mt_133) (bt (b1 mt_134) (b1 mt_135))) (bt (bt (b1 mt_136) (b1 mt_137)) (bt (b1 mt_138) (b1 mt_139)))))) (bt (bt (bt (bt (b1 mt_140) (bt (b1 mt_141) (b1 mt_142))) (bt (bt (b1 mt_143) (b1 mt_144)) (bt (b1 mt_145) (b1 mt_146)))) (bt (bt (b1 mt_147) (bt (b1 mt_148) (b1 mt_149))) (bt (bt (b1 mt_150) (b1 mt_151)) (bt (b1 mt_152) (b1 mt_153))))) (bt (bt (bt (b1 mt_154) (bt (b1 mt_155) (b1 mt_156))) (bt (bt (b1 mt_157) (b1 mt_158)) (bt (b1 mt_159) (b1 mt_160)))) (bt (bt (b1 mt_161) (bt (b1 mt_162) (b1 mt_163))) (bt (bt (b1 mt_164) (b1 mt_165)) (bt (b1 mt_166) (b1 mt_167))))))) (bt (bt (bt (bt (bt (b1 mt_168) (bt (b1 mt_169) (b1 mt_170))) (bt (bt (b1 mt_171) (b1 mt_172)) (bt (b1 mt_173) (b1 mt_174)))) (bt (bt (b1 mt_175) (bt (b1 mt_176) (b1 mt_177))) (bt (bt (b1 mt_178) (b1 mt_179)) (bt (b1 mt_180) (b1 mt_181))))) (bt (bt (bt (b1 mt_182) (bt (b1 mt_183) (b1 mt_184))) (bt (bt (b1 mt_185) (b1 mt_186)) (bt (b1 mt_187) (b1 mt_188)))) (bt (bt (b1 mt_189) (bt (b1 mt_190) (b1 mt_191))) (bt (bt (b1 mt_192) (b1 mt_193)) (bt (b1 mt_194) (b1 mt_195)))))) (bt (bt (bt (bt (b1 mt_196) (bt (b1 mt_197) (b1 mt_198))) (bt (bt (b1 mt_199) (b1 mt_200)) (bt (b1 mt_201) (b1 mt_202)))) (bt (bt (b1 mt_203) (bt (b1 mt_204) (b1 mt_205))) (bt (bt (b1 mt_206) (b1 mt_207)) (bt (b1 mt_208) (b1 mt_209))))) (bt (bt (bt (b1 mt_210) (bt (b1 mt_211) (b1 mt_212))) (bt (bt (b1 mt_213) (b1 mt_214)) (bt (b1 mt_215) (b1 mt_216)))) (bt (bt (b1 mt_217) (bt (b1 mt_218) (b1 mt_219))) (bt (bt (b1 mt_220) (b1 mt_221)) (bt (b1 mt_222) (b1 mt_223)))))))))
