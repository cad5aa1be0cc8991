/-! Methods of the JDK, decoded out of the Statement's own bytes. Printed by wip/whole/gen/p39.py -/
abbrev c_Ma_min : ByteArray := prog_20_method_69_code
def y_Ma_min : MethodName := ⟨"java/lang/Math", "min", "(II)I"⟩
def l_Ma_min : List (Nat × Instr × Nat) := [(0, .iload_n 0, 1), (1, .iload_n 1, 1), (2, .if_icmp .gt 7, 3), (5, .iload_n 0, 1), (6, .goto 4, 3), (9, .iload_n 1, 1), (10, .ireturn, 1)]
theorem d_Ma_min : ∀ q ∈ l_Ma_min, decode c_Ma_min q.1 = .ok (q.2.1, q.2.2) := by decide +kernel
abbrev c_St_length : ByteArray := prog_22_method_54_code
def y_St_length : MethodName := ⟨"java/lang/String", "length", "()I"⟩
def l_St_length : List (Nat × Instr × Nat) := [(0, .aload_n 0, 1), (1, .getfield 9, 3), (4, .arraylength, 1), (5, .aload_n 0, 1), (6, .invokevirtual 335, 3), (9, .ishr, 1), (10, .ireturn, 1)]
theorem d_St_length : ∀ q ∈ l_St_length, decode c_St_length q.1 = .ok (q.2.1, q.2.2) := by decide +kernel
abbrev c_St_coder : ByteArray := prog_22_method_152_code
def y_St_coder : MethodName := ⟨"java/lang/String", "coder", "()B"⟩
def l_St_coder : List (Nat × Instr × Nat) := [(0, .getstatic 38, 3), (3, .ifCond .eq 10, 3), (6, .aload_n 0, 1), (7, .getfield 15, 3), (10, .goto 4, 3), (13, .iconst 1, 1), (14, .ireturn, 1)]
theorem d_St_coder : ∀ q ∈ l_St_coder, decode c_St_coder q.1 = .ok (q.2.1, q.2.2) := by decide +kernel
abbrev c_St_charAt : ByteArray := prog_22_method_56_code
def y_St_charAt : MethodName := ⟨"java/lang/String", "charAt", "(I)C"⟩
def l_St_charAt : List (Nat × Instr × Nat) := [(0, .aload_n 0, 1), (1, .invokevirtual 492, 3), (4, .ifCond .eq 12, 3), (7, .aload_n 0, 1), (8, .getfield 9, 3), (11, .iload_n 1, 1), (12, .invokestatic 495, 3), (15, .ireturn, 1), (16, .aload_n 0, 1), (17, .getfield 9, 3), (20, .iload_n 1, 1), (21, .invokestatic 498, 3), (24, .ireturn, 1)]
theorem d_St_charAt : ∀ q ∈ l_St_charAt, decode c_St_charAt q.1 = .ok (q.2.1, q.2.2) := by decide +kernel
abbrev c_St_isLatin1 : ByteArray := prog_22_method_154_code
def y_St_isLatin1 : MethodName := ⟨"java/lang/String", "isLatin1", "()Z"⟩
def l_St_isLatin1 : List (Nat × Instr × Nat) := [(0, .getstatic 38, 3), (3, .ifCond .eq 14, 3), (6, .aload_n 0, 1), (7, .getfield 15, 3), (10, .ifCond .ne 7, 3), (13, .iconst 1, 1), (14, .goto 4, 3), (17, .iconst 0, 1), (18, .ireturn, 1)]
theorem d_St_isLatin1 : ∀ q ∈ l_St_isLatin1, decode c_St_isLatin1 q.1 = .ok (q.2.1, q.2.2) := by decide +kernel
abbrev c_Sl_charAt : ByteArray := prog_23_method_2_code
def y_Sl_charAt : MethodName := ⟨"java/lang/StringLatin1", "charAt", "([BI)C"⟩
def l_Sl_charAt : List (Nat × Instr × Nat) := [(0, .iload_n 1, 1), (1, .aload_n 0, 1), (2, .arraylength, 1), (3, .invokestatic 9, 3), (6, .aload_n 0, 1), (7, .iload_n 1, 1), (8, .baload, 1), (9, .sipush 255, 3), (12, .iand, 1), (13, .i2c, 1), (14, .ireturn, 1)]
theorem d_Sl_charAt : ∀ q ∈ l_Sl_charAt, decode c_Sl_charAt q.1 = .ok (q.2.1, q.2.2) := by decide +kernel
abbrev c_St_checkIndex : ByteArray := prog_22_method_155_code
def y_St_checkIndex : MethodName := ⟨"java/lang/String", "checkIndex", "(II)V"⟩
def l_St_checkIndex : List (Nat × Instr × Nat) := [(0, .iload_n 0, 1), (1, .iload_n 1, 1), (2, .getstatic 1053, 3), (5, .invokestatic 1059, 3), (8, .pop, 1), (9, .return_, 1)]
theorem d_St_checkIndex : ∀ q ∈ l_St_checkIndex, decode c_St_checkIndex q.1 = .ok (q.2.1, q.2.2) := by decide +kernel
abbrev c_Pc_checkIndex : ByteArray := prog_27_method_11_code
def y_Pc_checkIndex : MethodName := ⟨"jdk/internal/util/Preconditions", "checkIndex", "(IILjava/util/function/BiFunction;)I"⟩
def l_Pc_checkIndex : List (Nat × Instr × Nat) := [(0, .iload_n 0, 1), (1, .ifCond .lt 8, 3), (4, .iload_n 0, 1), (5, .iload_n 1, 1), (6, .if_icmp .lt 10, 3), (9, .aload_n 2, 1), (10, .iload_n 0, 1), (11, .iload_n 1, 1), (12, .invokestatic 95, 3), (15, .athrow, 1), (16, .iload_n 0, 1), (17, .ireturn, 1)]
theorem d_Pc_checkIndex : ∀ q ∈ l_Pc_checkIndex, decode c_Pc_checkIndex q.1 = .ok (q.2.1, q.2.2) := by decide +kernel
abbrev c_St_isEmpty : ByteArray := prog_22_method_55_code
def y_St_isEmpty : MethodName := ⟨"java/lang/String", "isEmpty", "()Z"⟩
def l_St_isEmpty : List (Nat × Instr × Nat) := [(0, .aload_n 0, 1), (1, .getfield 9, 3), (4, .arraylength, 1), (5, .ifCond .ne 7, 3), (8, .iconst 1, 1), (9, .goto 4, 3), (12, .iconst 0, 1), (13, .ireturn, 1)]
theorem d_St_isEmpty : ∀ q ∈ l_St_isEmpty, decode c_St_isEmpty q.1 = .ok (q.2.1, q.2.2) := by decide +kernel
abbrev c_St_indexOf0 : ByteArray := prog_22_method_79_code
def y_St_indexOf0 : MethodName := ⟨"java/lang/String", "indexOf", "(I)I"⟩
def l_St_indexOf0 : List (Nat × Instr × Nat) := [(0, .aload_n 0, 1), (1, .iload_n 1, 1), (2, .iconst 0, 1), (3, .invokevirtual 633, 3), (6, .ireturn, 1)]
theorem d_St_indexOf0 : ∀ q ∈ l_St_indexOf0, decode c_St_indexOf0 q.1 = .ok (q.2.1, q.2.2) := by decide +kernel
abbrev c_St_indexOf1 : ByteArray := prog_22_method_80_code
def y_St_indexOf1 : MethodName := ⟨"java/lang/String", "indexOf", "(II)I"⟩
def l_St_indexOf1 : List (Nat × Instr × Nat) := [(0, .aload_n 0, 1), (1, .invokevirtual 492, 3), (4, .ifCond .eq 19, 3), (7, .aload_n 0, 1), (8, .getfield 9, 3), (11, .iload_n 1, 1), (12, .iload_n 2, 1), (13, .aload_n 0, 1), (14, .invokevirtual 505, 3), (17, .invokestatic 637, 3), (20, .goto 16, 3), (23, .aload_n 0, 1), (24, .getfield 9, 3), (27, .iload_n 1, 1), (28, .iload_n 2, 1), (29, .aload_n 0, 1), (30, .invokevirtual 505, 3), (33, .invokestatic 640, 3), (36, .ireturn, 1)]
theorem d_St_indexOf1 : ∀ q ∈ l_St_indexOf1, decode c_St_indexOf1 q.1 = .ok (q.2.1, q.2.2) := by decide +kernel
abbrev c_Sl_indexOf : ByteArray := prog_23_method_22_code
def y_Sl_indexOf : MethodName := ⟨"java/lang/StringLatin1", "indexOf", "([BIII)I"⟩
def l_Sl_indexOf : List (Nat × Instr × Nat) := [(0, .iload_n 1, 1), (1, .invokestatic 88, 3), (4, .ifCond .ne 5, 3), (7, .iconst (-1), 1), (8, .ireturn, 1), (9, .iload_n 2, 1), (10, .iconst 0, 1), (11, .invokestatic 92, 3), (14, .istore_n 2, 1), (15, .iload_n 3, 1), (16, .aload_n 0, 1), (17, .arraylength, 1), (18, .invokestatic 38, 3), (21, .istore_n 3, 1), (22, .iload_n 2, 1), (23, .iload_n 3, 1), (24, .if_icmp .lt 5, 3), (27, .iconst (-1), 1), (28, .ireturn, 1), (29, .aload_n 0, 1), (30, .iload_n 1, 1), (31, .iload_n 2, 1), (32, .iload_n 3, 1), (33, .invokestatic 95, 3), (36, .ireturn, 1)]
theorem d_Sl_indexOf : ∀ q ∈ l_Sl_indexOf, decode c_Sl_indexOf q.1 = .ok (q.2.1, q.2.2) := by decide +kernel
abbrev c_Sl_canEncode : ByteArray := prog_23_method_4_code
def y_Sl_canEncode : MethodName := ⟨"java/lang/StringLatin1", "canEncode", "(I)Z"⟩
def l_Sl_canEncode : List (Nat × Instr × Nat) := [(0, .iload_n 0, 1), (1, .ifCond .lt 14, 3), (4, .iload_n 0, 1), (5, .sipush 255, 3), (8, .if_icmp .gt 7, 3), (11, .iconst 1, 1), (12, .goto 4, 3), (15, .iconst 0, 1), (16, .ireturn, 1)]
theorem d_Sl_canEncode : ∀ q ∈ l_Sl_canEncode, decode c_Sl_canEncode q.1 = .ok (q.2.1, q.2.2) := by decide +kernel
abbrev c_Ma_max : ByteArray := prog_20_method_65_code
def y_Ma_max : MethodName := ⟨"java/lang/Math", "max", "(II)I"⟩
def l_Ma_max : List (Nat × Instr × Nat) := [(0, .iload_n 0, 1), (1, .iload_n 1, 1), (2, .if_icmp .lt 7, 3), (5, .iload_n 0, 1), (6, .goto 4, 3), (9, .iload_n 1, 1), (10, .ireturn, 1)]
theorem d_Ma_max : ∀ q ∈ l_Ma_max, decode c_Ma_max q.1 = .ok (q.2.1, q.2.2) := by decide +kernel
abbrev c_Sl_indexOfChar : ByteArray := prog_23_method_23_code
def y_Sl_indexOfChar : MethodName := ⟨"java/lang/StringLatin1", "indexOfChar", "([BIII)I"⟩
def l_Sl_indexOfChar : List (Nat × Instr × Nat) := [(0, .iload_n 1, 1), (1, .i2b, 1), (2, .istore 4, 2), (4, .iload_n 2, 1), (5, .istore 5, 2), (7, .iload 5, 2), (9, .iload_n 3, 1), (10, .if_icmp .ge 21, 3), (13, .aload_n 0, 1), (14, .iload 5, 2), (16, .baload, 1), (17, .iload 4, 2), (19, .if_icmp .ne 6, 3), (22, .iload 5, 2), (24, .ireturn, 1), (25, .iinc 5 1, 3), (28, .goto (-21), 3), (31, .iconst (-1), 1), (32, .ireturn, 1)]
theorem d_Sl_indexOfChar : ∀ q ∈ l_Sl_indexOfChar, decode c_Sl_indexOfChar q.1 = .ok (q.2.1, q.2.2) := by decide +kernel
abbrev c_En_ordinal : ByteArray := prog_16_method_2_code
def y_En_ordinal : MethodName := ⟨"java/lang/Enum", "ordinal", "()I"⟩
def l_En_ordinal : List (Nat × Instr × Nat) := [(0, .aload_n 0, 1), (1, .getfield 7, 3), (4, .ireturn, 1)]
theorem d_En_ordinal : ∀ q ∈ l_En_ordinal, decode c_En_ordinal q.1 = .ok (q.2.1, q.2.2) := by decide +kernel
abbrev c_Ar_fill : ByteArray := prog_26_method_103_code
def y_Ar_fill : MethodName := ⟨"java/util/Arrays", "fill", "([II)V"⟩
def l_Ar_fill : List (Nat × Instr × Nat) := [(0, .iconst 0, 1), (1, .istore_n 2, 1), (2, .aload_n 0, 1), (3, .arraylength, 1), (4, .istore_n 3, 1), (5, .iload_n 2, 1), (6, .iload_n 3, 1), (7, .if_icmp .ge 13, 3), (10, .aload_n 0, 1), (11, .iload_n 2, 1), (12, .iload_n 1, 1), (13, .iastore, 1), (14, .iinc 2 1, 3), (17, .goto (-12), 3), (20, .return_, 1)]
theorem d_Ar_fill : ∀ q ∈ l_Ar_fill, decode c_Ar_fill q.1 = .ok (q.2.1, q.2.2) := by decide +kernel
