/-! TABLES (by program): the rows of the JDK's methods of builders and texts. -/
theorem zsb_0 : (e_sbs.getD 0 (Cond.count 0)) ∈ e_good := List.mem_filter.mpr ⟨List.mem_append_right _ (List.mem_of_getElem? (i := 0) rfl), rfl⟩
theorem zsb_1 : (e_sbs.getD 1 (Cond.count 0)) ∈ e_good := List.mem_filter.mpr ⟨List.mem_append_right _ (List.mem_of_getElem? (i := 1) rfl), rfl⟩
theorem zsb_2 : (e_sbs.getD 2 (Cond.count 0)) ∈ e_good := List.mem_filter.mpr ⟨List.mem_append_right _ (List.mem_of_getElem? (i := 2) rfl), rfl⟩
theorem zsb_3 : (e_sbs.getD 3 (Cond.count 0)) ∈ e_good := List.mem_filter.mpr ⟨List.mem_append_right _ (List.mem_of_getElem? (i := 3) rfl), rfl⟩
theorem zw1_11 : (Jvm.Cond.initialized "java/lang/AbstractStringBuilder") ∈ e_good := List.mem_filter.mpr ⟨tm_1 _ (List.mem_of_getElem? (i := 11) rfl), rfl⟩
theorem zw1_12 : (Jvm.Cond.initialized "java/lang/StringBuilder") ∈ e_good := List.mem_filter.mpr ⟨tm_1 _ (List.mem_of_getElem? (i := 12) rfl), rfl⟩
theorem zw1_13 : (Jvm.Cond.initialized "java/lang/String") ∈ e_good := List.mem_filter.mpr ⟨tm_1 _ (List.mem_of_getElem? (i := 13) rfl), rfl⟩
theorem zw1_15 : (Jvm.Cond.initialized "jdk/internal/util/ArraysSupport") ∈ e_good := List.mem_filter.mpr ⟨tm_1 _ (List.mem_of_getElem? (i := 15) rfl), rfl⟩
theorem zw1_17 : (Jvm.Cond.initialized "java/util/Arrays") ∈ e_good := List.mem_filter.mpr ⟨tm_1 _ (List.mem_of_getElem? (i := 17) rfl), rfl⟩
theorem zw1_20 : (Jvm.Cond.initialized "java/lang/StringLatin1") ∈ e_good := List.mem_filter.mpr ⟨tm_1 _ (List.mem_of_getElem? (i := 20) rfl), rfl⟩
theorem zw1_210 : (Jvm.Cond.arrayClass Jvm.ClassFile.FieldType.byte) ∈ e_good := List.mem_filter.mpr ⟨tm_1 _ (List.mem_of_getElem? (i := 210) rfl), rfl⟩
theorem zw1_37 : (Jvm.Cond.instanceMethod ({ cls := "java/lang/Object", name := "<init>", desc := "()V" } : Jvm.MethodName)) ∈ e_good := List.mem_filter.mpr ⟨tm_1 _ (List.mem_of_getElem? (i := 37) rfl), rfl⟩
theorem zw1_38 : (Jvm.Cond.code ({ cls := "java/lang/Object", name := "<init>", desc := "()V" } : Jvm.MethodName) object_method_1_code (1 : Nat) (Option.none : Option Jvm.ClassFile.FieldType)) ∈ e_good := List.mem_filter.mpr ⟨tm_1 _ (List.mem_of_getElem? (i := 38) rfl), rfl⟩
theorem zw3_112 : (Jvm.Cond.instanceMethod ({ cls := "java/lang/String", name := "length", desc := "()I" } : Jvm.MethodName)) ∈ e_good := List.mem_filter.mpr ⟨tm_3 _ (List.mem_of_getElem? (i := 112) rfl), rfl⟩
theorem zw3_113 : (Jvm.Cond.selects "java/lang/String" ({ cls := "java/lang/String", name := "length", desc := "()I" } : Jvm.MethodName) ({ cls := "java/lang/String", name := "length", desc := "()I" } : Jvm.MethodName)) ∈ e_good := List.mem_filter.mpr ⟨tm_3 _ (List.mem_of_getElem? (i := 113) rfl), rfl⟩
theorem zw3_115 : (Jvm.Cond.methodLink "java/lang/String" (335 : Nat) ({ cls := "java/lang/String", name := "coder", desc := "()B" } : Jvm.MethodName)) ∈ e_good := List.mem_filter.mpr ⟨tm_3 _ (List.mem_of_getElem? (i := 115) rfl), rfl⟩
theorem zw3_116 : (Jvm.Cond.instanceMethod ({ cls := "java/lang/String", name := "coder", desc := "()B" } : Jvm.MethodName)) ∈ e_good := List.mem_filter.mpr ⟨tm_3 _ (List.mem_of_getElem? (i := 116) rfl), rfl⟩
theorem zw3_117 : (Jvm.Cond.selects "java/lang/String" ({ cls := "java/lang/String", name := "coder", desc := "()B" } : Jvm.MethodName) ({ cls := "java/lang/String", name := "coder", desc := "()B" } : Jvm.MethodName)) ∈ e_good := List.mem_filter.mpr ⟨tm_3 _ (List.mem_of_getElem? (i := 117) rfl), rfl⟩
theorem zw3_119 : (Jvm.Cond.fieldLink "java/lang/String" (38 : Nat) "java/lang/String" "COMPACT_STRINGS" "Z") ∈ e_good := List.mem_filter.mpr ⟨tm_3 _ (List.mem_of_getElem? (i := 119) rfl), rfl⟩
theorem zw3_125 : (Jvm.Cond.methodLink "java/lang/String" (492 : Nat) ({ cls := "java/lang/String", name := "isLatin1", desc := "()Z" } : Jvm.MethodName)) ∈ e_good := List.mem_filter.mpr ⟨tm_3 _ (List.mem_of_getElem? (i := 125) rfl), rfl⟩
theorem zw3_126 : (Jvm.Cond.instanceMethod ({ cls := "java/lang/String", name := "isLatin1", desc := "()Z" } : Jvm.MethodName)) ∈ e_good := List.mem_filter.mpr ⟨tm_3 _ (List.mem_of_getElem? (i := 126) rfl), rfl⟩
theorem zw3_127 : (Jvm.Cond.selects "java/lang/String" ({ cls := "java/lang/String", name := "isLatin1", desc := "()Z" } : Jvm.MethodName) ({ cls := "java/lang/String", name := "isLatin1", desc := "()Z" } : Jvm.MethodName)) ∈ e_good := List.mem_filter.mpr ⟨tm_3 _ (List.mem_of_getElem? (i := 127) rfl), rfl⟩
theorem zw3_129 : (Jvm.Cond.methodLink "java/lang/String" (495 : Nat) ({ cls := "java/lang/StringLatin1", name := "charAt", desc := "([BI)C" } : Jvm.MethodName)) ∈ e_good := List.mem_filter.mpr ⟨tm_3 _ (List.mem_of_getElem? (i := 129) rfl), rfl⟩
theorem zw3_130 : (Jvm.Cond.static ({ cls := "java/lang/StringLatin1", name := "charAt", desc := "([BI)C" } : Jvm.MethodName)) ∈ e_good := List.mem_filter.mpr ⟨tm_3 _ (List.mem_of_getElem? (i := 130) rfl), rfl⟩
theorem zw3_132 : (Jvm.Cond.methodLink "java/lang/StringLatin1" (9 : Nat) ({ cls := "java/lang/String", name := "checkIndex", desc := "(II)V" } : Jvm.MethodName)) ∈ e_good := List.mem_filter.mpr ⟨tm_3 _ (List.mem_of_getElem? (i := 132) rfl), rfl⟩
theorem zw3_133 : (Jvm.Cond.static ({ cls := "java/lang/String", name := "checkIndex", desc := "(II)V" } : Jvm.MethodName)) ∈ e_good := List.mem_filter.mpr ⟨tm_3 _ (List.mem_of_getElem? (i := 133) rfl), rfl⟩
theorem zw4_136 : (Jvm.Cond.code ({ cls := "java/lang/StringBuilder", name := "<init>", desc := "(Ljava/lang/String;)V" } : Jvm.MethodName) prog_29_method_3_code (2 : Nat) (Option.none : Option Jvm.ClassFile.FieldType)) ∈ e_good := List.mem_filter.mpr ⟨tm_4 _ (List.mem_of_getElem? (i := 136) rfl), rfl⟩
theorem zw4_137 : (Jvm.Cond.methodLink "java/lang/StringBuilder" (7 : Nat) ({ cls := "java/lang/AbstractStringBuilder", name := "<init>", desc := "(Ljava/lang/String;)V" } : Jvm.MethodName)) ∈ e_good := List.mem_filter.mpr ⟨tm_4 _ (List.mem_of_getElem? (i := 137) rfl), rfl⟩
theorem zw4_138 : (Jvm.Cond.instanceMethod ({ cls := "java/lang/AbstractStringBuilder", name := "<init>", desc := "(Ljava/lang/String;)V" } : Jvm.MethodName)) ∈ e_good := List.mem_filter.mpr ⟨tm_4 _ (List.mem_of_getElem? (i := 138) rfl), rfl⟩
theorem zw4_139 : (Jvm.Cond.code ({ cls := "java/lang/AbstractStringBuilder", name := "<init>", desc := "(Ljava/lang/String;)V" } : Jvm.MethodName) prog_15_method_3_code (5 : Nat) (Option.none : Option Jvm.ClassFile.FieldType)) ∈ e_good := List.mem_filter.mpr ⟨tm_4 _ (List.mem_of_getElem? (i := 139) rfl), rfl⟩
theorem zw4_140 : (Jvm.Cond.methodLink "java/lang/AbstractStringBuilder" (3 : Nat) ({ cls := "java/lang/Object", name := "<init>", desc := "()V" } : Jvm.MethodName)) ∈ e_good := List.mem_filter.mpr ⟨tm_4 _ (List.mem_of_getElem? (i := 140) rfl), rfl⟩
theorem zw4_141 : (Jvm.Cond.methodLink "java/lang/AbstractStringBuilder" (32 : Nat) ({ cls := "java/lang/String", name := "length", desc := "()I" } : Jvm.MethodName)) ∈ e_good := List.mem_filter.mpr ⟨tm_4 _ (List.mem_of_getElem? (i := 141) rfl), rfl⟩
theorem zw4_142 : (Jvm.Cond.constant "java/lang/AbstractStringBuilder" (38 : Nat) (2147483631 : Int32)) ∈ e_good := List.mem_filter.mpr ⟨tm_4 _ (List.mem_of_getElem? (i := 142) rfl), rfl⟩
theorem zw4_143 : (Jvm.Cond.constant "java/lang/AbstractStringBuilder" (39 : Nat) (2147483647 : Int32)) ∈ e_good := List.mem_filter.mpr ⟨tm_4 _ (List.mem_of_getElem? (i := 143) rfl), rfl⟩
theorem zw4_144 : (Jvm.Cond.methodLink "java/lang/AbstractStringBuilder" (40 : Nat) ({ cls := "java/lang/String", name := "coder", desc := "()B" } : Jvm.MethodName)) ∈ e_good := List.mem_filter.mpr ⟨tm_4 _ (List.mem_of_getElem? (i := 144) rfl), rfl⟩
theorem zw4_152 : (Jvm.Cond.methodLink "java/lang/AbstractStringBuilder" (43 : Nat) ({ cls := "java/lang/AbstractStringBuilder", name := "append", desc := "(Ljava/lang/String;)Ljava/lang/AbstractStringBuilder;" } : Jvm.MethodName)) ∈ e_good := List.mem_filter.mpr ⟨tm_4 _ (List.mem_of_getElem? (i := 152) rfl), rfl⟩
theorem zw4_153 : (Jvm.Cond.instanceMethod ({ cls := "java/lang/AbstractStringBuilder", name := "append", desc := "(Ljava/lang/String;)Ljava/lang/AbstractStringBuilder;" } : Jvm.MethodName)) ∈ e_good := List.mem_filter.mpr ⟨tm_4 _ (List.mem_of_getElem? (i := 153) rfl), rfl⟩
theorem zw4_154 : (Jvm.Cond.sameMethod "java/lang/AbstractStringBuilder" "java/lang/AbstractStringBuilder" "append" "(Ljava/lang/String;)Ljava/lang/AbstractStringBuilder;") ∈ e_good := List.mem_filter.mpr ⟨tm_4 _ (List.mem_of_getElem? (i := 154) rfl), rfl⟩
theorem zw4_155 : (Jvm.Cond.selects "java/lang/StringBuilder" ({ cls := "java/lang/AbstractStringBuilder", name := "append", desc := "(Ljava/lang/String;)Ljava/lang/AbstractStringBuilder;" } : Jvm.MethodName) ({ cls := "java/lang/StringBuilder", name := "append", desc := "(Ljava/lang/String;)Ljava/lang/AbstractStringBuilder;" } : Jvm.MethodName)) ∈ e_good := List.mem_filter.mpr ⟨tm_4 _ (List.mem_of_getElem? (i := 155) rfl), rfl⟩
theorem zw4_156 : (Jvm.Cond.instanceMethod ({ cls := "java/lang/StringBuilder", name := "append", desc := "(Ljava/lang/String;)Ljava/lang/AbstractStringBuilder;" } : Jvm.MethodName)) ∈ e_good := List.mem_filter.mpr ⟨tm_4 _ (List.mem_of_getElem? (i := 156) rfl), rfl⟩
theorem zw4_157 : (Jvm.Cond.code ({ cls := "java/lang/StringBuilder", name := "append", desc := "(Ljava/lang/String;)Ljava/lang/AbstractStringBuilder;" } : Jvm.MethodName) prog_29_method_80_code (2 : Nat) (Option.some (Jvm.ClassFile.FieldType.object "java/lang/AbstractStringBuilder"))) ∈ e_good := List.mem_filter.mpr ⟨tm_4 _ (List.mem_of_getElem? (i := 157) rfl), rfl⟩
theorem zw4_158 : (Jvm.Cond.methodLink "java/lang/StringBuilder" (23 : Nat) ({ cls := "java/lang/StringBuilder", name := "append", desc := "(Ljava/lang/String;)Ljava/lang/StringBuilder;" } : Jvm.MethodName)) ∈ e_good := List.mem_filter.mpr ⟨tm_4 _ (List.mem_of_getElem? (i := 158) rfl), rfl⟩
theorem zw4_159 : (Jvm.Cond.instanceMethod ({ cls := "java/lang/StringBuilder", name := "append", desc := "(Ljava/lang/String;)Ljava/lang/StringBuilder;" } : Jvm.MethodName)) ∈ e_good := List.mem_filter.mpr ⟨tm_4 _ (List.mem_of_getElem? (i := 159) rfl), rfl⟩
theorem zw4_160 : (Jvm.Cond.selects "java/lang/StringBuilder" ({ cls := "java/lang/StringBuilder", name := "append", desc := "(Ljava/lang/String;)Ljava/lang/StringBuilder;" } : Jvm.MethodName) ({ cls := "java/lang/StringBuilder", name := "append", desc := "(Ljava/lang/String;)Ljava/lang/StringBuilder;" } : Jvm.MethodName)) ∈ e_good := List.mem_filter.mpr ⟨tm_4 _ (List.mem_of_getElem? (i := 160) rfl), rfl⟩
theorem zw4_161 : (Jvm.Cond.code ({ cls := "java/lang/StringBuilder", name := "append", desc := "(Ljava/lang/String;)Ljava/lang/StringBuilder;" } : Jvm.MethodName) prog_29_method_7_code (2 : Nat) (Option.some (Jvm.ClassFile.FieldType.object "java/lang/StringBuilder"))) ∈ e_good := List.mem_filter.mpr ⟨tm_4 _ (List.mem_of_getElem? (i := 161) rfl), rfl⟩
theorem zw4_162 : (Jvm.Cond.methodLink "java/lang/StringBuilder" (29 : Nat) ({ cls := "java/lang/AbstractStringBuilder", name := "append", desc := "(Ljava/lang/String;)Ljava/lang/AbstractStringBuilder;" } : Jvm.MethodName)) ∈ e_good := List.mem_filter.mpr ⟨tm_4 _ (List.mem_of_getElem? (i := 162) rfl), rfl⟩
theorem zw4_163 : (Jvm.Cond.superclass "java/lang/StringBuilder" "java/lang/AbstractStringBuilder") ∈ e_good := List.mem_filter.mpr ⟨tm_4 _ (List.mem_of_getElem? (i := 163) rfl), rfl⟩
theorem zw4_164 : (Jvm.Cond.code ({ cls := "java/lang/AbstractStringBuilder", name := "append", desc := "(Ljava/lang/String;)Ljava/lang/AbstractStringBuilder;" } : Jvm.MethodName) prog_15_method_22_code (3 : Nat) (Option.some (Jvm.ClassFile.FieldType.object "java/lang/AbstractStringBuilder"))) ∈ e_good := List.mem_filter.mpr ⟨tm_4 _ (List.mem_of_getElem? (i := 164) rfl), rfl⟩
theorem zw4_169 : (Jvm.Cond.methodLink "java/lang/AbstractStringBuilder" (100 : Nat) ({ cls := "java/lang/AbstractStringBuilder", name := "ensureCapacityInternal", desc := "(I)V" } : Jvm.MethodName)) ∈ e_good := List.mem_filter.mpr ⟨tm_4 _ (List.mem_of_getElem? (i := 169) rfl), rfl⟩
theorem zw4_171 : (Jvm.Cond.instanceMethod ({ cls := "java/lang/AbstractStringBuilder", name := "ensureCapacityInternal", desc := "(I)V" } : Jvm.MethodName)) ∈ e_good := List.mem_filter.mpr ⟨tm_4 _ (List.mem_of_getElem? (i := 171) rfl), rfl⟩
theorem zw4_172 : (Jvm.Cond.code ({ cls := "java/lang/AbstractStringBuilder", name := "ensureCapacityInternal", desc := "(I)V" } : Jvm.MethodName) prog_15_method_9_code (3 : Nat) (Option.none : Option Jvm.ClassFile.FieldType)) ∈ e_good := List.mem_filter.mpr ⟨tm_4 _ (List.mem_of_getElem? (i := 172) rfl), rfl⟩
theorem zw4_173 : (Jvm.Cond.methodLink "java/lang/AbstractStringBuilder" (104 : Nat) ({ cls := "java/lang/AbstractStringBuilder", name := "newCapacity", desc := "(I)I" } : Jvm.MethodName)) ∈ e_good := List.mem_filter.mpr ⟨tm_4 _ (List.mem_of_getElem? (i := 173) rfl), rfl⟩
theorem zw4_175 : (Jvm.Cond.instanceMethod ({ cls := "java/lang/AbstractStringBuilder", name := "newCapacity", desc := "(I)I" } : Jvm.MethodName)) ∈ e_good := List.mem_filter.mpr ⟨tm_4 _ (List.mem_of_getElem? (i := 175) rfl), rfl⟩
theorem zw4_176 : (Jvm.Cond.code ({ cls := "java/lang/AbstractStringBuilder", name := "newCapacity", desc := "(I)I" } : Jvm.MethodName) prog_15_method_10_code (6 : Nat) (Option.some Jvm.ClassFile.FieldType.int)) ∈ e_good := List.mem_filter.mpr ⟨tm_4 _ (List.mem_of_getElem? (i := 176) rfl), rfl⟩
theorem zw4_177 : (Jvm.Cond.methodLink "java/lang/AbstractStringBuilder" (114 : Nat) ({ cls := "jdk/internal/util/ArraysSupport", name := "newLength", desc := "(III)I" } : Jvm.MethodName)) ∈ e_good := List.mem_filter.mpr ⟨tm_4 _ (List.mem_of_getElem? (i := 177) rfl), rfl⟩
theorem zw4_178 : (Jvm.Cond.static ({ cls := "jdk/internal/util/ArraysSupport", name := "newLength", desc := "(III)I" } : Jvm.MethodName)) ∈ e_good := List.mem_filter.mpr ⟨tm_4 _ (List.mem_of_getElem? (i := 178) rfl), rfl⟩
theorem zw4_179 : (Jvm.Cond.code ({ cls := "jdk/internal/util/ArraysSupport", name := "newLength", desc := "(III)I" } : Jvm.MethodName) prog_38_method_27_code (4 : Nat) (Option.some Jvm.ClassFile.FieldType.int)) ∈ e_good := List.mem_filter.mpr ⟨tm_4 _ (List.mem_of_getElem? (i := 179) rfl), rfl⟩
theorem zw4_180 : (Jvm.Cond.methodLink "jdk/internal/util/ArraysSupport" (194 : Nat) ({ cls := "java/lang/Math", name := "max", desc := "(II)I" } : Jvm.MethodName)) ∈ e_good := List.mem_filter.mpr ⟨tm_4 _ (List.mem_of_getElem? (i := 180) rfl), rfl⟩
theorem zw4_181 : (Jvm.Cond.constant "jdk/internal/util/ArraysSupport" (200 : Nat) (2147483639 : Int32)) ∈ e_good := List.mem_filter.mpr ⟨tm_4 _ (List.mem_of_getElem? (i := 181) rfl), rfl⟩
theorem zw4_185 : (Jvm.Cond.methodLink "java/lang/AbstractStringBuilder" (108 : Nat) ({ cls := "java/util/Arrays", name := "copyOf", desc := "([BI)[B" } : Jvm.MethodName)) ∈ e_good := List.mem_filter.mpr ⟨tm_4 _ (List.mem_of_getElem? (i := 185) rfl), rfl⟩
theorem zw4_186 : (Jvm.Cond.static ({ cls := "java/util/Arrays", name := "copyOf", desc := "([BI)[B" } : Jvm.MethodName)) ∈ e_good := List.mem_filter.mpr ⟨tm_4 _ (List.mem_of_getElem? (i := 186) rfl), rfl⟩
theorem zw4_187 : (Jvm.Cond.code ({ cls := "java/util/Arrays", name := "copyOf", desc := "([BI)[B" } : Jvm.MethodName) prog_36_method_121_code (3 : Nat) (Option.some (Jvm.ClassFile.FieldType.array Jvm.ClassFile.FieldType.byte))) ∈ e_good := List.mem_filter.mpr ⟨tm_4 _ (List.mem_of_getElem? (i := 187) rfl), rfl⟩
theorem zw4_188 : (Jvm.Cond.methodLink "java/util/Arrays" (310 : Nat) ({ cls := "[B", name := "clone", desc := "()Ljava/lang/Object;" } : Jvm.MethodName)) ∈ e_good := List.mem_filter.mpr ⟨tm_4 _ (List.mem_of_getElem? (i := 188) rfl), rfl⟩
theorem zw4_189 : (Jvm.Cond.sameMethod "[B" "java/lang/Object" "clone" "()Ljava/lang/Object;") ∈ e_good := List.mem_filter.mpr ⟨tm_4 _ (List.mem_of_getElem? (i := 189) rfl), rfl⟩
theorem zw4_190 : (Jvm.Cond.native ({ cls := "java/lang/Object", name := "clone", desc := "()Ljava/lang/Object;" } : Jvm.MethodName)) ∈ e_good := List.mem_filter.mpr ⟨tm_4 _ (List.mem_of_getElem? (i := 190) rfl), rfl⟩
theorem zw4_191 : (Jvm.Cond.instanceMethod ({ cls := "java/lang/Object", name := "clone", desc := "()Ljava/lang/Object;" } : Jvm.MethodName)) ∈ e_good := List.mem_filter.mpr ⟨tm_4 _ (List.mem_of_getElem? (i := 191) rfl), rfl⟩
theorem zw4_192 : (Jvm.Cond.selects "[B" ({ cls := "[B", name := "clone", desc := "()Ljava/lang/Object;" } : Jvm.MethodName) ({ cls := "java/lang/Object", name := "clone", desc := "()Ljava/lang/Object;" } : Jvm.MethodName)) ∈ e_good := List.mem_filter.mpr ⟨tm_4 _ (List.mem_of_getElem? (i := 192) rfl), rfl⟩
theorem zw4_194 : (Jvm.Cond.classLink "java/util/Arrays" (311 : Nat) "[B") ∈ e_good := List.mem_filter.mpr ⟨tm_4 _ (List.mem_of_getElem? (i := 194) rfl), rfl⟩
theorem zw4_195 : (Jvm.Cond.methodLink "java/util/Arrays" (304 : Nat) ({ cls := "java/lang/Math", name := "min", desc := "(II)I" } : Jvm.MethodName)) ∈ e_good := List.mem_filter.mpr ⟨tm_4 _ (List.mem_of_getElem? (i := 195) rfl), rfl⟩
theorem zw4_196 : (Jvm.Cond.methodLink "java/util/Arrays" (150 : Nat) ({ cls := "java/lang/System", name := "arraycopy", desc := "(Ljava/lang/Object;ILjava/lang/Object;II)V" } : Jvm.MethodName)) ∈ e_good := List.mem_filter.mpr ⟨tm_4 _ (List.mem_of_getElem? (i := 196) rfl), rfl⟩
theorem zw4_197 : (Jvm.Cond.methodLink "java/lang/AbstractStringBuilder" (83 : Nat) ({ cls := "java/lang/AbstractStringBuilder", name := "isLatin1", desc := "()Z" } : Jvm.MethodName)) ∈ e_good := List.mem_filter.mpr ⟨tm_4 _ (List.mem_of_getElem? (i := 197) rfl), rfl⟩
theorem zw4_198 : (Jvm.Cond.instanceMethod ({ cls := "java/lang/AbstractStringBuilder", name := "isLatin1", desc := "()Z" } : Jvm.MethodName)) ∈ e_good := List.mem_filter.mpr ⟨tm_4 _ (List.mem_of_getElem? (i := 198) rfl), rfl⟩
theorem zw4_199 : (Jvm.Cond.sameMethod "java/lang/AbstractStringBuilder" "java/lang/AbstractStringBuilder" "isLatin1" "()Z") ∈ e_good := List.mem_filter.mpr ⟨tm_4 _ (List.mem_of_getElem? (i := 199) rfl), rfl⟩
theorem zw4_200 : (Jvm.Cond.selects "java/lang/StringBuilder" ({ cls := "java/lang/AbstractStringBuilder", name := "isLatin1", desc := "()Z" } : Jvm.MethodName) ({ cls := "java/lang/AbstractStringBuilder", name := "isLatin1", desc := "()Z" } : Jvm.MethodName)) ∈ e_good := List.mem_filter.mpr ⟨tm_4 _ (List.mem_of_getElem? (i := 200) rfl), rfl⟩
theorem zw4_201 : (Jvm.Cond.code ({ cls := "java/lang/AbstractStringBuilder", name := "isLatin1", desc := "()Z" } : Jvm.MethodName) prog_15_method_68_code (1 : Nat) (Option.some Jvm.ClassFile.FieldType.boolean)) ∈ e_good := List.mem_filter.mpr ⟨tm_4 _ (List.mem_of_getElem? (i := 201) rfl), rfl⟩
theorem zw4_202 : (Jvm.Cond.fieldLink "java/lang/AbstractStringBuilder" (18 : Nat) "java/lang/String" "COMPACT_STRINGS" "Z") ∈ e_good := List.mem_filter.mpr ⟨tm_4 _ (List.mem_of_getElem? (i := 202) rfl), rfl⟩
theorem zw4_218 : (Jvm.Cond.methodLink "java/lang/AbstractStringBuilder" (208 : Nat) ({ cls := "java/lang/AbstractStringBuilder", name := "putStringAt", desc := "(ILjava/lang/String;)V" } : Jvm.MethodName)) ∈ e_good := List.mem_filter.mpr ⟨tm_4 _ (List.mem_of_getElem? (i := 218) rfl), rfl⟩
theorem zw4_220 : (Jvm.Cond.instanceMethod ({ cls := "java/lang/AbstractStringBuilder", name := "putStringAt", desc := "(ILjava/lang/String;)V" } : Jvm.MethodName)) ∈ e_good := List.mem_filter.mpr ⟨tm_4 _ (List.mem_of_getElem? (i := 220) rfl), rfl⟩
theorem zw4_221 : (Jvm.Cond.code ({ cls := "java/lang/AbstractStringBuilder", name := "putStringAt", desc := "(ILjava/lang/String;)V" } : Jvm.MethodName) prog_15_method_73_code (3 : Nat) (Option.none : Option Jvm.ClassFile.FieldType)) ∈ e_good := List.mem_filter.mpr ⟨tm_4 _ (List.mem_of_getElem? (i := 221) rfl), rfl⟩
theorem zw4_222 : (Jvm.Cond.methodLink "java/lang/AbstractStringBuilder" (397 : Nat) ({ cls := "java/lang/AbstractStringBuilder", name := "inflateIfNeededFor", desc := "(Ljava/lang/String;)V" } : Jvm.MethodName)) ∈ e_good := List.mem_filter.mpr ⟨tm_4 _ (List.mem_of_getElem? (i := 222) rfl), rfl⟩
theorem zw4_224 : (Jvm.Cond.instanceMethod ({ cls := "java/lang/AbstractStringBuilder", name := "inflateIfNeededFor", desc := "(Ljava/lang/String;)V" } : Jvm.MethodName)) ∈ e_good := List.mem_filter.mpr ⟨tm_4 _ (List.mem_of_getElem? (i := 224) rfl), rfl⟩
theorem zw4_225 : (Jvm.Cond.code ({ cls := "java/lang/AbstractStringBuilder", name := "inflateIfNeededFor", desc := "(Ljava/lang/String;)V" } : Jvm.MethodName) prog_15_method_71_code (2 : Nat) (Option.none : Option Jvm.ClassFile.FieldType)) ∈ e_good := List.mem_filter.mpr ⟨tm_4 _ (List.mem_of_getElem? (i := 225) rfl), rfl⟩
theorem zw5_104 : (Jvm.Cond.fieldLink "java/lang/String" (9 : Nat) "java/lang/String" "value" "[B") ∈ e_good := List.mem_filter.mpr ⟨tm_5 _ (List.mem_of_getElem? (i := 104) rfl), rfl⟩
theorem zw5_105 : (Jvm.Cond.fieldLink "java/lang/String" (15 : Nat) "java/lang/String" "coder" "B") ∈ e_good := List.mem_filter.mpr ⟨tm_5 _ (List.mem_of_getElem? (i := 105) rfl), rfl⟩
theorem zw5_11 : (Jvm.Cond.fieldLink "java/lang/AbstractStringBuilder" (15 : Nat) "java/lang/AbstractStringBuilder" "value" "[B") ∈ e_good := List.mem_filter.mpr ⟨tm_5 _ (List.mem_of_getElem? (i := 11) rfl), rfl⟩
theorem zw5_12 : (Jvm.Cond.fieldLink "java/lang/AbstractStringBuilder" (22 : Nat) "java/lang/AbstractStringBuilder" "coder" "B") ∈ e_good := List.mem_filter.mpr ⟨tm_5 _ (List.mem_of_getElem? (i := 12) rfl), rfl⟩
theorem zw5_120 : (Jvm.Cond.code ({ cls := "java/lang/StringBuilder", name := "append", desc := "(C)Ljava/lang/StringBuilder;" } : Jvm.MethodName) prog_29_method_14_code (2 : Nat) (Option.some (Jvm.ClassFile.FieldType.object "java/lang/StringBuilder"))) ∈ e_good := List.mem_filter.mpr ⟨tm_5 _ (List.mem_of_getElem? (i := 120) rfl), rfl⟩
theorem zw5_121 : (Jvm.Cond.methodLink "java/lang/StringBuilder" (50 : Nat) ({ cls := "java/lang/AbstractStringBuilder", name := "append", desc := "(C)Ljava/lang/AbstractStringBuilder;" } : Jvm.MethodName)) ∈ e_good := List.mem_filter.mpr ⟨tm_5 _ (List.mem_of_getElem? (i := 121) rfl), rfl⟩
theorem zw5_122 : (Jvm.Cond.instanceMethod ({ cls := "java/lang/AbstractStringBuilder", name := "append", desc := "(C)Ljava/lang/AbstractStringBuilder;" } : Jvm.MethodName)) ∈ e_good := List.mem_filter.mpr ⟨tm_5 _ (List.mem_of_getElem? (i := 122) rfl), rfl⟩
theorem zw5_123 : (Jvm.Cond.code ({ cls := "java/lang/AbstractStringBuilder", name := "append", desc := "(C)Ljava/lang/AbstractStringBuilder;" } : Jvm.MethodName) prog_15_method_31_code (2 : Nat) (Option.some (Jvm.ClassFile.FieldType.object "java/lang/AbstractStringBuilder"))) ∈ e_good := List.mem_filter.mpr ⟨tm_5 _ (List.mem_of_getElem? (i := 123) rfl), rfl⟩
theorem zw5_124 : (Jvm.Cond.methodLink "java/lang/AbstractStringBuilder" (191 : Nat) ({ cls := "java/lang/StringLatin1", name := "canEncode", desc := "(C)Z" } : Jvm.MethodName)) ∈ e_good := List.mem_filter.mpr ⟨tm_5 _ (List.mem_of_getElem? (i := 124) rfl), rfl⟩
theorem zw5_125 : (Jvm.Cond.static ({ cls := "java/lang/StringLatin1", name := "canEncode", desc := "(C)Z" } : Jvm.MethodName)) ∈ e_good := List.mem_filter.mpr ⟨tm_5 _ (List.mem_of_getElem? (i := 125) rfl), rfl⟩
theorem zw5_126 : (Jvm.Cond.code ({ cls := "java/lang/StringLatin1", name := "canEncode", desc := "(C)Z" } : Jvm.MethodName) prog_30_method_3_code (1 : Nat) (Option.some Jvm.ClassFile.FieldType.boolean)) ∈ e_good := List.mem_filter.mpr ⟨tm_5 _ (List.mem_of_getElem? (i := 126) rfl), rfl⟩
theorem zw5_14 : (Jvm.Cond.fieldLink "java/lang/AbstractStringBuilder" (79 : Nat) "java/lang/AbstractStringBuilder" "count" "I") ∈ e_good := List.mem_filter.mpr ⟨tm_5 _ (List.mem_of_getElem? (i := 14) rfl), rfl⟩
theorem zw5_29 : (Jvm.Cond.code ({ cls := "java/lang/StringBuilder", name := "append", desc := "(I)Ljava/lang/StringBuilder;" } : Jvm.MethodName) prog_29_method_15_code (2 : Nat) (Option.some (Jvm.ClassFile.FieldType.object "java/lang/StringBuilder"))) ∈ e_good := List.mem_filter.mpr ⟨tm_5 _ (List.mem_of_getElem? (i := 29) rfl), rfl⟩
theorem zw5_30 : (Jvm.Cond.methodLink "java/lang/StringBuilder" (53 : Nat) ({ cls := "java/lang/AbstractStringBuilder", name := "append", desc := "(I)Ljava/lang/AbstractStringBuilder;" } : Jvm.MethodName)) ∈ e_good := List.mem_filter.mpr ⟨tm_5 _ (List.mem_of_getElem? (i := 30) rfl), rfl⟩
theorem zw5_31 : (Jvm.Cond.instanceMethod ({ cls := "java/lang/AbstractStringBuilder", name := "append", desc := "(I)Ljava/lang/AbstractStringBuilder;" } : Jvm.MethodName)) ∈ e_good := List.mem_filter.mpr ⟨tm_5 _ (List.mem_of_getElem? (i := 31) rfl), rfl⟩
theorem zw5_32 : (Jvm.Cond.code ({ cls := "java/lang/AbstractStringBuilder", name := "append", desc := "(I)Ljava/lang/AbstractStringBuilder;" } : Jvm.MethodName) prog_15_method_32_code (4 : Nat) (Option.some (Jvm.ClassFile.FieldType.object "java/lang/AbstractStringBuilder"))) ∈ e_good := List.mem_filter.mpr ⟨tm_5 _ (List.mem_of_getElem? (i := 32) rfl), rfl⟩
theorem zw5_33 : (Jvm.Cond.methodLink "java/lang/AbstractStringBuilder" (245 : Nat) ({ cls := "java/lang/Integer", name := "stringSize", desc := "(I)I" } : Jvm.MethodName)) ∈ e_good := List.mem_filter.mpr ⟨tm_5 _ (List.mem_of_getElem? (i := 33) rfl), rfl⟩
theorem zw5_34 : (Jvm.Cond.static ({ cls := "java/lang/Integer", name := "stringSize", desc := "(I)I" } : Jvm.MethodName)) ∈ e_good := List.mem_filter.mpr ⟨tm_5 _ (List.mem_of_getElem? (i := 34) rfl), rfl⟩
theorem zw5_35 : (Jvm.Cond.code ({ cls := "java/lang/Integer", name := "stringSize", desc := "(I)I" } : Jvm.MethodName) prog_24_method_13_code (4 : Nat) (Option.some Jvm.ClassFile.FieldType.int)) ∈ e_good := List.mem_filter.mpr ⟨tm_5 _ (List.mem_of_getElem? (i := 35) rfl), rfl⟩
theorem zw5_36 : (Jvm.Cond.methodLink "java/lang/AbstractStringBuilder" (248 : Nat) ({ cls := "java/lang/Integer", name := "getChars", desc := "(II[B)I" } : Jvm.MethodName)) ∈ e_good := List.mem_filter.mpr ⟨tm_5 _ (List.mem_of_getElem? (i := 36) rfl), rfl⟩
theorem zw5_37 : (Jvm.Cond.static ({ cls := "java/lang/Integer", name := "getChars", desc := "(II[B)I" } : Jvm.MethodName)) ∈ e_good := List.mem_filter.mpr ⟨tm_5 _ (List.mem_of_getElem? (i := 37) rfl), rfl⟩
theorem zw5_38 : (Jvm.Cond.code ({ cls := "java/lang/Integer", name := "getChars", desc := "(II[B)I" } : Jvm.MethodName) prog_24_method_12_code (7 : Nat) (Option.some Jvm.ClassFile.FieldType.int)) ∈ e_good := List.mem_filter.mpr ⟨tm_5 _ (List.mem_of_getElem? (i := 38) rfl), rfl⟩
theorem zw5_39 : (Jvm.Cond.fieldLink "java/lang/Integer" (83 : Nat) "java/lang/Integer" "DigitOnes" "[B") ∈ e_good := List.mem_filter.mpr ⟨tm_5 _ (List.mem_of_getElem? (i := 39) rfl), rfl⟩
theorem zw5_41 : (Jvm.Cond.fieldLink "java/lang/Integer" (87 : Nat) "java/lang/Integer" "DigitTens" "[B") ∈ e_good := List.mem_filter.mpr ⟨tm_5 _ (List.mem_of_getElem? (i := 41) rfl), rfl⟩
theorem zw5_5 : (Jvm.Cond.methodLink "java/lang/AbstractStringBuilder" (399 : Nat) ({ cls := "java/lang/String", name := "getBytes", desc := "([BIB)V" } : Jvm.MethodName)) ∈ e_good := List.mem_filter.mpr ⟨tm_5 _ (List.mem_of_getElem? (i := 5) rfl), rfl⟩
theorem zw5_53 : (Jvm.Cond.code ({ cls := "java/lang/StringBuilder", name := "<init>", desc := "()V" } : Jvm.MethodName) prog_29_method_1_code (1 : Nat) (Option.none : Option Jvm.ClassFile.FieldType)) ∈ e_good := List.mem_filter.mpr ⟨tm_5 _ (List.mem_of_getElem? (i := 53) rfl), rfl⟩
theorem zw5_54 : (Jvm.Cond.methodLink "java/lang/StringBuilder" (1 : Nat) ({ cls := "java/lang/AbstractStringBuilder", name := "<init>", desc := "(I)V" } : Jvm.MethodName)) ∈ e_good := List.mem_filter.mpr ⟨tm_5 _ (List.mem_of_getElem? (i := 54) rfl), rfl⟩
theorem zw5_55 : (Jvm.Cond.instanceMethod ({ cls := "java/lang/AbstractStringBuilder", name := "<init>", desc := "(I)V" } : Jvm.MethodName)) ∈ e_good := List.mem_filter.mpr ⟨tm_5 _ (List.mem_of_getElem? (i := 55) rfl), rfl⟩
theorem zw5_56 : (Jvm.Cond.code ({ cls := "java/lang/AbstractStringBuilder", name := "<init>", desc := "(I)V" } : Jvm.MethodName) prog_15_method_2_code (2 : Nat) (Option.none : Option Jvm.ClassFile.FieldType)) ∈ e_good := List.mem_filter.mpr ⟨tm_5 _ (List.mem_of_getElem? (i := 56) rfl), rfl⟩
theorem zw5_6 : (Jvm.Cond.instanceMethod ({ cls := "java/lang/String", name := "getBytes", desc := "([BIB)V" } : Jvm.MethodName)) ∈ e_good := List.mem_filter.mpr ⟨tm_5 _ (List.mem_of_getElem? (i := 6) rfl), rfl⟩
theorem zw5_61 : (Jvm.Cond.code ({ cls := "java/lang/StringBuilder", name := "toString", desc := "()Ljava/lang/String;" } : Jvm.MethodName) prog_29_method_42_code (1 : Nat) (Option.some (Jvm.ClassFile.FieldType.object "java/lang/String"))) ∈ e_good := List.mem_filter.mpr ⟨tm_5 _ (List.mem_of_getElem? (i := 61) rfl), rfl⟩
theorem zw5_62 : (Jvm.Cond.classLink "java/lang/StringBuilder" (18 : Nat) "java/lang/String") ∈ e_good := List.mem_filter.mpr ⟨tm_5 _ (List.mem_of_getElem? (i := 62) rfl), rfl⟩
theorem zw5_63 : (Jvm.Cond.instantiable "java/lang/String" (4 : Nat)) ∈ e_good := List.mem_filter.mpr ⟨tm_5 _ (List.mem_of_getElem? (i := 63) rfl), rfl⟩
theorem zw5_64 : (Jvm.Cond.methodLink "java/lang/StringBuilder" (137 : Nat) ({ cls := "java/lang/String", name := "<init>", desc := "(Ljava/lang/StringBuilder;)V" } : Jvm.MethodName)) ∈ e_good := List.mem_filter.mpr ⟨tm_5 _ (List.mem_of_getElem? (i := 64) rfl), rfl⟩
theorem zw5_65 : (Jvm.Cond.instanceMethod ({ cls := "java/lang/String", name := "<init>", desc := "(Ljava/lang/StringBuilder;)V" } : Jvm.MethodName)) ∈ e_good := List.mem_filter.mpr ⟨tm_5 _ (List.mem_of_getElem? (i := 65) rfl), rfl⟩
theorem zw5_66 : (Jvm.Cond.code ({ cls := "java/lang/String", name := "<init>", desc := "(Ljava/lang/StringBuilder;)V" } : Jvm.MethodName) prog_28_method_53_code (2 : Nat) (Option.none : Option Jvm.ClassFile.FieldType)) ∈ e_good := List.mem_filter.mpr ⟨tm_5 _ (List.mem_of_getElem? (i := 66) rfl), rfl⟩
theorem zw5_67 : (Jvm.Cond.methodLink "java/lang/String" (489 : Nat) ({ cls := "java/lang/String", name := "<init>", desc := "(Ljava/lang/AbstractStringBuilder;Ljava/lang/Void;)V" } : Jvm.MethodName)) ∈ e_good := List.mem_filter.mpr ⟨tm_5 _ (List.mem_of_getElem? (i := 67) rfl), rfl⟩
theorem zw5_68 : (Jvm.Cond.instanceMethod ({ cls := "java/lang/String", name := "<init>", desc := "(Ljava/lang/AbstractStringBuilder;Ljava/lang/Void;)V" } : Jvm.MethodName)) ∈ e_good := List.mem_filter.mpr ⟨tm_5 _ (List.mem_of_getElem? (i := 68) rfl), rfl⟩
theorem zw5_69 : (Jvm.Cond.code ({ cls := "java/lang/String", name := "<init>", desc := "(Ljava/lang/AbstractStringBuilder;Ljava/lang/Void;)V" } : Jvm.MethodName) prog_28_method_150_code (5 : Nat) (Option.none : Option Jvm.ClassFile.FieldType)) ∈ e_good := List.mem_filter.mpr ⟨tm_5 _ (List.mem_of_getElem? (i := 69) rfl), rfl⟩
theorem zw5_7 : (Jvm.Cond.selects "java/lang/String" ({ cls := "java/lang/String", name := "getBytes", desc := "([BIB)V" } : Jvm.MethodName) ({ cls := "java/lang/String", name := "getBytes", desc := "([BIB)V" } : Jvm.MethodName)) ∈ e_good := List.mem_filter.mpr ⟨tm_5 _ (List.mem_of_getElem? (i := 7) rfl), rfl⟩
theorem zw5_70 : (Jvm.Cond.methodLink "java/lang/String" (1 : Nat) ({ cls := "java/lang/Object", name := "<init>", desc := "()V" } : Jvm.MethodName)) ∈ e_good := List.mem_filter.mpr ⟨tm_5 _ (List.mem_of_getElem? (i := 70) rfl), rfl⟩
theorem zw5_71 : (Jvm.Cond.methodLink "java/lang/String" (552 : Nat) ({ cls := "java/lang/AbstractStringBuilder", name := "getValue", desc := "()[B" } : Jvm.MethodName)) ∈ e_good := List.mem_filter.mpr ⟨tm_5 _ (List.mem_of_getElem? (i := 71) rfl), rfl⟩
theorem zw5_72 : (Jvm.Cond.instanceMethod ({ cls := "java/lang/AbstractStringBuilder", name := "getValue", desc := "()[B" } : Jvm.MethodName)) ∈ e_good := List.mem_filter.mpr ⟨tm_5 _ (List.mem_of_getElem? (i := 72) rfl), rfl⟩
theorem zw5_73 : (Jvm.Cond.sameMethod "java/lang/AbstractStringBuilder" "java/lang/AbstractStringBuilder" "getValue" "()[B") ∈ e_good := List.mem_filter.mpr ⟨tm_5 _ (List.mem_of_getElem? (i := 73) rfl), rfl⟩
theorem zw5_74 : (Jvm.Cond.selects "java/lang/StringBuilder" ({ cls := "java/lang/AbstractStringBuilder", name := "getValue", desc := "()[B" } : Jvm.MethodName) ({ cls := "java/lang/AbstractStringBuilder", name := "getValue", desc := "()[B" } : Jvm.MethodName)) ∈ e_good := List.mem_filter.mpr ⟨tm_5 _ (List.mem_of_getElem? (i := 74) rfl), rfl⟩
theorem zw5_75 : (Jvm.Cond.code ({ cls := "java/lang/AbstractStringBuilder", name := "getValue", desc := "()[B" } : Jvm.MethodName) prog_15_method_64_code (1 : Nat) (Option.some (Jvm.ClassFile.FieldType.array Jvm.ClassFile.FieldType.byte))) ∈ e_good := List.mem_filter.mpr ⟨tm_5 _ (List.mem_of_getElem? (i := 75) rfl), rfl⟩
theorem zw5_76 : (Jvm.Cond.methodLink "java/lang/String" (549 : Nat) ({ cls := "java/lang/AbstractStringBuilder", name := "length", desc := "()I" } : Jvm.MethodName)) ∈ e_good := List.mem_filter.mpr ⟨tm_5 _ (List.mem_of_getElem? (i := 76) rfl), rfl⟩
theorem zw5_77 : (Jvm.Cond.instanceMethod ({ cls := "java/lang/AbstractStringBuilder", name := "length", desc := "()I" } : Jvm.MethodName)) ∈ e_good := List.mem_filter.mpr ⟨tm_5 _ (List.mem_of_getElem? (i := 77) rfl), rfl⟩
theorem zw5_78 : (Jvm.Cond.sameMethod "java/lang/AbstractStringBuilder" "java/lang/AbstractStringBuilder" "length" "()I") ∈ e_good := List.mem_filter.mpr ⟨tm_5 _ (List.mem_of_getElem? (i := 78) rfl), rfl⟩
theorem zw5_79 : (Jvm.Cond.selects "java/lang/StringBuilder" ({ cls := "java/lang/AbstractStringBuilder", name := "length", desc := "()I" } : Jvm.MethodName) ({ cls := "java/lang/StringBuilder", name := "length", desc := "()I" } : Jvm.MethodName)) ∈ e_good := List.mem_filter.mpr ⟨tm_5 _ (List.mem_of_getElem? (i := 79) rfl), rfl⟩
theorem zw5_8 : (Jvm.Cond.code ({ cls := "java/lang/String", name := "getBytes", desc := "([BIB)V" } : Jvm.MethodName) prog_28_method_147_code (4 : Nat) (Option.none : Option Jvm.ClassFile.FieldType)) ∈ e_good := List.mem_filter.mpr ⟨tm_5 _ (List.mem_of_getElem? (i := 8) rfl), rfl⟩
theorem zw5_80 : (Jvm.Cond.instanceMethod ({ cls := "java/lang/StringBuilder", name := "length", desc := "()I" } : Jvm.MethodName)) ∈ e_good := List.mem_filter.mpr ⟨tm_5 _ (List.mem_of_getElem? (i := 80) rfl), rfl⟩
theorem zw5_81 : (Jvm.Cond.code ({ cls := "java/lang/StringBuilder", name := "length", desc := "()I" } : Jvm.MethodName) prog_29_method_93_code (1 : Nat) (Option.some Jvm.ClassFile.FieldType.int)) ∈ e_good := List.mem_filter.mpr ⟨tm_5 _ (List.mem_of_getElem? (i := 81) rfl), rfl⟩
theorem zw5_82 : (Jvm.Cond.methodLink "java/lang/StringBuilder" (343 : Nat) ({ cls := "java/lang/AbstractStringBuilder", name := "length", desc := "()I" } : Jvm.MethodName)) ∈ e_good := List.mem_filter.mpr ⟨tm_5 _ (List.mem_of_getElem? (i := 82) rfl), rfl⟩
theorem zw5_83 : (Jvm.Cond.code ({ cls := "java/lang/AbstractStringBuilder", name := "length", desc := "()I" } : Jvm.MethodName) prog_15_method_6_code (1 : Nat) (Option.some Jvm.ClassFile.FieldType.int)) ∈ e_good := List.mem_filter.mpr ⟨tm_5 _ (List.mem_of_getElem? (i := 83) rfl), rfl⟩
theorem zw5_84 : (Jvm.Cond.methodLink "java/lang/String" (1047 : Nat) ({ cls := "java/lang/AbstractStringBuilder", name := "isLatin1", desc := "()Z" } : Jvm.MethodName)) ∈ e_good := List.mem_filter.mpr ⟨tm_5 _ (List.mem_of_getElem? (i := 84) rfl), rfl⟩
theorem zw5_85 : (Jvm.Cond.methodLink "java/lang/String" (54 : Nat) ({ cls := "java/util/Arrays", name := "copyOfRange", desc := "([BII)[B" } : Jvm.MethodName)) ∈ e_good := List.mem_filter.mpr ⟨tm_5 _ (List.mem_of_getElem? (i := 85) rfl), rfl⟩
theorem zw5_86 : (Jvm.Cond.static ({ cls := "java/util/Arrays", name := "copyOfRange", desc := "([BII)[B" } : Jvm.MethodName)) ∈ e_good := List.mem_filter.mpr ⟨tm_5 _ (List.mem_of_getElem? (i := 86) rfl), rfl⟩
theorem zw5_87 : (Jvm.Cond.code ({ cls := "java/util/Arrays", name := "copyOfRange", desc := "([BII)[B" } : Jvm.MethodName) prog_36_method_132_code (3 : Nat) (Option.some (Jvm.ClassFile.FieldType.array Jvm.ClassFile.FieldType.byte))) ∈ e_good := List.mem_filter.mpr ⟨tm_5 _ (List.mem_of_getElem? (i := 87) rfl), rfl⟩
theorem zw5_88 : (Jvm.Cond.methodLink "java/util/Arrays" (339 : Nat) ({ cls := "java/util/Arrays", name := "copyOfRangeByte", desc := "([BII)[B" } : Jvm.MethodName)) ∈ e_good := List.mem_filter.mpr ⟨tm_5 _ (List.mem_of_getElem? (i := 88) rfl), rfl⟩
theorem zw5_89 : (Jvm.Cond.static ({ cls := "java/util/Arrays", name := "copyOfRangeByte", desc := "([BII)[B" } : Jvm.MethodName)) ∈ e_good := List.mem_filter.mpr ⟨tm_5 _ (List.mem_of_getElem? (i := 89) rfl), rfl⟩
theorem zw5_9 : (Jvm.Cond.methodLink "java/lang/String" (212 : Nat) ({ cls := "java/lang/System", name := "arraycopy", desc := "(Ljava/lang/Object;ILjava/lang/Object;II)V" } : Jvm.MethodName)) ∈ e_good := List.mem_filter.mpr ⟨tm_5 _ (List.mem_of_getElem? (i := 9) rfl), rfl⟩
theorem zw5_90 : (Jvm.Cond.code ({ cls := "java/util/Arrays", name := "copyOfRangeByte", desc := "([BII)[B" } : Jvm.MethodName) prog_36_method_133_code (5 : Nat) (Option.some (Jvm.ClassFile.FieldType.array Jvm.ClassFile.FieldType.byte))) ∈ e_good := List.mem_filter.mpr ⟨tm_5 _ (List.mem_of_getElem? (i := 90) rfl), rfl⟩
theorem zw5_91 : (Jvm.Cond.methodLink "java/util/Arrays" (343 : Nat) ({ cls := "java/util/Arrays", name := "checkLength", desc := "(II)V" } : Jvm.MethodName)) ∈ e_good := List.mem_filter.mpr ⟨tm_5 _ (List.mem_of_getElem? (i := 91) rfl), rfl⟩
theorem zw5_92 : (Jvm.Cond.static ({ cls := "java/util/Arrays", name := "checkLength", desc := "(II)V" } : Jvm.MethodName)) ∈ e_good := List.mem_filter.mpr ⟨tm_5 _ (List.mem_of_getElem? (i := 92) rfl), rfl⟩
theorem zw5_93 : (Jvm.Cond.code ({ cls := "java/util/Arrays", name := "checkLength", desc := "(II)V" } : Jvm.MethodName) prog_36_method_131_code (2 : Nat) (Option.none : Option Jvm.ClassFile.FieldType)) ∈ e_good := List.mem_filter.mpr ⟨tm_5 _ (List.mem_of_getElem? (i := 93) rfl), rfl⟩
theorem zw6_218 : (Jvm.Cond.sameMethod "java/lang/AbstractStringBuilder" "java/lang/AbstractStringBuilder" "ensureCapacityInternal" "(I)V") ∈ e_good := List.mem_filter.mpr ⟨tm_6 _ (List.mem_of_getElem? (i := 218) rfl), rfl⟩
theorem zw6_219 : (Jvm.Cond.sameMethod "java/lang/AbstractStringBuilder" "java/lang/AbstractStringBuilder" "newCapacity" "(I)I") ∈ e_good := List.mem_filter.mpr ⟨tm_6 _ (List.mem_of_getElem? (i := 219) rfl), rfl⟩
theorem zw6_220 : (Jvm.Cond.sameMethod "java/lang/AbstractStringBuilder" "java/lang/AbstractStringBuilder" "putStringAt" "(ILjava/lang/String;)V") ∈ e_good := List.mem_filter.mpr ⟨tm_6 _ (List.mem_of_getElem? (i := 220) rfl), rfl⟩
theorem zw6_221 : (Jvm.Cond.sameMethod "java/lang/AbstractStringBuilder" "java/lang/AbstractStringBuilder" "inflateIfNeededFor" "(Ljava/lang/String;)V") ∈ e_good := List.mem_filter.mpr ⟨tm_6 _ (List.mem_of_getElem? (i := 221) rfl), rfl⟩
theorem zw6_223 : (Jvm.Cond.sameMethod "java/lang/AbstractStringBuilder" "java/lang/AbstractStringBuilder" "append" "(I)Ljava/lang/AbstractStringBuilder;") ∈ e_good := List.mem_filter.mpr ⟨tm_6 _ (List.mem_of_getElem? (i := 223) rfl), rfl⟩
theorem zw6_224 : (Jvm.Cond.sameMethod "java/lang/AbstractStringBuilder" "java/lang/AbstractStringBuilder" "append" "(C)Ljava/lang/AbstractStringBuilder;") ∈ e_good := List.mem_filter.mpr ⟨tm_6 _ (List.mem_of_getElem? (i := 224) rfl), rfl⟩
theorem zwc4_193 : (Jvm.Cond.castable "[B" "java/lang/Cloneable") ∈ e_cast := List.mem_filter.mpr ⟨tm_4 _ (List.mem_of_getElem? (i := 193) rfl), rfl⟩
def sg_J6_stringSize_0f7a4 : SG := (yJ6_stringSize_0f7a4, cJ6_stringSize_0f7a4, 4, (some .int), 0, 0, 0, 0, 1, false, [])
theorem cs_J6_stringSize_0f7a4 : e_cs sg_J6_stringSize_0f7a4 := ⟨zw5_35, w1_22, ⟨by decide, by decide⟩, by decide +kernel, rfl⟩
theorem mt_J6_stringSize_0f7a4 : e_mtF sg_J6_stringSize_0f7a4 "java/lang/Integer" := ⟨rfl, by decide +kernel, rfl⟩
theorem dJ6_stringSize_0f7a4_0 : decode cJ6_stringSize_0f7a4 0 = .ok (.iconst 1, 1) := by decide +kernel
theorem dJ6_stringSize_0f7a4_1 : decode cJ6_stringSize_0f7a4 1 = .ok (.istore_n 1, 1) := by decide +kernel
theorem dJ6_stringSize_0f7a4_2 : decode cJ6_stringSize_0f7a4 2 = .ok (.iload_n 0, 1) := by decide +kernel
theorem dJ6_stringSize_0f7a4_3 : decode cJ6_stringSize_0f7a4 3 = .ok (.ifCond .lt 8, 3) := by decide +kernel
theorem dJ6_stringSize_0f7a4_6 : decode cJ6_stringSize_0f7a4 6 = .ok (.iconst 0, 1) := by decide +kernel
theorem dJ6_stringSize_0f7a4_7 : decode cJ6_stringSize_0f7a4 7 = .ok (.istore_n 1, 1) := by decide +kernel
theorem dJ6_stringSize_0f7a4_8 : decode cJ6_stringSize_0f7a4 8 = .ok (.iload_n 0, 1) := by decide +kernel
theorem dJ6_stringSize_0f7a4_9 : decode cJ6_stringSize_0f7a4 9 = .ok (.ineg, 1) := by decide +kernel
theorem dJ6_stringSize_0f7a4_10 : decode cJ6_stringSize_0f7a4 10 = .ok (.istore_n 0, 1) := by decide +kernel
theorem dJ6_stringSize_0f7a4_11 : decode cJ6_stringSize_0f7a4 11 = .ok (.bipush (-10), 2) := by decide +kernel
theorem dJ6_stringSize_0f7a4_13 : decode cJ6_stringSize_0f7a4 13 = .ok (.istore_n 2, 1) := by decide +kernel
theorem dJ6_stringSize_0f7a4_14 : decode cJ6_stringSize_0f7a4 14 = .ok (.iconst 1, 1) := by decide +kernel
theorem dJ6_stringSize_0f7a4_15 : decode cJ6_stringSize_0f7a4 15 = .ok (.istore_n 3, 1) := by decide +kernel
theorem dJ6_stringSize_0f7a4_16 : decode cJ6_stringSize_0f7a4 16 = .ok (.iload_n 3, 1) := by decide +kernel
theorem dJ6_stringSize_0f7a4_17 : decode cJ6_stringSize_0f7a4 17 = .ok (.bipush 10, 2) := by decide +kernel
theorem dJ6_stringSize_0f7a4_19 : decode cJ6_stringSize_0f7a4 19 = .ok (.if_icmp .ge 23, 3) := by decide +kernel
theorem dJ6_stringSize_0f7a4_22 : decode cJ6_stringSize_0f7a4 22 = .ok (.iload_n 0, 1) := by decide +kernel
theorem dJ6_stringSize_0f7a4_23 : decode cJ6_stringSize_0f7a4 23 = .ok (.iload_n 2, 1) := by decide +kernel
theorem dJ6_stringSize_0f7a4_24 : decode cJ6_stringSize_0f7a4 24 = .ok (.if_icmp .le 7, 3) := by decide +kernel
theorem dJ6_stringSize_0f7a4_27 : decode cJ6_stringSize_0f7a4 27 = .ok (.iload_n 3, 1) := by decide +kernel
theorem dJ6_stringSize_0f7a4_28 : decode cJ6_stringSize_0f7a4 28 = .ok (.iload_n 1, 1) := by decide +kernel
theorem dJ6_stringSize_0f7a4_29 : decode cJ6_stringSize_0f7a4 29 = .ok (.iadd, 1) := by decide +kernel
theorem dJ6_stringSize_0f7a4_30 : decode cJ6_stringSize_0f7a4 30 = .ok (.ireturn, 1) := by decide +kernel
theorem dJ6_stringSize_0f7a4_31 : decode cJ6_stringSize_0f7a4 31 = .ok (.bipush 10, 2) := by decide +kernel
theorem dJ6_stringSize_0f7a4_33 : decode cJ6_stringSize_0f7a4 33 = .ok (.iload_n 2, 1) := by decide +kernel
theorem dJ6_stringSize_0f7a4_34 : decode cJ6_stringSize_0f7a4 34 = .ok (.imul, 1) := by decide +kernel
theorem dJ6_stringSize_0f7a4_35 : decode cJ6_stringSize_0f7a4 35 = .ok (.istore_n 2, 1) := by decide +kernel
theorem dJ6_stringSize_0f7a4_36 : decode cJ6_stringSize_0f7a4 36 = .ok (.iinc 3 1, 3) := by decide +kernel
theorem dJ6_stringSize_0f7a4_39 : decode cJ6_stringSize_0f7a4 39 = .ok (.goto (-23), 3) := by decide +kernel
theorem dJ6_stringSize_0f7a4_42 : decode cJ6_stringSize_0f7a4 42 = .ok (.bipush 10, 2) := by decide +kernel
theorem dJ6_stringSize_0f7a4_44 : decode cJ6_stringSize_0f7a4 44 = .ok (.iload_n 1, 1) := by decide +kernel
theorem dJ6_stringSize_0f7a4_45 : decode cJ6_stringSize_0f7a4 45 = .ok (.iadd, 1) := by decide +kernel
theorem dJ6_stringSize_0f7a4_46 : decode cJ6_stringSize_0f7a4 46 = .ok (.ireturn, 1) := by decide +kernel
def pe_J6_stringSize_0f7a4 (l : Launch) (g : EG) : List (Nat × ES) := [(0, s_c (.inl 1)), (1, s_stI 1), (2, s_ldI 0), (3, s_if_lt 11), (6, s_c (.inl 0)), (7, s_stI 1), (8, s_ldI 0), (9, s_i1 (fun x => -x)), (10, s_stI 0), (11, s_c (.inl (-10))), (13, s_stI 2), (14, s_c (.inl 1)), (15, s_stI 3), (16, s_ldI 3), (17, s_c (.inl 10)), (19, s_icmp_ge 42), (22, s_ldI 0), (23, s_ldI 2), (24, s_icmp_le 31), (27, s_ldI 3), (28, s_ldI 1), (29, s_ii (fun x y => x + y)), (30, s_ireti), (31, s_c (.inl 10)), (33, s_ldI 2), (34, s_ii (fun x y => x * y)), (35, s_stI 2), (36, s_iinc 3 1), (39, s_goto 16), (42, s_c (.inl 10)), (44, s_ldI 1), (45, s_ii (fun x y => x + y)), (46, s_ireti)]
set_option maxRecDepth 100000 in
theorem oe_J6_stringSize_0f7a4 {l : Launch} {g : EG} : e_okp l g sg_J6_stringSize_0f7a4 "java/lang/Integer" (pe_J6_stringSize_0f7a4 l g) := fun p e R s m args below meth c ex M0 Q X =>
    e_each_cons (r_iconst X (n := 1) (v := 1) dJ6_stringSize_0f7a4_0 (by decide) rfl)
    (e_each_cons (r_istore_n X (k := 1) (i := 1) rfl dJ6_stringSize_0f7a4_1 (by decide) rfl)
    (e_each_cons (r_iload_n X (k := 0) (i := 0) rfl dJ6_stringSize_0f7a4_2 rfl)
    (e_each_cons (r_if_lt X (off := 8) (t := 11) dJ6_stringSize_0f7a4_3 (by decide) rfl)
    (e_each_cons (r_iconst X (n := 0) (v := 0) dJ6_stringSize_0f7a4_6 (by decide) rfl)
    (e_each_cons (r_istore_n X (k := 1) (i := 1) rfl dJ6_stringSize_0f7a4_7 (by decide) rfl)
    (e_each_cons (r_iload_n X (k := 0) (i := 0) rfl dJ6_stringSize_0f7a4_8 rfl)
    (e_each_cons (r_ineg X dJ6_stringSize_0f7a4_9 rfl)
    (e_each_cons (r_istore_n X (k := 0) (i := 0) rfl dJ6_stringSize_0f7a4_10 (by decide) rfl)
    (e_each_cons (r_bipush X (n := (-10)) (v := (-10)) dJ6_stringSize_0f7a4_11 (by decide) rfl)
    (e_each_cons (r_istore_n X (k := 2) (i := 2) rfl dJ6_stringSize_0f7a4_13 (by decide) rfl)
    (e_each_cons (r_iconst X (n := 1) (v := 1) dJ6_stringSize_0f7a4_14 (by decide) rfl)
    (e_each_cons (r_istore_n X (k := 3) (i := 3) rfl dJ6_stringSize_0f7a4_15 (by decide) rfl)
    (e_each_cons (r_iload_n X (k := 3) (i := 3) rfl dJ6_stringSize_0f7a4_16 rfl)
    (e_each_cons (r_bipush X (n := 10) (v := 10) dJ6_stringSize_0f7a4_17 (by decide) rfl)
    (e_each_cons (r_icmp_ge X (off := 23) (t := 42) dJ6_stringSize_0f7a4_19 (by decide) rfl)
    (e_each_cons (r_iload_n X (k := 0) (i := 0) rfl dJ6_stringSize_0f7a4_22 rfl)
    (e_each_cons (r_iload_n X (k := 2) (i := 2) rfl dJ6_stringSize_0f7a4_23 rfl)
    (e_each_cons (r_icmp_le X (off := 7) (t := 31) dJ6_stringSize_0f7a4_24 (by decide) rfl)
    (e_each_cons (r_iload_n X (k := 3) (i := 3) rfl dJ6_stringSize_0f7a4_27 rfl)
    (e_each_cons (r_iload_n X (k := 1) (i := 1) rfl dJ6_stringSize_0f7a4_28 rfl)
    (e_each_cons (r_iadd X dJ6_stringSize_0f7a4_29 rfl)
    (e_each_cons (r_ireti X dJ6_stringSize_0f7a4_30 rfl)
    (e_each_cons (r_bipush X (n := 10) (v := 10) dJ6_stringSize_0f7a4_31 (by decide) rfl)
    (e_each_cons (r_iload_n X (k := 2) (i := 2) rfl dJ6_stringSize_0f7a4_33 rfl)
    (e_each_cons (r_imul X dJ6_stringSize_0f7a4_34 rfl)
    (e_each_cons (r_istore_n X (k := 2) (i := 2) rfl dJ6_stringSize_0f7a4_35 (by decide) rfl)
    (e_each_cons (r_iinc X (i := 3) (n := 1) (d := 1) dJ6_stringSize_0f7a4_36 (by decide) (by decide) rfl)
    (e_each_cons (r_goto X (off := (-23)) (t := 16) dJ6_stringSize_0f7a4_39 (by decide))
    (e_each_cons (r_bipush X (n := 10) (v := 10) dJ6_stringSize_0f7a4_42 (by decide) rfl)
    (e_each_cons (r_iload_n X (k := 1) (i := 1) rfl dJ6_stringSize_0f7a4_44 rfl)
    (e_each_cons (r_iadd X dJ6_stringSize_0f7a4_45 rfl)
    (e_each_cons (r_ireti X dJ6_stringSize_0f7a4_46 rfl)
    (e_each_nil)))))))))))))))))))))))))))))))))
def sg_J6_getChars_ba4f3 : SG := (yJ6_getChars_ba4f3, cJ6_getChars_ba4f3, 7, (some .int), 0, 0, 0, 0, 3, false, [])
theorem cs_J6_getChars_ba4f3 : e_cs sg_J6_getChars_ba4f3 := ⟨zw5_38, w1_22, ⟨by decide, by decide⟩, by decide +kernel, rfl⟩
theorem mt_J6_getChars_ba4f3 : e_mtF sg_J6_getChars_ba4f3 "java/lang/Integer" := ⟨rfl, by decide +kernel, rfl⟩
theorem dJ6_getChars_ba4f3_0 : decode cJ6_getChars_ba4f3 0 = .ok (.iload_n 1, 1) := by decide +kernel
theorem dJ6_getChars_ba4f3_1 : decode cJ6_getChars_ba4f3 1 = .ok (.istore 5, 2) := by decide +kernel
theorem dJ6_getChars_ba4f3_3 : decode cJ6_getChars_ba4f3 3 = .ok (.iload_n 0, 1) := by decide +kernel
theorem dJ6_getChars_ba4f3_4 : decode cJ6_getChars_ba4f3 4 = .ok (.ifCond .ge 7, 3) := by decide +kernel
theorem dJ6_getChars_ba4f3_7 : decode cJ6_getChars_ba4f3 7 = .ok (.iconst 1, 1) := by decide +kernel
theorem dJ6_getChars_ba4f3_8 : decode cJ6_getChars_ba4f3 8 = .ok (.goto 4, 3) := by decide +kernel
theorem dJ6_getChars_ba4f3_11 : decode cJ6_getChars_ba4f3 11 = .ok (.iconst 0, 1) := by decide +kernel
theorem dJ6_getChars_ba4f3_12 : decode cJ6_getChars_ba4f3 12 = .ok (.istore 6, 2) := by decide +kernel
theorem dJ6_getChars_ba4f3_14 : decode cJ6_getChars_ba4f3 14 = .ok (.iload 6, 2) := by decide +kernel
theorem dJ6_getChars_ba4f3_16 : decode cJ6_getChars_ba4f3 16 = .ok (.ifCond .ne 6, 3) := by decide +kernel
theorem dJ6_getChars_ba4f3_19 : decode cJ6_getChars_ba4f3 19 = .ok (.iload_n 0, 1) := by decide +kernel
theorem dJ6_getChars_ba4f3_20 : decode cJ6_getChars_ba4f3 20 = .ok (.ineg, 1) := by decide +kernel
theorem dJ6_getChars_ba4f3_21 : decode cJ6_getChars_ba4f3 21 = .ok (.istore_n 0, 1) := by decide +kernel
theorem dJ6_getChars_ba4f3_22 : decode cJ6_getChars_ba4f3 22 = .ok (.iload_n 0, 1) := by decide +kernel
theorem dJ6_getChars_ba4f3_23 : decode cJ6_getChars_ba4f3 23 = .ok (.bipush (-100), 2) := by decide +kernel
theorem dJ6_getChars_ba4f3_25 : decode cJ6_getChars_ba4f3 25 = .ok (.if_icmp .gt 47, 3) := by decide +kernel
theorem dJ6_getChars_ba4f3_28 : decode cJ6_getChars_ba4f3 28 = .ok (.iload_n 0, 1) := by decide +kernel
theorem dJ6_getChars_ba4f3_29 : decode cJ6_getChars_ba4f3 29 = .ok (.bipush 100, 2) := by decide +kernel
theorem dJ6_getChars_ba4f3_31 : decode cJ6_getChars_ba4f3 31 = .ok (.idiv, 1) := by decide +kernel
theorem dJ6_getChars_ba4f3_32 : decode cJ6_getChars_ba4f3 32 = .ok (.istore_n 3, 1) := by decide +kernel
theorem dJ6_getChars_ba4f3_33 : decode cJ6_getChars_ba4f3 33 = .ok (.iload_n 3, 1) := by decide +kernel
theorem dJ6_getChars_ba4f3_34 : decode cJ6_getChars_ba4f3 34 = .ok (.bipush 100, 2) := by decide +kernel
theorem dJ6_getChars_ba4f3_36 : decode cJ6_getChars_ba4f3 36 = .ok (.imul, 1) := by decide +kernel
theorem dJ6_getChars_ba4f3_37 : decode cJ6_getChars_ba4f3 37 = .ok (.iload_n 0, 1) := by decide +kernel
theorem dJ6_getChars_ba4f3_38 : decode cJ6_getChars_ba4f3 38 = .ok (.isub, 1) := by decide +kernel
theorem dJ6_getChars_ba4f3_39 : decode cJ6_getChars_ba4f3 39 = .ok (.istore 4, 2) := by decide +kernel
theorem dJ6_getChars_ba4f3_41 : decode cJ6_getChars_ba4f3 41 = .ok (.iload_n 3, 1) := by decide +kernel
theorem dJ6_getChars_ba4f3_42 : decode cJ6_getChars_ba4f3 42 = .ok (.istore_n 0, 1) := by decide +kernel
theorem dJ6_getChars_ba4f3_43 : decode cJ6_getChars_ba4f3 43 = .ok (.aload_n 2, 1) := by decide +kernel
theorem dJ6_getChars_ba4f3_44 : decode cJ6_getChars_ba4f3 44 = .ok (.iinc 5 (-1), 3) := by decide +kernel
theorem dJ6_getChars_ba4f3_47 : decode cJ6_getChars_ba4f3 47 = .ok (.iload 5, 2) := by decide +kernel
theorem dJ6_getChars_ba4f3_49 : decode cJ6_getChars_ba4f3 49 = .ok (.getstatic 83, 3) := by decide +kernel
theorem dJ6_getChars_ba4f3_52 : decode cJ6_getChars_ba4f3 52 = .ok (.iload 4, 2) := by decide +kernel
theorem dJ6_getChars_ba4f3_54 : decode cJ6_getChars_ba4f3 54 = .ok (.baload, 1) := by decide +kernel
theorem dJ6_getChars_ba4f3_55 : decode cJ6_getChars_ba4f3 55 = .ok (.bastore, 1) := by decide +kernel
theorem dJ6_getChars_ba4f3_56 : decode cJ6_getChars_ba4f3 56 = .ok (.aload_n 2, 1) := by decide +kernel
theorem dJ6_getChars_ba4f3_57 : decode cJ6_getChars_ba4f3 57 = .ok (.iinc 5 (-1), 3) := by decide +kernel
theorem dJ6_getChars_ba4f3_60 : decode cJ6_getChars_ba4f3 60 = .ok (.iload 5, 2) := by decide +kernel
theorem dJ6_getChars_ba4f3_62 : decode cJ6_getChars_ba4f3 62 = .ok (.getstatic 87, 3) := by decide +kernel
theorem dJ6_getChars_ba4f3_65 : decode cJ6_getChars_ba4f3 65 = .ok (.iload 4, 2) := by decide +kernel
theorem dJ6_getChars_ba4f3_67 : decode cJ6_getChars_ba4f3 67 = .ok (.baload, 1) := by decide +kernel
theorem dJ6_getChars_ba4f3_68 : decode cJ6_getChars_ba4f3 68 = .ok (.bastore, 1) := by decide +kernel
theorem dJ6_getChars_ba4f3_69 : decode cJ6_getChars_ba4f3 69 = .ok (.goto (-47), 3) := by decide +kernel
theorem dJ6_getChars_ba4f3_72 : decode cJ6_getChars_ba4f3 72 = .ok (.aload_n 2, 1) := by decide +kernel
theorem dJ6_getChars_ba4f3_73 : decode cJ6_getChars_ba4f3 73 = .ok (.iinc 5 (-1), 3) := by decide +kernel
theorem dJ6_getChars_ba4f3_76 : decode cJ6_getChars_ba4f3 76 = .ok (.iload 5, 2) := by decide +kernel
theorem dJ6_getChars_ba4f3_78 : decode cJ6_getChars_ba4f3 78 = .ok (.getstatic 83, 3) := by decide +kernel
theorem dJ6_getChars_ba4f3_81 : decode cJ6_getChars_ba4f3 81 = .ok (.iload_n 0, 1) := by decide +kernel
theorem dJ6_getChars_ba4f3_82 : decode cJ6_getChars_ba4f3 82 = .ok (.ineg, 1) := by decide +kernel
theorem dJ6_getChars_ba4f3_83 : decode cJ6_getChars_ba4f3 83 = .ok (.baload, 1) := by decide +kernel
theorem dJ6_getChars_ba4f3_84 : decode cJ6_getChars_ba4f3 84 = .ok (.bastore, 1) := by decide +kernel
theorem dJ6_getChars_ba4f3_85 : decode cJ6_getChars_ba4f3 85 = .ok (.iload_n 0, 1) := by decide +kernel
theorem dJ6_getChars_ba4f3_86 : decode cJ6_getChars_ba4f3 86 = .ok (.bipush (-9), 2) := by decide +kernel
theorem dJ6_getChars_ba4f3_88 : decode cJ6_getChars_ba4f3 88 = .ok (.if_icmp .ge 16, 3) := by decide +kernel
theorem dJ6_getChars_ba4f3_91 : decode cJ6_getChars_ba4f3 91 = .ok (.aload_n 2, 1) := by decide +kernel
theorem dJ6_getChars_ba4f3_92 : decode cJ6_getChars_ba4f3 92 = .ok (.iinc 5 (-1), 3) := by decide +kernel
theorem dJ6_getChars_ba4f3_95 : decode cJ6_getChars_ba4f3 95 = .ok (.iload 5, 2) := by decide +kernel
theorem dJ6_getChars_ba4f3_97 : decode cJ6_getChars_ba4f3 97 = .ok (.getstatic 87, 3) := by decide +kernel
theorem dJ6_getChars_ba4f3_100 : decode cJ6_getChars_ba4f3 100 = .ok (.iload_n 0, 1) := by decide +kernel
theorem dJ6_getChars_ba4f3_101 : decode cJ6_getChars_ba4f3 101 = .ok (.ineg, 1) := by decide +kernel
theorem dJ6_getChars_ba4f3_102 : decode cJ6_getChars_ba4f3 102 = .ok (.baload, 1) := by decide +kernel
theorem dJ6_getChars_ba4f3_103 : decode cJ6_getChars_ba4f3 103 = .ok (.bastore, 1) := by decide +kernel
theorem dJ6_getChars_ba4f3_104 : decode cJ6_getChars_ba4f3 104 = .ok (.iload 6, 2) := by decide +kernel
theorem dJ6_getChars_ba4f3_106 : decode cJ6_getChars_ba4f3 106 = .ok (.ifCond .eq 12, 3) := by decide +kernel
theorem dJ6_getChars_ba4f3_109 : decode cJ6_getChars_ba4f3 109 = .ok (.aload_n 2, 1) := by decide +kernel
theorem dJ6_getChars_ba4f3_110 : decode cJ6_getChars_ba4f3 110 = .ok (.iinc 5 (-1), 3) := by decide +kernel
theorem dJ6_getChars_ba4f3_113 : decode cJ6_getChars_ba4f3 113 = .ok (.iload 5, 2) := by decide +kernel
theorem dJ6_getChars_ba4f3_115 : decode cJ6_getChars_ba4f3 115 = .ok (.bipush 45, 2) := by decide +kernel
theorem dJ6_getChars_ba4f3_117 : decode cJ6_getChars_ba4f3 117 = .ok (.bastore, 1) := by decide +kernel
theorem dJ6_getChars_ba4f3_118 : decode cJ6_getChars_ba4f3 118 = .ok (.iload 5, 2) := by decide +kernel
theorem dJ6_getChars_ba4f3_120 : decode cJ6_getChars_ba4f3 120 = .ok (.ireturn, 1) := by decide +kernel
def pe_J6_getChars_ba4f3 (l : Launch) (g : EG) : List (Nat × ES) := [(0, s_ldI 1), (1, s_stI 5), (3, s_ldI 0), (4, s_if_ge 11), (7, s_c (.inl 1)), (8, s_goto 12), (11, s_c (.inl 0)), (12, s_stI 6), (14, s_ldI 6), (16, s_if_ne 22), (19, s_ldI 0), (20, s_i1 (fun x => -x)), (21, s_stI 0), (22, s_ldI 0), (23, s_c (.inl (-100))), (25, s_icmp_gt 72), (28, s_ldI 0), (29, s_c (.inl 100)), (31, s_iid (fun x y => x / y) (fun _ y => ¬ y = 0)), (32, s_stI 3), (33, s_ldI 3), (34, s_c (.inl 100)), (36, s_ii (fun x y => x * y)), (37, s_ldI 0), (38, s_ii (fun x y => x - y)), (39, s_stI 4), (41, s_ldI 3), (42, s_stI 0), (43, s_ldP 2), (44, s_iinc 5 (-1)), (47, s_ldI 5), (49, s_getsD g 59), (52, s_ldI 4), (54, s_dbald g), (55, s_bastD), (56, s_ldP 2), (57, s_iinc 5 (-1)), (60, s_ldI 5), (62, s_getsD g 58), (65, s_ldI 4), (67, s_dbald g), (68, s_bastD), (69, s_goto 22), (72, s_ldP 2), (73, s_iinc 5 (-1)), (76, s_ldI 5), (78, s_getsD g 59), (81, s_ldI 0), (82, s_i1 (fun x => -x)), (83, s_dbald g), (84, s_bastD), (85, s_ldI 0), (86, s_c (.inl (-9))), (88, s_icmp_ge 104), (91, s_ldP 2), (92, s_iinc 5 (-1)), (95, s_ldI 5), (97, s_getsD g 58), (100, s_ldI 0), (101, s_i1 (fun x => -x)), (102, s_dbald g), (103, s_bastD), (104, s_ldI 6), (106, s_if_eq 118), (109, s_ldP 2), (110, s_iinc 5 (-1)), (113, s_ldI 5), (115, s_c (.inl 45)), (117, s_bastD), (118, s_ldI 5), (120, s_ireti)]
set_option maxRecDepth 100000 in
theorem oe_J6_getChars_ba4f3 {l : Launch} {g : EG} : e_okp l g sg_J6_getChars_ba4f3 "java/lang/Integer" (pe_J6_getChars_ba4f3 l g) := fun p e R s m args below meth c ex M0 Q X =>
    e_each_cons (r_iload_n X (k := 1) (i := 1) rfl dJ6_getChars_ba4f3_0 rfl)
    (e_each_cons (r_istore X (i := 5) dJ6_getChars_ba4f3_1 (by decide) rfl)
    (e_each_cons (r_iload_n X (k := 0) (i := 0) rfl dJ6_getChars_ba4f3_3 rfl)
    (e_each_cons (r_if_ge X (off := 7) (t := 11) dJ6_getChars_ba4f3_4 (by decide) rfl)
    (e_each_cons (r_iconst X (n := 1) (v := 1) dJ6_getChars_ba4f3_7 (by decide) rfl)
    (e_each_cons (r_goto X (off := 4) (t := 12) dJ6_getChars_ba4f3_8 (by decide))
    (e_each_cons (r_iconst X (n := 0) (v := 0) dJ6_getChars_ba4f3_11 (by decide) rfl)
    (e_each_cons (r_istore X (i := 6) dJ6_getChars_ba4f3_12 (by decide) rfl)
    (e_each_cons (r_iload X (i := 6) dJ6_getChars_ba4f3_14 rfl)
    (e_each_cons (r_if_ne X (off := 6) (t := 22) dJ6_getChars_ba4f3_16 (by decide) rfl)
    (e_each_cons (r_iload_n X (k := 0) (i := 0) rfl dJ6_getChars_ba4f3_19 rfl)
    (e_each_cons (r_ineg X dJ6_getChars_ba4f3_20 rfl)
    (e_each_cons (r_istore_n X (k := 0) (i := 0) rfl dJ6_getChars_ba4f3_21 (by decide) rfl)
    (e_each_cons (r_iload_n X (k := 0) (i := 0) rfl dJ6_getChars_ba4f3_22 rfl)
    (e_each_cons (r_bipush X (n := (-100)) (v := (-100)) dJ6_getChars_ba4f3_23 (by decide) rfl)
    (e_each_cons (r_icmp_gt X (off := 47) (t := 72) dJ6_getChars_ba4f3_25 (by decide) rfl)
    (e_each_cons (r_iload_n X (k := 0) (i := 0) rfl dJ6_getChars_ba4f3_28 rfl)
    (e_each_cons (r_bipush X (n := 100) (v := 100) dJ6_getChars_ba4f3_29 (by decide) rfl)
    (e_each_cons (r_idiv X dJ6_getChars_ba4f3_31 rfl)
    (e_each_cons (r_istore_n X (k := 3) (i := 3) rfl dJ6_getChars_ba4f3_32 (by decide) rfl)
    (e_each_cons (r_iload_n X (k := 3) (i := 3) rfl dJ6_getChars_ba4f3_33 rfl)
    (e_each_cons (r_bipush X (n := 100) (v := 100) dJ6_getChars_ba4f3_34 (by decide) rfl)
    (e_each_cons (r_imul X dJ6_getChars_ba4f3_36 rfl)
    (e_each_cons (r_iload_n X (k := 0) (i := 0) rfl dJ6_getChars_ba4f3_37 rfl)
    (e_each_cons (r_isub X dJ6_getChars_ba4f3_38 rfl)
    (e_each_cons (r_istore X (i := 4) dJ6_getChars_ba4f3_39 (by decide) rfl)
    (e_each_cons (r_iload_n X (k := 3) (i := 3) rfl dJ6_getChars_ba4f3_41 rfl)
    (e_each_cons (r_istore_n X (k := 0) (i := 0) rfl dJ6_getChars_ba4f3_42 (by decide) rfl)
    (e_each_cons (r_aload_n X (k := 2) (i := 2) rfl dJ6_getChars_ba4f3_43 rfl)
    (e_each_cons (r_iinc X (i := 5) (n := (-1)) (d := (-1)) dJ6_getChars_ba4f3_44 (by decide) (by decide) rfl)
    (e_each_cons (r_iload X (i := 5) dJ6_getChars_ba4f3_47 rfl)
    (e_each_cons (r_getsO X (index := 83) dJ6_getChars_ba4f3_49 zw5_39 rfl)
    (e_each_cons (r_iload X (i := 4) dJ6_getChars_ba4f3_52 rfl)
    (e_each_cons (r_dbald X dJ6_getChars_ba4f3_54 rfl)
    (e_each_cons (r_bastD X dJ6_getChars_ba4f3_55 rfl)
    (e_each_cons (r_aload_n X (k := 2) (i := 2) rfl dJ6_getChars_ba4f3_56 rfl)
    (e_each_cons (r_iinc X (i := 5) (n := (-1)) (d := (-1)) dJ6_getChars_ba4f3_57 (by decide) (by decide) rfl)
    (e_each_cons (r_iload X (i := 5) dJ6_getChars_ba4f3_60 rfl)
    (e_each_cons (r_getsT X (index := 87) dJ6_getChars_ba4f3_62 zw5_41 rfl)
    (e_each_cons (r_iload X (i := 4) dJ6_getChars_ba4f3_65 rfl)
    (e_each_cons (r_dbald X dJ6_getChars_ba4f3_67 rfl)
    (e_each_cons (r_bastD X dJ6_getChars_ba4f3_68 rfl)
    (e_each_cons (r_goto X (off := (-47)) (t := 22) dJ6_getChars_ba4f3_69 (by decide))
    (e_each_cons (r_aload_n X (k := 2) (i := 2) rfl dJ6_getChars_ba4f3_72 rfl)
    (e_each_cons (r_iinc X (i := 5) (n := (-1)) (d := (-1)) dJ6_getChars_ba4f3_73 (by decide) (by decide) rfl)
    (e_each_cons (r_iload X (i := 5) dJ6_getChars_ba4f3_76 rfl)
    (e_each_cons (r_getsO X (index := 83) dJ6_getChars_ba4f3_78 zw5_39 rfl)
    (e_each_cons (r_iload_n X (k := 0) (i := 0) rfl dJ6_getChars_ba4f3_81 rfl)
    (e_each_cons (r_ineg X dJ6_getChars_ba4f3_82 rfl)
    (e_each_cons (r_dbald X dJ6_getChars_ba4f3_83 rfl)
    (e_each_cons (r_bastD X dJ6_getChars_ba4f3_84 rfl)
    (e_each_cons (r_iload_n X (k := 0) (i := 0) rfl dJ6_getChars_ba4f3_85 rfl)
    (e_each_cons (r_bipush X (n := (-9)) (v := (-9)) dJ6_getChars_ba4f3_86 (by decide) rfl)
    (e_each_cons (r_icmp_ge X (off := 16) (t := 104) dJ6_getChars_ba4f3_88 (by decide) rfl)
    (e_each_cons (r_aload_n X (k := 2) (i := 2) rfl dJ6_getChars_ba4f3_91 rfl)
    (e_each_cons (r_iinc X (i := 5) (n := (-1)) (d := (-1)) dJ6_getChars_ba4f3_92 (by decide) (by decide) rfl)
    (e_each_cons (r_iload X (i := 5) dJ6_getChars_ba4f3_95 rfl)
    (e_each_cons (r_getsT X (index := 87) dJ6_getChars_ba4f3_97 zw5_41 rfl)
    (e_each_cons (r_iload_n X (k := 0) (i := 0) rfl dJ6_getChars_ba4f3_100 rfl)
    (e_each_cons (r_ineg X dJ6_getChars_ba4f3_101 rfl)
    (e_each_cons (r_dbald X dJ6_getChars_ba4f3_102 rfl)
    (e_each_cons (r_bastD X dJ6_getChars_ba4f3_103 rfl)
    (e_each_cons (r_iload X (i := 6) dJ6_getChars_ba4f3_104 rfl)
    (e_each_cons (r_if_eq X (off := 12) (t := 118) dJ6_getChars_ba4f3_106 (by decide) rfl)
    (e_each_cons (r_aload_n X (k := 2) (i := 2) rfl dJ6_getChars_ba4f3_109 rfl)
    (e_each_cons (r_iinc X (i := 5) (n := (-1)) (d := (-1)) dJ6_getChars_ba4f3_110 (by decide) (by decide) rfl)
    (e_each_cons (r_iload X (i := 5) dJ6_getChars_ba4f3_113 rfl)
    (e_each_cons (r_bipush X (n := 45) (v := 45) dJ6_getChars_ba4f3_115 (by decide) rfl)
    (e_each_cons (r_bastD X dJ6_getChars_ba4f3_117 rfl)
    (e_each_cons (r_iload X (i := 5) dJ6_getChars_ba4f3_118 rfl)
    (e_each_cons (r_ireti X dJ6_getChars_ba4f3_120 rfl)
    (e_each_nil)))))))))))))))))))))))))))))))))))))))))))))))))))))))))))))))))))))))
def sg_J8_newLength_cabcc : SG := (yJ8_newLength_cabcc, cJ8_newLength_cabcc, 4, (some .int), 1, 22, 0, 0, 3, false, [])
theorem cs_J8_newLength_cabcc : e_cs sg_J8_newLength_cabcc := ⟨zw4_179, zw1_15, ⟨by decide, by decide⟩, by decide +kernel, rfl⟩
theorem mt_J8_newLength_cabcc : e_mtF sg_J8_newLength_cabcc "jdk/internal/util/ArraysSupport" := ⟨rfl, by decide +kernel, rfl⟩
theorem dJ8_newLength_cabcc_0 : decode cJ8_newLength_cabcc 0 = .ok (.iload_n 0, 1) := by decide +kernel
theorem dJ8_newLength_cabcc_1 : decode cJ8_newLength_cabcc 1 = .ok (.iload_n 1, 1) := by decide +kernel
theorem dJ8_newLength_cabcc_2 : decode cJ8_newLength_cabcc 2 = .ok (.iload_n 2, 1) := by decide +kernel
theorem dJ8_newLength_cabcc_3 : decode cJ8_newLength_cabcc 3 = .ok (.invokestatic 194, 3) := by decide +kernel
theorem dJ8_newLength_cabcc_6 : decode cJ8_newLength_cabcc 6 = .ok (.iadd, 1) := by decide +kernel
theorem dJ8_newLength_cabcc_7 : decode cJ8_newLength_cabcc 7 = .ok (.istore_n 3, 1) := by decide +kernel
theorem dJ8_newLength_cabcc_8 : decode cJ8_newLength_cabcc 8 = .ok (.iconst 0, 1) := by decide +kernel
theorem dJ8_newLength_cabcc_9 : decode cJ8_newLength_cabcc 9 = .ok (.iload_n 3, 1) := by decide +kernel
theorem dJ8_newLength_cabcc_10 : decode cJ8_newLength_cabcc 10 = .ok (.if_icmp .ge 11, 3) := by decide +kernel
theorem dJ8_newLength_cabcc_13 : decode cJ8_newLength_cabcc 13 = .ok (.iload_n 3, 1) := by decide +kernel
theorem dJ8_newLength_cabcc_14 : decode cJ8_newLength_cabcc 14 = .ok (.ldc 200, 2) := by decide +kernel
theorem dJ8_newLength_cabcc_16 : decode cJ8_newLength_cabcc 16 = .ok (.if_icmp .gt 5, 3) := by decide +kernel
theorem dJ8_newLength_cabcc_19 : decode cJ8_newLength_cabcc 19 = .ok (.iload_n 3, 1) := by decide +kernel
theorem dJ8_newLength_cabcc_20 : decode cJ8_newLength_cabcc 20 = .ok (.ireturn, 1) := by decide +kernel
def pe_J8_newLength_cabcc (l : Launch) (g : EG) : List (Nat × ES) := [(0, s_ldI 0), (1, s_ldI 1), (2, s_ldI 2), (3, s_mmax sg_J8_newLength_cabcc), (6, s_ii (fun x y => x + y)), (7, s_stI 3), (8, s_c (.inl 0)), (9, s_ldI 3), (10, s_icmp_ge 21), (13, s_ldI 3), (14, s_c (.inl 2147483639)), (16, s_icmp_gt 21), (19, s_ldI 3), (20, s_ireti), (21, s_no), (22, s_no), (23, s_no), (26, s_no)]
set_option maxRecDepth 100000 in
theorem oe_J8_newLength_cabcc {l : Launch} {g : EG} : e_okp l g sg_J8_newLength_cabcc "jdk/internal/util/ArraysSupport" (pe_J8_newLength_cabcc l g) := fun p e R s m args below meth c ex M0 Q X =>
    e_each_cons (r_iload_n X (k := 0) (i := 0) rfl dJ8_newLength_cabcc_0 rfl)
    (e_each_cons (r_iload_n X (k := 1) (i := 1) rfl dJ8_newLength_cabcc_1 rfl)
    (e_each_cons (r_iload_n X (k := 2) (i := 2) rfl dJ8_newLength_cabcc_2 rfl)
    (e_each_cons (r_mmax X (index := 194) dJ8_newLength_cabcc_3 zw4_180 w4_118 w1_16 w4_119 ⟨by decide, by decide⟩ rfl)
    (e_each_cons (r_iadd X dJ8_newLength_cabcc_6 rfl)
    (e_each_cons (r_istore_n X (k := 3) (i := 3) rfl dJ8_newLength_cabcc_7 (by decide) rfl)
    (e_each_cons (r_iconst X (n := 0) (v := 0) dJ8_newLength_cabcc_8 (by decide) rfl)
    (e_each_cons (r_iload_n X (k := 3) (i := 3) rfl dJ8_newLength_cabcc_9 rfl)
    (e_each_cons (r_icmp_ge X (off := 11) (t := 21) dJ8_newLength_cabcc_10 (by decide) rfl)
    (e_each_cons (r_iload_n X (k := 3) (i := 3) rfl dJ8_newLength_cabcc_13 rfl)
    (e_each_cons (r_ldc X (n := 200) (v := 2147483639) dJ8_newLength_cabcc_14 zw4_181 rfl)
    (e_each_cons (r_icmp_gt X (off := 5) (t := 21) dJ8_newLength_cabcc_16 (by decide) rfl)
    (e_each_cons (r_iload_n X (k := 3) (i := 3) rfl dJ8_newLength_cabcc_19 rfl)
    (e_each_cons (r_ireti X dJ8_newLength_cabcc_20 rfl)
    (e_each_cons (r_no X)
    (e_each_cons (r_no X)
    (e_each_cons (r_no X)
    (e_each_cons (r_no X)
    (e_each_nil))))))))))))))))))
def sg_J7_copyOf_9075b : SG := (yJ7_copyOf_9075b, cJ7_copyOf_9075b, 3, (some (.array .byte)), 1, 40, 1, 4096, 2, false, [])
theorem cs_J7_copyOf_9075b : e_cs sg_J7_copyOf_9075b := ⟨zw4_187, zw1_17, ⟨by decide, by decide⟩, by decide +kernel, rfl⟩
theorem mt_J7_copyOf_9075b : e_mtF sg_J7_copyOf_9075b "java/util/Arrays" := ⟨rfl, by decide +kernel, rfl⟩
theorem dJ7_copyOf_9075b_0 : decode cJ7_copyOf_9075b 0 = .ok (.iload_n 1, 1) := by decide +kernel
theorem dJ7_copyOf_9075b_1 : decode cJ7_copyOf_9075b 1 = .ok (.aload_n 0, 1) := by decide +kernel
theorem dJ7_copyOf_9075b_2 : decode cJ7_copyOf_9075b 2 = .ok (.arraylength, 1) := by decide +kernel
theorem dJ7_copyOf_9075b_3 : decode cJ7_copyOf_9075b 3 = .ok (.if_icmp .ne 11, 3) := by decide +kernel
theorem dJ7_copyOf_9075b_14 : decode cJ7_copyOf_9075b 14 = .ok (.iload_n 1, 1) := by decide +kernel
theorem dJ7_copyOf_9075b_15 : decode cJ7_copyOf_9075b 15 = .ok (.newarray .byte, 2) := by decide +kernel
theorem dJ7_copyOf_9075b_17 : decode cJ7_copyOf_9075b 17 = .ok (.astore_n 2, 1) := by decide +kernel
theorem dJ7_copyOf_9075b_18 : decode cJ7_copyOf_9075b 18 = .ok (.aload_n 0, 1) := by decide +kernel
theorem dJ7_copyOf_9075b_19 : decode cJ7_copyOf_9075b 19 = .ok (.iconst 0, 1) := by decide +kernel
theorem dJ7_copyOf_9075b_20 : decode cJ7_copyOf_9075b 20 = .ok (.aload_n 2, 1) := by decide +kernel
theorem dJ7_copyOf_9075b_21 : decode cJ7_copyOf_9075b 21 = .ok (.iconst 0, 1) := by decide +kernel
theorem dJ7_copyOf_9075b_22 : decode cJ7_copyOf_9075b 22 = .ok (.aload_n 0, 1) := by decide +kernel
theorem dJ7_copyOf_9075b_23 : decode cJ7_copyOf_9075b 23 = .ok (.arraylength, 1) := by decide +kernel
theorem dJ7_copyOf_9075b_24 : decode cJ7_copyOf_9075b 24 = .ok (.iload_n 1, 1) := by decide +kernel
theorem dJ7_copyOf_9075b_25 : decode cJ7_copyOf_9075b 25 = .ok (.invokestatic 304, 3) := by decide +kernel
theorem dJ7_copyOf_9075b_28 : decode cJ7_copyOf_9075b 28 = .ok (.invokestatic 150, 3) := by decide +kernel
theorem dJ7_copyOf_9075b_31 : decode cJ7_copyOf_9075b 31 = .ok (.aload_n 2, 1) := by decide +kernel
theorem dJ7_copyOf_9075b_32 : decode cJ7_copyOf_9075b 32 = .ok (.areturn, 1) := by decide +kernel
def pe_J7_copyOf_9075b (l : Launch) (g : EG) : List (Nat × ES) := [(0, s_ldI 1), (1, s_ldP 0), (2, s_alenE), (3, s_icmp_ne 14), (6, s_no), (7, s_no), (10, s_no), (13, s_no), (14, s_ldI 1), (15, s_newaD sg_J7_copyOf_9075b), (17, s_stP 2), (18, s_ldP 0), (19, s_c (.inl 0)), (20, s_ldP 2), (21, s_c (.inl 0)), (22, s_ldP 0), (23, s_alenE), (24, s_ldI 1), (25, s_mminP sg_J7_copyOf_9075b), (28, s_acB), (31, s_ldP 2), (32, s_aret)]
set_option maxRecDepth 100000 in
theorem oe_J7_copyOf_9075b {l : Launch} {g : EG} : e_okp l g sg_J7_copyOf_9075b "java/util/Arrays" (pe_J7_copyOf_9075b l g) := fun p e R s m args below meth c ex M0 Q X =>
    e_each_cons (r_iload_n X (k := 1) (i := 1) rfl dJ7_copyOf_9075b_0 rfl)
    (e_each_cons (r_aload_n X (k := 0) (i := 0) rfl dJ7_copyOf_9075b_1 rfl)
    (e_each_cons (r_alenE X dJ7_copyOf_9075b_2 rfl)
    (e_each_cons (r_icmp_ne X (off := 11) (t := 14) dJ7_copyOf_9075b_3 (by decide) rfl)
    (e_each_cons (r_no X)
    (e_each_cons (r_no X)
    (e_each_cons (r_no X)
    (e_each_cons (r_no X)
    (e_each_cons (r_iload_n X (k := 1) (i := 1) rfl dJ7_copyOf_9075b_14 rfl)
    (e_each_cons (r_newaD X dJ7_copyOf_9075b_15 zw1_210 rfl)
    (e_each_cons (r_astore_n X (k := 2) (i := 2) rfl dJ7_copyOf_9075b_17 (by decide) rfl)
    (e_each_cons (r_aload_n X (k := 0) (i := 0) rfl dJ7_copyOf_9075b_18 rfl)
    (e_each_cons (r_iconst X (n := 0) (v := 0) dJ7_copyOf_9075b_19 (by decide) rfl)
    (e_each_cons (r_aload_n X (k := 2) (i := 2) rfl dJ7_copyOf_9075b_20 rfl)
    (e_each_cons (r_iconst X (n := 0) (v := 0) dJ7_copyOf_9075b_21 (by decide) rfl)
    (e_each_cons (r_aload_n X (k := 0) (i := 0) rfl dJ7_copyOf_9075b_22 rfl)
    (e_each_cons (r_alenE X dJ7_copyOf_9075b_23 rfl)
    (e_each_cons (r_iload_n X (k := 1) (i := 1) rfl dJ7_copyOf_9075b_24 rfl)
    (e_each_cons (r_mminP X (index := 304) dJ7_copyOf_9075b_25 zw4_195 w3_211 w1_16 w3_212 ⟨by decide, by decide⟩ rfl)
    (e_each_cons (r_acB X (index := 150) dJ7_copyOf_9075b_28 zw4_196 w3_65 w3_64 w1_18 ⟨by decide, by decide⟩ rfl)
    (e_each_cons (r_aload_n X (k := 2) (i := 2) rfl dJ7_copyOf_9075b_31 rfl)
    (e_each_cons (r_aretA X dJ7_copyOf_9075b_32 rfl)
    (e_each_nil))))))))))))))))))))))
def sg_J7_checkLength_df160 : SG := (yJ7_checkLength_df160, cJ7_checkLength_df160, 2, none, 0, 0, 0, 0, 2, false, [])
theorem cs_J7_checkLength_df160 : e_cs sg_J7_checkLength_df160 := ⟨zw5_93, zw1_17, ⟨by decide, by decide⟩, by decide +kernel, rfl⟩
theorem mt_J7_checkLength_df160 : e_mtF sg_J7_checkLength_df160 "java/util/Arrays" := ⟨rfl, by decide +kernel, rfl⟩
theorem dJ7_checkLength_df160_0 : decode cJ7_checkLength_df160 0 = .ok (.iload_n 1, 1) := by decide +kernel
theorem dJ7_checkLength_df160_1 : decode cJ7_checkLength_df160 1 = .ok (.iload_n 0, 1) := by decide +kernel
theorem dJ7_checkLength_df160_2 : decode cJ7_checkLength_df160 2 = .ok (.if_icmp .ge 35, 3) := by decide +kernel
theorem dJ7_checkLength_df160_37 : decode cJ7_checkLength_df160 37 = .ok (.return_, 1) := by decide +kernel
def pe_J7_checkLength_df160 (l : Launch) (g : EG) : List (Nat × ES) := [(0, s_ldI 1), (1, s_ldI 0), (2, s_icmp_ge 37), (5, s_no), (8, s_no), (9, s_no), (12, s_no), (13, s_no), (16, s_no), (17, s_no), (20, s_no), (23, s_no), (26, s_no), (27, s_no), (30, s_no), (33, s_no), (36, s_no), (37, s_vret)]
set_option maxRecDepth 100000 in
theorem oe_J7_checkLength_df160 {l : Launch} {g : EG} : e_okp l g sg_J7_checkLength_df160 "java/util/Arrays" (pe_J7_checkLength_df160 l g) := fun p e R s m args below meth c ex M0 Q X =>
    e_each_cons (r_iload_n X (k := 1) (i := 1) rfl dJ7_checkLength_df160_0 rfl)
    (e_each_cons (r_iload_n X (k := 0) (i := 0) rfl dJ7_checkLength_df160_1 rfl)
    (e_each_cons (r_icmp_ge X (off := 35) (t := 37) dJ7_checkLength_df160_2 (by decide) rfl)
    (e_each_cons (r_no X)
    (e_each_cons (r_no X)
    (e_each_cons (r_no X)
    (e_each_cons (r_no X)
    (e_each_cons (r_no X)
    (e_each_cons (r_no X)
    (e_each_cons (r_no X)
    (e_each_cons (r_no X)
    (e_each_cons (r_no X)
    (e_each_cons (r_no X)
    (e_each_cons (r_no X)
    (e_each_cons (r_no X)
    (e_each_cons (r_no X)
    (e_each_cons (r_no X)
    (e_each_cons (r_vret X dJ7_checkLength_df160_37 rfl)
    (e_each_nil))))))))))))))))))
def sg_J7_copyOfRangeByte_39247 : SG := (yJ7_copyOfRangeByte_39247, cJ7_copyOfRangeByte_39247, 5, (some (.array .byte)), 1, 40, 1, 4096, 3, false, [])
theorem cs_J7_copyOfRangeByte_39247 : e_cs sg_J7_copyOfRangeByte_39247 := ⟨zw5_90, zw1_17, ⟨by decide, by decide⟩, by decide +kernel, rfl⟩
theorem mt_J7_copyOfRangeByte_39247 : e_mtF sg_J7_copyOfRangeByte_39247 "java/util/Arrays" := ⟨rfl, by decide +kernel, rfl⟩
theorem dJ7_copyOfRangeByte_39247_0 : decode cJ7_copyOfRangeByte_39247 0 = .ok (.iload_n 1, 1) := by decide +kernel
theorem dJ7_copyOfRangeByte_39247_1 : decode cJ7_copyOfRangeByte_39247 1 = .ok (.iload_n 2, 1) := by decide +kernel
theorem dJ7_copyOfRangeByte_39247_2 : decode cJ7_copyOfRangeByte_39247 2 = .ok (.invokestatic 343, 3) := by decide +kernel
theorem dJ7_copyOfRangeByte_39247_5 : decode cJ7_copyOfRangeByte_39247 5 = .ok (.iload_n 2, 1) := by decide +kernel
theorem dJ7_copyOfRangeByte_39247_6 : decode cJ7_copyOfRangeByte_39247 6 = .ok (.iload_n 1, 1) := by decide +kernel
theorem dJ7_copyOfRangeByte_39247_7 : decode cJ7_copyOfRangeByte_39247 7 = .ok (.isub, 1) := by decide +kernel
theorem dJ7_copyOfRangeByte_39247_8 : decode cJ7_copyOfRangeByte_39247 8 = .ok (.istore_n 3, 1) := by decide +kernel
theorem dJ7_copyOfRangeByte_39247_9 : decode cJ7_copyOfRangeByte_39247 9 = .ok (.iload_n 3, 1) := by decide +kernel
theorem dJ7_copyOfRangeByte_39247_10 : decode cJ7_copyOfRangeByte_39247 10 = .ok (.newarray .byte, 2) := by decide +kernel
theorem dJ7_copyOfRangeByte_39247_12 : decode cJ7_copyOfRangeByte_39247 12 = .ok (.astore 4, 2) := by decide +kernel
theorem dJ7_copyOfRangeByte_39247_14 : decode cJ7_copyOfRangeByte_39247 14 = .ok (.aload_n 0, 1) := by decide +kernel
theorem dJ7_copyOfRangeByte_39247_15 : decode cJ7_copyOfRangeByte_39247 15 = .ok (.iload_n 1, 1) := by decide +kernel
theorem dJ7_copyOfRangeByte_39247_16 : decode cJ7_copyOfRangeByte_39247 16 = .ok (.aload 4, 2) := by decide +kernel
theorem dJ7_copyOfRangeByte_39247_18 : decode cJ7_copyOfRangeByte_39247 18 = .ok (.iconst 0, 1) := by decide +kernel
theorem dJ7_copyOfRangeByte_39247_19 : decode cJ7_copyOfRangeByte_39247 19 = .ok (.aload_n 0, 1) := by decide +kernel
theorem dJ7_copyOfRangeByte_39247_20 : decode cJ7_copyOfRangeByte_39247 20 = .ok (.arraylength, 1) := by decide +kernel
theorem dJ7_copyOfRangeByte_39247_21 : decode cJ7_copyOfRangeByte_39247 21 = .ok (.iload_n 1, 1) := by decide +kernel
theorem dJ7_copyOfRangeByte_39247_22 : decode cJ7_copyOfRangeByte_39247 22 = .ok (.isub, 1) := by decide +kernel
theorem dJ7_copyOfRangeByte_39247_23 : decode cJ7_copyOfRangeByte_39247 23 = .ok (.iload_n 3, 1) := by decide +kernel
theorem dJ7_copyOfRangeByte_39247_24 : decode cJ7_copyOfRangeByte_39247 24 = .ok (.invokestatic 304, 3) := by decide +kernel
theorem dJ7_copyOfRangeByte_39247_27 : decode cJ7_copyOfRangeByte_39247 27 = .ok (.invokestatic 150, 3) := by decide +kernel
theorem dJ7_copyOfRangeByte_39247_30 : decode cJ7_copyOfRangeByte_39247 30 = .ok (.aload 4, 2) := by decide +kernel
theorem dJ7_copyOfRangeByte_39247_32 : decode cJ7_copyOfRangeByte_39247 32 = .ok (.areturn, 1) := by decide +kernel
def pe_J7_copyOfRangeByte_39247 (l : Launch) (g : EG) : List (Nat × ES) := [(0, s_ldI 1), (1, s_ldI 2), (2, s_callS l g sg_J7_copyOfRangeByte_39247 sg_J7_checkLength_df160), (5, s_ldI 2), (6, s_ldI 1), (7, s_ii (fun x y => x - y)), (8, s_stI 3), (9, s_ldI 3), (10, s_newaD sg_J7_copyOfRangeByte_39247), (12, s_stP 4), (14, s_ldP 0), (15, s_ldI 1), (16, s_ldP 4), (18, s_c (.inl 0)), (19, s_ldP 0), (20, s_alenE), (21, s_ldI 1), (22, s_ii (fun x y => x - y)), (23, s_ldI 3), (24, s_mminP sg_J7_copyOfRangeByte_39247), (27, s_acB), (30, s_ldP 4), (32, s_aret)]
set_option maxRecDepth 100000 in
theorem oe_J7_copyOfRangeByte_39247 {l : Launch} {g : EG} : e_okp l g sg_J7_copyOfRangeByte_39247 "java/util/Arrays" (pe_J7_copyOfRangeByte_39247 l g) := fun p e R s m args below meth c ex M0 Q X =>
    e_each_cons (r_iload_n X (k := 1) (i := 1) rfl dJ7_copyOfRangeByte_39247_0 rfl)
    (e_each_cons (r_iload_n X (k := 2) (i := 2) rfl dJ7_copyOfRangeByte_39247_1 rfl)
    (e_each_cons (r_callS X rfl (τ := sg_J7_checkLength_df160) (index := 343) dJ7_copyOfRangeByte_39247_2 zw5_91 zw5_92 cs_J7_checkLength_df160 rfl ⟨by decide, by decide⟩ rfl)
    (e_each_cons (r_iload_n X (k := 2) (i := 2) rfl dJ7_copyOfRangeByte_39247_5 rfl)
    (e_each_cons (r_iload_n X (k := 1) (i := 1) rfl dJ7_copyOfRangeByte_39247_6 rfl)
    (e_each_cons (r_isub X dJ7_copyOfRangeByte_39247_7 rfl)
    (e_each_cons (r_istore_n X (k := 3) (i := 3) rfl dJ7_copyOfRangeByte_39247_8 (by decide) rfl)
    (e_each_cons (r_iload_n X (k := 3) (i := 3) rfl dJ7_copyOfRangeByte_39247_9 rfl)
    (e_each_cons (r_newaD X dJ7_copyOfRangeByte_39247_10 zw1_210 rfl)
    (e_each_cons (r_astore X (i := 4) dJ7_copyOfRangeByte_39247_12 (by decide) rfl)
    (e_each_cons (r_aload_n X (k := 0) (i := 0) rfl dJ7_copyOfRangeByte_39247_14 rfl)
    (e_each_cons (r_iload_n X (k := 1) (i := 1) rfl dJ7_copyOfRangeByte_39247_15 rfl)
    (e_each_cons (r_aload X (i := 4) dJ7_copyOfRangeByte_39247_16 rfl)
    (e_each_cons (r_iconst X (n := 0) (v := 0) dJ7_copyOfRangeByte_39247_18 (by decide) rfl)
    (e_each_cons (r_aload_n X (k := 0) (i := 0) rfl dJ7_copyOfRangeByte_39247_19 rfl)
    (e_each_cons (r_alenE X dJ7_copyOfRangeByte_39247_20 rfl)
    (e_each_cons (r_iload_n X (k := 1) (i := 1) rfl dJ7_copyOfRangeByte_39247_21 rfl)
    (e_each_cons (r_isub X dJ7_copyOfRangeByte_39247_22 rfl)
    (e_each_cons (r_iload_n X (k := 3) (i := 3) rfl dJ7_copyOfRangeByte_39247_23 rfl)
    (e_each_cons (r_mminP X (index := 304) dJ7_copyOfRangeByte_39247_24 zw4_195 w3_211 w1_16 w3_212 ⟨by decide, by decide⟩ rfl)
    (e_each_cons (r_acB X (index := 150) dJ7_copyOfRangeByte_39247_27 zw4_196 w3_65 w3_64 w1_18 ⟨by decide, by decide⟩ rfl)
    (e_each_cons (r_aload X (i := 4) dJ7_copyOfRangeByte_39247_30 rfl)
    (e_each_cons (r_aretA X dJ7_copyOfRangeByte_39247_32 rfl)
    (e_each_nil)))))))))))))))))))))))
def sg_J7_copyOfRange_39247 : SG := (yJ7_copyOfRange_39247, cJ7_copyOfRange_39247, 3, (some (.array .byte)), 2, 64, 1, 4096, 3, false, [])
theorem cs_J7_copyOfRange_39247 : e_cs sg_J7_copyOfRange_39247 := ⟨zw5_87, zw1_17, ⟨by decide, by decide⟩, by decide +kernel, rfl⟩
theorem mt_J7_copyOfRange_39247 : e_mtF sg_J7_copyOfRange_39247 "java/util/Arrays" := ⟨rfl, by decide +kernel, rfl⟩
theorem dJ7_copyOfRange_39247_0 : decode cJ7_copyOfRange_39247 0 = .ok (.iload_n 1, 1) := by decide +kernel
theorem dJ7_copyOfRange_39247_1 : decode cJ7_copyOfRange_39247 1 = .ok (.ifCond .ne 9, 3) := by decide +kernel
theorem dJ7_copyOfRange_39247_4 : decode cJ7_copyOfRange_39247 4 = .ok (.iload_n 2, 1) := by decide +kernel
theorem dJ7_copyOfRange_39247_5 : decode cJ7_copyOfRange_39247 5 = .ok (.aload_n 0, 1) := by decide +kernel
theorem dJ7_copyOfRange_39247_6 : decode cJ7_copyOfRange_39247 6 = .ok (.arraylength, 1) := by decide +kernel
theorem dJ7_copyOfRange_39247_7 : decode cJ7_copyOfRange_39247 7 = .ok (.if_icmp .eq 10, 3) := by decide +kernel
theorem dJ7_copyOfRange_39247_10 : decode cJ7_copyOfRange_39247 10 = .ok (.aload_n 0, 1) := by decide +kernel
theorem dJ7_copyOfRange_39247_11 : decode cJ7_copyOfRange_39247 11 = .ok (.iload_n 1, 1) := by decide +kernel
theorem dJ7_copyOfRange_39247_12 : decode cJ7_copyOfRange_39247 12 = .ok (.iload_n 2, 1) := by decide +kernel
theorem dJ7_copyOfRange_39247_13 : decode cJ7_copyOfRange_39247 13 = .ok (.invokestatic 339, 3) := by decide +kernel
theorem dJ7_copyOfRange_39247_16 : decode cJ7_copyOfRange_39247 16 = .ok (.areturn, 1) := by decide +kernel
theorem dJ7_copyOfRange_39247_17 : decode cJ7_copyOfRange_39247 17 = .ok (.aload_n 0, 1) := by decide +kernel
theorem dJ7_copyOfRange_39247_18 : decode cJ7_copyOfRange_39247 18 = .ok (.invokevirtual 310, 3) := by decide +kernel
theorem dJ7_copyOfRange_39247_21 : decode cJ7_copyOfRange_39247 21 = .ok (.checkcast 311, 3) := by decide +kernel
theorem dJ7_copyOfRange_39247_24 : decode cJ7_copyOfRange_39247 24 = .ok (.areturn, 1) := by decide +kernel
def pe_J7_copyOfRange_39247 (l : Launch) (g : EG) : List (Nat × ES) := [(0, s_ldI 1), (1, s_if_ne 10), (4, s_ldI 2), (5, s_ldP 0), (6, s_alenE), (7, s_icmp_eq 17), (10, s_ldP 0), (11, s_ldI 1), (12, s_ldI 2), (13, s_callS l g sg_J7_copyOfRange_39247 sg_J7_copyOfRangeByte_39247), (16, s_aret), (17, s_ldP 0), (18, s_clone sg_J7_copyOfRange_39247), (21, s_castB), (24, s_aret)]
set_option maxRecDepth 100000 in
theorem oe_J7_copyOfRange_39247 {l : Launch} {g : EG} : e_okp l g sg_J7_copyOfRange_39247 "java/util/Arrays" (pe_J7_copyOfRange_39247 l g) := fun p e R s m args below meth c ex M0 Q X =>
    e_each_cons (r_iload_n X (k := 1) (i := 1) rfl dJ7_copyOfRange_39247_0 rfl)
    (e_each_cons (r_if_ne X (off := 9) (t := 10) dJ7_copyOfRange_39247_1 (by decide) rfl)
    (e_each_cons (r_iload_n X (k := 2) (i := 2) rfl dJ7_copyOfRange_39247_4 rfl)
    (e_each_cons (r_aload_n X (k := 0) (i := 0) rfl dJ7_copyOfRange_39247_5 rfl)
    (e_each_cons (r_alenE X dJ7_copyOfRange_39247_6 rfl)
    (e_each_cons (r_icmp_eq X (off := 10) (t := 17) dJ7_copyOfRange_39247_7 (by decide) rfl)
    (e_each_cons (r_aload_n X (k := 0) (i := 0) rfl dJ7_copyOfRange_39247_10 rfl)
    (e_each_cons (r_iload_n X (k := 1) (i := 1) rfl dJ7_copyOfRange_39247_11 rfl)
    (e_each_cons (r_iload_n X (k := 2) (i := 2) rfl dJ7_copyOfRange_39247_12 rfl)
    (e_each_cons (r_callS X rfl (τ := sg_J7_copyOfRangeByte_39247) (index := 339) dJ7_copyOfRange_39247_13 zw5_88 zw5_89 cs_J7_copyOfRangeByte_39247 rfl ⟨by decide, by decide⟩ rfl)
    (e_each_cons (r_aretA X dJ7_copyOfRange_39247_16 rfl)
    (e_each_cons (r_aload_n X (k := 0) (i := 0) rfl dJ7_copyOfRange_39247_17 rfl)
    (e_each_cons (r_clone X (index := 310) dJ7_copyOfRange_39247_18 zw4_188 zw4_189 zw4_190 zw4_191 zw4_192 zwc4_193 ⟨by decide, by decide⟩ rfl)
    (e_each_cons (r_castB X (index := 311) dJ7_copyOfRange_39247_21 zw4_194 rfl)
    (e_each_cons (r_aretA X dJ7_copyOfRange_39247_24 rfl)
    (e_each_nil)))))))))))))))
def sg_J1_canEncode_fc78d : SG := (yJ1_canEncode_fc78d, cJ1_canEncode_fc78d, 1, (some .boolean), 0, 0, 0, 0, 1, false, [])
theorem cs_J1_canEncode_fc78d : e_cs sg_J1_canEncode_fc78d := ⟨zw5_126, zw1_20, ⟨by decide, by decide⟩, by decide +kernel, rfl⟩
theorem mt_J1_canEncode_fc78d : e_mtF sg_J1_canEncode_fc78d "java/lang/StringLatin1" := ⟨rfl, by decide +kernel, rfl⟩
theorem dJ1_canEncode_fc78d_0 : decode cJ1_canEncode_fc78d 0 = .ok (.iload_n 0, 1) := by decide +kernel
theorem dJ1_canEncode_fc78d_1 : decode cJ1_canEncode_fc78d 1 = .ok (.sipush 255, 3) := by decide +kernel
theorem dJ1_canEncode_fc78d_4 : decode cJ1_canEncode_fc78d 4 = .ok (.if_icmp .gt 7, 3) := by decide +kernel
theorem dJ1_canEncode_fc78d_7 : decode cJ1_canEncode_fc78d 7 = .ok (.iconst 1, 1) := by decide +kernel
theorem dJ1_canEncode_fc78d_8 : decode cJ1_canEncode_fc78d 8 = .ok (.goto 4, 3) := by decide +kernel
theorem dJ1_canEncode_fc78d_11 : decode cJ1_canEncode_fc78d 11 = .ok (.iconst 0, 1) := by decide +kernel
theorem dJ1_canEncode_fc78d_12 : decode cJ1_canEncode_fc78d 12 = .ok (.ireturn, 1) := by decide +kernel
def pe_J1_canEncode_fc78d (l : Launch) (g : EG) : List (Nat × ES) := [(0, s_ldI 0), (1, s_c (.inl 255)), (4, s_icmp_gt 11), (7, s_c (.inl 1)), (8, s_goto 12), (11, s_c (.inl 0)), (12, s_iretz)]
set_option maxRecDepth 100000 in
theorem oe_J1_canEncode_fc78d {l : Launch} {g : EG} : e_okp l g sg_J1_canEncode_fc78d "java/lang/StringLatin1" (pe_J1_canEncode_fc78d l g) := fun p e R s m args below meth c ex M0 Q X =>
    e_each_cons (r_iload_n X (k := 0) (i := 0) rfl dJ1_canEncode_fc78d_0 rfl)
    (e_each_cons (r_sipush X (n := 255) (v := 255) dJ1_canEncode_fc78d_1 (by decide) rfl)
    (e_each_cons (r_icmp_gt X (off := 7) (t := 11) dJ1_canEncode_fc78d_4 (by decide) rfl)
    (e_each_cons (r_iconst X (n := 1) (v := 1) dJ1_canEncode_fc78d_7 (by decide) rfl)
    (e_each_cons (r_goto X (off := 4) (t := 12) dJ1_canEncode_fc78d_8 (by decide))
    (e_each_cons (r_iconst X (n := 0) (v := 0) dJ1_canEncode_fc78d_11 (by decide) rfl)
    (e_each_cons (r_iretz X dJ1_canEncode_fc78d_12 rfl)
    (e_each_nil)))))))
def pe_J0_coder_7d493 (l : Launch) (g : EG) : List (Nat × ES) := [(0, s_gcs), (3, s_if_eq 13), (6, s_ldP 0), (7, s_tcodE), (10, s_goto 14), (13, s_no), (14, s_iretn .byte)]
set_option maxRecDepth 100000 in
theorem oe_J0_coder_7d493 {l : Launch} {g : EG} : e_okp l g sg_J0_coder_7d493 "java/lang/String" (pe_J0_coder_7d493 l g) := fun p e R s m args below meth c ex M0 Q X =>
    e_each_cons (r_gcs X (index := 38) dJ0_coder_7d493_0 zw3_119 rfl)
    (e_each_cons (r_if_eq X (off := 10) (t := 13) dJ0_coder_7d493_3 (by decide) rfl)
    (e_each_cons (r_aload_n X (k := 0) (i := 0) rfl dJ0_coder_7d493_6 rfl)
    (e_each_cons (r_tcodE X (index := 15) dJ0_coder_7d493_7 zw5_105 rfl)
    (e_each_cons (r_goto X (off := 4) (t := 14) dJ0_coder_7d493_10 (by decide))
    (e_each_cons (r_no X)
    (e_each_cons (r_iretn X (ty := .byte) dJ0_coder_7d493_14 rfl)
    (e_each_nil)))))))
def pe_J0_length_8abf5 (l : Launch) (g : EG) : List (Nat × ES) := [(0, s_ldP 0), (1, s_getVE), (4, s_alenE), (5, s_ldP 0), (6, s_callE l g sg_J0_length_8abf5 sg_J0_coder_7d493), (9, s_ii (fun x y => x >>> (y &&& 31))), (10, s_ireti)]
set_option maxRecDepth 100000 in
theorem oe_J0_length_8abf5 {l : Launch} {g : EG} : e_okp l g sg_J0_length_8abf5 "java/lang/String" (pe_J0_length_8abf5 l g) := fun p e R s m args below meth c ex M0 Q X =>
    e_each_cons (r_aload_n X (k := 0) (i := 0) rfl dJ0_length_8abf5_0 rfl)
    (e_each_cons (r_getVE X (index := 9) dJ0_length_8abf5_1 zw5_104 rfl)
    (e_each_cons (r_alenE X dJ0_length_8abf5_4 rfl)
    (e_each_cons (r_aload_n X (k := 0) (i := 0) rfl dJ0_length_8abf5_5 rfl)
    (e_each_cons (r_callE X rfl (τ := sg_J0_coder_7d493) (index := 335) dJ0_length_8abf5_6 rfl zw3_115 zw3_116 zw3_117 cs_J0_coder_7d493 rfl ⟨by decide, by decide⟩ rfl)
    (e_each_cons (r_ishr X dJ0_length_8abf5_9 rfl)
    (e_each_cons (r_ireti X dJ0_length_8abf5_10 rfl)
    (e_each_nil)))))))
def pe_J0_isLatin1_aae02 (l : Launch) (g : EG) : List (Nat × ES) := [(0, s_gcs), (3, s_if_eq 17), (6, s_ldP 0), (7, s_tcodE), (10, s_if_ne 17), (13, s_c (.inl 1)), (14, s_goto 18), (17, s_c (.inl 0)), (18, s_iretz)]
set_option maxRecDepth 100000 in
theorem oe_J0_isLatin1_aae02 {l : Launch} {g : EG} : e_okp l g sg_J0_isLatin1_aae02 "java/lang/String" (pe_J0_isLatin1_aae02 l g) := fun p e R s m args below meth c ex M0 Q X =>
    e_each_cons (r_gcs X (index := 38) dJ0_isLatin1_aae02_0 zw3_119 rfl)
    (e_each_cons (r_if_eq X (off := 14) (t := 17) dJ0_isLatin1_aae02_3 (by decide) rfl)
    (e_each_cons (r_aload_n X (k := 0) (i := 0) rfl dJ0_isLatin1_aae02_6 rfl)
    (e_each_cons (r_tcodE X (index := 15) dJ0_isLatin1_aae02_7 zw5_105 rfl)
    (e_each_cons (r_if_ne X (off := 7) (t := 17) dJ0_isLatin1_aae02_10 (by decide) rfl)
    (e_each_cons (r_iconst X (n := 1) (v := 1) dJ0_isLatin1_aae02_13 (by decide) rfl)
    (e_each_cons (r_goto X (off := 4) (t := 18) dJ0_isLatin1_aae02_14 (by decide))
    (e_each_cons (r_iconst X (n := 0) (v := 0) dJ0_isLatin1_aae02_17 (by decide) rfl)
    (e_each_cons (r_iretz X dJ0_isLatin1_aae02_18 rfl)
    (e_each_nil)))))))))
def pe_J1_charAt_3b067 (l : Launch) (g : EG) : List (Nat × ES) := [(0, s_ldI 1), (1, s_ldP 0), (2, s_alenE), (3, s_callS l g sg_J1_charAt_3b067 sg_J0_checkIndex_df160), (6, s_ldP 0), (7, s_ldI 1), (8, s_baldE), (9, s_c (.inl 255)), (12, s_ii (fun x y => x &&& y)), (13, s_i1 (fun x => (x.toUInt32 % 65536).toInt32)), (14, s_iretn .char)]
set_option maxRecDepth 100000 in
theorem oe_J1_charAt_3b067 {l : Launch} {g : EG} : e_okp l g sg_J1_charAt_3b067 "java/lang/StringLatin1" (pe_J1_charAt_3b067 l g) := fun p e R s m args below meth c ex M0 Q X =>
    e_each_cons (r_iload_n X (k := 1) (i := 1) rfl dJ1_charAt_3b067_0 rfl)
    (e_each_cons (r_aload_n X (k := 0) (i := 0) rfl dJ1_charAt_3b067_1 rfl)
    (e_each_cons (r_alenE X dJ1_charAt_3b067_2 rfl)
    (e_each_cons (r_callS X rfl (τ := sg_J0_checkIndex_df160) (index := 9) dJ1_charAt_3b067_3 zw3_132 zw3_133 cs_J0_checkIndex_df160 rfl ⟨by decide, by decide⟩ rfl)
    (e_each_cons (r_aload_n X (k := 0) (i := 0) rfl dJ1_charAt_3b067_6 rfl)
    (e_each_cons (r_iload_n X (k := 1) (i := 1) rfl dJ1_charAt_3b067_7 rfl)
    (e_each_cons (r_baldE X dJ1_charAt_3b067_8 rfl)
    (e_each_cons (r_sipush X (n := 255) (v := 255) dJ1_charAt_3b067_9 (by decide) rfl)
    (e_each_cons (r_iand X dJ1_charAt_3b067_12 rfl)
    (e_each_cons (r_i2c X dJ1_charAt_3b067_13 rfl)
    (e_each_cons (r_iretn X (ty := .char) dJ1_charAt_3b067_14 rfl)
    (e_each_nil)))))))))))
def pe_J0_charAt_5068e (l : Launch) (g : EG) : List (Nat × ES) := [(0, s_ldP 0), (1, s_callE l g sg_J0_charAt_5068e sg_J0_isLatin1_aae02), (4, s_if_eq 16), (7, s_ldP 0), (8, s_getVE), (11, s_ldI 1), (12, s_callS l g sg_J0_charAt_5068e sg_J1_charAt_3b067), (15, s_iretn .char), (16, s_no), (17, s_no), (20, s_no), (21, s_no), (24, s_no)]
set_option maxRecDepth 100000 in
theorem oe_J0_charAt_5068e {l : Launch} {g : EG} : e_okp l g sg_J0_charAt_5068e "java/lang/String" (pe_J0_charAt_5068e l g) := fun p e R s m args below meth c ex M0 Q X =>
    e_each_cons (r_aload_n X (k := 0) (i := 0) rfl dJ0_charAt_5068e_0 rfl)
    (e_each_cons (r_callE X rfl (τ := sg_J0_isLatin1_aae02) (index := 492) dJ0_charAt_5068e_1 rfl zw3_125 zw3_126 zw3_127 cs_J0_isLatin1_aae02 rfl ⟨by decide, by decide⟩ rfl)
    (e_each_cons (r_if_eq X (off := 12) (t := 16) dJ0_charAt_5068e_4 (by decide) rfl)
    (e_each_cons (r_aload_n X (k := 0) (i := 0) rfl dJ0_charAt_5068e_7 rfl)
    (e_each_cons (r_getVE X (index := 9) dJ0_charAt_5068e_8 zw5_104 rfl)
    (e_each_cons (r_iload_n X (k := 1) (i := 1) rfl dJ0_charAt_5068e_11 rfl)
    (e_each_cons (r_callS X rfl (τ := sg_J1_charAt_3b067) (index := 495) dJ0_charAt_5068e_12 zw3_129 zw3_130 cs_J1_charAt_3b067 rfl ⟨by decide, by decide⟩ rfl)
    (e_each_cons (r_iretn X (ty := .char) dJ0_charAt_5068e_15 rfl)
    (e_each_cons (r_no X)
    (e_each_cons (r_no X)
    (e_each_cons (r_no X)
    (e_each_cons (r_no X)
    (e_each_cons (r_no X)
    (e_each_nil)))))))))))))
def sg_J0_getBytes_840e7 : SG := (yJ0_getBytes_840e7, cJ0_getBytes_840e7, 4, none, 1, 40, 0, 0, 3, false, [])
theorem cs_J0_getBytes_840e7 : e_cs sg_J0_getBytes_840e7 := ⟨zw5_8, zw1_13, ⟨by decide, by decide⟩, by decide +kernel, rfl⟩
theorem mt_J0_getBytes_840e7 : e_mtF sg_J0_getBytes_840e7 "java/lang/String" := ⟨rfl, by decide +kernel, rfl⟩
theorem dJ0_getBytes_840e7_0 : decode cJ0_getBytes_840e7 0 = .ok (.aload_n 0, 1) := by decide +kernel
theorem dJ0_getBytes_840e7_1 : decode cJ0_getBytes_840e7 1 = .ok (.invokevirtual 335, 3) := by decide +kernel
theorem dJ0_getBytes_840e7_4 : decode cJ0_getBytes_840e7 4 = .ok (.iload_n 3, 1) := by decide +kernel
theorem dJ0_getBytes_840e7_5 : decode cJ0_getBytes_840e7 5 = .ok (.if_icmp .ne 23, 3) := by decide +kernel
theorem dJ0_getBytes_840e7_8 : decode cJ0_getBytes_840e7 8 = .ok (.aload_n 0, 1) := by decide +kernel
theorem dJ0_getBytes_840e7_9 : decode cJ0_getBytes_840e7 9 = .ok (.getfield 9, 3) := by decide +kernel
theorem dJ0_getBytes_840e7_12 : decode cJ0_getBytes_840e7 12 = .ok (.iconst 0, 1) := by decide +kernel
theorem dJ0_getBytes_840e7_13 : decode cJ0_getBytes_840e7 13 = .ok (.aload_n 1, 1) := by decide +kernel
theorem dJ0_getBytes_840e7_14 : decode cJ0_getBytes_840e7 14 = .ok (.iload_n 2, 1) := by decide +kernel
theorem dJ0_getBytes_840e7_15 : decode cJ0_getBytes_840e7 15 = .ok (.iload_n 3, 1) := by decide +kernel
theorem dJ0_getBytes_840e7_16 : decode cJ0_getBytes_840e7 16 = .ok (.ishl, 1) := by decide +kernel
theorem dJ0_getBytes_840e7_17 : decode cJ0_getBytes_840e7 17 = .ok (.aload_n 0, 1) := by decide +kernel
theorem dJ0_getBytes_840e7_18 : decode cJ0_getBytes_840e7 18 = .ok (.getfield 9, 3) := by decide +kernel
theorem dJ0_getBytes_840e7_21 : decode cJ0_getBytes_840e7 21 = .ok (.arraylength, 1) := by decide +kernel
theorem dJ0_getBytes_840e7_22 : decode cJ0_getBytes_840e7 22 = .ok (.invokestatic 212, 3) := by decide +kernel
theorem dJ0_getBytes_840e7_25 : decode cJ0_getBytes_840e7 25 = .ok (.goto 18, 3) := by decide +kernel
theorem dJ0_getBytes_840e7_43 : decode cJ0_getBytes_840e7 43 = .ok (.return_, 1) := by decide +kernel
def pe_J0_getBytes_840e7 (l : Launch) (g : EG) : List (Nat × ES) := [(0, s_ldP 0), (1, s_callE l g sg_J0_getBytes_840e7 sg_J0_coder_7d493), (4, s_ldI 3), (5, s_icmp_ne 28), (8, s_ldP 0), (9, s_getVE), (12, s_c (.inl 0)), (13, s_ldP 1), (14, s_ldI 2), (15, s_ldI 3), (16, s_ii (fun x y => x <<< (y &&& 31))), (17, s_ldP 0), (18, s_getVE), (21, s_alenE), (22, s_acB), (25, s_goto 43), (28, s_no), (29, s_no), (32, s_no), (33, s_no), (34, s_no), (35, s_no), (36, s_no), (39, s_no), (40, s_no), (43, s_vret)]
set_option maxRecDepth 100000 in
theorem oe_J0_getBytes_840e7 {l : Launch} {g : EG} : e_okp l g sg_J0_getBytes_840e7 "java/lang/String" (pe_J0_getBytes_840e7 l g) := fun p e R s m args below meth c ex M0 Q X =>
    e_each_cons (r_aload_n X (k := 0) (i := 0) rfl dJ0_getBytes_840e7_0 rfl)
    (e_each_cons (r_callE X rfl (τ := sg_J0_coder_7d493) (index := 335) dJ0_getBytes_840e7_1 rfl zw3_115 zw3_116 zw3_117 cs_J0_coder_7d493 rfl ⟨by decide, by decide⟩ rfl)
    (e_each_cons (r_iload_n X (k := 3) (i := 3) rfl dJ0_getBytes_840e7_4 rfl)
    (e_each_cons (r_icmp_ne X (off := 23) (t := 28) dJ0_getBytes_840e7_5 (by decide) rfl)
    (e_each_cons (r_aload_n X (k := 0) (i := 0) rfl dJ0_getBytes_840e7_8 rfl)
    (e_each_cons (r_getVE X (index := 9) dJ0_getBytes_840e7_9 zw5_104 rfl)
    (e_each_cons (r_iconst X (n := 0) (v := 0) dJ0_getBytes_840e7_12 (by decide) rfl)
    (e_each_cons (r_aload_n X (k := 1) (i := 1) rfl dJ0_getBytes_840e7_13 rfl)
    (e_each_cons (r_iload_n X (k := 2) (i := 2) rfl dJ0_getBytes_840e7_14 rfl)
    (e_each_cons (r_iload_n X (k := 3) (i := 3) rfl dJ0_getBytes_840e7_15 rfl)
    (e_each_cons (r_ishl X dJ0_getBytes_840e7_16 rfl)
    (e_each_cons (r_aload_n X (k := 0) (i := 0) rfl dJ0_getBytes_840e7_17 rfl)
    (e_each_cons (r_getVE X (index := 9) dJ0_getBytes_840e7_18 zw5_104 rfl)
    (e_each_cons (r_alenE X dJ0_getBytes_840e7_21 rfl)
    (e_each_cons (r_acB X (index := 212) dJ0_getBytes_840e7_22 zw5_9 w3_65 w3_64 w1_18 ⟨by decide, by decide⟩ rfl)
    (e_each_cons (r_goto X (off := 18) (t := 43) dJ0_getBytes_840e7_25 (by decide))
    (e_each_cons (r_no X)
    (e_each_cons (r_no X)
    (e_each_cons (r_no X)
    (e_each_cons (r_no X)
    (e_each_cons (r_no X)
    (e_each_cons (r_no X)
    (e_each_cons (r_no X)
    (e_each_cons (r_no X)
    (e_each_cons (r_no X)
    (e_each_cons (r_vret X dJ0_getBytes_840e7_43 rfl)
    (e_each_nil))))))))))))))))))))))))))
def sg_J5_isLatin1_aae02 : SG := (yJ5_isLatin1_aae02, cJ5_isLatin1_aae02, 1, (some .boolean), 0, 0, 0, 0, 0, false, [])
theorem cs_J5_isLatin1_aae02 : e_cs sg_J5_isLatin1_aae02 := ⟨zw4_201, zw1_11, ⟨by decide, by decide⟩, by decide +kernel, rfl⟩
theorem mt_J5_isLatin1_aae02 : e_mtF sg_J5_isLatin1_aae02 "java/lang/AbstractStringBuilder" := ⟨rfl, by decide +kernel, rfl⟩
theorem dJ5_isLatin1_aae02_0 : decode cJ5_isLatin1_aae02 0 = .ok (.getstatic 18, 3) := by decide +kernel
theorem dJ5_isLatin1_aae02_3 : decode cJ5_isLatin1_aae02 3 = .ok (.ifCond .eq 14, 3) := by decide +kernel
theorem dJ5_isLatin1_aae02_6 : decode cJ5_isLatin1_aae02 6 = .ok (.aload_n 0, 1) := by decide +kernel
theorem dJ5_isLatin1_aae02_7 : decode cJ5_isLatin1_aae02 7 = .ok (.getfield 22, 3) := by decide +kernel
theorem dJ5_isLatin1_aae02_10 : decode cJ5_isLatin1_aae02 10 = .ok (.ifCond .ne 7, 3) := by decide +kernel
theorem dJ5_isLatin1_aae02_13 : decode cJ5_isLatin1_aae02 13 = .ok (.iconst 1, 1) := by decide +kernel
theorem dJ5_isLatin1_aae02_14 : decode cJ5_isLatin1_aae02 14 = .ok (.goto 4, 3) := by decide +kernel
theorem dJ5_isLatin1_aae02_17 : decode cJ5_isLatin1_aae02 17 = .ok (.iconst 0, 1) := by decide +kernel
theorem dJ5_isLatin1_aae02_18 : decode cJ5_isLatin1_aae02 18 = .ok (.ireturn, 1) := by decide +kernel
def pe_J5_isLatin1_aae02 (l : Launch) (g : EG) : List (Nat × ES) := [(0, s_gcs), (3, s_if_eq 17), (6, s_ldP 0), (7, s_getI 10 1), (10, s_if_ne 17), (13, s_c (.inl 1)), (14, s_goto 18), (17, s_c (.inl 0)), (18, s_iretz)]
set_option maxRecDepth 100000 in
theorem oe_J5_isLatin1_aae02 {l : Launch} {g : EG} : e_okp l g sg_J5_isLatin1_aae02 "java/lang/AbstractStringBuilder" (pe_J5_isLatin1_aae02 l g) := fun p e R s m args below meth c ex M0 Q X =>
    e_each_cons (r_gcs X (index := 18) dJ5_isLatin1_aae02_0 zw4_202 rfl)
    (e_each_cons (r_if_eq X (off := 14) (t := 17) dJ5_isLatin1_aae02_3 (by decide) rfl)
    (e_each_cons (r_aload_n X (k := 0) (i := 0) rfl dJ5_isLatin1_aae02_6 rfl)
    (e_each_cons (r_getI X (index := 22) (ci := 10) (k := 1) dJ5_isLatin1_aae02_7 (by decide) (by decide) rfl zw5_12 rfl)
    (e_each_cons (r_if_ne X (off := 7) (t := 17) dJ5_isLatin1_aae02_10 (by decide) rfl)
    (e_each_cons (r_iconst X (n := 1) (v := 1) dJ5_isLatin1_aae02_13 (by decide) rfl)
    (e_each_cons (r_goto X (off := 4) (t := 18) dJ5_isLatin1_aae02_14 (by decide))
    (e_each_cons (r_iconst X (n := 0) (v := 0) dJ5_isLatin1_aae02_17 (by decide) rfl)
    (e_each_cons (r_iretz X dJ5_isLatin1_aae02_18 rfl)
    (e_each_nil)))))))))
def sg_J5_getValue_6d5f1 : SG := (yJ5_getValue_6d5f1, cJ5_getValue_6d5f1, 1, (some (.array .byte)), 0, 0, 0, 0, 0, false, [])
theorem cs_J5_getValue_6d5f1 : e_cs sg_J5_getValue_6d5f1 := ⟨zw5_75, zw1_11, ⟨by decide, by decide⟩, by decide +kernel, rfl⟩
theorem mt_J5_getValue_6d5f1 : e_mtF sg_J5_getValue_6d5f1 "java/lang/AbstractStringBuilder" := ⟨rfl, by decide +kernel, rfl⟩
theorem dJ5_getValue_6d5f1_0 : decode cJ5_getValue_6d5f1 0 = .ok (.aload_n 0, 1) := by decide +kernel
theorem dJ5_getValue_6d5f1_1 : decode cJ5_getValue_6d5f1 1 = .ok (.getfield 15, 3) := by decide +kernel
theorem dJ5_getValue_6d5f1_4 : decode cJ5_getValue_6d5f1 4 = .ok (.areturn, 1) := by decide +kernel
def pe_J5_getValue_6d5f1 (l : Launch) (g : EG) : List (Nat × ES) := [(0, s_ldP 0), (1, s_getVB), (4, s_aret)]
set_option maxRecDepth 100000 in
theorem oe_J5_getValue_6d5f1 {l : Launch} {g : EG} : e_okp l g sg_J5_getValue_6d5f1 "java/lang/AbstractStringBuilder" (pe_J5_getValue_6d5f1 l g) := fun p e R s m args below meth c ex M0 Q X =>
    e_each_cons (r_aload_n X (k := 0) (i := 0) rfl dJ5_getValue_6d5f1_0 rfl)
    (e_each_cons (r_getVB X (index := 15) dJ5_getValue_6d5f1_1 zw5_11 rfl)
    (e_each_cons (r_aretA X dJ5_getValue_6d5f1_4 rfl)
    (e_each_nil)))
def sg_J5_length_8abf5 : SG := (yJ5_length_8abf5, cJ5_length_8abf5, 1, (some .int), 0, 0, 0, 0, 0, false, [])
theorem cs_J5_length_8abf5 : e_cs sg_J5_length_8abf5 := ⟨zw5_83, zw1_11, ⟨by decide, by decide⟩, by decide +kernel, rfl⟩
theorem mt_J5_length_8abf5 : e_mtF sg_J5_length_8abf5 "java/lang/AbstractStringBuilder" := ⟨rfl, by decide +kernel, rfl⟩
theorem dJ5_length_8abf5_0 : decode cJ5_length_8abf5 0 = .ok (.aload_n 0, 1) := by decide +kernel
theorem dJ5_length_8abf5_1 : decode cJ5_length_8abf5 1 = .ok (.getfield 79, 3) := by decide +kernel
theorem dJ5_length_8abf5_4 : decode cJ5_length_8abf5 4 = .ok (.ireturn, 1) := by decide +kernel
def pe_J5_length_8abf5 (l : Launch) (g : EG) : List (Nat × ES) := [(0, s_ldP 0), (1, s_getI 10 3), (4, s_ireti)]
set_option maxRecDepth 100000 in
theorem oe_J5_length_8abf5 {l : Launch} {g : EG} : e_okp l g sg_J5_length_8abf5 "java/lang/AbstractStringBuilder" (pe_J5_length_8abf5 l g) := fun p e R s m args below meth c ex M0 Q X =>
    e_each_cons (r_aload_n X (k := 0) (i := 0) rfl dJ5_length_8abf5_0 rfl)
    (e_each_cons (r_getI X (index := 79) (ci := 10) (k := 3) dJ5_length_8abf5_1 (by decide) (by decide) rfl zw5_14 rfl)
    (e_each_cons (r_ireti X dJ5_length_8abf5_4 rfl)
    (e_each_nil)))
def sg_J4_length_8abf5 : SG := (yJ4_length_8abf5, cJ4_length_8abf5, 1, (some .int), 1, 20, 0, 0, 0, false, [])
theorem cs_J4_length_8abf5 : e_cs sg_J4_length_8abf5 := ⟨zw5_81, zw1_12, ⟨by decide, by decide⟩, by decide +kernel, rfl⟩
theorem mt_J4_length_8abf5 : e_mtF sg_J4_length_8abf5 "java/lang/StringBuilder" := ⟨rfl, by decide +kernel, rfl⟩
theorem dJ4_length_8abf5_0 : decode cJ4_length_8abf5 0 = .ok (.aload_n 0, 1) := by decide +kernel
theorem dJ4_length_8abf5_1 : decode cJ4_length_8abf5 1 = .ok (.invokespecial 343, 3) := by decide +kernel
theorem dJ4_length_8abf5_4 : decode cJ4_length_8abf5 4 = .ok (.ireturn, 1) := by decide +kernel
def pe_J4_length_8abf5 (l : Launch) (g : EG) : List (Nat × ES) := [(0, s_ldP 0), (1, s_callU l g sg_J4_length_8abf5 sg_J5_length_8abf5), (4, s_ireti)]
set_option maxRecDepth 100000 in
theorem oe_J4_length_8abf5 {l : Launch} {g : EG} : e_okp l g sg_J4_length_8abf5 "java/lang/StringBuilder" (pe_J4_length_8abf5 l g) := fun p e R s m args below meth c ex M0 Q X =>
    e_each_cons (r_aload_n X (k := 0) (i := 0) rfl dJ4_length_8abf5_0 rfl)
    (e_each_cons (r_callSup X rfl (τ := sg_J5_length_8abf5) (index := 343) dJ4_length_8abf5_1 zw5_82 zw5_78 zw4_163 zw5_77 cs_J5_length_8abf5 (by decide) rfl ⟨by decide, by decide⟩ rfl)
    (e_each_cons (r_ireti X dJ4_length_8abf5_4 rfl)
    (e_each_nil)))
def sg_J5_newCapacity_0f7a4 : SG := (yJ5_newCapacity_0f7a4, cJ5_newCapacity_0f7a4, 6, (some .int), 2, 45, 0, 0, 1, false, [])
theorem cs_J5_newCapacity_0f7a4 : e_cs sg_J5_newCapacity_0f7a4 := ⟨zw4_176, zw1_11, ⟨by decide, by decide⟩, by decide +kernel, rfl⟩
theorem mt_J5_newCapacity_0f7a4 : e_mtF sg_J5_newCapacity_0f7a4 "java/lang/AbstractStringBuilder" := ⟨rfl, by decide +kernel, rfl⟩
theorem dJ5_newCapacity_0f7a4_0 : decode cJ5_newCapacity_0f7a4 0 = .ok (.aload_n 0, 1) := by decide +kernel
theorem dJ5_newCapacity_0f7a4_1 : decode cJ5_newCapacity_0f7a4 1 = .ok (.getfield 15, 3) := by decide +kernel
theorem dJ5_newCapacity_0f7a4_4 : decode cJ5_newCapacity_0f7a4 4 = .ok (.arraylength, 1) := by decide +kernel
theorem dJ5_newCapacity_0f7a4_5 : decode cJ5_newCapacity_0f7a4 5 = .ok (.istore_n 2, 1) := by decide +kernel
theorem dJ5_newCapacity_0f7a4_6 : decode cJ5_newCapacity_0f7a4 6 = .ok (.iload_n 1, 1) := by decide +kernel
theorem dJ5_newCapacity_0f7a4_7 : decode cJ5_newCapacity_0f7a4 7 = .ok (.aload_n 0, 1) := by decide +kernel
theorem dJ5_newCapacity_0f7a4_8 : decode cJ5_newCapacity_0f7a4 8 = .ok (.getfield 22, 3) := by decide +kernel
theorem dJ5_newCapacity_0f7a4_11 : decode cJ5_newCapacity_0f7a4 11 = .ok (.ishl, 1) := by decide +kernel
theorem dJ5_newCapacity_0f7a4_12 : decode cJ5_newCapacity_0f7a4 12 = .ok (.istore_n 3, 1) := by decide +kernel
theorem dJ5_newCapacity_0f7a4_13 : decode cJ5_newCapacity_0f7a4 13 = .ok (.iload_n 3, 1) := by decide +kernel
theorem dJ5_newCapacity_0f7a4_14 : decode cJ5_newCapacity_0f7a4 14 = .ok (.iload_n 2, 1) := by decide +kernel
theorem dJ5_newCapacity_0f7a4_15 : decode cJ5_newCapacity_0f7a4 15 = .ok (.isub, 1) := by decide +kernel
theorem dJ5_newCapacity_0f7a4_16 : decode cJ5_newCapacity_0f7a4 16 = .ok (.istore 4, 2) := by decide +kernel
theorem dJ5_newCapacity_0f7a4_18 : decode cJ5_newCapacity_0f7a4 18 = .ok (.iload_n 2, 1) := by decide +kernel
theorem dJ5_newCapacity_0f7a4_19 : decode cJ5_newCapacity_0f7a4 19 = .ok (.iload 4, 2) := by decide +kernel
theorem dJ5_newCapacity_0f7a4_21 : decode cJ5_newCapacity_0f7a4 21 = .ok (.iload_n 2, 1) := by decide +kernel
theorem dJ5_newCapacity_0f7a4_22 : decode cJ5_newCapacity_0f7a4 22 = .ok (.iconst 2, 1) := by decide +kernel
theorem dJ5_newCapacity_0f7a4_23 : decode cJ5_newCapacity_0f7a4 23 = .ok (.aload_n 0, 1) := by decide +kernel
theorem dJ5_newCapacity_0f7a4_24 : decode cJ5_newCapacity_0f7a4 24 = .ok (.getfield 22, 3) := by decide +kernel
theorem dJ5_newCapacity_0f7a4_27 : decode cJ5_newCapacity_0f7a4 27 = .ok (.ishl, 1) := by decide +kernel
theorem dJ5_newCapacity_0f7a4_28 : decode cJ5_newCapacity_0f7a4 28 = .ok (.iadd, 1) := by decide +kernel
theorem dJ5_newCapacity_0f7a4_29 : decode cJ5_newCapacity_0f7a4 29 = .ok (.invokestatic 114, 3) := by decide +kernel
theorem dJ5_newCapacity_0f7a4_32 : decode cJ5_newCapacity_0f7a4 32 = .ok (.istore 5, 2) := by decide +kernel
theorem dJ5_newCapacity_0f7a4_34 : decode cJ5_newCapacity_0f7a4 34 = .ok (.iload 5, 2) := by decide +kernel
theorem dJ5_newCapacity_0f7a4_36 : decode cJ5_newCapacity_0f7a4 36 = .ok (.ldc 39, 2) := by decide +kernel
theorem dJ5_newCapacity_0f7a4_38 : decode cJ5_newCapacity_0f7a4 38 = .ok (.if_icmp .ne 13, 3) := by decide +kernel
theorem dJ5_newCapacity_0f7a4_51 : decode cJ5_newCapacity_0f7a4 51 = .ok (.iload 5, 2) := by decide +kernel
theorem dJ5_newCapacity_0f7a4_53 : decode cJ5_newCapacity_0f7a4 53 = .ok (.aload_n 0, 1) := by decide +kernel
theorem dJ5_newCapacity_0f7a4_54 : decode cJ5_newCapacity_0f7a4 54 = .ok (.getfield 22, 3) := by decide +kernel
theorem dJ5_newCapacity_0f7a4_57 : decode cJ5_newCapacity_0f7a4 57 = .ok (.ishr, 1) := by decide +kernel
theorem dJ5_newCapacity_0f7a4_58 : decode cJ5_newCapacity_0f7a4 58 = .ok (.ireturn, 1) := by decide +kernel
def pe_J5_newCapacity_0f7a4 (l : Launch) (g : EG) : List (Nat × ES) := [(0, s_ldP 0), (1, s_getVB), (4, s_alenE), (5, s_stI 2), (6, s_ldI 1), (7, s_ldP 0), (8, s_getI 10 1), (11, s_ii (fun x y => x <<< (y &&& 31))), (12, s_stI 3), (13, s_ldI 3), (14, s_ldI 2), (15, s_ii (fun x y => x - y)), (16, s_stI 4), (18, s_ldI 2), (19, s_ldI 4), (21, s_ldI 2), (22, s_c (.inl 2)), (23, s_ldP 0), (24, s_getI 10 1), (27, s_ii (fun x y => x <<< (y &&& 31))), (28, s_ii (fun x y => x + y)), (29, s_callS l g sg_J5_newCapacity_0f7a4 sg_J8_newLength_cabcc), (32, s_stI 5), (34, s_ldI 5), (36, s_c (.inl 2147483647)), (38, s_icmp_ne 51), (41, s_no), (44, s_no), (45, s_no), (47, s_no), (50, s_no), (51, s_ldI 5), (53, s_ldP 0), (54, s_getI 10 1), (57, s_ii (fun x y => x >>> (y &&& 31))), (58, s_ireti)]
set_option maxRecDepth 100000 in
theorem oe_J5_newCapacity_0f7a4 {l : Launch} {g : EG} : e_okp l g sg_J5_newCapacity_0f7a4 "java/lang/AbstractStringBuilder" (pe_J5_newCapacity_0f7a4 l g) := fun p e R s m args below meth c ex M0 Q X =>
    e_each_cons (r_aload_n X (k := 0) (i := 0) rfl dJ5_newCapacity_0f7a4_0 rfl)
    (e_each_cons (r_getVB X (index := 15) dJ5_newCapacity_0f7a4_1 zw5_11 rfl)
    (e_each_cons (r_alenE X dJ5_newCapacity_0f7a4_4 rfl)
    (e_each_cons (r_istore_n X (k := 2) (i := 2) rfl dJ5_newCapacity_0f7a4_5 (by decide) rfl)
    (e_each_cons (r_iload_n X (k := 1) (i := 1) rfl dJ5_newCapacity_0f7a4_6 rfl)
    (e_each_cons (r_aload_n X (k := 0) (i := 0) rfl dJ5_newCapacity_0f7a4_7 rfl)
    (e_each_cons (r_getI X (index := 22) (ci := 10) (k := 1) dJ5_newCapacity_0f7a4_8 (by decide) (by decide) rfl zw5_12 rfl)
    (e_each_cons (r_ishl X dJ5_newCapacity_0f7a4_11 rfl)
    (e_each_cons (r_istore_n X (k := 3) (i := 3) rfl dJ5_newCapacity_0f7a4_12 (by decide) rfl)
    (e_each_cons (r_iload_n X (k := 3) (i := 3) rfl dJ5_newCapacity_0f7a4_13 rfl)
    (e_each_cons (r_iload_n X (k := 2) (i := 2) rfl dJ5_newCapacity_0f7a4_14 rfl)
    (e_each_cons (r_isub X dJ5_newCapacity_0f7a4_15 rfl)
    (e_each_cons (r_istore X (i := 4) dJ5_newCapacity_0f7a4_16 (by decide) rfl)
    (e_each_cons (r_iload_n X (k := 2) (i := 2) rfl dJ5_newCapacity_0f7a4_18 rfl)
    (e_each_cons (r_iload X (i := 4) dJ5_newCapacity_0f7a4_19 rfl)
    (e_each_cons (r_iload_n X (k := 2) (i := 2) rfl dJ5_newCapacity_0f7a4_21 rfl)
    (e_each_cons (r_iconst X (n := 2) (v := 2) dJ5_newCapacity_0f7a4_22 (by decide) rfl)
    (e_each_cons (r_aload_n X (k := 0) (i := 0) rfl dJ5_newCapacity_0f7a4_23 rfl)
    (e_each_cons (r_getI X (index := 22) (ci := 10) (k := 1) dJ5_newCapacity_0f7a4_24 (by decide) (by decide) rfl zw5_12 rfl)
    (e_each_cons (r_ishl X dJ5_newCapacity_0f7a4_27 rfl)
    (e_each_cons (r_iadd X dJ5_newCapacity_0f7a4_28 rfl)
    (e_each_cons (r_callS X rfl (τ := sg_J8_newLength_cabcc) (index := 114) dJ5_newCapacity_0f7a4_29 zw4_177 zw4_178 cs_J8_newLength_cabcc rfl ⟨by decide, by decide⟩ rfl)
    (e_each_cons (r_istore X (i := 5) dJ5_newCapacity_0f7a4_32 (by decide) rfl)
    (e_each_cons (r_iload X (i := 5) dJ5_newCapacity_0f7a4_34 rfl)
    (e_each_cons (r_ldc X (n := 39) (v := 2147483647) dJ5_newCapacity_0f7a4_36 zw4_143 rfl)
    (e_each_cons (r_icmp_ne X (off := 13) (t := 51) dJ5_newCapacity_0f7a4_38 (by decide) rfl)
    (e_each_cons (r_no X)
    (e_each_cons (r_no X)
    (e_each_cons (r_no X)
    (e_each_cons (r_no X)
    (e_each_cons (r_no X)
    (e_each_cons (r_iload X (i := 5) dJ5_newCapacity_0f7a4_51 rfl)
    (e_each_cons (r_aload_n X (k := 0) (i := 0) rfl dJ5_newCapacity_0f7a4_53 rfl)
    (e_each_cons (r_getI X (index := 22) (ci := 10) (k := 1) dJ5_newCapacity_0f7a4_54 (by decide) (by decide) rfl zw5_12 rfl)
    (e_each_cons (r_ishr X dJ5_newCapacity_0f7a4_57 rfl)
    (e_each_cons (r_ireti X dJ5_newCapacity_0f7a4_58 rfl)
    (e_each_nil))))))))))))))))))))))))))))))))))))
def sg_J5_ensureCapacityInternal_d00df : SG := (yJ5_ensureCapacityInternal_d00df, cJ5_ensureCapacityInternal_d00df, 3, none, 3, 70, 1, 4096, 1, false, [])
theorem cs_J5_ensureCapacityInternal_d00df : e_cs sg_J5_ensureCapacityInternal_d00df := ⟨zw4_172, zw1_11, ⟨by decide, by decide⟩, by decide +kernel, rfl⟩
theorem mt_J5_ensureCapacityInternal_d00df : e_mtF sg_J5_ensureCapacityInternal_d00df "java/lang/AbstractStringBuilder" := ⟨rfl, by decide +kernel, rfl⟩
theorem dJ5_ensureCapacityInternal_d00df_0 : decode cJ5_ensureCapacityInternal_d00df 0 = .ok (.aload_n 0, 1) := by decide +kernel
theorem dJ5_ensureCapacityInternal_d00df_1 : decode cJ5_ensureCapacityInternal_d00df 1 = .ok (.getfield 15, 3) := by decide +kernel
theorem dJ5_ensureCapacityInternal_d00df_4 : decode cJ5_ensureCapacityInternal_d00df 4 = .ok (.arraylength, 1) := by decide +kernel
theorem dJ5_ensureCapacityInternal_d00df_5 : decode cJ5_ensureCapacityInternal_d00df 5 = .ok (.aload_n 0, 1) := by decide +kernel
theorem dJ5_ensureCapacityInternal_d00df_6 : decode cJ5_ensureCapacityInternal_d00df 6 = .ok (.getfield 22, 3) := by decide +kernel
theorem dJ5_ensureCapacityInternal_d00df_9 : decode cJ5_ensureCapacityInternal_d00df 9 = .ok (.ishr, 1) := by decide +kernel
theorem dJ5_ensureCapacityInternal_d00df_10 : decode cJ5_ensureCapacityInternal_d00df 10 = .ok (.istore_n 2, 1) := by decide +kernel
theorem dJ5_ensureCapacityInternal_d00df_11 : decode cJ5_ensureCapacityInternal_d00df 11 = .ok (.iload_n 1, 1) := by decide +kernel
theorem dJ5_ensureCapacityInternal_d00df_12 : decode cJ5_ensureCapacityInternal_d00df 12 = .ok (.iload_n 2, 1) := by decide +kernel
theorem dJ5_ensureCapacityInternal_d00df_13 : decode cJ5_ensureCapacityInternal_d00df 13 = .ok (.isub, 1) := by decide +kernel
theorem dJ5_ensureCapacityInternal_d00df_14 : decode cJ5_ensureCapacityInternal_d00df 14 = .ok (.ifCond .le 24, 3) := by decide +kernel
theorem dJ5_ensureCapacityInternal_d00df_17 : decode cJ5_ensureCapacityInternal_d00df 17 = .ok (.aload_n 0, 1) := by decide +kernel
theorem dJ5_ensureCapacityInternal_d00df_18 : decode cJ5_ensureCapacityInternal_d00df 18 = .ok (.aload_n 0, 1) := by decide +kernel
theorem dJ5_ensureCapacityInternal_d00df_19 : decode cJ5_ensureCapacityInternal_d00df 19 = .ok (.getfield 15, 3) := by decide +kernel
theorem dJ5_ensureCapacityInternal_d00df_22 : decode cJ5_ensureCapacityInternal_d00df 22 = .ok (.aload_n 0, 1) := by decide +kernel
theorem dJ5_ensureCapacityInternal_d00df_23 : decode cJ5_ensureCapacityInternal_d00df 23 = .ok (.iload_n 1, 1) := by decide +kernel
theorem dJ5_ensureCapacityInternal_d00df_24 : decode cJ5_ensureCapacityInternal_d00df 24 = .ok (.invokevirtual 104, 3) := by decide +kernel
theorem dJ5_ensureCapacityInternal_d00df_27 : decode cJ5_ensureCapacityInternal_d00df 27 = .ok (.aload_n 0, 1) := by decide +kernel
theorem dJ5_ensureCapacityInternal_d00df_28 : decode cJ5_ensureCapacityInternal_d00df 28 = .ok (.getfield 22, 3) := by decide +kernel
theorem dJ5_ensureCapacityInternal_d00df_31 : decode cJ5_ensureCapacityInternal_d00df 31 = .ok (.ishl, 1) := by decide +kernel
theorem dJ5_ensureCapacityInternal_d00df_32 : decode cJ5_ensureCapacityInternal_d00df 32 = .ok (.invokestatic 108, 3) := by decide +kernel
theorem dJ5_ensureCapacityInternal_d00df_35 : decode cJ5_ensureCapacityInternal_d00df 35 = .ok (.putfield 15, 3) := by decide +kernel
theorem dJ5_ensureCapacityInternal_d00df_38 : decode cJ5_ensureCapacityInternal_d00df 38 = .ok (.return_, 1) := by decide +kernel
def pe_J5_ensureCapacityInternal_d00df (l : Launch) (g : EG) : List (Nat × ES) := [(0, s_ldP 0), (1, s_getVB), (4, s_alenE), (5, s_ldP 0), (6, s_getI 10 1), (9, s_ii (fun x y => x >>> (y &&& 31))), (10, s_stI 2), (11, s_ldI 1), (12, s_ldI 2), (13, s_ii (fun x y => x - y)), (14, s_if_le 38), (17, s_ldP 0), (18, s_ldP 0), (19, s_getVB), (22, s_ldP 0), (23, s_ldI 1), (24, s_callU l g sg_J5_ensureCapacityInternal_d00df sg_J5_newCapacity_0f7a4), (27, s_ldP 0), (28, s_getI 10 1), (31, s_ii (fun x y => x <<< (y &&& 31))), (32, s_callS l g sg_J5_ensureCapacityInternal_d00df sg_J7_copyOf_9075b), (35, s_putV 10), (38, s_vret)]
set_option maxRecDepth 100000 in
theorem oe_J5_ensureCapacityInternal_d00df {l : Launch} {g : EG} : e_okp l g sg_J5_ensureCapacityInternal_d00df "java/lang/AbstractStringBuilder" (pe_J5_ensureCapacityInternal_d00df l g) := fun p e R s m args below meth c ex M0 Q X =>
    e_each_cons (r_aload_n X (k := 0) (i := 0) rfl dJ5_ensureCapacityInternal_d00df_0 rfl)
    (e_each_cons (r_getVB X (index := 15) dJ5_ensureCapacityInternal_d00df_1 zw5_11 rfl)
    (e_each_cons (r_alenE X dJ5_ensureCapacityInternal_d00df_4 rfl)
    (e_each_cons (r_aload_n X (k := 0) (i := 0) rfl dJ5_ensureCapacityInternal_d00df_5 rfl)
    (e_each_cons (r_getI X (index := 22) (ci := 10) (k := 1) dJ5_ensureCapacityInternal_d00df_6 (by decide) (by decide) rfl zw5_12 rfl)
    (e_each_cons (r_ishr X dJ5_ensureCapacityInternal_d00df_9 rfl)
    (e_each_cons (r_istore_n X (k := 2) (i := 2) rfl dJ5_ensureCapacityInternal_d00df_10 (by decide) rfl)
    (e_each_cons (r_iload_n X (k := 1) (i := 1) rfl dJ5_ensureCapacityInternal_d00df_11 rfl)
    (e_each_cons (r_iload_n X (k := 2) (i := 2) rfl dJ5_ensureCapacityInternal_d00df_12 rfl)
    (e_each_cons (r_isub X dJ5_ensureCapacityInternal_d00df_13 rfl)
    (e_each_cons (r_if_le X (off := 24) (t := 38) dJ5_ensureCapacityInternal_d00df_14 (by decide) rfl)
    (e_each_cons (r_aload_n X (k := 0) (i := 0) rfl dJ5_ensureCapacityInternal_d00df_17 rfl)
    (e_each_cons (r_aload_n X (k := 0) (i := 0) rfl dJ5_ensureCapacityInternal_d00df_18 rfl)
    (e_each_cons (r_getVB X (index := 15) dJ5_ensureCapacityInternal_d00df_19 zw5_11 rfl)
    (e_each_cons (r_aload_n X (k := 0) (i := 0) rfl dJ5_ensureCapacityInternal_d00df_22 rfl)
    (e_each_cons (r_iload_n X (k := 1) (i := 1) rfl dJ5_ensureCapacityInternal_d00df_23 rfl)
    (e_each_cons (r_callU X rfl (τ := sg_J5_newCapacity_0f7a4) (x := ⟨"java/lang/AbstractStringBuilder", "newCapacity", "(I)I"⟩) (owner := "java/lang/AbstractStringBuilder") (index := 104) dJ5_ensureCapacityInternal_d00df_24 zw4_173 zw6_219 ⟨by decide, by decide⟩ zw4_175 zw4_176 (fun hts => hts _ zsb_1) zw4_175 cs_J5_newCapacity_0f7a4 rfl rfl ⟨by decide, by decide⟩ rfl)
    (e_each_cons (r_aload_n X (k := 0) (i := 0) rfl dJ5_ensureCapacityInternal_d00df_27 rfl)
    (e_each_cons (r_getI X (index := 22) (ci := 10) (k := 1) dJ5_ensureCapacityInternal_d00df_28 (by decide) (by decide) rfl zw5_12 rfl)
    (e_each_cons (r_ishl X dJ5_ensureCapacityInternal_d00df_31 rfl)
    (e_each_cons (r_callS X rfl (τ := sg_J7_copyOf_9075b) (index := 108) dJ5_ensureCapacityInternal_d00df_32 zw4_185 zw4_186 cs_J7_copyOf_9075b rfl ⟨by decide, by decide⟩ rfl)
    (e_each_cons (r_putV X (index := 15) (ci := 10) dJ5_ensureCapacityInternal_d00df_35 (Or.inl rfl) (Or.inl rfl) zw5_11 rfl)
    (e_each_cons (r_vret X dJ5_ensureCapacityInternal_d00df_38 rfl)
    (e_each_nil)))))))))))))))))))))))
def sg_J5_inflateIfNeededFor_a7421 : SG := (yJ5_inflateIfNeededFor_a7421, cJ5_inflateIfNeededFor_a7421, 2, none, 1, 20, 0, 0, 1, false, [])
theorem cs_J5_inflateIfNeededFor_a7421 : e_cs sg_J5_inflateIfNeededFor_a7421 := ⟨zw4_225, zw1_11, ⟨by decide, by decide⟩, by decide +kernel, rfl⟩
theorem mt_J5_inflateIfNeededFor_a7421 : e_mtF sg_J5_inflateIfNeededFor_a7421 "java/lang/AbstractStringBuilder" := ⟨rfl, by decide +kernel, rfl⟩
theorem dJ5_inflateIfNeededFor_a7421_0 : decode cJ5_inflateIfNeededFor_a7421 0 = .ok (.getstatic 18, 3) := by decide +kernel
theorem dJ5_inflateIfNeededFor_a7421_3 : decode cJ5_inflateIfNeededFor_a7421 3 = .ok (.ifCond .eq 18, 3) := by decide +kernel
theorem dJ5_inflateIfNeededFor_a7421_6 : decode cJ5_inflateIfNeededFor_a7421 6 = .ok (.aload_n 0, 1) := by decide +kernel
theorem dJ5_inflateIfNeededFor_a7421_7 : decode cJ5_inflateIfNeededFor_a7421 7 = .ok (.getfield 22, 3) := by decide +kernel
theorem dJ5_inflateIfNeededFor_a7421_10 : decode cJ5_inflateIfNeededFor_a7421 10 = .ok (.aload_n 1, 1) := by decide +kernel
theorem dJ5_inflateIfNeededFor_a7421_11 : decode cJ5_inflateIfNeededFor_a7421 11 = .ok (.invokevirtual 40, 3) := by decide +kernel
theorem dJ5_inflateIfNeededFor_a7421_14 : decode cJ5_inflateIfNeededFor_a7421 14 = .ok (.if_icmp .eq 7, 3) := by decide +kernel
theorem dJ5_inflateIfNeededFor_a7421_21 : decode cJ5_inflateIfNeededFor_a7421 21 = .ok (.return_, 1) := by decide +kernel
def pe_J5_inflateIfNeededFor_a7421 (l : Launch) (g : EG) : List (Nat × ES) := [(0, s_gcs), (3, s_if_eq 21), (6, s_ldP 0), (7, s_getI 10 1), (10, s_ldP 1), (11, s_callE l g sg_J5_inflateIfNeededFor_a7421 sg_J0_coder_7d493), (14, s_icmp_eq 21), (17, s_no), (18, s_no), (21, s_vret)]
set_option maxRecDepth 100000 in
theorem oe_J5_inflateIfNeededFor_a7421 {l : Launch} {g : EG} : e_okp l g sg_J5_inflateIfNeededFor_a7421 "java/lang/AbstractStringBuilder" (pe_J5_inflateIfNeededFor_a7421 l g) := fun p e R s m args below meth c ex M0 Q X =>
    e_each_cons (r_gcs X (index := 18) dJ5_inflateIfNeededFor_a7421_0 zw4_202 rfl)
    (e_each_cons (r_if_eq X (off := 18) (t := 21) dJ5_inflateIfNeededFor_a7421_3 (by decide) rfl)
    (e_each_cons (r_aload_n X (k := 0) (i := 0) rfl dJ5_inflateIfNeededFor_a7421_6 rfl)
    (e_each_cons (r_getI X (index := 22) (ci := 10) (k := 1) dJ5_inflateIfNeededFor_a7421_7 (by decide) (by decide) rfl zw5_12 rfl)
    (e_each_cons (r_aload_n X (k := 1) (i := 1) rfl dJ5_inflateIfNeededFor_a7421_10 rfl)
    (e_each_cons (r_callE X rfl (τ := sg_J0_coder_7d493) (index := 40) dJ5_inflateIfNeededFor_a7421_11 rfl zw4_144 zw3_116 zw3_117 cs_J0_coder_7d493 rfl ⟨by decide, by decide⟩ rfl)
    (e_each_cons (r_icmp_eq X (off := 7) (t := 21) dJ5_inflateIfNeededFor_a7421_14 (by decide) rfl)
    (e_each_cons (r_no X)
    (e_each_cons (r_no X)
    (e_each_cons (r_vret X dJ5_inflateIfNeededFor_a7421_21 rfl)
    (e_each_nil))))))))))
def sg_J5_putStringAt_47b60 : SG := (yJ5_putStringAt_47b60, cJ5_putStringAt_47b60, 3, none, 2, 63, 0, 0, 2, false, [])
theorem cs_J5_putStringAt_47b60 : e_cs sg_J5_putStringAt_47b60 := ⟨zw4_221, zw1_11, ⟨by decide, by decide⟩, by decide +kernel, rfl⟩
theorem mt_J5_putStringAt_47b60 : e_mtF sg_J5_putStringAt_47b60 "java/lang/AbstractStringBuilder" := ⟨rfl, by decide +kernel, rfl⟩
theorem dJ5_putStringAt_47b60_0 : decode cJ5_putStringAt_47b60 0 = .ok (.aload_n 0, 1) := by decide +kernel
theorem dJ5_putStringAt_47b60_1 : decode cJ5_putStringAt_47b60 1 = .ok (.aload_n 2, 1) := by decide +kernel
theorem dJ5_putStringAt_47b60_2 : decode cJ5_putStringAt_47b60 2 = .ok (.invokevirtual 397, 3) := by decide +kernel
theorem dJ5_putStringAt_47b60_5 : decode cJ5_putStringAt_47b60 5 = .ok (.aload_n 2, 1) := by decide +kernel
theorem dJ5_putStringAt_47b60_6 : decode cJ5_putStringAt_47b60 6 = .ok (.aload_n 0, 1) := by decide +kernel
theorem dJ5_putStringAt_47b60_7 : decode cJ5_putStringAt_47b60 7 = .ok (.getfield 15, 3) := by decide +kernel
theorem dJ5_putStringAt_47b60_10 : decode cJ5_putStringAt_47b60 10 = .ok (.iload_n 1, 1) := by decide +kernel
theorem dJ5_putStringAt_47b60_11 : decode cJ5_putStringAt_47b60 11 = .ok (.aload_n 0, 1) := by decide +kernel
theorem dJ5_putStringAt_47b60_12 : decode cJ5_putStringAt_47b60 12 = .ok (.getfield 22, 3) := by decide +kernel
theorem dJ5_putStringAt_47b60_15 : decode cJ5_putStringAt_47b60 15 = .ok (.invokevirtual 399, 3) := by decide +kernel
theorem dJ5_putStringAt_47b60_18 : decode cJ5_putStringAt_47b60 18 = .ok (.return_, 1) := by decide +kernel
def pe_J5_putStringAt_47b60 (l : Launch) (g : EG) : List (Nat × ES) := [(0, s_ldP 0), (1, s_ldP 2), (2, s_callU l g sg_J5_putStringAt_47b60 sg_J5_inflateIfNeededFor_a7421), (5, s_ldP 2), (6, s_ldP 0), (7, s_getVB), (10, s_ldI 1), (11, s_ldP 0), (12, s_getI 10 1), (15, s_callE l g sg_J5_putStringAt_47b60 sg_J0_getBytes_840e7), (18, s_vret)]
set_option maxRecDepth 100000 in
theorem oe_J5_putStringAt_47b60 {l : Launch} {g : EG} : e_okp l g sg_J5_putStringAt_47b60 "java/lang/AbstractStringBuilder" (pe_J5_putStringAt_47b60 l g) := fun p e R s m args below meth c ex M0 Q X =>
    e_each_cons (r_aload_n X (k := 0) (i := 0) rfl dJ5_putStringAt_47b60_0 rfl)
    (e_each_cons (r_aload_n X (k := 2) (i := 2) rfl dJ5_putStringAt_47b60_1 rfl)
    (e_each_cons (r_callU X rfl (τ := sg_J5_inflateIfNeededFor_a7421) (x := ⟨"java/lang/AbstractStringBuilder", "inflateIfNeededFor", "(Ljava/lang/String;)V"⟩) (owner := "java/lang/AbstractStringBuilder") (index := 397) dJ5_putStringAt_47b60_2 zw4_222 zw6_221 ⟨by decide, by decide⟩ zw4_224 zw4_225 (fun hts => hts _ zsb_3) zw4_224 cs_J5_inflateIfNeededFor_a7421 rfl rfl ⟨by decide, by decide⟩ rfl)
    (e_each_cons (r_aload_n X (k := 2) (i := 2) rfl dJ5_putStringAt_47b60_5 rfl)
    (e_each_cons (r_aload_n X (k := 0) (i := 0) rfl dJ5_putStringAt_47b60_6 rfl)
    (e_each_cons (r_getVB X (index := 15) dJ5_putStringAt_47b60_7 zw5_11 rfl)
    (e_each_cons (r_iload_n X (k := 1) (i := 1) rfl dJ5_putStringAt_47b60_10 rfl)
    (e_each_cons (r_aload_n X (k := 0) (i := 0) rfl dJ5_putStringAt_47b60_11 rfl)
    (e_each_cons (r_getI X (index := 22) (ci := 10) (k := 1) dJ5_putStringAt_47b60_12 (by decide) (by decide) rfl zw5_12 rfl)
    (e_each_cons (r_callE X rfl (τ := sg_J0_getBytes_840e7) (index := 399) dJ5_putStringAt_47b60_15 rfl zw5_5 zw5_6 zw5_7 cs_J0_getBytes_840e7 rfl ⟨by decide, by decide⟩ rfl)
    (e_each_cons (r_vret X dJ5_putStringAt_47b60_18 rfl)
    (e_each_nil)))))))))))
def sg_J5_append_cf1ce : SG := (yJ5_append_cf1ce, cJ5_append_cf1ce, 3, (some (.object "java/lang/AbstractStringBuilder")), 4, 92, 1, 4096, 1, false, [])
theorem cs_J5_append_cf1ce : e_cs sg_J5_append_cf1ce := ⟨zw4_164, zw1_11, ⟨by decide, by decide⟩, by decide +kernel, rfl⟩
theorem mt_J5_append_cf1ce : e_mtF sg_J5_append_cf1ce "java/lang/AbstractStringBuilder" := ⟨rfl, by decide +kernel, rfl⟩
theorem dJ5_append_cf1ce_0 : decode cJ5_append_cf1ce 0 = .ok (.aload_n 1, 1) := by decide +kernel
theorem dJ5_append_cf1ce_1 : decode cJ5_append_cf1ce 1 = .ok (.ifnonnull 8, 3) := by decide +kernel
theorem dJ5_append_cf1ce_9 : decode cJ5_append_cf1ce 9 = .ok (.aload_n 1, 1) := by decide +kernel
theorem dJ5_append_cf1ce_10 : decode cJ5_append_cf1ce 10 = .ok (.invokevirtual 32, 3) := by decide +kernel
theorem dJ5_append_cf1ce_13 : decode cJ5_append_cf1ce 13 = .ok (.istore_n 2, 1) := by decide +kernel
theorem dJ5_append_cf1ce_14 : decode cJ5_append_cf1ce 14 = .ok (.aload_n 0, 1) := by decide +kernel
theorem dJ5_append_cf1ce_15 : decode cJ5_append_cf1ce 15 = .ok (.aload_n 0, 1) := by decide +kernel
theorem dJ5_append_cf1ce_16 : decode cJ5_append_cf1ce 16 = .ok (.getfield 79, 3) := by decide +kernel
theorem dJ5_append_cf1ce_19 : decode cJ5_append_cf1ce 19 = .ok (.iload_n 2, 1) := by decide +kernel
theorem dJ5_append_cf1ce_20 : decode cJ5_append_cf1ce 20 = .ok (.iadd, 1) := by decide +kernel
theorem dJ5_append_cf1ce_21 : decode cJ5_append_cf1ce 21 = .ok (.invokevirtual 100, 3) := by decide +kernel
theorem dJ5_append_cf1ce_24 : decode cJ5_append_cf1ce 24 = .ok (.aload_n 0, 1) := by decide +kernel
theorem dJ5_append_cf1ce_25 : decode cJ5_append_cf1ce 25 = .ok (.aload_n 0, 1) := by decide +kernel
theorem dJ5_append_cf1ce_26 : decode cJ5_append_cf1ce 26 = .ok (.getfield 79, 3) := by decide +kernel
theorem dJ5_append_cf1ce_29 : decode cJ5_append_cf1ce 29 = .ok (.aload_n 1, 1) := by decide +kernel
theorem dJ5_append_cf1ce_30 : decode cJ5_append_cf1ce 30 = .ok (.invokevirtual 208, 3) := by decide +kernel
theorem dJ5_append_cf1ce_33 : decode cJ5_append_cf1ce 33 = .ok (.aload_n 0, 1) := by decide +kernel
theorem dJ5_append_cf1ce_34 : decode cJ5_append_cf1ce 34 = .ok (.dup, 1) := by decide +kernel
theorem dJ5_append_cf1ce_35 : decode cJ5_append_cf1ce 35 = .ok (.getfield 79, 3) := by decide +kernel
theorem dJ5_append_cf1ce_38 : decode cJ5_append_cf1ce 38 = .ok (.iload_n 2, 1) := by decide +kernel
theorem dJ5_append_cf1ce_39 : decode cJ5_append_cf1ce 39 = .ok (.iadd, 1) := by decide +kernel
theorem dJ5_append_cf1ce_40 : decode cJ5_append_cf1ce 40 = .ok (.putfield 79, 3) := by decide +kernel
theorem dJ5_append_cf1ce_43 : decode cJ5_append_cf1ce 43 = .ok (.aload_n 0, 1) := by decide +kernel
theorem dJ5_append_cf1ce_44 : decode cJ5_append_cf1ce 44 = .ok (.areturn, 1) := by decide +kernel
def pe_J5_append_cf1ce (l : Launch) (g : EG) : List (Nat × ES) := [(0, s_ldP 1), (1, s_ifnn 9), (4, s_no), (5, s_no), (8, s_no), (9, s_ldP 1), (10, s_callE l g sg_J5_append_cf1ce sg_J0_length_8abf5), (13, s_stI 2), (14, s_ldP 0), (15, s_ldP 0), (16, s_getI 10 3), (19, s_ldI 2), (20, s_ii (fun x y => x + y)), (21, s_callU l g sg_J5_append_cf1ce sg_J5_ensureCapacityInternal_d00df), (24, s_ldP 0), (25, s_ldP 0), (26, s_getI 10 3), (29, s_ldP 1), (30, s_callU l g sg_J5_append_cf1ce sg_J5_putStringAt_47b60), (33, s_ldP 0), (34, s_dup), (35, s_getI 10 3), (38, s_ldI 2), (39, s_ii (fun x y => x + y)), (40, s_putI 10 3), (43, s_ldP 0), (44, s_aret)]
set_option maxRecDepth 100000 in
theorem oe_J5_append_cf1ce {l : Launch} {g : EG} : e_okp l g sg_J5_append_cf1ce "java/lang/AbstractStringBuilder" (pe_J5_append_cf1ce l g) := fun p e R s m args below meth c ex M0 Q X =>
    e_each_cons (r_aload_n X (k := 1) (i := 1) rfl dJ5_append_cf1ce_0 rfl)
    (e_each_cons (r_ifnn X (off := 8) (t := 9) dJ5_append_cf1ce_1 (by decide))
    (e_each_cons (r_no X)
    (e_each_cons (r_no X)
    (e_each_cons (r_no X)
    (e_each_cons (r_aload_n X (k := 1) (i := 1) rfl dJ5_append_cf1ce_9 rfl)
    (e_each_cons (r_callE X rfl (τ := sg_J0_length_8abf5) (index := 32) dJ5_append_cf1ce_10 rfl zw4_141 zw3_112 zw3_113 cs_J0_length_8abf5 rfl ⟨by decide, by decide⟩ rfl)
    (e_each_cons (r_istore_n X (k := 2) (i := 2) rfl dJ5_append_cf1ce_13 (by decide) rfl)
    (e_each_cons (r_aload_n X (k := 0) (i := 0) rfl dJ5_append_cf1ce_14 rfl)
    (e_each_cons (r_aload_n X (k := 0) (i := 0) rfl dJ5_append_cf1ce_15 rfl)
    (e_each_cons (r_getI X (index := 79) (ci := 10) (k := 3) dJ5_append_cf1ce_16 (by decide) (by decide) rfl zw5_14 rfl)
    (e_each_cons (r_iload_n X (k := 2) (i := 2) rfl dJ5_append_cf1ce_19 rfl)
    (e_each_cons (r_iadd X dJ5_append_cf1ce_20 rfl)
    (e_each_cons (r_callU X rfl (τ := sg_J5_ensureCapacityInternal_d00df) (x := ⟨"java/lang/AbstractStringBuilder", "ensureCapacityInternal", "(I)V"⟩) (owner := "java/lang/AbstractStringBuilder") (index := 100) dJ5_append_cf1ce_21 zw4_169 zw6_218 ⟨by decide, by decide⟩ zw4_171 zw4_172 (fun hts => hts _ zsb_0) zw4_171 cs_J5_ensureCapacityInternal_d00df rfl rfl ⟨by decide, by decide⟩ rfl)
    (e_each_cons (r_aload_n X (k := 0) (i := 0) rfl dJ5_append_cf1ce_24 rfl)
    (e_each_cons (r_aload_n X (k := 0) (i := 0) rfl dJ5_append_cf1ce_25 rfl)
    (e_each_cons (r_getI X (index := 79) (ci := 10) (k := 3) dJ5_append_cf1ce_26 (by decide) (by decide) rfl zw5_14 rfl)
    (e_each_cons (r_aload_n X (k := 1) (i := 1) rfl dJ5_append_cf1ce_29 rfl)
    (e_each_cons (r_callU X rfl (τ := sg_J5_putStringAt_47b60) (x := ⟨"java/lang/AbstractStringBuilder", "putStringAt", "(ILjava/lang/String;)V"⟩) (owner := "java/lang/AbstractStringBuilder") (index := 208) dJ5_append_cf1ce_30 zw4_218 zw6_220 ⟨by decide, by decide⟩ zw4_220 zw4_221 (fun hts => hts _ zsb_2) zw4_220 cs_J5_putStringAt_47b60 rfl rfl ⟨by decide, by decide⟩ rfl)
    (e_each_cons (r_aload_n X (k := 0) (i := 0) rfl dJ5_append_cf1ce_33 rfl)
    (e_each_cons (r_dup X dJ5_append_cf1ce_34 rfl)
    (e_each_cons (r_getI X (index := 79) (ci := 10) (k := 3) dJ5_append_cf1ce_35 (by decide) (by decide) rfl zw5_14 rfl)
    (e_each_cons (r_iload_n X (k := 2) (i := 2) rfl dJ5_append_cf1ce_38 rfl)
    (e_each_cons (r_iadd X dJ5_append_cf1ce_39 rfl)
    (e_each_cons (r_putI X (index := 79) (ci := 10) (k := 3) dJ5_append_cf1ce_40 (by decide) (by decide) rfl rfl zw5_14 rfl)
    (e_each_cons (r_aload_n X (k := 0) (i := 0) rfl dJ5_append_cf1ce_43 rfl)
    (e_each_cons (r_aret X dJ5_append_cf1ce_44 rfl)
    (e_each_nil)))))))))))))))))))))))))))
def sg_J4_append_15ec4 : SG := (yJ4_append_15ec4, cJ4_append_15ec4, 2, (some (.object "java/lang/StringBuilder")), 5, 114, 1, 4096, 1, false, [])
theorem cs_J4_append_15ec4 : e_cs sg_J4_append_15ec4 := ⟨zw4_161, zw1_12, ⟨by decide, by decide⟩, by decide +kernel, rfl⟩
theorem mt_J4_append_15ec4 : e_mtF sg_J4_append_15ec4 "java/lang/StringBuilder" := ⟨rfl, by decide +kernel, rfl⟩
theorem dJ4_append_15ec4_0 : decode cJ4_append_15ec4 0 = .ok (.aload_n 0, 1) := by decide +kernel
theorem dJ4_append_15ec4_1 : decode cJ4_append_15ec4 1 = .ok (.aload_n 1, 1) := by decide +kernel
theorem dJ4_append_15ec4_2 : decode cJ4_append_15ec4 2 = .ok (.invokespecial 29, 3) := by decide +kernel
theorem dJ4_append_15ec4_5 : decode cJ4_append_15ec4 5 = .ok (.pop, 1) := by decide +kernel
theorem dJ4_append_15ec4_6 : decode cJ4_append_15ec4 6 = .ok (.aload_n 0, 1) := by decide +kernel
theorem dJ4_append_15ec4_7 : decode cJ4_append_15ec4 7 = .ok (.areturn, 1) := by decide +kernel
def pe_J4_append_15ec4 (l : Launch) (g : EG) : List (Nat × ES) := [(0, s_ldP 0), (1, s_ldP 1), (2, s_callU l g sg_J4_append_15ec4 sg_J5_append_cf1ce), (5, s_pop), (6, s_ldP 0), (7, s_aret)]
set_option maxRecDepth 100000 in
theorem oe_J4_append_15ec4 {l : Launch} {g : EG} : e_okp l g sg_J4_append_15ec4 "java/lang/StringBuilder" (pe_J4_append_15ec4 l g) := fun p e R s m args below meth c ex M0 Q X =>
    e_each_cons (r_aload_n X (k := 0) (i := 0) rfl dJ4_append_15ec4_0 rfl)
    (e_each_cons (r_aload_n X (k := 1) (i := 1) rfl dJ4_append_15ec4_1 rfl)
    (e_each_cons (r_callSup X rfl (τ := sg_J5_append_cf1ce) (index := 29) dJ4_append_15ec4_2 zw4_162 zw4_154 zw4_163 zw4_153 cs_J5_append_cf1ce (by decide) rfl ⟨by decide, by decide⟩ rfl)
    (e_each_cons (r_pop X dJ4_append_15ec4_5 rfl)
    (e_each_cons (r_aload_n X (k := 0) (i := 0) rfl dJ4_append_15ec4_6 rfl)
    (e_each_cons (r_aret X dJ4_append_15ec4_7 rfl)
    (e_each_nil))))))
def sg_J4_append_cf1ce : SG := (yJ4_append_cf1ce, cJ4_append_cf1ce, 2, (some (.object "java/lang/AbstractStringBuilder")), 6, 135, 1, 4096, 1, false, [])
theorem cs_J4_append_cf1ce : e_cs sg_J4_append_cf1ce := ⟨zw4_157, zw1_12, ⟨by decide, by decide⟩, by decide +kernel, rfl⟩
theorem mt_J4_append_cf1ce : e_mtF sg_J4_append_cf1ce "java/lang/StringBuilder" := ⟨rfl, by decide +kernel, rfl⟩
theorem dJ4_append_cf1ce_0 : decode cJ4_append_cf1ce 0 = .ok (.aload_n 0, 1) := by decide +kernel
theorem dJ4_append_cf1ce_1 : decode cJ4_append_cf1ce 1 = .ok (.aload_n 1, 1) := by decide +kernel
theorem dJ4_append_cf1ce_2 : decode cJ4_append_cf1ce 2 = .ok (.invokevirtual 23, 3) := by decide +kernel
theorem dJ4_append_cf1ce_5 : decode cJ4_append_cf1ce 5 = .ok (.areturn, 1) := by decide +kernel
def pe_J4_append_cf1ce (l : Launch) (g : EG) : List (Nat × ES) := [(0, s_ldP 0), (1, s_ldP 1), (2, s_callV l g sg_J4_append_cf1ce sg_J4_append_15ec4 10), (5, s_aret)]
set_option maxRecDepth 100000 in
theorem oe_J4_append_cf1ce {l : Launch} {g : EG} : e_okp l g sg_J4_append_cf1ce "java/lang/StringBuilder" (pe_J4_append_cf1ce l g) := fun p e R s m args below meth c ex M0 Q X =>
    e_each_cons (r_aload_n X (k := 0) (i := 0) rfl dJ4_append_cf1ce_0 rfl)
    (e_each_cons (r_aload_n X (k := 1) (i := 1) rfl dJ4_append_cf1ce_1 rfl)
    (e_each_cons (r_callV X rfl (τ := sg_J4_append_15ec4) (index := 23) (ci := 10) dJ4_append_cf1ce_2 (by decide) rfl zw4_158 zw4_159 zw4_160 cs_J4_append_15ec4 rfl ⟨by decide, by decide⟩ rfl)
    (e_each_cons (r_aret X dJ4_append_cf1ce_5 rfl)
    (e_each_nil))))
def sg_J5_append_3fe6f : SG := (yJ5_append_3fe6f, cJ5_append_3fe6f, 2, (some (.object "java/lang/AbstractStringBuilder")), 4, 92, 1, 4096, 1, false, [])
theorem cs_J5_append_3fe6f : e_cs sg_J5_append_3fe6f := ⟨zw5_123, zw1_11, ⟨by decide, by decide⟩, by decide +kernel, rfl⟩
theorem mt_J5_append_3fe6f : e_mtF sg_J5_append_3fe6f "java/lang/AbstractStringBuilder" := ⟨rfl, by decide +kernel, rfl⟩
theorem dJ5_append_3fe6f_0 : decode cJ5_append_3fe6f 0 = .ok (.aload_n 0, 1) := by decide +kernel
theorem dJ5_append_3fe6f_1 : decode cJ5_append_3fe6f 1 = .ok (.aload_n 0, 1) := by decide +kernel
theorem dJ5_append_3fe6f_2 : decode cJ5_append_3fe6f 2 = .ok (.getfield 79, 3) := by decide +kernel
theorem dJ5_append_3fe6f_5 : decode cJ5_append_3fe6f 5 = .ok (.iconst 1, 1) := by decide +kernel
theorem dJ5_append_3fe6f_6 : decode cJ5_append_3fe6f 6 = .ok (.iadd, 1) := by decide +kernel
theorem dJ5_append_3fe6f_7 : decode cJ5_append_3fe6f 7 = .ok (.invokevirtual 100, 3) := by decide +kernel
theorem dJ5_append_3fe6f_10 : decode cJ5_append_3fe6f 10 = .ok (.aload_n 0, 1) := by decide +kernel
theorem dJ5_append_3fe6f_11 : decode cJ5_append_3fe6f 11 = .ok (.invokevirtual 83, 3) := by decide +kernel
theorem dJ5_append_3fe6f_14 : decode cJ5_append_3fe6f 14 = .ok (.ifCond .eq 31, 3) := by decide +kernel
theorem dJ5_append_3fe6f_17 : decode cJ5_append_3fe6f 17 = .ok (.iload_n 1, 1) := by decide +kernel
theorem dJ5_append_3fe6f_18 : decode cJ5_append_3fe6f 18 = .ok (.invokestatic 191, 3) := by decide +kernel
theorem dJ5_append_3fe6f_21 : decode cJ5_append_3fe6f 21 = .ok (.ifCond .eq 24, 3) := by decide +kernel
theorem dJ5_append_3fe6f_24 : decode cJ5_append_3fe6f 24 = .ok (.aload_n 0, 1) := by decide +kernel
theorem dJ5_append_3fe6f_25 : decode cJ5_append_3fe6f 25 = .ok (.getfield 15, 3) := by decide +kernel
theorem dJ5_append_3fe6f_28 : decode cJ5_append_3fe6f 28 = .ok (.aload_n 0, 1) := by decide +kernel
theorem dJ5_append_3fe6f_29 : decode cJ5_append_3fe6f 29 = .ok (.dup, 1) := by decide +kernel
theorem dJ5_append_3fe6f_30 : decode cJ5_append_3fe6f 30 = .ok (.getfield 79, 3) := by decide +kernel
theorem dJ5_append_3fe6f_33 : decode cJ5_append_3fe6f 33 = .ok (.dup_x1, 1) := by decide +kernel
theorem dJ5_append_3fe6f_34 : decode cJ5_append_3fe6f 34 = .ok (.iconst 1, 1) := by decide +kernel
theorem dJ5_append_3fe6f_35 : decode cJ5_append_3fe6f 35 = .ok (.iadd, 1) := by decide +kernel
theorem dJ5_append_3fe6f_36 : decode cJ5_append_3fe6f 36 = .ok (.putfield 79, 3) := by decide +kernel
theorem dJ5_append_3fe6f_39 : decode cJ5_append_3fe6f 39 = .ok (.iload_n 1, 1) := by decide +kernel
theorem dJ5_append_3fe6f_40 : decode cJ5_append_3fe6f 40 = .ok (.i2b, 1) := by decide +kernel
theorem dJ5_append_3fe6f_41 : decode cJ5_append_3fe6f 41 = .ok (.bastore, 1) := by decide +kernel
theorem dJ5_append_3fe6f_42 : decode cJ5_append_3fe6f 42 = .ok (.goto 33, 3) := by decide +kernel
theorem dJ5_append_3fe6f_75 : decode cJ5_append_3fe6f 75 = .ok (.aload_n 0, 1) := by decide +kernel
theorem dJ5_append_3fe6f_76 : decode cJ5_append_3fe6f 76 = .ok (.areturn, 1) := by decide +kernel
def pe_J5_append_3fe6f (l : Launch) (g : EG) : List (Nat × ES) := [(0, s_ldP 0), (1, s_ldP 0), (2, s_getI 10 3), (5, s_c (.inl 1)), (6, s_ii (fun x y => x + y)), (7, s_callU l g sg_J5_append_3fe6f sg_J5_ensureCapacityInternal_d00df), (10, s_ldP 0), (11, s_callU l g sg_J5_append_3fe6f sg_J5_isLatin1_aae02), (14, s_if_eq 45), (17, s_ldI 1), (18, s_callS l g sg_J5_append_3fe6f sg_J1_canEncode_fc78d), (21, s_if_eq 45), (24, s_ldP 0), (25, s_getVB), (28, s_ldP 0), (29, s_dup), (30, s_getI 10 3), (33, s_dup_x1), (34, s_c (.inl 1)), (35, s_ii (fun x y => x + y)), (36, s_putI 10 3), (39, s_ldI 1), (40, s_i1 (fun x => x.toInt8.toInt32)), (41, s_bastD), (42, s_goto 75), (45, s_no), (46, s_no), (49, s_no), (52, s_no), (53, s_no), (56, s_no), (57, s_no), (60, s_no), (61, s_no), (62, s_no), (65, s_no), (66, s_no), (67, s_no), (68, s_no), (71, s_no), (72, s_no), (75, s_ldP 0), (76, s_aret)]
set_option maxRecDepth 100000 in
theorem oe_J5_append_3fe6f {l : Launch} {g : EG} : e_okp l g sg_J5_append_3fe6f "java/lang/AbstractStringBuilder" (pe_J5_append_3fe6f l g) := fun p e R s m args below meth c ex M0 Q X =>
    e_each_cons (r_aload_n X (k := 0) (i := 0) rfl dJ5_append_3fe6f_0 rfl)
    (e_each_cons (r_aload_n X (k := 0) (i := 0) rfl dJ5_append_3fe6f_1 rfl)
    (e_each_cons (r_getI X (index := 79) (ci := 10) (k := 3) dJ5_append_3fe6f_2 (by decide) (by decide) rfl zw5_14 rfl)
    (e_each_cons (r_iconst X (n := 1) (v := 1) dJ5_append_3fe6f_5 (by decide) rfl)
    (e_each_cons (r_iadd X dJ5_append_3fe6f_6 rfl)
    (e_each_cons (r_callU X rfl (τ := sg_J5_ensureCapacityInternal_d00df) (x := ⟨"java/lang/AbstractStringBuilder", "ensureCapacityInternal", "(I)V"⟩) (owner := "java/lang/AbstractStringBuilder") (index := 100) dJ5_append_3fe6f_7 zw4_169 zw6_218 ⟨by decide, by decide⟩ zw4_171 zw4_172 (fun hts => hts _ zsb_0) zw4_171 cs_J5_ensureCapacityInternal_d00df rfl rfl ⟨by decide, by decide⟩ rfl)
    (e_each_cons (r_aload_n X (k := 0) (i := 0) rfl dJ5_append_3fe6f_10 rfl)
    (e_each_cons (r_callU X rfl (τ := sg_J5_isLatin1_aae02) (x := ⟨"java/lang/AbstractStringBuilder", "isLatin1", "()Z"⟩) (owner := "java/lang/AbstractStringBuilder") (index := 83) dJ5_append_3fe6f_11 zw4_197 zw4_199 ⟨by decide, by decide⟩ zw4_198 zw4_201 (fun hts => hts _ zw4_200) zw4_198 cs_J5_isLatin1_aae02 rfl rfl ⟨by decide, by decide⟩ rfl)
    (e_each_cons (r_if_eq X (off := 31) (t := 45) dJ5_append_3fe6f_14 (by decide) rfl)
    (e_each_cons (r_iload_n X (k := 1) (i := 1) rfl dJ5_append_3fe6f_17 rfl)
    (e_each_cons (r_callS X rfl (τ := sg_J1_canEncode_fc78d) (index := 191) dJ5_append_3fe6f_18 zw5_124 zw5_125 cs_J1_canEncode_fc78d rfl ⟨by decide, by decide⟩ rfl)
    (e_each_cons (r_if_eq X (off := 24) (t := 45) dJ5_append_3fe6f_21 (by decide) rfl)
    (e_each_cons (r_aload_n X (k := 0) (i := 0) rfl dJ5_append_3fe6f_24 rfl)
    (e_each_cons (r_getVB X (index := 15) dJ5_append_3fe6f_25 zw5_11 rfl)
    (e_each_cons (r_aload_n X (k := 0) (i := 0) rfl dJ5_append_3fe6f_28 rfl)
    (e_each_cons (r_dup X dJ5_append_3fe6f_29 rfl)
    (e_each_cons (r_getI X (index := 79) (ci := 10) (k := 3) dJ5_append_3fe6f_30 (by decide) (by decide) rfl zw5_14 rfl)
    (e_each_cons (r_dup_x1 X dJ5_append_3fe6f_33 rfl)
    (e_each_cons (r_iconst X (n := 1) (v := 1) dJ5_append_3fe6f_34 (by decide) rfl)
    (e_each_cons (r_iadd X dJ5_append_3fe6f_35 rfl)
    (e_each_cons (r_putI X (index := 79) (ci := 10) (k := 3) dJ5_append_3fe6f_36 (by decide) (by decide) rfl rfl zw5_14 rfl)
    (e_each_cons (r_iload_n X (k := 1) (i := 1) rfl dJ5_append_3fe6f_39 rfl)
    (e_each_cons (r_i2b X dJ5_append_3fe6f_40 rfl)
    (e_each_cons (r_bastD X dJ5_append_3fe6f_41 rfl)
    (e_each_cons (r_goto X (off := 33) (t := 75) dJ5_append_3fe6f_42 (by decide))
    (e_each_cons (r_no X)
    (e_each_cons (r_no X)
    (e_each_cons (r_no X)
    (e_each_cons (r_no X)
    (e_each_cons (r_no X)
    (e_each_cons (r_no X)
    (e_each_cons (r_no X)
    (e_each_cons (r_no X)
    (e_each_cons (r_no X)
    (e_each_cons (r_no X)
    (e_each_cons (r_no X)
    (e_each_cons (r_no X)
    (e_each_cons (r_no X)
    (e_each_cons (r_no X)
    (e_each_cons (r_no X)
    (e_each_cons (r_no X)
    (e_each_cons (r_aload_n X (k := 0) (i := 0) rfl dJ5_append_3fe6f_75 rfl)
    (e_each_cons (r_aret X dJ5_append_3fe6f_76 rfl)
    (e_each_nil)))))))))))))))))))))))))))))))))))))))))))
def sg_J4_append_cf468 : SG := (yJ4_append_cf468, cJ4_append_cf468, 2, (some (.object "java/lang/StringBuilder")), 5, 113, 1, 4096, 1, false, [])
theorem cs_J4_append_cf468 : e_cs sg_J4_append_cf468 := ⟨zw5_120, zw1_12, ⟨by decide, by decide⟩, by decide +kernel, rfl⟩
theorem mt_J4_append_cf468 : e_mtF sg_J4_append_cf468 "java/lang/StringBuilder" := ⟨rfl, by decide +kernel, rfl⟩
theorem dJ4_append_cf468_0 : decode cJ4_append_cf468 0 = .ok (.aload_n 0, 1) := by decide +kernel
theorem dJ4_append_cf468_1 : decode cJ4_append_cf468 1 = .ok (.iload_n 1, 1) := by decide +kernel
theorem dJ4_append_cf468_2 : decode cJ4_append_cf468 2 = .ok (.invokespecial 50, 3) := by decide +kernel
theorem dJ4_append_cf468_5 : decode cJ4_append_cf468 5 = .ok (.pop, 1) := by decide +kernel
theorem dJ4_append_cf468_6 : decode cJ4_append_cf468 6 = .ok (.aload_n 0, 1) := by decide +kernel
theorem dJ4_append_cf468_7 : decode cJ4_append_cf468 7 = .ok (.areturn, 1) := by decide +kernel
def pe_J4_append_cf468 (l : Launch) (g : EG) : List (Nat × ES) := [(0, s_ldP 0), (1, s_ldI 1), (2, s_callU l g sg_J4_append_cf468 sg_J5_append_3fe6f), (5, s_pop), (6, s_ldP 0), (7, s_aret)]
set_option maxRecDepth 100000 in
theorem oe_J4_append_cf468 {l : Launch} {g : EG} : e_okp l g sg_J4_append_cf468 "java/lang/StringBuilder" (pe_J4_append_cf468 l g) := fun p e R s m args below meth c ex M0 Q X =>
    e_each_cons (r_aload_n X (k := 0) (i := 0) rfl dJ4_append_cf468_0 rfl)
    (e_each_cons (r_iload_n X (k := 1) (i := 1) rfl dJ4_append_cf468_1 rfl)
    (e_each_cons (r_callSup X rfl (τ := sg_J5_append_3fe6f) (index := 50) dJ4_append_cf468_2 zw5_121 zw6_224 zw4_163 zw5_122 cs_J5_append_3fe6f (by decide) rfl ⟨by decide, by decide⟩ rfl)
    (e_each_cons (r_pop X dJ4_append_cf468_5 rfl)
    (e_each_cons (r_aload_n X (k := 0) (i := 0) rfl dJ4_append_cf468_6 rfl)
    (e_each_cons (r_aret X dJ4_append_cf468_7 rfl)
    (e_each_nil))))))
def sg_J5_append_c97b9 : SG := (yJ5_append_c97b9, cJ5_append_c97b9, 4, (some (.object "java/lang/AbstractStringBuilder")), 4, 92, 1, 4096, 1, false, [])
theorem cs_J5_append_c97b9 : e_cs sg_J5_append_c97b9 := ⟨zw5_32, zw1_11, ⟨by decide, by decide⟩, by decide +kernel, rfl⟩
theorem mt_J5_append_c97b9 : e_mtF sg_J5_append_c97b9 "java/lang/AbstractStringBuilder" := ⟨rfl, by decide +kernel, rfl⟩
theorem dJ5_append_c97b9_0 : decode cJ5_append_c97b9 0 = .ok (.aload_n 0, 1) := by decide +kernel
theorem dJ5_append_c97b9_1 : decode cJ5_append_c97b9 1 = .ok (.getfield 79, 3) := by decide +kernel
theorem dJ5_append_c97b9_4 : decode cJ5_append_c97b9 4 = .ok (.istore_n 2, 1) := by decide +kernel
theorem dJ5_append_c97b9_5 : decode cJ5_append_c97b9 5 = .ok (.iload_n 2, 1) := by decide +kernel
theorem dJ5_append_c97b9_6 : decode cJ5_append_c97b9 6 = .ok (.iload_n 1, 1) := by decide +kernel
theorem dJ5_append_c97b9_7 : decode cJ5_append_c97b9 7 = .ok (.invokestatic 245, 3) := by decide +kernel
theorem dJ5_append_c97b9_10 : decode cJ5_append_c97b9 10 = .ok (.iadd, 1) := by decide +kernel
theorem dJ5_append_c97b9_11 : decode cJ5_append_c97b9 11 = .ok (.istore_n 3, 1) := by decide +kernel
theorem dJ5_append_c97b9_12 : decode cJ5_append_c97b9 12 = .ok (.aload_n 0, 1) := by decide +kernel
theorem dJ5_append_c97b9_13 : decode cJ5_append_c97b9 13 = .ok (.iload_n 3, 1) := by decide +kernel
theorem dJ5_append_c97b9_14 : decode cJ5_append_c97b9 14 = .ok (.invokevirtual 100, 3) := by decide +kernel
theorem dJ5_append_c97b9_17 : decode cJ5_append_c97b9 17 = .ok (.aload_n 0, 1) := by decide +kernel
theorem dJ5_append_c97b9_18 : decode cJ5_append_c97b9 18 = .ok (.invokevirtual 83, 3) := by decide +kernel
theorem dJ5_append_c97b9_21 : decode cJ5_append_c97b9 21 = .ok (.ifCond .eq 16, 3) := by decide +kernel
theorem dJ5_append_c97b9_24 : decode cJ5_append_c97b9 24 = .ok (.iload_n 1, 1) := by decide +kernel
theorem dJ5_append_c97b9_25 : decode cJ5_append_c97b9 25 = .ok (.iload_n 3, 1) := by decide +kernel
theorem dJ5_append_c97b9_26 : decode cJ5_append_c97b9 26 = .ok (.aload_n 0, 1) := by decide +kernel
theorem dJ5_append_c97b9_27 : decode cJ5_append_c97b9 27 = .ok (.getfield 15, 3) := by decide +kernel
theorem dJ5_append_c97b9_30 : decode cJ5_append_c97b9 30 = .ok (.invokestatic 248, 3) := by decide +kernel
theorem dJ5_append_c97b9_33 : decode cJ5_append_c97b9 33 = .ok (.pop, 1) := by decide +kernel
theorem dJ5_append_c97b9_34 : decode cJ5_append_c97b9 34 = .ok (.goto 14, 3) := by decide +kernel
theorem dJ5_append_c97b9_48 : decode cJ5_append_c97b9 48 = .ok (.aload_n 0, 1) := by decide +kernel
theorem dJ5_append_c97b9_49 : decode cJ5_append_c97b9 49 = .ok (.iload_n 3, 1) := by decide +kernel
theorem dJ5_append_c97b9_50 : decode cJ5_append_c97b9 50 = .ok (.putfield 79, 3) := by decide +kernel
theorem dJ5_append_c97b9_53 : decode cJ5_append_c97b9 53 = .ok (.aload_n 0, 1) := by decide +kernel
theorem dJ5_append_c97b9_54 : decode cJ5_append_c97b9 54 = .ok (.areturn, 1) := by decide +kernel
def pe_J5_append_c97b9 (l : Launch) (g : EG) : List (Nat × ES) := [(0, s_ldP 0), (1, s_getI 10 3), (4, s_stI 2), (5, s_ldI 2), (6, s_ldI 1), (7, s_callS l g sg_J5_append_c97b9 sg_J6_stringSize_0f7a4), (10, s_ii (fun x y => x + y)), (11, s_stI 3), (12, s_ldP 0), (13, s_ldI 3), (14, s_callU l g sg_J5_append_c97b9 sg_J5_ensureCapacityInternal_d00df), (17, s_ldP 0), (18, s_callU l g sg_J5_append_c97b9 sg_J5_isLatin1_aae02), (21, s_if_eq 37), (24, s_ldI 1), (25, s_ldI 3), (26, s_ldP 0), (27, s_getVB), (30, s_callS l g sg_J5_append_c97b9 sg_J6_getChars_ba4f3), (33, s_pop), (34, s_goto 48), (37, s_no), (38, s_no), (39, s_no), (40, s_no), (41, s_no), (44, s_no), (47, s_no), (48, s_ldP 0), (49, s_ldI 3), (50, s_putI 10 3), (53, s_ldP 0), (54, s_aret)]
set_option maxRecDepth 100000 in
theorem oe_J5_append_c97b9 {l : Launch} {g : EG} : e_okp l g sg_J5_append_c97b9 "java/lang/AbstractStringBuilder" (pe_J5_append_c97b9 l g) := fun p e R s m args below meth c ex M0 Q X =>
    e_each_cons (r_aload_n X (k := 0) (i := 0) rfl dJ5_append_c97b9_0 rfl)
    (e_each_cons (r_getI X (index := 79) (ci := 10) (k := 3) dJ5_append_c97b9_1 (by decide) (by decide) rfl zw5_14 rfl)
    (e_each_cons (r_istore_n X (k := 2) (i := 2) rfl dJ5_append_c97b9_4 (by decide) rfl)
    (e_each_cons (r_iload_n X (k := 2) (i := 2) rfl dJ5_append_c97b9_5 rfl)
    (e_each_cons (r_iload_n X (k := 1) (i := 1) rfl dJ5_append_c97b9_6 rfl)
    (e_each_cons (r_callS X rfl (τ := sg_J6_stringSize_0f7a4) (index := 245) dJ5_append_c97b9_7 zw5_33 zw5_34 cs_J6_stringSize_0f7a4 rfl ⟨by decide, by decide⟩ rfl)
    (e_each_cons (r_iadd X dJ5_append_c97b9_10 rfl)
    (e_each_cons (r_istore_n X (k := 3) (i := 3) rfl dJ5_append_c97b9_11 (by decide) rfl)
    (e_each_cons (r_aload_n X (k := 0) (i := 0) rfl dJ5_append_c97b9_12 rfl)
    (e_each_cons (r_iload_n X (k := 3) (i := 3) rfl dJ5_append_c97b9_13 rfl)
    (e_each_cons (r_callU X rfl (τ := sg_J5_ensureCapacityInternal_d00df) (x := ⟨"java/lang/AbstractStringBuilder", "ensureCapacityInternal", "(I)V"⟩) (owner := "java/lang/AbstractStringBuilder") (index := 100) dJ5_append_c97b9_14 zw4_169 zw6_218 ⟨by decide, by decide⟩ zw4_171 zw4_172 (fun hts => hts _ zsb_0) zw4_171 cs_J5_ensureCapacityInternal_d00df rfl rfl ⟨by decide, by decide⟩ rfl)
    (e_each_cons (r_aload_n X (k := 0) (i := 0) rfl dJ5_append_c97b9_17 rfl)
    (e_each_cons (r_callU X rfl (τ := sg_J5_isLatin1_aae02) (x := ⟨"java/lang/AbstractStringBuilder", "isLatin1", "()Z"⟩) (owner := "java/lang/AbstractStringBuilder") (index := 83) dJ5_append_c97b9_18 zw4_197 zw4_199 ⟨by decide, by decide⟩ zw4_198 zw4_201 (fun hts => hts _ zw4_200) zw4_198 cs_J5_isLatin1_aae02 rfl rfl ⟨by decide, by decide⟩ rfl)
    (e_each_cons (r_if_eq X (off := 16) (t := 37) dJ5_append_c97b9_21 (by decide) rfl)
    (e_each_cons (r_iload_n X (k := 1) (i := 1) rfl dJ5_append_c97b9_24 rfl)
    (e_each_cons (r_iload_n X (k := 3) (i := 3) rfl dJ5_append_c97b9_25 rfl)
    (e_each_cons (r_aload_n X (k := 0) (i := 0) rfl dJ5_append_c97b9_26 rfl)
    (e_each_cons (r_getVB X (index := 15) dJ5_append_c97b9_27 zw5_11 rfl)
    (e_each_cons (r_callS X rfl (τ := sg_J6_getChars_ba4f3) (index := 248) dJ5_append_c97b9_30 zw5_36 zw5_37 cs_J6_getChars_ba4f3 rfl ⟨by decide, by decide⟩ rfl)
    (e_each_cons (r_pop X dJ5_append_c97b9_33 rfl)
    (e_each_cons (r_goto X (off := 14) (t := 48) dJ5_append_c97b9_34 (by decide))
    (e_each_cons (r_no X)
    (e_each_cons (r_no X)
    (e_each_cons (r_no X)
    (e_each_cons (r_no X)
    (e_each_cons (r_no X)
    (e_each_cons (r_no X)
    (e_each_cons (r_no X)
    (e_each_cons (r_aload_n X (k := 0) (i := 0) rfl dJ5_append_c97b9_48 rfl)
    (e_each_cons (r_iload_n X (k := 3) (i := 3) rfl dJ5_append_c97b9_49 rfl)
    (e_each_cons (r_putI X (index := 79) (ci := 10) (k := 3) dJ5_append_c97b9_50 (by decide) (by decide) rfl rfl zw5_14 rfl)
    (e_each_cons (r_aload_n X (k := 0) (i := 0) rfl dJ5_append_c97b9_53 rfl)
    (e_each_cons (r_aret X dJ5_append_c97b9_54 rfl)
    (e_each_nil)))))))))))))))))))))))))))))))))
def sg_J4_append_bf812 : SG := (yJ4_append_bf812, cJ4_append_bf812, 2, (some (.object "java/lang/StringBuilder")), 5, 115, 1, 4096, 1, false, [])
theorem cs_J4_append_bf812 : e_cs sg_J4_append_bf812 := ⟨zw5_29, zw1_12, ⟨by decide, by decide⟩, by decide +kernel, rfl⟩
theorem mt_J4_append_bf812 : e_mtF sg_J4_append_bf812 "java/lang/StringBuilder" := ⟨rfl, by decide +kernel, rfl⟩
theorem dJ4_append_bf812_0 : decode cJ4_append_bf812 0 = .ok (.aload_n 0, 1) := by decide +kernel
theorem dJ4_append_bf812_1 : decode cJ4_append_bf812 1 = .ok (.iload_n 1, 1) := by decide +kernel
theorem dJ4_append_bf812_2 : decode cJ4_append_bf812 2 = .ok (.invokespecial 53, 3) := by decide +kernel
theorem dJ4_append_bf812_5 : decode cJ4_append_bf812 5 = .ok (.pop, 1) := by decide +kernel
theorem dJ4_append_bf812_6 : decode cJ4_append_bf812 6 = .ok (.aload_n 0, 1) := by decide +kernel
theorem dJ4_append_bf812_7 : decode cJ4_append_bf812 7 = .ok (.areturn, 1) := by decide +kernel
def pe_J4_append_bf812 (l : Launch) (g : EG) : List (Nat × ES) := [(0, s_ldP 0), (1, s_ldI 1), (2, s_callU l g sg_J4_append_bf812 sg_J5_append_c97b9), (5, s_pop), (6, s_ldP 0), (7, s_aret)]
set_option maxRecDepth 100000 in
theorem oe_J4_append_bf812 {l : Launch} {g : EG} : e_okp l g sg_J4_append_bf812 "java/lang/StringBuilder" (pe_J4_append_bf812 l g) := fun p e R s m args below meth c ex M0 Q X =>
    e_each_cons (r_aload_n X (k := 0) (i := 0) rfl dJ4_append_bf812_0 rfl)
    (e_each_cons (r_iload_n X (k := 1) (i := 1) rfl dJ4_append_bf812_1 rfl)
    (e_each_cons (r_callSup X rfl (τ := sg_J5_append_c97b9) (index := 53) dJ4_append_bf812_2 zw5_30 zw6_223 zw4_163 zw5_31 cs_J5_append_c97b9 (by decide) rfl ⟨by decide, by decide⟩ rfl)
    (e_each_cons (r_pop X dJ4_append_bf812_5 rfl)
    (e_each_cons (r_aload_n X (k := 0) (i := 0) rfl dJ4_append_bf812_6 rfl)
    (e_each_cons (r_aret X dJ4_append_bf812_7 rfl)
    (e_each_nil))))))
def sg_J5_init_d00df : SG := (yJ5_init_d00df, cJ5_init_d00df, 2, none, 1, 20, 1, 64, 1, false, [])
theorem cs_J5_init_d00df : e_cs sg_J5_init_d00df := ⟨zw5_56, zw1_11, ⟨by decide, by decide⟩, by decide +kernel, rfl⟩
theorem mt_J5_init_d00df : e_mtF sg_J5_init_d00df "java/lang/AbstractStringBuilder" := ⟨rfl, by decide +kernel, rfl⟩
theorem dJ5_init_d00df_0 : decode cJ5_init_d00df 0 = .ok (.aload_n 0, 1) := by decide +kernel
theorem dJ5_init_d00df_1 : decode cJ5_init_d00df 1 = .ok (.invokespecial 3, 3) := by decide +kernel
theorem dJ5_init_d00df_4 : decode cJ5_init_d00df 4 = .ok (.getstatic 18, 3) := by decide +kernel
theorem dJ5_init_d00df_7 : decode cJ5_init_d00df 7 = .ok (.ifCond .eq 18, 3) := by decide +kernel
theorem dJ5_init_d00df_10 : decode cJ5_init_d00df 10 = .ok (.aload_n 0, 1) := by decide +kernel
theorem dJ5_init_d00df_11 : decode cJ5_init_d00df 11 = .ok (.iload_n 1, 1) := by decide +kernel
theorem dJ5_init_d00df_12 : decode cJ5_init_d00df 12 = .ok (.newarray .byte, 2) := by decide +kernel
theorem dJ5_init_d00df_14 : decode cJ5_init_d00df 14 = .ok (.putfield 15, 3) := by decide +kernel
theorem dJ5_init_d00df_17 : decode cJ5_init_d00df 17 = .ok (.aload_n 0, 1) := by decide +kernel
theorem dJ5_init_d00df_18 : decode cJ5_init_d00df 18 = .ok (.iconst 0, 1) := by decide +kernel
theorem dJ5_init_d00df_19 : decode cJ5_init_d00df 19 = .ok (.putfield 22, 3) := by decide +kernel
theorem dJ5_init_d00df_22 : decode cJ5_init_d00df 22 = .ok (.goto 16, 3) := by decide +kernel
theorem dJ5_init_d00df_38 : decode cJ5_init_d00df 38 = .ok (.return_, 1) := by decide +kernel
def pe_J5_init_d00df (l : Launch) (g : EG) : List (Nat × ES) := [(0, s_ldP 0), (1, s_oinit), (4, s_gcs), (7, s_if_eq 25), (10, s_ldP 0), (11, s_ldI 1), (12, s_newaD sg_J5_init_d00df), (14, s_putV 10), (17, s_ldP 0), (18, s_c (.inl 0)), (19, s_putI 10 1), (22, s_goto 38), (25, s_no), (26, s_no), (27, s_no), (30, s_no), (33, s_no), (34, s_no), (35, s_no), (38, s_vret)]
set_option maxRecDepth 100000 in
theorem oe_J5_init_d00df {l : Launch} {g : EG} : e_okp l g sg_J5_init_d00df "java/lang/AbstractStringBuilder" (pe_J5_init_d00df l g) := fun p e R s m args below meth c ex M0 Q X =>
    e_each_cons (r_aload_n X (k := 0) (i := 0) rfl dJ5_init_d00df_0 rfl)
    (e_each_cons (r_oinit X (index := 3) dJ5_init_d00df_1 zw4_140 zw1_37 zw1_38 ⟨by decide, by decide⟩ rfl)
    (e_each_cons (r_gcs X (index := 18) dJ5_init_d00df_4 zw4_202 rfl)
    (e_each_cons (r_if_eq X (off := 18) (t := 25) dJ5_init_d00df_7 (by decide) rfl)
    (e_each_cons (r_aload_n X (k := 0) (i := 0) rfl dJ5_init_d00df_10 rfl)
    (e_each_cons (r_iload_n X (k := 1) (i := 1) rfl dJ5_init_d00df_11 rfl)
    (e_each_cons (r_newaD X dJ5_init_d00df_12 zw1_210 rfl)
    (e_each_cons (r_putV X (index := 15) (ci := 10) dJ5_init_d00df_14 (Or.inl rfl) (Or.inl rfl) zw5_11 rfl)
    (e_each_cons (r_aload_n X (k := 0) (i := 0) rfl dJ5_init_d00df_17 rfl)
    (e_each_cons (r_iconst X (n := 0) (v := 0) dJ5_init_d00df_18 (by decide) rfl)
    (e_each_cons (r_putI X (index := 22) (ci := 10) (k := 1) dJ5_init_d00df_19 (by decide) (by decide) rfl rfl zw5_12 rfl)
    (e_each_cons (r_goto X (off := 16) (t := 38) dJ5_init_d00df_22 (by decide))
    (e_each_cons (r_no X)
    (e_each_cons (r_no X)
    (e_each_cons (r_no X)
    (e_each_cons (r_no X)
    (e_each_cons (r_no X)
    (e_each_cons (r_no X)
    (e_each_cons (r_no X)
    (e_each_cons (r_vret X dJ5_init_d00df_38 rfl)
    (e_each_nil))))))))))))))))))))
def sg_J4_init_da8c8 : SG := (yJ4_init_da8c8, cJ4_init_da8c8, 1, none, 2, 41, 1, 64, 0, false, [])
theorem cs_J4_init_da8c8 : e_cs sg_J4_init_da8c8 := ⟨zw5_53, zw1_12, ⟨by decide, by decide⟩, by decide +kernel, rfl⟩
theorem mt_J4_init_da8c8 : e_mtF sg_J4_init_da8c8 "java/lang/StringBuilder" := ⟨rfl, by decide +kernel, rfl⟩
theorem dJ4_init_da8c8_0 : decode cJ4_init_da8c8 0 = .ok (.aload_n 0, 1) := by decide +kernel
theorem dJ4_init_da8c8_1 : decode cJ4_init_da8c8 1 = .ok (.bipush 16, 2) := by decide +kernel
theorem dJ4_init_da8c8_3 : decode cJ4_init_da8c8 3 = .ok (.invokespecial 1, 3) := by decide +kernel
theorem dJ4_init_da8c8_6 : decode cJ4_init_da8c8 6 = .ok (.return_, 1) := by decide +kernel
def pe_J4_init_da8c8 (l : Launch) (g : EG) : List (Nat × ES) := [(0, s_ldP 0), (1, s_c (.inl 16)), (3, s_callIA l g sg_J4_init_da8c8 sg_J5_init_d00df), (6, s_vret)]
set_option maxRecDepth 100000 in
theorem oe_J4_init_da8c8 {l : Launch} {g : EG} : e_okp l g sg_J4_init_da8c8 "java/lang/StringBuilder" (pe_J4_init_da8c8 l g) := fun p e R s m args below meth c ex M0 Q X =>
    e_each_cons (r_aload_n X (k := 0) (i := 0) rfl dJ4_init_da8c8_0 rfl)
    (e_each_cons (r_bipush X (n := 16) (v := 16) dJ4_init_da8c8_1 (by decide) rfl)
    (e_each_cons (r_callIA X rfl (τ := sg_J5_init_d00df) (index := 1) dJ4_init_da8c8_3 zw5_54 zw5_55 cs_J5_init_d00df rfl rfl rfl ⟨by decide, by decide⟩ rfl)
    (e_each_cons (r_vret X dJ4_init_da8c8_6 rfl)
    (e_each_nil))))
def sg_J5_init_a7421 : SG := (yJ5_init_a7421, cJ5_init_a7421, 5, none, 7, 156, 2, 4160, 1, false, [])
theorem cs_J5_init_a7421 : e_cs sg_J5_init_a7421 := ⟨zw4_139, zw1_11, ⟨by decide, by decide⟩, by decide +kernel, rfl⟩
theorem mt_J5_init_a7421 : e_mtF sg_J5_init_a7421 "java/lang/AbstractStringBuilder" := ⟨rfl, by decide +kernel, rfl⟩
theorem dJ5_init_a7421_0 : decode cJ5_init_a7421 0 = .ok (.aload_n 0, 1) := by decide +kernel
theorem dJ5_init_a7421_1 : decode cJ5_init_a7421 1 = .ok (.invokespecial 3, 3) := by decide +kernel
theorem dJ5_init_a7421_4 : decode cJ5_init_a7421 4 = .ok (.aload_n 1, 1) := by decide +kernel
theorem dJ5_init_a7421_5 : decode cJ5_init_a7421 5 = .ok (.invokevirtual 32, 3) := by decide +kernel
theorem dJ5_init_a7421_8 : decode cJ5_init_a7421 8 = .ok (.istore_n 2, 1) := by decide +kernel
theorem dJ5_init_a7421_9 : decode cJ5_init_a7421 9 = .ok (.iload_n 2, 1) := by decide +kernel
theorem dJ5_init_a7421_10 : decode cJ5_init_a7421 10 = .ok (.ldc 38, 2) := by decide +kernel
theorem dJ5_init_a7421_12 : decode cJ5_init_a7421 12 = .ok (.if_icmp .ge 10, 3) := by decide +kernel
theorem dJ5_init_a7421_15 : decode cJ5_init_a7421 15 = .ok (.iload_n 2, 1) := by decide +kernel
theorem dJ5_init_a7421_16 : decode cJ5_init_a7421 16 = .ok (.bipush 16, 2) := by decide +kernel
theorem dJ5_init_a7421_18 : decode cJ5_init_a7421 18 = .ok (.iadd, 1) := by decide +kernel
theorem dJ5_init_a7421_19 : decode cJ5_init_a7421 19 = .ok (.goto 5, 3) := by decide +kernel
theorem dJ5_init_a7421_24 : decode cJ5_init_a7421 24 = .ok (.istore_n 3, 1) := by decide +kernel
theorem dJ5_init_a7421_25 : decode cJ5_init_a7421 25 = .ok (.aload_n 1, 1) := by decide +kernel
theorem dJ5_init_a7421_26 : decode cJ5_init_a7421 26 = .ok (.invokevirtual 40, 3) := by decide +kernel
theorem dJ5_init_a7421_29 : decode cJ5_init_a7421 29 = .ok (.istore 4, 2) := by decide +kernel
theorem dJ5_init_a7421_31 : decode cJ5_init_a7421 31 = .ok (.aload_n 0, 1) := by decide +kernel
theorem dJ5_init_a7421_32 : decode cJ5_init_a7421 32 = .ok (.iload 4, 2) := by decide +kernel
theorem dJ5_init_a7421_34 : decode cJ5_init_a7421 34 = .ok (.putfield 22, 3) := by decide +kernel
theorem dJ5_init_a7421_37 : decode cJ5_init_a7421 37 = .ok (.aload_n 0, 1) := by decide +kernel
theorem dJ5_init_a7421_38 : decode cJ5_init_a7421 38 = .ok (.iload 4, 2) := by decide +kernel
theorem dJ5_init_a7421_40 : decode cJ5_init_a7421 40 = .ok (.ifCond .ne 9, 3) := by decide +kernel
theorem dJ5_init_a7421_43 : decode cJ5_init_a7421 43 = .ok (.iload_n 3, 1) := by decide +kernel
theorem dJ5_init_a7421_44 : decode cJ5_init_a7421 44 = .ok (.newarray .byte, 2) := by decide +kernel
theorem dJ5_init_a7421_46 : decode cJ5_init_a7421 46 = .ok (.goto 7, 3) := by decide +kernel
theorem dJ5_init_a7421_53 : decode cJ5_init_a7421 53 = .ok (.putfield 15, 3) := by decide +kernel
theorem dJ5_init_a7421_56 : decode cJ5_init_a7421 56 = .ok (.aload_n 0, 1) := by decide +kernel
theorem dJ5_init_a7421_57 : decode cJ5_init_a7421 57 = .ok (.aload_n 1, 1) := by decide +kernel
theorem dJ5_init_a7421_58 : decode cJ5_init_a7421 58 = .ok (.invokevirtual 43, 3) := by decide +kernel
theorem dJ5_init_a7421_61 : decode cJ5_init_a7421 61 = .ok (.pop, 1) := by decide +kernel
theorem dJ5_init_a7421_62 : decode cJ5_init_a7421 62 = .ok (.return_, 1) := by decide +kernel
def pe_J5_init_a7421 (l : Launch) (g : EG) : List (Nat × ES) := [(0, s_ldP 0), (1, s_oinit), (4, s_ldP 1), (5, s_callE l g sg_J5_init_a7421 sg_J0_length_8abf5), (8, s_stI 2), (9, s_ldI 2), (10, s_c (.inl 2147483631)), (12, s_icmp_ge 22), (15, s_ldI 2), (16, s_c (.inl 16)), (18, s_ii (fun x y => x + y)), (19, s_goto 24), (22, s_no), (24, s_stI 3), (25, s_ldP 1), (26, s_callE l g sg_J5_init_a7421 sg_J0_coder_7d493), (29, s_stI 4), (31, s_ldP 0), (32, s_ldI 4), (34, s_putI 10 1), (37, s_ldP 0), (38, s_ldI 4), (40, s_if_ne 49), (43, s_ldI 3), (44, s_newaD sg_J5_init_a7421), (46, s_goto 53), (49, s_no), (50, s_no), (53, s_putV 10), (56, s_ldP 0), (57, s_ldP 1), (58, s_callU l g sg_J5_init_a7421 sg_J4_append_cf1ce), (61, s_pop), (62, s_vret)]
set_option maxRecDepth 100000 in
theorem oe_J5_init_a7421 {l : Launch} {g : EG} : e_okp l g sg_J5_init_a7421 "java/lang/AbstractStringBuilder" (pe_J5_init_a7421 l g) := fun p e R s m args below meth c ex M0 Q X =>
    e_each_cons (r_aload_n X (k := 0) (i := 0) rfl dJ5_init_a7421_0 rfl)
    (e_each_cons (r_oinit X (index := 3) dJ5_init_a7421_1 zw4_140 zw1_37 zw1_38 ⟨by decide, by decide⟩ rfl)
    (e_each_cons (r_aload_n X (k := 1) (i := 1) rfl dJ5_init_a7421_4 rfl)
    (e_each_cons (r_callE X rfl (τ := sg_J0_length_8abf5) (index := 32) dJ5_init_a7421_5 rfl zw4_141 zw3_112 zw3_113 cs_J0_length_8abf5 rfl ⟨by decide, by decide⟩ rfl)
    (e_each_cons (r_istore_n X (k := 2) (i := 2) rfl dJ5_init_a7421_8 (by decide) rfl)
    (e_each_cons (r_iload_n X (k := 2) (i := 2) rfl dJ5_init_a7421_9 rfl)
    (e_each_cons (r_ldc X (n := 38) (v := 2147483631) dJ5_init_a7421_10 zw4_142 rfl)
    (e_each_cons (r_icmp_ge X (off := 10) (t := 22) dJ5_init_a7421_12 (by decide) rfl)
    (e_each_cons (r_iload_n X (k := 2) (i := 2) rfl dJ5_init_a7421_15 rfl)
    (e_each_cons (r_bipush X (n := 16) (v := 16) dJ5_init_a7421_16 (by decide) rfl)
    (e_each_cons (r_iadd X dJ5_init_a7421_18 rfl)
    (e_each_cons (r_goto X (off := 5) (t := 24) dJ5_init_a7421_19 (by decide))
    (e_each_cons (r_no X)
    (e_each_cons (r_istore_n X (k := 3) (i := 3) rfl dJ5_init_a7421_24 (by decide) rfl)
    (e_each_cons (r_aload_n X (k := 1) (i := 1) rfl dJ5_init_a7421_25 rfl)
    (e_each_cons (r_callE X rfl (τ := sg_J0_coder_7d493) (index := 40) dJ5_init_a7421_26 rfl zw4_144 zw3_116 zw3_117 cs_J0_coder_7d493 rfl ⟨by decide, by decide⟩ rfl)
    (e_each_cons (r_istore X (i := 4) dJ5_init_a7421_29 (by decide) rfl)
    (e_each_cons (r_aload_n X (k := 0) (i := 0) rfl dJ5_init_a7421_31 rfl)
    (e_each_cons (r_iload X (i := 4) dJ5_init_a7421_32 rfl)
    (e_each_cons (r_putI X (index := 22) (ci := 10) (k := 1) dJ5_init_a7421_34 (by decide) (by decide) rfl rfl zw5_12 rfl)
    (e_each_cons (r_aload_n X (k := 0) (i := 0) rfl dJ5_init_a7421_37 rfl)
    (e_each_cons (r_iload X (i := 4) dJ5_init_a7421_38 rfl)
    (e_each_cons (r_if_ne X (off := 9) (t := 49) dJ5_init_a7421_40 (by decide) rfl)
    (e_each_cons (r_iload_n X (k := 3) (i := 3) rfl dJ5_init_a7421_43 rfl)
    (e_each_cons (r_newaD X dJ5_init_a7421_44 zw1_210 rfl)
    (e_each_cons (r_goto X (off := 7) (t := 53) dJ5_init_a7421_46 (by decide))
    (e_each_cons (r_no X)
    (e_each_cons (r_no X)
    (e_each_cons (r_putV X (index := 15) (ci := 10) dJ5_init_a7421_53 (Or.inl rfl) (Or.inl rfl) zw5_11 rfl)
    (e_each_cons (r_aload_n X (k := 0) (i := 0) rfl dJ5_init_a7421_56 rfl)
    (e_each_cons (r_aload_n X (k := 1) (i := 1) rfl dJ5_init_a7421_57 rfl)
    (e_each_cons (r_callU X rfl (τ := sg_J4_append_cf1ce) (x := ⟨"java/lang/AbstractStringBuilder", "append", "(Ljava/lang/String;)Ljava/lang/AbstractStringBuilder;"⟩) (owner := "java/lang/AbstractStringBuilder") (index := 43) dJ5_init_a7421_58 zw4_152 zw4_154 ⟨by decide, by decide⟩ zw4_153 zw4_164 (fun hts => hts _ zw4_155) zw4_156 cs_J4_append_cf1ce rfl rfl ⟨by decide, by decide⟩ rfl)
    (e_each_cons (r_pop X dJ5_init_a7421_61 rfl)
    (e_each_cons (r_vret X dJ5_init_a7421_62 rfl)
    (e_each_nil))))))))))))))))))))))))))))))))))
def sg_J4_init_a7421 : SG := (yJ4_init_a7421, cJ4_init_a7421, 2, none, 8, 180, 2, 4160, 1, false, [])
theorem cs_J4_init_a7421 : e_cs sg_J4_init_a7421 := ⟨zw4_136, zw1_12, ⟨by decide, by decide⟩, by decide +kernel, rfl⟩
theorem mt_J4_init_a7421 : e_mtF sg_J4_init_a7421 "java/lang/StringBuilder" := ⟨rfl, by decide +kernel, rfl⟩
theorem dJ4_init_a7421_0 : decode cJ4_init_a7421 0 = .ok (.aload_n 0, 1) := by decide +kernel
theorem dJ4_init_a7421_1 : decode cJ4_init_a7421 1 = .ok (.aload_n 1, 1) := by decide +kernel
theorem dJ4_init_a7421_2 : decode cJ4_init_a7421 2 = .ok (.invokespecial 7, 3) := by decide +kernel
theorem dJ4_init_a7421_5 : decode cJ4_init_a7421 5 = .ok (.return_, 1) := by decide +kernel
def pe_J4_init_a7421 (l : Launch) (g : EG) : List (Nat × ES) := [(0, s_ldP 0), (1, s_ldP 1), (2, s_callIA l g sg_J4_init_a7421 sg_J5_init_a7421), (5, s_vret)]
set_option maxRecDepth 100000 in
theorem oe_J4_init_a7421 {l : Launch} {g : EG} : e_okp l g sg_J4_init_a7421 "java/lang/StringBuilder" (pe_J4_init_a7421 l g) := fun p e R s m args below meth c ex M0 Q X =>
    e_each_cons (r_aload_n X (k := 0) (i := 0) rfl dJ4_init_a7421_0 rfl)
    (e_each_cons (r_aload_n X (k := 1) (i := 1) rfl dJ4_init_a7421_1 rfl)
    (e_each_cons (r_callIA X rfl (τ := sg_J5_init_a7421) (index := 7) dJ4_init_a7421_2 zw4_137 zw4_138 cs_J5_init_a7421 rfl rfl rfl ⟨by decide, by decide⟩ rfl)
    (e_each_cons (r_vret X dJ4_init_a7421_5 rfl)
    (e_each_nil))))
def sg_J0_init_db425 : SG := (yJ0_init_db425, cJ0_init_db425, 5, none, 3, 86, 1, 4096, 2, false, [])
theorem cs_J0_init_db425 : e_cs sg_J0_init_db425 := ⟨zw5_69, zw1_13, ⟨by decide, by decide⟩, by decide +kernel, rfl⟩
theorem mt_J0_init_db425 : e_mtF sg_J0_init_db425 "java/lang/String" := ⟨rfl, by decide +kernel, rfl⟩
theorem dJ0_init_db425_0 : decode cJ0_init_db425 0 = .ok (.aload_n 0, 1) := by decide +kernel
theorem dJ0_init_db425_1 : decode cJ0_init_db425 1 = .ok (.invokespecial 1, 3) := by decide +kernel
theorem dJ0_init_db425_4 : decode cJ0_init_db425 4 = .ok (.aload_n 1, 1) := by decide +kernel
theorem dJ0_init_db425_5 : decode cJ0_init_db425 5 = .ok (.invokevirtual 552, 3) := by decide +kernel
theorem dJ0_init_db425_8 : decode cJ0_init_db425 8 = .ok (.astore_n 3, 1) := by decide +kernel
theorem dJ0_init_db425_9 : decode cJ0_init_db425 9 = .ok (.aload_n 1, 1) := by decide +kernel
theorem dJ0_init_db425_10 : decode cJ0_init_db425 10 = .ok (.invokevirtual 549, 3) := by decide +kernel
theorem dJ0_init_db425_13 : decode cJ0_init_db425 13 = .ok (.istore 4, 2) := by decide +kernel
theorem dJ0_init_db425_15 : decode cJ0_init_db425 15 = .ok (.aload_n 1, 1) := by decide +kernel
theorem dJ0_init_db425_16 : decode cJ0_init_db425 16 = .ok (.invokevirtual 1047, 3) := by decide +kernel
theorem dJ0_init_db425_19 : decode cJ0_init_db425 19 = .ok (.ifCond .eq 22, 3) := by decide +kernel
theorem dJ0_init_db425_22 : decode cJ0_init_db425 22 = .ok (.aload_n 0, 1) := by decide +kernel
theorem dJ0_init_db425_23 : decode cJ0_init_db425 23 = .ok (.iconst 0, 1) := by decide +kernel
theorem dJ0_init_db425_24 : decode cJ0_init_db425 24 = .ok (.putfield 15, 3) := by decide +kernel
theorem dJ0_init_db425_27 : decode cJ0_init_db425 27 = .ok (.aload_n 0, 1) := by decide +kernel
theorem dJ0_init_db425_28 : decode cJ0_init_db425 28 = .ok (.aload_n 3, 1) := by decide +kernel
theorem dJ0_init_db425_29 : decode cJ0_init_db425 29 = .ok (.iconst 0, 1) := by decide +kernel
theorem dJ0_init_db425_30 : decode cJ0_init_db425 30 = .ok (.iload 4, 2) := by decide +kernel
theorem dJ0_init_db425_32 : decode cJ0_init_db425 32 = .ok (.invokestatic 54, 3) := by decide +kernel
theorem dJ0_init_db425_35 : decode cJ0_init_db425 35 = .ok (.putfield 9, 3) := by decide +kernel
theorem dJ0_init_db425_38 : decode cJ0_init_db425 38 = .ok (.goto 59, 3) := by decide +kernel
theorem dJ0_init_db425_97 : decode cJ0_init_db425 97 = .ok (.return_, 1) := by decide +kernel
def pe_J0_init_db425 (l : Launch) (g : EG) : List (Nat × ES) := [(0, s_ldP 0), (1, s_oinit), (4, s_ldP 1), (5, s_callU l g sg_J0_init_db425 sg_J5_getValue_6d5f1), (8, s_stP 3), (9, s_ldP 1), (10, s_callU l g sg_J0_init_db425 sg_J4_length_8abf5), (13, s_stI 4), (15, s_ldP 1), (16, s_callU l g sg_J0_init_db425 sg_J5_isLatin1_aae02), (19, s_if_eq 41), (22, s_ldP 0), (23, s_c (.inl 0)), (24, s_putI 11 1), (27, s_ldP 0), (28, s_ldP 3), (29, s_c (.inl 0)), (30, s_ldI 4), (32, s_callS l g sg_J0_init_db425 sg_J7_copyOfRange_39247), (35, s_putV 11), (38, s_goto 97), (41, s_no), (44, s_no), (47, s_no), (48, s_no), (51, s_no), (54, s_no), (55, s_no), (56, s_no), (57, s_no), (59, s_no), (62, s_no), (65, s_no), (66, s_no), (67, s_no), (70, s_no), (72, s_no), (75, s_no), (78, s_no), (79, s_no), (80, s_no), (81, s_no), (84, s_no), (85, s_no), (86, s_no), (87, s_no), (89, s_no), (90, s_no), (91, s_no), (94, s_no), (97, s_vret)]
set_option maxRecDepth 100000 in
theorem oe_J0_init_db425 {l : Launch} {g : EG} : e_okp l g sg_J0_init_db425 "java/lang/String" (pe_J0_init_db425 l g) := fun p e R s m args below meth c ex M0 Q X =>
    e_each_cons (r_aload_n X (k := 0) (i := 0) rfl dJ0_init_db425_0 rfl)
    (e_each_cons (r_oinit X (index := 1) dJ0_init_db425_1 zw5_70 zw1_37 zw1_38 ⟨by decide, by decide⟩ rfl)
    (e_each_cons (r_aload_n X (k := 1) (i := 1) rfl dJ0_init_db425_4 rfl)
    (e_each_cons (r_callU X rfl (τ := sg_J5_getValue_6d5f1) (x := ⟨"java/lang/AbstractStringBuilder", "getValue", "()[B"⟩) (owner := "java/lang/AbstractStringBuilder") (index := 552) dJ0_init_db425_5 zw5_71 zw5_73 ⟨by decide, by decide⟩ zw5_72 zw5_75 (fun hts => hts _ zw5_74) zw5_72 cs_J5_getValue_6d5f1 rfl rfl ⟨by decide, by decide⟩ rfl)
    (e_each_cons (r_astore_n X (k := 3) (i := 3) rfl dJ0_init_db425_8 (by decide) rfl)
    (e_each_cons (r_aload_n X (k := 1) (i := 1) rfl dJ0_init_db425_9 rfl)
    (e_each_cons (r_callU X rfl (τ := sg_J4_length_8abf5) (x := ⟨"java/lang/AbstractStringBuilder", "length", "()I"⟩) (owner := "java/lang/AbstractStringBuilder") (index := 549) dJ0_init_db425_10 zw5_76 zw5_78 ⟨by decide, by decide⟩ zw5_77 zw5_83 (fun hts => hts _ zw5_79) zw5_80 cs_J4_length_8abf5 rfl rfl ⟨by decide, by decide⟩ rfl)
    (e_each_cons (r_istore X (i := 4) dJ0_init_db425_13 (by decide) rfl)
    (e_each_cons (r_aload_n X (k := 1) (i := 1) rfl dJ0_init_db425_15 rfl)
    (e_each_cons (r_callU X rfl (τ := sg_J5_isLatin1_aae02) (x := ⟨"java/lang/AbstractStringBuilder", "isLatin1", "()Z"⟩) (owner := "java/lang/AbstractStringBuilder") (index := 1047) dJ0_init_db425_16 zw5_84 zw4_199 ⟨by decide, by decide⟩ zw4_198 zw4_201 (fun hts => hts _ zw4_200) zw4_198 cs_J5_isLatin1_aae02 rfl rfl ⟨by decide, by decide⟩ rfl)
    (e_each_cons (r_if_eq X (off := 22) (t := 41) dJ0_init_db425_19 (by decide) rfl)
    (e_each_cons (r_aload_n X (k := 0) (i := 0) rfl dJ0_init_db425_22 rfl)
    (e_each_cons (r_iconst X (n := 0) (v := 0) dJ0_init_db425_23 (by decide) rfl)
    (e_each_cons (r_putIF X (index := 15) (ci := 11) (k := 1) dJ0_init_db425_24 (by decide) (by decide) rfl ⟨rfl, rfl, rfl⟩ zw5_105 rfl)
    (e_each_cons (r_aload_n X (k := 0) (i := 0) rfl dJ0_init_db425_27 rfl)
    (e_each_cons (r_aload_n X (k := 3) (i := 3) rfl dJ0_init_db425_28 rfl)
    (e_each_cons (r_iconst X (n := 0) (v := 0) dJ0_init_db425_29 (by decide) rfl)
    (e_each_cons (r_iload X (i := 4) dJ0_init_db425_30 rfl)
    (e_each_cons (r_callS X rfl (τ := sg_J7_copyOfRange_39247) (index := 54) dJ0_init_db425_32 zw5_85 zw5_86 cs_J7_copyOfRange_39247 rfl ⟨by decide, by decide⟩ rfl)
    (e_each_cons (r_putV X (index := 9) (ci := 11) dJ0_init_db425_35 (Or.inr rfl) (Or.inr ⟨rfl, rfl, rfl⟩) zw5_104 rfl)
    (e_each_cons (r_goto X (off := 59) (t := 97) dJ0_init_db425_38 (by decide))
    (e_each_cons (r_no X)
    (e_each_cons (r_no X)
    (e_each_cons (r_no X)
    (e_each_cons (r_no X)
    (e_each_cons (r_no X)
    (e_each_cons (r_no X)
    (e_each_cons (r_no X)
    (e_each_cons (r_no X)
    (e_each_cons (r_no X)
    (e_each_cons (r_no X)
    (e_each_cons (r_no X)
    (e_each_cons (r_no X)
    (e_each_cons (r_no X)
    (e_each_cons (r_no X)
    (e_each_cons (r_no X)
    (e_each_cons (r_no X)
    (e_each_cons (r_no X)
    (e_each_cons (r_no X)
    (e_each_cons (r_no X)
    (e_each_cons (r_no X)
    (e_each_cons (r_no X)
    (e_each_cons (r_no X)
    (e_each_cons (r_no X)
    (e_each_cons (r_no X)
    (e_each_cons (r_no X)
    (e_each_cons (r_no X)
    (e_each_cons (r_no X)
    (e_each_cons (r_no X)
    (e_each_cons (r_no X)
    (e_each_cons (r_vret X dJ0_init_db425_97 rfl)
    (e_each_nil)))))))))))))))))))))))))))))))))))))))))))))))))))
def sg_J0_init_81219 : SG := (yJ0_init_81219, cJ0_init_81219, 2, none, 4, 110, 1, 4096, 1, false, [])
theorem cs_J0_init_81219 : e_cs sg_J0_init_81219 := ⟨zw5_66, zw1_13, ⟨by decide, by decide⟩, by decide +kernel, rfl⟩
theorem mt_J0_init_81219 : e_mtF sg_J0_init_81219 "java/lang/String" := ⟨rfl, by decide +kernel, rfl⟩
theorem dJ0_init_81219_0 : decode cJ0_init_81219 0 = .ok (.aload_n 0, 1) := by decide +kernel
theorem dJ0_init_81219_1 : decode cJ0_init_81219 1 = .ok (.aload_n 1, 1) := by decide +kernel
theorem dJ0_init_81219_3 : decode cJ0_init_81219 3 = .ok (.invokespecial 489, 3) := by decide +kernel
theorem dJ0_init_81219_2 : decode cJ0_init_81219 2 = .ok (.aconst_null, 1) := by decide +kernel
theorem dJ0_init_81219_6 : decode cJ0_init_81219 6 = .ok (.return_, 1) := by decide +kernel
def pe_J0_init_81219 (l : Launch) (g : EG) : List (Nat × ES) := [(0, s_ldP 0), (1, s_ldP 1), (2, s_initN l g sg_J0_init_81219 sg_J0_init_db425), (6, s_vret)]
set_option maxRecDepth 100000 in
theorem oe_J0_init_81219 {l : Launch} {g : EG} : e_okp l g sg_J0_init_81219 "java/lang/String" (pe_J0_init_81219 l g) := fun p e R s m args below meth c ex M0 Q X =>
    e_each_cons (r_aload_n X (k := 0) (i := 0) rfl dJ0_init_81219_0 rfl)
    (e_each_cons (r_aload_n X (k := 1) (i := 1) rfl dJ0_init_81219_1 rfl)
    (e_each_cons (r_initN X rfl (τ := sg_J0_init_db425) (index := 489) dJ0_init_81219_2 dJ0_init_81219_3 zw5_67 zw5_68 cs_J0_init_db425 rfl rfl rfl rfl ⟨by decide, by decide⟩ rfl)
    (e_each_cons (r_vret X dJ0_init_81219_6 rfl)
    (e_each_nil))))
def sg_J4_toString_0e30d : SG := (yJ4_toString_0e30d, cJ4_toString_0e30d, 1, (some (.object "java/lang/String")), 5, 131, 2, 4100, 0, false, [])
theorem cs_J4_toString_0e30d : e_cs sg_J4_toString_0e30d := ⟨zw5_61, zw1_12, ⟨by decide, by decide⟩, by decide +kernel, rfl⟩
theorem mt_J4_toString_0e30d : e_mtF sg_J4_toString_0e30d "java/lang/StringBuilder" := ⟨rfl, by decide +kernel, rfl⟩
theorem dJ4_toString_0e30d_0 : decode cJ4_toString_0e30d 0 = .ok (.new 18, 3) := by decide +kernel
theorem dJ4_toString_0e30d_3 : decode cJ4_toString_0e30d 3 = .ok (.dup, 1) := by decide +kernel
theorem dJ4_toString_0e30d_4 : decode cJ4_toString_0e30d 4 = .ok (.aload_n 0, 1) := by decide +kernel
theorem dJ4_toString_0e30d_5 : decode cJ4_toString_0e30d 5 = .ok (.invokespecial 137, 3) := by decide +kernel
theorem dJ4_toString_0e30d_8 : decode cJ4_toString_0e30d 8 = .ok (.areturn, 1) := by decide +kernel
def pe_J4_toString_0e30d (l : Launch) (g : EG) : List (Nat × ES) := [(0, s_new sg_J4_toString_0e30d 11 56), (3, s_dup), (4, s_ldP 0), (5, s_callIA l g sg_J4_toString_0e30d sg_J0_init_81219), (8, s_aret)]
set_option maxRecDepth 100000 in
theorem oe_J4_toString_0e30d {l : Launch} {g : EG} : e_okp l g sg_J4_toString_0e30d "java/lang/StringBuilder" (pe_J4_toString_0e30d l g) := fun p e R s m args below meth c ex M0 Q X =>
    e_each_cons (r_new X (index := 18) (ci := 11) (t := 56) dJ4_toString_0e30d_0 (by decide) rfl (fun _ => rfl) zw5_62 zw5_63 zw1_13 uw_11 rfl)
    (e_each_cons (r_dup X dJ4_toString_0e30d_3 rfl)
    (e_each_cons (r_aload_n X (k := 0) (i := 0) rfl dJ4_toString_0e30d_4 rfl)
    (e_each_cons (r_callIA X rfl (τ := sg_J0_init_81219) (index := 137) dJ4_toString_0e30d_5 zw5_64 zw5_65 cs_J0_init_81219 rfl rfl rfl ⟨by decide, by decide⟩ rfl)
    (e_each_cons (r_aret X dJ4_toString_0e30d_8 rfl)
    (e_each_nil)))))
