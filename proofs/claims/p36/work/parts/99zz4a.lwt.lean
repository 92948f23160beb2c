/-! TABLES (by program): the law's methods. -/
def e_passP (own E : String) : List ExceptionTableEntry → List String → Prop
  | z :: zs, n :: ns => ((z.catchType ≠ 0) ∧ Cond.classLink own z.catchType n ∈ e_good ∧ (E, n) ∈ e_nc) ∧ e_passP own E zs ns
  | [], _ => True
  | _ :: _, [] => False
theorem e_pass {own E : String} {pc : Nat} : ∀ {L : List ExceptionTableEntry} {ns : List String}, e_passP own E L ns → ∀ z ∈ L, covers z pc = false ∨ (z.catchType ≠ 0 ∧ ∃ nm : String, Cond.classLink own z.catchType nm ∈ e_good ∧ (E, nm) ∈ e_nc)
  | [], _, _, _, hz => nomatch hz
  | z :: zs, n :: ns, h, y, hy => by
    rcases List.mem_cons.mp hy with rfl | hy
    · exact Or.inr ⟨h.1.1, n, h.1.2.1, h.1.2.2⟩
    · exact e_pass h.2 y hy
theorem yw1_0 : (Jvm.Cond.initialized "CalendarSyncLaw") ∈ e_good := List.mem_filter.mpr ⟨tm_1 _ (List.mem_of_getElem? (i := 0) rfl), rfl⟩
theorem yw1_12 : (Jvm.Cond.initialized "java/lang/StringBuilder") ∈ e_good := List.mem_filter.mpr ⟨tm_1 _ (List.mem_of_getElem? (i := 12) rfl), rfl⟩
theorem yw1_31 : (Jvm.Cond.classLink "CalendarSyncLaw" (19 : Nat) "CalendarSync") ∈ e_good := List.mem_filter.mpr ⟨tm_1 _ (List.mem_of_getElem? (i := 31) rfl), rfl⟩
theorem yw1_32 : (Jvm.Cond.instantiable "CalendarSync" (6 : Nat)) ∈ e_good := List.mem_filter.mpr ⟨tm_1 _ (List.mem_of_getElem? (i := 32) rfl), rfl⟩
theorem yw1_33 : (Jvm.Cond.methodLink "CalendarSyncLaw" (185 : Nat) ({ cls := "CalendarSync", name := "<init>", desc := "()V" } : Jvm.MethodName)) ∈ e_good := List.mem_filter.mpr ⟨tm_1 _ (List.mem_of_getElem? (i := 33) rfl), rfl⟩
theorem yw1_34 : (Jvm.Cond.instanceMethod ({ cls := "CalendarSync", name := "<init>", desc := "()V" } : Jvm.MethodName)) ∈ e_good := List.mem_filter.mpr ⟨tm_1 _ (List.mem_of_getElem? (i := 34) rfl), rfl⟩
theorem yw2_118 : (Jvm.Cond.methodLink "CalendarSyncLaw" (142 : Nat) ({ cls := "CalendarSync", name := "events", desc := "(I)I" } : Jvm.MethodName)) ∈ e_good := List.mem_filter.mpr ⟨tm_2 _ (List.mem_of_getElem? (i := 118) rfl), rfl⟩
theorem yw2_119 : (Jvm.Cond.instanceMethod ({ cls := "CalendarSync", name := "events", desc := "(I)I" } : Jvm.MethodName)) ∈ e_good := List.mem_filter.mpr ⟨tm_2 _ (List.mem_of_getElem? (i := 119) rfl), rfl⟩
theorem yw2_120 : (Jvm.Cond.selects "CalendarSync" ({ cls := "CalendarSync", name := "events", desc := "(I)I" } : Jvm.MethodName) ({ cls := "CalendarSync", name := "events", desc := "(I)I" } : Jvm.MethodName)) ∈ e_good := List.mem_filter.mpr ⟨tm_2 _ (List.mem_of_getElem? (i := 120) rfl), rfl⟩
theorem yw2_204 : (Jvm.Cond.methodLink "CalendarSyncLaw" (191 : Nat) ({ cls := "CalendarSync", name := "isSame", desc := "(I)Z" } : Jvm.MethodName)) ∈ e_good := List.mem_filter.mpr ⟨tm_2 _ (List.mem_of_getElem? (i := 204) rfl), rfl⟩
theorem yw2_205 : (Jvm.Cond.instanceMethod ({ cls := "CalendarSync", name := "isSame", desc := "(I)Z" } : Jvm.MethodName)) ∈ e_good := List.mem_filter.mpr ⟨tm_2 _ (List.mem_of_getElem? (i := 205) rfl), rfl⟩
theorem yw2_206 : (Jvm.Cond.selects "CalendarSync" ({ cls := "CalendarSync", name := "isSame", desc := "(I)Z" } : Jvm.MethodName) ({ cls := "CalendarSync", name := "isSame", desc := "(I)Z" } : Jvm.MethodName)) ∈ e_good := List.mem_filter.mpr ⟨tm_2 _ (List.mem_of_getElem? (i := 206) rfl), rfl⟩
theorem yw3_100 : (Jvm.Cond.methodLink "CalendarSyncLaw" (50 : Nat) ({ cls := "CalendarSyncLaw", name := "next", desc := "([I)I" } : Jvm.MethodName)) ∈ e_good := List.mem_filter.mpr ⟨tm_3 _ (List.mem_of_getElem? (i := 100) rfl), rfl⟩
theorem yw3_101 : (Jvm.Cond.static ({ cls := "CalendarSyncLaw", name := "next", desc := "([I)I" } : Jvm.MethodName)) ∈ e_good := List.mem_filter.mpr ⟨tm_3 _ (List.mem_of_getElem? (i := 101) rfl), rfl⟩
theorem yw3_102 : (Jvm.Cond.code ({ cls := "CalendarSyncLaw", name := "next", desc := "([I)I" } : Jvm.MethodName) method_2_code (1 : Nat) (Option.some Jvm.ClassFile.FieldType.int)) ∈ e_good := List.mem_filter.mpr ⟨tm_3 _ (List.mem_of_getElem? (i := 102) rfl), rfl⟩
theorem yw3_103 : (Jvm.Cond.constant "CalendarSyncLaw" (7 : Nat) (1103515245 : Int32)) ∈ e_good := List.mem_filter.mpr ⟨tm_3 _ (List.mem_of_getElem? (i := 103) rfl), rfl⟩
theorem yw3_104 : (Jvm.Cond.methodLink "CalendarSyncLaw" (189 : Nat) ({ cls := "CalendarSyncLaw", name := "load", desc := "(LCalendarSync;Ljava/lang/String;)I" } : Jvm.MethodName)) ∈ e_good := List.mem_filter.mpr ⟨tm_3 _ (List.mem_of_getElem? (i := 104) rfl), rfl⟩
theorem yw3_105 : (Jvm.Cond.static ({ cls := "CalendarSyncLaw", name := "load", desc := "(LCalendarSync;Ljava/lang/String;)I" } : Jvm.MethodName)) ∈ e_good := List.mem_filter.mpr ⟨tm_3 _ (List.mem_of_getElem? (i := 105) rfl), rfl⟩
theorem yw3_106 : (Jvm.Cond.codeWith ({ cls := "CalendarSyncLaw", name := "load", desc := "(LCalendarSync;Ljava/lang/String;)I" } : Jvm.MethodName) method_4_code (4 : Nat) (Option.some Jvm.ClassFile.FieldType.int) [((6 : Nat), (11 : Nat), (12 : Nat), (34 : Nat))]) ∈ e_good := List.mem_filter.mpr ⟨tm_3 _ (List.mem_of_getElem? (i := 106) rfl), rfl⟩
theorem yw3_107 : (Jvm.Cond.classLink "CalendarSyncLaw" (34 : Nat) "java/lang/IllegalStateException") ∈ e_good := List.mem_filter.mpr ⟨tm_3 _ (List.mem_of_getElem? (i := 107) rfl), rfl⟩
theorem yw3_108 : (Jvm.Cond.methodLink "CalendarSyncLaw" (24 : Nat) ({ cls := "CalendarSyncLaw", name := "type", desc := "(LCalendarSync;Ljava/lang/String;)I" } : Jvm.MethodName)) ∈ e_good := List.mem_filter.mpr ⟨tm_3 _ (List.mem_of_getElem? (i := 108) rfl), rfl⟩
theorem yw3_109 : (Jvm.Cond.static ({ cls := "CalendarSyncLaw", name := "type", desc := "(LCalendarSync;Ljava/lang/String;)I" } : Jvm.MethodName)) ∈ e_good := List.mem_filter.mpr ⟨tm_3 _ (List.mem_of_getElem? (i := 109) rfl), rfl⟩
theorem yw3_110 : (Jvm.Cond.code ({ cls := "CalendarSyncLaw", name := "type", desc := "(LCalendarSync;Ljava/lang/String;)I" } : Jvm.MethodName) method_3_code (5 : Nat) (Option.some Jvm.ClassFile.FieldType.int)) ∈ e_good := List.mem_filter.mpr ⟨tm_3 _ (List.mem_of_getElem? (i := 110) rfl), rfl⟩
theorem yw3_111 : (Jvm.Cond.methodLink "CalendarSyncLaw" (8 : Nat) ({ cls := "java/lang/String", name := "length", desc := "()I" } : Jvm.MethodName)) ∈ e_good := List.mem_filter.mpr ⟨tm_3 _ (List.mem_of_getElem? (i := 111) rfl), rfl⟩
theorem yw3_112 : (Jvm.Cond.instanceMethod ({ cls := "java/lang/String", name := "length", desc := "()I" } : Jvm.MethodName)) ∈ e_good := List.mem_filter.mpr ⟨tm_3 _ (List.mem_of_getElem? (i := 112) rfl), rfl⟩
theorem yw3_113 : (Jvm.Cond.selects "java/lang/String" ({ cls := "java/lang/String", name := "length", desc := "()I" } : Jvm.MethodName) ({ cls := "java/lang/String", name := "length", desc := "()I" } : Jvm.MethodName)) ∈ e_good := List.mem_filter.mpr ⟨tm_3 _ (List.mem_of_getElem? (i := 113) rfl), rfl⟩
theorem yw3_121 : (Jvm.Cond.methodLink "CalendarSyncLaw" (14 : Nat) ({ cls := "java/lang/String", name := "charAt", desc := "(I)C" } : Jvm.MethodName)) ∈ e_good := List.mem_filter.mpr ⟨tm_3 _ (List.mem_of_getElem? (i := 121) rfl), rfl⟩
theorem yw3_122 : (Jvm.Cond.instanceMethod ({ cls := "java/lang/String", name := "charAt", desc := "(I)C" } : Jvm.MethodName)) ∈ e_good := List.mem_filter.mpr ⟨tm_3 _ (List.mem_of_getElem? (i := 122) rfl), rfl⟩
theorem yw3_123 : (Jvm.Cond.selects "java/lang/String" ({ cls := "java/lang/String", name := "charAt", desc := "(I)C" } : Jvm.MethodName) ({ cls := "java/lang/String", name := "charAt", desc := "(I)C" } : Jvm.MethodName)) ∈ e_good := List.mem_filter.mpr ⟨tm_3 _ (List.mem_of_getElem? (i := 123) rfl), rfl⟩
theorem yw3_159 : (Jvm.Cond.methodLink "CalendarSyncLaw" (18 : Nat) ({ cls := "CalendarSync", name := "feed", desc := "(IIIII)I" } : Jvm.MethodName)) ∈ e_good := List.mem_filter.mpr ⟨tm_3 _ (List.mem_of_getElem? (i := 159) rfl), rfl⟩
theorem yw3_160 : (Jvm.Cond.instanceMethod ({ cls := "CalendarSync", name := "feed", desc := "(IIIII)I" } : Jvm.MethodName)) ∈ e_good := List.mem_filter.mpr ⟨tm_3 _ (List.mem_of_getElem? (i := 160) rfl), rfl⟩
theorem yw3_161 : (Jvm.Cond.selects "CalendarSync" ({ cls := "CalendarSync", name := "feed", desc := "(IIIII)I" } : Jvm.MethodName) ({ cls := "CalendarSync", name := "feed", desc := "(IIIII)I" } : Jvm.MethodName)) ∈ e_good := List.mem_filter.mpr ⟨tm_3 _ (List.mem_of_getElem? (i := 161) rfl), rfl⟩
theorem yw3_186 : (Jvm.Cond.methodLink "CalendarSyncLaw" (30 : Nat) ({ cls := "CalendarSync", name := "load", desc := "(I)I" } : Jvm.MethodName)) ∈ e_good := List.mem_filter.mpr ⟨tm_3 _ (List.mem_of_getElem? (i := 186) rfl), rfl⟩
theorem yw3_187 : (Jvm.Cond.instanceMethod ({ cls := "CalendarSync", name := "load", desc := "(I)I" } : Jvm.MethodName)) ∈ e_good := List.mem_filter.mpr ⟨tm_3 _ (List.mem_of_getElem? (i := 187) rfl), rfl⟩
theorem yw3_188 : (Jvm.Cond.selects "CalendarSync" ({ cls := "CalendarSync", name := "load", desc := "(I)I" } : Jvm.MethodName) ({ cls := "CalendarSync", name := "load", desc := "(I)I" } : Jvm.MethodName)) ∈ e_good := List.mem_filter.mpr ⟨tm_3 _ (List.mem_of_getElem? (i := 188) rfl), rfl⟩
theorem yw3_20 : (Jvm.Cond.methodLink "CalendarSyncLaw" (134 : Nat) ({ cls := "CalendarSync", name := "clock", desc := "()I" } : Jvm.MethodName)) ∈ e_good := List.mem_filter.mpr ⟨tm_3 _ (List.mem_of_getElem? (i := 20) rfl), rfl⟩
theorem yw3_21 : (Jvm.Cond.instanceMethod ({ cls := "CalendarSync", name := "clock", desc := "()I" } : Jvm.MethodName)) ∈ e_good := List.mem_filter.mpr ⟨tm_3 _ (List.mem_of_getElem? (i := 21) rfl), rfl⟩
theorem yw3_22 : (Jvm.Cond.selects "CalendarSync" ({ cls := "CalendarSync", name := "clock", desc := "()I" } : Jvm.MethodName) ({ cls := "CalendarSync", name := "clock", desc := "()I" } : Jvm.MethodName)) ∈ e_good := List.mem_filter.mpr ⟨tm_3 _ (List.mem_of_getElem? (i := 22) rfl), rfl⟩
theorem yw3_24 : (Jvm.Cond.methodLink "CalendarSyncLaw" (156 : Nat) ({ cls := "CalendarSync", name := "side", desc := "(II)I" } : Jvm.MethodName)) ∈ e_good := List.mem_filter.mpr ⟨tm_3 _ (List.mem_of_getElem? (i := 24) rfl), rfl⟩
theorem yw3_25 : (Jvm.Cond.instanceMethod ({ cls := "CalendarSync", name := "side", desc := "(II)I" } : Jvm.MethodName)) ∈ e_good := List.mem_filter.mpr ⟨tm_3 _ (List.mem_of_getElem? (i := 25) rfl), rfl⟩
theorem yw3_26 : (Jvm.Cond.selects "CalendarSync" ({ cls := "CalendarSync", name := "side", desc := "(II)I" } : Jvm.MethodName) ({ cls := "CalendarSync", name := "side", desc := "(II)I" } : Jvm.MethodName)) ∈ e_good := List.mem_filter.mpr ⟨tm_3 _ (List.mem_of_getElem? (i := 26) rfl), rfl⟩
theorem yw3_39 : (Jvm.Cond.methodLink "CalendarSyncLaw" (195 : Nat) ({ cls := "CalendarSync", name := "keep", desc := "(I)I" } : Jvm.MethodName)) ∈ e_good := List.mem_filter.mpr ⟨tm_3 _ (List.mem_of_getElem? (i := 39) rfl), rfl⟩
theorem yw3_40 : (Jvm.Cond.instanceMethod ({ cls := "CalendarSync", name := "keep", desc := "(I)I" } : Jvm.MethodName)) ∈ e_good := List.mem_filter.mpr ⟨tm_3 _ (List.mem_of_getElem? (i := 40) rfl), rfl⟩
theorem yw3_41 : (Jvm.Cond.selects "CalendarSync" ({ cls := "CalendarSync", name := "keep", desc := "(I)I" } : Jvm.MethodName) ({ cls := "CalendarSync", name := "keep", desc := "(I)I" } : Jvm.MethodName)) ∈ e_good := List.mem_filter.mpr ⟨tm_3 _ (List.mem_of_getElem? (i := 41) rfl), rfl⟩
theorem yw3_73 : (Jvm.Cond.methodLink "CalendarSyncLaw" (218 : Nat) ({ cls := "CalendarSync", name := "restore", desc := "(I)I" } : Jvm.MethodName)) ∈ e_good := List.mem_filter.mpr ⟨tm_3 _ (List.mem_of_getElem? (i := 73) rfl), rfl⟩
theorem yw3_74 : (Jvm.Cond.instanceMethod ({ cls := "CalendarSync", name := "restore", desc := "(I)I" } : Jvm.MethodName)) ∈ e_good := List.mem_filter.mpr ⟨tm_3 _ (List.mem_of_getElem? (i := 74) rfl), rfl⟩
theorem yw3_75 : (Jvm.Cond.selects "CalendarSync" ({ cls := "CalendarSync", name := "restore", desc := "(I)I" } : Jvm.MethodName) ({ cls := "CalendarSync", name := "restore", desc := "(I)I" } : Jvm.MethodName)) ∈ e_good := List.mem_filter.mpr ⟨tm_3 _ (List.mem_of_getElem? (i := 75) rfl), rfl⟩
theorem yw4_128 : (Jvm.Cond.methodLink "CalendarSyncLaw" (186 : Nat) ({ cls := "CalendarSyncLaw", name := "calendar", desc := "([I)Ljava/lang/String;" } : Jvm.MethodName)) ∈ e_good := List.mem_filter.mpr ⟨tm_4 _ (List.mem_of_getElem? (i := 128) rfl), rfl⟩
theorem yw4_129 : (Jvm.Cond.static ({ cls := "CalendarSyncLaw", name := "calendar", desc := "([I)Ljava/lang/String;" } : Jvm.MethodName)) ∈ e_good := List.mem_filter.mpr ⟨tm_4 _ (List.mem_of_getElem? (i := 129) rfl), rfl⟩
theorem yw4_130 : (Jvm.Cond.code ({ cls := "CalendarSyncLaw", name := "calendar", desc := "([I)Ljava/lang/String;" } : Jvm.MethodName) method_6_code (3 : Nat) (Option.some (Jvm.ClassFile.FieldType.object "java/lang/String"))) ∈ e_good := List.mem_filter.mpr ⟨tm_4 _ (List.mem_of_getElem? (i := 130) rfl), rfl⟩
theorem yw4_131 : (Jvm.Cond.classLink "CalendarSyncLaw" (54 : Nat) "java/lang/StringBuilder") ∈ e_good := List.mem_filter.mpr ⟨tm_4 _ (List.mem_of_getElem? (i := 131) rfl), rfl⟩
theorem yw4_132 : (Jvm.Cond.instantiable "java/lang/StringBuilder" (4 : Nat)) ∈ e_good := List.mem_filter.mpr ⟨tm_4 _ (List.mem_of_getElem? (i := 132) rfl), rfl⟩
theorem yw4_134 : (Jvm.Cond.methodLink "CalendarSyncLaw" (84 : Nat) ({ cls := "java/lang/StringBuilder", name := "<init>", desc := "(Ljava/lang/String;)V" } : Jvm.MethodName)) ∈ e_good := List.mem_filter.mpr ⟨tm_4 _ (List.mem_of_getElem? (i := 134) rfl), rfl⟩
theorem yw4_135 : (Jvm.Cond.instanceMethod ({ cls := "java/lang/StringBuilder", name := "<init>", desc := "(Ljava/lang/String;)V" } : Jvm.MethodName)) ∈ e_good := List.mem_filter.mpr ⟨tm_4 _ (List.mem_of_getElem? (i := 135) rfl), rfl⟩
theorem yw4_159 : (Jvm.Cond.instanceMethod ({ cls := "java/lang/StringBuilder", name := "append", desc := "(Ljava/lang/String;)Ljava/lang/StringBuilder;" } : Jvm.MethodName)) ∈ e_good := List.mem_filter.mpr ⟨tm_4 _ (List.mem_of_getElem? (i := 159) rfl), rfl⟩
theorem yw4_160 : (Jvm.Cond.selects "java/lang/StringBuilder" ({ cls := "java/lang/StringBuilder", name := "append", desc := "(Ljava/lang/String;)Ljava/lang/StringBuilder;" } : Jvm.MethodName) ({ cls := "java/lang/StringBuilder", name := "append", desc := "(Ljava/lang/String;)Ljava/lang/StringBuilder;" } : Jvm.MethodName)) ∈ e_good := List.mem_filter.mpr ⟨tm_4 _ (List.mem_of_getElem? (i := 160) rfl), rfl⟩
theorem yw5_117 : (Jvm.Cond.methodLink "CalendarSyncLaw" (95 : Nat) ({ cls := "java/lang/StringBuilder", name := "append", desc := "(C)Ljava/lang/StringBuilder;" } : Jvm.MethodName)) ∈ e_good := List.mem_filter.mpr ⟨tm_5 _ (List.mem_of_getElem? (i := 117) rfl), rfl⟩
theorem yw5_118 : (Jvm.Cond.instanceMethod ({ cls := "java/lang/StringBuilder", name := "append", desc := "(C)Ljava/lang/StringBuilder;" } : Jvm.MethodName)) ∈ e_good := List.mem_filter.mpr ⟨tm_5 _ (List.mem_of_getElem? (i := 118) rfl), rfl⟩
theorem yw5_119 : (Jvm.Cond.selects "java/lang/StringBuilder" ({ cls := "java/lang/StringBuilder", name := "append", desc := "(C)Ljava/lang/StringBuilder;" } : Jvm.MethodName) ({ cls := "java/lang/StringBuilder", name := "append", desc := "(C)Ljava/lang/StringBuilder;" } : Jvm.MethodName)) ∈ e_good := List.mem_filter.mpr ⟨tm_5 _ (List.mem_of_getElem? (i := 119) rfl), rfl⟩
theorem yw5_130 : (Jvm.Cond.methodLink "CalendarSyncLaw" (98 : Nat) ({ cls := "CalendarSyncLaw", name := "rule", desc := "([I)Ljava/lang/String;" } : Jvm.MethodName)) ∈ e_good := List.mem_filter.mpr ⟨tm_5 _ (List.mem_of_getElem? (i := 130) rfl), rfl⟩
theorem yw5_131 : (Jvm.Cond.static ({ cls := "CalendarSyncLaw", name := "rule", desc := "([I)Ljava/lang/String;" } : Jvm.MethodName)) ∈ e_good := List.mem_filter.mpr ⟨tm_5 _ (List.mem_of_getElem? (i := 131) rfl), rfl⟩
theorem yw5_132 : (Jvm.Cond.code ({ cls := "CalendarSyncLaw", name := "rule", desc := "([I)Ljava/lang/String;" } : Jvm.MethodName) method_5_code (3 : Nat) (Option.some (Jvm.ClassFile.FieldType.object "java/lang/String"))) ∈ e_good := List.mem_filter.mpr ⟨tm_5 _ (List.mem_of_getElem? (i := 132) rfl), rfl⟩
theorem yw5_133 : (Jvm.Cond.classLink "CalendarSyncLaw" (9 : Nat) "java/lang/String") ∈ e_good := List.mem_filter.mpr ⟨tm_5 _ (List.mem_of_getElem? (i := 133) rfl), rfl⟩
theorem yw5_148 : (Jvm.Cond.methodLink "CalendarSyncLaw" (210 : Nat) ({ cls := "CalendarSyncLaw", name := "undone", desc := "(LCalendarSync;)I" } : Jvm.MethodName)) ∈ e_good := List.mem_filter.mpr ⟨tm_5 _ (List.mem_of_getElem? (i := 148) rfl), rfl⟩
theorem yw5_149 : (Jvm.Cond.static ({ cls := "CalendarSyncLaw", name := "undone", desc := "(LCalendarSync;)I" } : Jvm.MethodName)) ∈ e_good := List.mem_filter.mpr ⟨tm_5 _ (List.mem_of_getElem? (i := 149) rfl), rfl⟩
theorem yw5_150 : (Jvm.Cond.codeWith ({ cls := "CalendarSyncLaw", name := "undone", desc := "(LCalendarSync;)I" } : Jvm.MethodName) method_7_code (2 : Nat) (Option.some Jvm.ClassFile.FieldType.int) [((0 : Nat), (4 : Nat), (5 : Nat), (34 : Nat))]) ∈ e_good := List.mem_filter.mpr ⟨tm_5 _ (List.mem_of_getElem? (i := 150) rfl), rfl⟩
theorem yw5_151 : (Jvm.Cond.methodLink "CalendarSyncLaw" (102 : Nat) ({ cls := "CalendarSync", name := "undo", desc := "()I" } : Jvm.MethodName)) ∈ e_good := List.mem_filter.mpr ⟨tm_5 _ (List.mem_of_getElem? (i := 151) rfl), rfl⟩
theorem yw5_152 : (Jvm.Cond.instanceMethod ({ cls := "CalendarSync", name := "undo", desc := "()I" } : Jvm.MethodName)) ∈ e_good := List.mem_filter.mpr ⟨tm_5 _ (List.mem_of_getElem? (i := 152) rfl), rfl⟩
theorem yw5_153 : (Jvm.Cond.selects "CalendarSync" ({ cls := "CalendarSync", name := "undo", desc := "()I" } : Jvm.MethodName) ({ cls := "CalendarSync", name := "undo", desc := "()I" } : Jvm.MethodName)) ∈ e_good := List.mem_filter.mpr ⟨tm_5 _ (List.mem_of_getElem? (i := 153) rfl), rfl⟩
theorem yw5_160 : (Jvm.Cond.methodLink "CalendarSyncLaw" (202 : Nat) ({ cls := "CalendarSyncLaw", name := "sum", desc := "(LCalendarSync;)J" } : Jvm.MethodName)) ∈ e_good := List.mem_filter.mpr ⟨tm_5 _ (List.mem_of_getElem? (i := 160) rfl), rfl⟩
theorem yw5_161 : (Jvm.Cond.static ({ cls := "CalendarSyncLaw", name := "sum", desc := "(LCalendarSync;)J" } : Jvm.MethodName)) ∈ e_good := List.mem_filter.mpr ⟨tm_5 _ (List.mem_of_getElem? (i := 161) rfl), rfl⟩
theorem yw5_162 : (Jvm.Cond.code ({ cls := "CalendarSyncLaw", name := "sum", desc := "(LCalendarSync;)J" } : Jvm.MethodName) method_14_code (7 : Nat) (Option.some Jvm.ClassFile.FieldType.long)) ∈ e_good := List.mem_filter.mpr ⟨tm_5 _ (List.mem_of_getElem? (i := 162) rfl), rfl⟩
theorem yw5_163 : (Jvm.Cond.constantLong "CalendarSyncLaw" (137 : Nat) (31 : Int64)) ∈ e_good := List.mem_filter.mpr ⟨tm_5 _ (List.mem_of_getElem? (i := 163) rfl), rfl⟩
theorem yw5_164 : (Jvm.Cond.methodLink "CalendarSyncLaw" (139 : Nat) ({ cls := "CalendarSync", name := "zone", desc := "(III)I" } : Jvm.MethodName)) ∈ e_good := List.mem_filter.mpr ⟨tm_5 _ (List.mem_of_getElem? (i := 164) rfl), rfl⟩
theorem yw5_165 : (Jvm.Cond.instanceMethod ({ cls := "CalendarSync", name := "zone", desc := "(III)I" } : Jvm.MethodName)) ∈ e_good := List.mem_filter.mpr ⟨tm_5 _ (List.mem_of_getElem? (i := 165) rfl), rfl⟩
theorem yw5_166 : (Jvm.Cond.selects "CalendarSync" ({ cls := "CalendarSync", name := "zone", desc := "(III)I" } : Jvm.MethodName) ({ cls := "CalendarSync", name := "zone", desc := "(III)I" } : Jvm.MethodName)) ∈ e_good := List.mem_filter.mpr ⟨tm_5 _ (List.mem_of_getElem? (i := 166) rfl), rfl⟩
theorem yw5_191 : (Jvm.Cond.methodLink "CalendarSyncLaw" (145 : Nat) ({ cls := "CalendarSync", name := "event", desc := "(III)I" } : Jvm.MethodName)) ∈ e_good := List.mem_filter.mpr ⟨tm_5 _ (List.mem_of_getElem? (i := 191) rfl), rfl⟩
theorem yw5_192 : (Jvm.Cond.instanceMethod ({ cls := "CalendarSync", name := "event", desc := "(III)I" } : Jvm.MethodName)) ∈ e_good := List.mem_filter.mpr ⟨tm_5 _ (List.mem_of_getElem? (i := 192) rfl), rfl⟩
theorem yw5_193 : (Jvm.Cond.selects "CalendarSync" ({ cls := "CalendarSync", name := "event", desc := "(III)I" } : Jvm.MethodName) ({ cls := "CalendarSync", name := "event", desc := "(III)I" } : Jvm.MethodName)) ∈ e_good := List.mem_filter.mpr ⟨tm_5 _ (List.mem_of_getElem? (i := 193) rfl), rfl⟩
theorem yw5_202 : (Jvm.Cond.methodLink "CalendarSyncLaw" (148 : Nat) ({ cls := "CalendarSync", name := "date", desc := "(IIII)I" } : Jvm.MethodName)) ∈ e_good := List.mem_filter.mpr ⟨tm_5 _ (List.mem_of_getElem? (i := 202) rfl), rfl⟩
theorem yw5_203 : (Jvm.Cond.instanceMethod ({ cls := "CalendarSync", name := "date", desc := "(IIII)I" } : Jvm.MethodName)) ∈ e_good := List.mem_filter.mpr ⟨tm_5 _ (List.mem_of_getElem? (i := 203) rfl), rfl⟩
theorem yw5_204 : (Jvm.Cond.selects "CalendarSync" ({ cls := "CalendarSync", name := "date", desc := "(IIII)I" } : Jvm.MethodName) ({ cls := "CalendarSync", name := "date", desc := "(IIII)I" } : Jvm.MethodName)) ∈ e_good := List.mem_filter.mpr ⟨tm_5 _ (List.mem_of_getElem? (i := 204) rfl), rfl⟩
theorem yw5_224 : (Jvm.Cond.methodLink "CalendarSyncLaw" (151 : Nat) ({ cls := "CalendarSync", name := "answer", desc := "(III)I" } : Jvm.MethodName)) ∈ e_good := List.mem_filter.mpr ⟨tm_5 _ (List.mem_of_getElem? (i := 224) rfl), rfl⟩
theorem yw5_225 : (Jvm.Cond.instanceMethod ({ cls := "CalendarSync", name := "answer", desc := "(III)I" } : Jvm.MethodName)) ∈ e_good := List.mem_filter.mpr ⟨tm_5 _ (List.mem_of_getElem? (i := 225) rfl), rfl⟩
theorem yw5_226 : (Jvm.Cond.selects "CalendarSync" ({ cls := "CalendarSync", name := "answer", desc := "(III)I" } : Jvm.MethodName) ({ cls := "CalendarSync", name := "answer", desc := "(III)I" } : Jvm.MethodName)) ∈ e_good := List.mem_filter.mpr ⟨tm_5 _ (List.mem_of_getElem? (i := 226) rfl), rfl⟩
theorem yw5_228 : (Jvm.Cond.constantLong "CalendarSyncLaw" (154 : Nat) (7 : Int64)) ∈ e_good := List.mem_filter.mpr ⟨tm_5 _ (List.mem_of_getElem? (i := 228) rfl), rfl⟩
theorem yw5_229 : (Jvm.Cond.constantLong "CalendarSyncLaw" (159 : Nat) (3 : Int64)) ∈ e_good := List.mem_filter.mpr ⟨tm_5 _ (List.mem_of_getElem? (i := 229) rfl), rfl⟩
theorem yw5_230 : (Jvm.Cond.methodLink "CalendarSyncLaw" (161 : Nat) ({ cls := "CalendarSync", name := "account", desc := "(II)I" } : Jvm.MethodName)) ∈ e_good := List.mem_filter.mpr ⟨tm_5 _ (List.mem_of_getElem? (i := 230) rfl), rfl⟩
theorem yw5_231 : (Jvm.Cond.instanceMethod ({ cls := "CalendarSync", name := "account", desc := "(II)I" } : Jvm.MethodName)) ∈ e_good := List.mem_filter.mpr ⟨tm_5 _ (List.mem_of_getElem? (i := 231) rfl), rfl⟩
theorem yw5_232 : (Jvm.Cond.selects "CalendarSync" ({ cls := "CalendarSync", name := "account", desc := "(II)I" } : Jvm.MethodName) ({ cls := "CalendarSync", name := "account", desc := "(II)I" } : Jvm.MethodName)) ∈ e_good := List.mem_filter.mpr ⟨tm_5 _ (List.mem_of_getElem? (i := 232) rfl), rfl⟩
theorem yw5_234 : (Jvm.Cond.methodLink "CalendarSyncLaw" (198 : Nat) ({ cls := "CalendarSyncLaw", name := "place", desc := "(LCalendarSync;I[I)Z" } : Jvm.MethodName)) ∈ e_good := List.mem_filter.mpr ⟨tm_5 _ (List.mem_of_getElem? (i := 234) rfl), rfl⟩
theorem yw5_235 : (Jvm.Cond.static ({ cls := "CalendarSyncLaw", name := "place", desc := "(LCalendarSync;I[I)Z" } : Jvm.MethodName)) ∈ e_good := List.mem_filter.mpr ⟨tm_5 _ (List.mem_of_getElem? (i := 235) rfl), rfl⟩
theorem yw5_236 : (Jvm.Cond.code ({ cls := "CalendarSyncLaw", name := "place", desc := "(LCalendarSync;I[I)Z" } : Jvm.MethodName) method_15_code (13 : Nat) (Option.some Jvm.ClassFile.FieldType.boolean)) ∈ e_good := List.mem_filter.mpr ⟨tm_5 _ (List.mem_of_getElem? (i := 236) rfl), rfl⟩
theorem yw5_237 : (Jvm.Cond.methodLink "CalendarSyncLaw" (164 : Nat) ({ cls := "CalendarSync", name := "moment", desc := "(IIII)I" } : Jvm.MethodName)) ∈ e_good := List.mem_filter.mpr ⟨tm_5 _ (List.mem_of_getElem? (i := 237) rfl), rfl⟩
theorem yw5_238 : (Jvm.Cond.instanceMethod ({ cls := "CalendarSync", name := "moment", desc := "(IIII)I" } : Jvm.MethodName)) ∈ e_good := List.mem_filter.mpr ⟨tm_5 _ (List.mem_of_getElem? (i := 238) rfl), rfl⟩
theorem yw5_239 : (Jvm.Cond.selects "CalendarSync" ({ cls := "CalendarSync", name := "moment", desc := "(IIII)I" } : Jvm.MethodName) ({ cls := "CalendarSync", name := "moment", desc := "(IIII)I" } : Jvm.MethodName)) ∈ e_good := List.mem_filter.mpr ⟨tm_5 _ (List.mem_of_getElem? (i := 239) rfl), rfl⟩
theorem yw5_25 : (Jvm.Cond.methodLink "CalendarSyncLaw" (59 : Nat) ({ cls := "java/lang/StringBuilder", name := "append", desc := "(Ljava/lang/String;)Ljava/lang/StringBuilder;" } : Jvm.MethodName)) ∈ e_good := List.mem_filter.mpr ⟨tm_5 _ (List.mem_of_getElem? (i := 25) rfl), rfl⟩
theorem yw5_26 : (Jvm.Cond.methodLink "CalendarSyncLaw" (63 : Nat) ({ cls := "java/lang/StringBuilder", name := "append", desc := "(I)Ljava/lang/StringBuilder;" } : Jvm.MethodName)) ∈ e_good := List.mem_filter.mpr ⟨tm_5 _ (List.mem_of_getElem? (i := 26) rfl), rfl⟩
theorem yw5_27 : (Jvm.Cond.instanceMethod ({ cls := "java/lang/StringBuilder", name := "append", desc := "(I)Ljava/lang/StringBuilder;" } : Jvm.MethodName)) ∈ e_good := List.mem_filter.mpr ⟨tm_5 _ (List.mem_of_getElem? (i := 27) rfl), rfl⟩
theorem yw5_28 : (Jvm.Cond.selects "java/lang/StringBuilder" ({ cls := "java/lang/StringBuilder", name := "append", desc := "(I)Ljava/lang/StringBuilder;" } : Jvm.MethodName) ({ cls := "java/lang/StringBuilder", name := "append", desc := "(I)Ljava/lang/StringBuilder;" } : Jvm.MethodName)) ∈ e_good := List.mem_filter.mpr ⟨tm_5 _ (List.mem_of_getElem? (i := 28) rfl), rfl⟩
theorem yw5_51 : (Jvm.Cond.methodLink "CalendarSyncLaw" (56 : Nat) ({ cls := "java/lang/StringBuilder", name := "<init>", desc := "()V" } : Jvm.MethodName)) ∈ e_good := List.mem_filter.mpr ⟨tm_5 _ (List.mem_of_getElem? (i := 51) rfl), rfl⟩
theorem yw5_52 : (Jvm.Cond.instanceMethod ({ cls := "java/lang/StringBuilder", name := "<init>", desc := "()V" } : Jvm.MethodName)) ∈ e_good := List.mem_filter.mpr ⟨tm_5 _ (List.mem_of_getElem? (i := 52) rfl), rfl⟩
theorem yw5_58 : (Jvm.Cond.methodLink "CalendarSyncLaw" (68 : Nat) ({ cls := "java/lang/StringBuilder", name := "toString", desc := "()Ljava/lang/String;" } : Jvm.MethodName)) ∈ e_good := List.mem_filter.mpr ⟨tm_5 _ (List.mem_of_getElem? (i := 58) rfl), rfl⟩
theorem yw5_59 : (Jvm.Cond.instanceMethod ({ cls := "java/lang/StringBuilder", name := "toString", desc := "()Ljava/lang/String;" } : Jvm.MethodName)) ∈ e_good := List.mem_filter.mpr ⟨tm_5 _ (List.mem_of_getElem? (i := 59) rfl), rfl⟩
theorem yw5_60 : (Jvm.Cond.selects "java/lang/StringBuilder" ({ cls := "java/lang/StringBuilder", name := "toString", desc := "()Ljava/lang/String;" } : Jvm.MethodName) ({ cls := "java/lang/StringBuilder", name := "toString", desc := "()Ljava/lang/String;" } : Jvm.MethodName)) ∈ e_good := List.mem_filter.mpr ⟨tm_5 _ (List.mem_of_getElem? (i := 60) rfl), rfl⟩
theorem yw6_10 : (Jvm.Cond.instanceMethod ({ cls := "CalendarSync", name := "day", desc := "(II)I" } : Jvm.MethodName)) ∈ e_good := List.mem_filter.mpr ⟨tm_6 _ (List.mem_of_getElem? (i := 10) rfl), rfl⟩
theorem yw6_11 : (Jvm.Cond.selects "CalendarSync" ({ cls := "CalendarSync", name := "day", desc := "(II)I" } : Jvm.MethodName) ({ cls := "CalendarSync", name := "day", desc := "(II)I" } : Jvm.MethodName)) ∈ e_good := List.mem_filter.mpr ⟨tm_6 _ (List.mem_of_getElem? (i := 11) rfl), rfl⟩
theorem yw6_125 : (Jvm.Cond.methodLink "CalendarSyncLaw" (227 : Nat) ({ cls := "CalendarSync", name := "pull", desc := "(I)I" } : Jvm.MethodName)) ∈ e_good := List.mem_filter.mpr ⟨tm_6 _ (List.mem_of_getElem? (i := 125) rfl), rfl⟩
theorem yw6_126 : (Jvm.Cond.instanceMethod ({ cls := "CalendarSync", name := "pull", desc := "(I)I" } : Jvm.MethodName)) ∈ e_good := List.mem_filter.mpr ⟨tm_6 _ (List.mem_of_getElem? (i := 126) rfl), rfl⟩
theorem yw6_127 : (Jvm.Cond.selects "CalendarSync" ({ cls := "CalendarSync", name := "pull", desc := "(I)I" } : Jvm.MethodName) ({ cls := "CalendarSync", name := "pull", desc := "(I)I" } : Jvm.MethodName)) ∈ e_good := List.mem_filter.mpr ⟨tm_6 _ (List.mem_of_getElem? (i := 127) rfl), rfl⟩
theorem yw6_136 : (Jvm.Cond.methodLink "CalendarSyncLaw" (230 : Nat) ({ cls := "CalendarSync", name := "sync", desc := "(I)I" } : Jvm.MethodName)) ∈ e_good := List.mem_filter.mpr ⟨tm_6 _ (List.mem_of_getElem? (i := 136) rfl), rfl⟩
theorem yw6_137 : (Jvm.Cond.instanceMethod ({ cls := "CalendarSync", name := "sync", desc := "(I)I" } : Jvm.MethodName)) ∈ e_good := List.mem_filter.mpr ⟨tm_6 _ (List.mem_of_getElem? (i := 137) rfl), rfl⟩
theorem yw6_138 : (Jvm.Cond.selects "CalendarSync" ({ cls := "CalendarSync", name := "sync", desc := "(I)I" } : Jvm.MethodName) ({ cls := "CalendarSync", name := "sync", desc := "(I)I" } : Jvm.MethodName)) ∈ e_good := List.mem_filter.mpr ⟨tm_6 _ (List.mem_of_getElem? (i := 138) rfl), rfl⟩
theorem yw6_140 : (Jvm.Cond.methodLink "CalendarSyncLaw" (206 : Nat) ({ cls := "CalendarSyncLaw", name := "act", desc := "(LCalendarSync;[I)Z" } : Jvm.MethodName)) ∈ e_good := List.mem_filter.mpr ⟨tm_6 _ (List.mem_of_getElem? (i := 140) rfl), rfl⟩
theorem yw6_141 : (Jvm.Cond.static ({ cls := "CalendarSyncLaw", name := "act", desc := "(LCalendarSync;[I)Z" } : Jvm.MethodName)) ∈ e_good := List.mem_filter.mpr ⟨tm_6 _ (List.mem_of_getElem? (i := 141) rfl), rfl⟩
theorem yw6_142 : (Jvm.Cond.code ({ cls := "CalendarSyncLaw", name := "act", desc := "(LCalendarSync;[I)Z" } : Jvm.MethodName) method_18_code (4 : Nat) (Option.some Jvm.ClassFile.FieldType.boolean)) ∈ e_good := List.mem_filter.mpr ⟨tm_6 _ (List.mem_of_getElem? (i := 142) rfl), rfl⟩
theorem yw6_143 : (Jvm.Cond.methodLink "CalendarSyncLaw" (233 : Nat) ({ cls := "CalendarSyncLaw", name := "made", desc := "(LCalendarSync;IIIIII)I" } : Jvm.MethodName)) ∈ e_good := List.mem_filter.mpr ⟨tm_6 _ (List.mem_of_getElem? (i := 143) rfl), rfl⟩
theorem yw6_144 : (Jvm.Cond.static ({ cls := "CalendarSyncLaw", name := "made", desc := "(LCalendarSync;IIIIII)I" } : Jvm.MethodName)) ∈ e_good := List.mem_filter.mpr ⟨tm_6 _ (List.mem_of_getElem? (i := 144) rfl), rfl⟩
theorem yw6_145 : (Jvm.Cond.codeWith ({ cls := "CalendarSyncLaw", name := "made", desc := "(LCalendarSync;IIIIII)I" } : Jvm.MethodName) method_8_code (8 : Nat) (Option.some Jvm.ClassFile.FieldType.int) [((0 : Nat), (13 : Nat), (14 : Nat), (34 : Nat))]) ∈ e_good := List.mem_filter.mpr ⟨tm_6 _ (List.mem_of_getElem? (i := 145) rfl), rfl⟩
theorem yw6_146 : (Jvm.Cond.methodLink "CalendarSyncLaw" (105 : Nat) ({ cls := "CalendarSync", name := "create", desc := "(IIIIII)I" } : Jvm.MethodName)) ∈ e_good := List.mem_filter.mpr ⟨tm_6 _ (List.mem_of_getElem? (i := 146) rfl), rfl⟩
theorem yw6_147 : (Jvm.Cond.instanceMethod ({ cls := "CalendarSync", name := "create", desc := "(IIIIII)I" } : Jvm.MethodName)) ∈ e_good := List.mem_filter.mpr ⟨tm_6 _ (List.mem_of_getElem? (i := 147) rfl), rfl⟩
theorem yw6_148 : (Jvm.Cond.selects "CalendarSync" ({ cls := "CalendarSync", name := "create", desc := "(IIIIII)I" } : Jvm.MethodName) ({ cls := "CalendarSync", name := "create", desc := "(IIIIII)I" } : Jvm.MethodName)) ∈ e_good := List.mem_filter.mpr ⟨tm_6 _ (List.mem_of_getElem? (i := 148) rfl), rfl⟩
theorem yw6_156 : (Jvm.Cond.methodLink "CalendarSyncLaw" (237 : Nat) ({ cls := "CalendarSyncLaw", name := "repeated", desc := "(LCalendarSync;IIIIII)I" } : Jvm.MethodName)) ∈ e_good := List.mem_filter.mpr ⟨tm_6 _ (List.mem_of_getElem? (i := 156) rfl), rfl⟩
theorem yw6_157 : (Jvm.Cond.static ({ cls := "CalendarSyncLaw", name := "repeated", desc := "(LCalendarSync;IIIIII)I" } : Jvm.MethodName)) ∈ e_good := List.mem_filter.mpr ⟨tm_6 _ (List.mem_of_getElem? (i := 157) rfl), rfl⟩
theorem yw6_158 : (Jvm.Cond.codeWith ({ cls := "CalendarSyncLaw", name := "repeated", desc := "(LCalendarSync;IIIIII)I" } : Jvm.MethodName) method_9_code (8 : Nat) (Option.some Jvm.ClassFile.FieldType.int) [((0 : Nat), (13 : Nat), (14 : Nat), (112 : Nat))]) ∈ e_good := List.mem_filter.mpr ⟨tm_6 _ (List.mem_of_getElem? (i := 158) rfl), rfl⟩
theorem yw6_159 : (Jvm.Cond.classLink "CalendarSyncLaw" (112 : Nat) "java/util/NoSuchElementException") ∈ e_good := List.mem_filter.mpr ⟨tm_6 _ (List.mem_of_getElem? (i := 159) rfl), rfl⟩
theorem yw6_160 : (Jvm.Cond.methodLink "CalendarSyncLaw" (109 : Nat) ({ cls := "CalendarSync", name := "repeat", desc := "(IIIIII)I" } : Jvm.MethodName)) ∈ e_good := List.mem_filter.mpr ⟨tm_6 _ (List.mem_of_getElem? (i := 160) rfl), rfl⟩
theorem yw6_161 : (Jvm.Cond.instanceMethod ({ cls := "CalendarSync", name := "repeat", desc := "(IIIIII)I" } : Jvm.MethodName)) ∈ e_good := List.mem_filter.mpr ⟨tm_6 _ (List.mem_of_getElem? (i := 161) rfl), rfl⟩
theorem yw6_162 : (Jvm.Cond.selects "CalendarSync" ({ cls := "CalendarSync", name := "repeat", desc := "(IIIIII)I" } : Jvm.MethodName) ({ cls := "CalendarSync", name := "repeat", desc := "(IIIIII)I" } : Jvm.MethodName)) ∈ e_good := List.mem_filter.mpr ⟨tm_6 _ (List.mem_of_getElem? (i := 162) rfl), rfl⟩
theorem yw6_165 : (Jvm.Cond.methodLink "CalendarSyncLaw" (240 : Nat) ({ cls := "CalendarSyncLaw", name := "cancelled", desc := "(LCalendarSync;III)I" } : Jvm.MethodName)) ∈ e_good := List.mem_filter.mpr ⟨tm_6 _ (List.mem_of_getElem? (i := 165) rfl), rfl⟩
theorem yw6_166 : (Jvm.Cond.static ({ cls := "CalendarSyncLaw", name := "cancelled", desc := "(LCalendarSync;III)I" } : Jvm.MethodName)) ∈ e_good := List.mem_filter.mpr ⟨tm_6 _ (List.mem_of_getElem? (i := 166) rfl), rfl⟩
theorem yw6_167 : (Jvm.Cond.codeWith ({ cls := "CalendarSyncLaw", name := "cancelled", desc := "(LCalendarSync;III)I" } : Jvm.MethodName) method_10_code (5 : Nat) (Option.some Jvm.ClassFile.FieldType.int) [((0 : Nat), (7 : Nat), (8 : Nat), (112 : Nat)), ((0 : Nat), (7 : Nat), (13 : Nat), (118 : Nat))]) ∈ e_good := List.mem_filter.mpr ⟨tm_6 _ (List.mem_of_getElem? (i := 167) rfl), rfl⟩
theorem yw6_168 : (Jvm.Cond.classLink "CalendarSyncLaw" (118 : Nat) "java/lang/IndexOutOfBoundsException") ∈ e_good := List.mem_filter.mpr ⟨tm_6 _ (List.mem_of_getElem? (i := 168) rfl), rfl⟩
theorem yw6_169 : (Jvm.Cond.methodLink "CalendarSyncLaw" (114 : Nat) ({ cls := "CalendarSync", name := "cancel", desc := "(III)I" } : Jvm.MethodName)) ∈ e_good := List.mem_filter.mpr ⟨tm_6 _ (List.mem_of_getElem? (i := 169) rfl), rfl⟩
theorem yw6_17 : (Jvm.Cond.constant "CalendarSyncLaw" (125 : Nat) (-2147483648 : Int32)) ∈ e_good := List.mem_filter.mpr ⟨tm_6 _ (List.mem_of_getElem? (i := 17) rfl), rfl⟩
theorem yw6_170 : (Jvm.Cond.instanceMethod ({ cls := "CalendarSync", name := "cancel", desc := "(III)I" } : Jvm.MethodName)) ∈ e_good := List.mem_filter.mpr ⟨tm_6 _ (List.mem_of_getElem? (i := 170) rfl), rfl⟩
theorem yw6_171 : (Jvm.Cond.selects "CalendarSync" ({ cls := "CalendarSync", name := "cancel", desc := "(III)I" } : Jvm.MethodName) ({ cls := "CalendarSync", name := "cancel", desc := "(III)I" } : Jvm.MethodName)) ∈ e_good := List.mem_filter.mpr ⟨tm_6 _ (List.mem_of_getElem? (i := 171) rfl), rfl⟩
theorem yw6_174 : (Jvm.Cond.methodLink "CalendarSyncLaw" (244 : Nat) ({ cls := "CalendarSyncLaw", name := "moved", desc := "(LCalendarSync;IIIII)I" } : Jvm.MethodName)) ∈ e_good := List.mem_filter.mpr ⟨tm_6 _ (List.mem_of_getElem? (i := 174) rfl), rfl⟩
theorem yw6_175 : (Jvm.Cond.static ({ cls := "CalendarSyncLaw", name := "moved", desc := "(LCalendarSync;IIIII)I" } : Jvm.MethodName)) ∈ e_good := List.mem_filter.mpr ⟨tm_6 _ (List.mem_of_getElem? (i := 175) rfl), rfl⟩
theorem yw6_176 : (Jvm.Cond.codeWith ({ cls := "CalendarSyncLaw", name := "moved", desc := "(LCalendarSync;IIIII)I" } : Jvm.MethodName) method_11_code (7 : Nat) (Option.some Jvm.ClassFile.FieldType.int) [((0 : Nat), (11 : Nat), (12 : Nat), (112 : Nat)), ((0 : Nat), (11 : Nat), (17 : Nat), (118 : Nat))]) ∈ e_good := List.mem_filter.mpr ⟨tm_6 _ (List.mem_of_getElem? (i := 176) rfl), rfl⟩
theorem yw6_177 : (Jvm.Cond.methodLink "CalendarSyncLaw" (120 : Nat) ({ cls := "CalendarSync", name := "move", desc := "(IIIII)I" } : Jvm.MethodName)) ∈ e_good := List.mem_filter.mpr ⟨tm_6 _ (List.mem_of_getElem? (i := 177) rfl), rfl⟩
theorem yw6_178 : (Jvm.Cond.instanceMethod ({ cls := "CalendarSync", name := "move", desc := "(IIIII)I" } : Jvm.MethodName)) ∈ e_good := List.mem_filter.mpr ⟨tm_6 _ (List.mem_of_getElem? (i := 178) rfl), rfl⟩
theorem yw6_179 : (Jvm.Cond.selects "CalendarSync" ({ cls := "CalendarSync", name := "move", desc := "(IIIII)I" } : Jvm.MethodName) ({ cls := "CalendarSync", name := "move", desc := "(IIIII)I" } : Jvm.MethodName)) ∈ e_good := List.mem_filter.mpr ⟨tm_6 _ (List.mem_of_getElem? (i := 179) rfl), rfl⟩
theorem yw6_18 : (Jvm.Cond.constant "CalendarSyncLaw" (170 : Nat) (2147483647 : Int32)) ∈ e_good := List.mem_filter.mpr ⟨tm_6 _ (List.mem_of_getElem? (i := 18) rfl), rfl⟩
theorem yw6_182 : (Jvm.Cond.methodLink "CalendarSyncLaw" (248 : Nat) ({ cls := "CalendarSyncLaw", name := "replied", desc := "(LCalendarSync;IIII)I" } : Jvm.MethodName)) ∈ e_good := List.mem_filter.mpr ⟨tm_6 _ (List.mem_of_getElem? (i := 182) rfl), rfl⟩
theorem yw6_183 : (Jvm.Cond.static ({ cls := "CalendarSyncLaw", name := "replied", desc := "(LCalendarSync;IIII)I" } : Jvm.MethodName)) ∈ e_good := List.mem_filter.mpr ⟨tm_6 _ (List.mem_of_getElem? (i := 183) rfl), rfl⟩
theorem yw6_184 : (Jvm.Cond.codeWith ({ cls := "CalendarSyncLaw", name := "replied", desc := "(LCalendarSync;IIII)I" } : Jvm.MethodName) method_12_code (6 : Nat) (Option.some Jvm.ClassFile.FieldType.int) [((0 : Nat), (9 : Nat), (10 : Nat), (112 : Nat)), ((0 : Nat), (9 : Nat), (15 : Nat), (118 : Nat))]) ∈ e_good := List.mem_filter.mpr ⟨tm_6 _ (List.mem_of_getElem? (i := 184) rfl), rfl⟩
theorem yw6_185 : (Jvm.Cond.methodLink "CalendarSyncLaw" (126 : Nat) ({ cls := "CalendarSync", name := "reply", desc := "(IIII)I" } : Jvm.MethodName)) ∈ e_good := List.mem_filter.mpr ⟨tm_6 _ (List.mem_of_getElem? (i := 185) rfl), rfl⟩
theorem yw6_186 : (Jvm.Cond.instanceMethod ({ cls := "CalendarSync", name := "reply", desc := "(IIII)I" } : Jvm.MethodName)) ∈ e_good := List.mem_filter.mpr ⟨tm_6 _ (List.mem_of_getElem? (i := 186) rfl), rfl⟩
theorem yw6_187 : (Jvm.Cond.selects "CalendarSync" ({ cls := "CalendarSync", name := "reply", desc := "(IIII)I" } : Jvm.MethodName) ({ cls := "CalendarSync", name := "reply", desc := "(IIII)I" } : Jvm.MethodName)) ∈ e_good := List.mem_filter.mpr ⟨tm_6 _ (List.mem_of_getElem? (i := 187) rfl), rfl⟩
theorem yw6_19 : (Jvm.Cond.methodLink "CalendarSyncLaw" (171 : Nat) ({ cls := "CalendarSync", name := "agenda", desc := "(III)I" } : Jvm.MethodName)) ∈ e_good := List.mem_filter.mpr ⟨tm_6 _ (List.mem_of_getElem? (i := 19) rfl), rfl⟩
theorem yw6_20 : (Jvm.Cond.instanceMethod ({ cls := "CalendarSync", name := "agenda", desc := "(III)I" } : Jvm.MethodName)) ∈ e_good := List.mem_filter.mpr ⟨tm_6 _ (List.mem_of_getElem? (i := 20) rfl), rfl⟩
theorem yw6_200 : (Jvm.Cond.methodLink "CalendarSyncLaw" (252 : Nat) ({ cls := "CalendarSyncLaw", name := "removed", desc := "(LCalendarSync;II)I" } : Jvm.MethodName)) ∈ e_good := List.mem_filter.mpr ⟨tm_6 _ (List.mem_of_getElem? (i := 200) rfl), rfl⟩
theorem yw6_201 : (Jvm.Cond.static ({ cls := "CalendarSyncLaw", name := "removed", desc := "(LCalendarSync;II)I" } : Jvm.MethodName)) ∈ e_good := List.mem_filter.mpr ⟨tm_6 _ (List.mem_of_getElem? (i := 201) rfl), rfl⟩
theorem yw6_202 : (Jvm.Cond.codeWith ({ cls := "CalendarSyncLaw", name := "removed", desc := "(LCalendarSync;II)I" } : Jvm.MethodName) method_13_code (4 : Nat) (Option.some Jvm.ClassFile.FieldType.int) [((0 : Nat), (6 : Nat), (7 : Nat), (112 : Nat))]) ∈ e_good := List.mem_filter.mpr ⟨tm_6 _ (List.mem_of_getElem? (i := 202) rfl), rfl⟩
theorem yw6_203 : (Jvm.Cond.methodLink "CalendarSyncLaw" (130 : Nat) ({ cls := "CalendarSync", name := "remove", desc := "(II)I" } : Jvm.MethodName)) ∈ e_good := List.mem_filter.mpr ⟨tm_6 _ (List.mem_of_getElem? (i := 203) rfl), rfl⟩
theorem yw6_204 : (Jvm.Cond.instanceMethod ({ cls := "CalendarSync", name := "remove", desc := "(II)I" } : Jvm.MethodName)) ∈ e_good := List.mem_filter.mpr ⟨tm_6 _ (List.mem_of_getElem? (i := 204) rfl), rfl⟩
theorem yw6_205 : (Jvm.Cond.selects "CalendarSync" ({ cls := "CalendarSync", name := "remove", desc := "(II)I" } : Jvm.MethodName) ({ cls := "CalendarSync", name := "remove", desc := "(II)I" } : Jvm.MethodName)) ∈ e_good := List.mem_filter.mpr ⟨tm_6 _ (List.mem_of_getElem? (i := 205) rfl), rfl⟩
theorem yw6_207 : (Jvm.Cond.methodLink "CalendarSyncLaw" (256 : Nat) ({ cls := "CalendarSync", name := "setZone", desc := "(IIII)I" } : Jvm.MethodName)) ∈ e_good := List.mem_filter.mpr ⟨tm_6 _ (List.mem_of_getElem? (i := 207) rfl), rfl⟩
theorem yw6_208 : (Jvm.Cond.instanceMethod ({ cls := "CalendarSync", name := "setZone", desc := "(IIII)I" } : Jvm.MethodName)) ∈ e_good := List.mem_filter.mpr ⟨tm_6 _ (List.mem_of_getElem? (i := 208) rfl), rfl⟩
theorem yw6_209 : (Jvm.Cond.selects "CalendarSync" ({ cls := "CalendarSync", name := "setZone", desc := "(IIII)I" } : Jvm.MethodName) ({ cls := "CalendarSync", name := "setZone", desc := "(IIII)I" } : Jvm.MethodName)) ∈ e_good := List.mem_filter.mpr ⟨tm_6 _ (List.mem_of_getElem? (i := 209) rfl), rfl⟩
theorem yw6_21 : (Jvm.Cond.selects "CalendarSync" ({ cls := "CalendarSync", name := "agenda", desc := "(III)I" } : Jvm.MethodName) ({ cls := "CalendarSync", name := "agenda", desc := "(III)I" } : Jvm.MethodName)) ∈ e_good := List.mem_filter.mpr ⟨tm_6 _ (List.mem_of_getElem? (i := 21) rfl), rfl⟩
theorem yw6_43 : (Jvm.Cond.constant "CalendarSyncLaw" (174 : Nat) (200000 : Int32)) ∈ e_good := List.mem_filter.mpr ⟨tm_6 _ (List.mem_of_getElem? (i := 43) rfl), rfl⟩
theorem yw6_44 : (Jvm.Cond.methodLink "CalendarSyncLaw" (175 : Nat) ({ cls := "CalendarSync", name := "agendaAt", desc := "(IIII)I" } : Jvm.MethodName)) ∈ e_good := List.mem_filter.mpr ⟨tm_6 _ (List.mem_of_getElem? (i := 44) rfl), rfl⟩
theorem yw6_45 : (Jvm.Cond.instanceMethod ({ cls := "CalendarSync", name := "agendaAt", desc := "(IIII)I" } : Jvm.MethodName)) ∈ e_good := List.mem_filter.mpr ⟨tm_6 _ (List.mem_of_getElem? (i := 45) rfl), rfl⟩
theorem yw6_46 : (Jvm.Cond.selects "CalendarSync" ({ cls := "CalendarSync", name := "agendaAt", desc := "(IIII)I" } : Jvm.MethodName) ({ cls := "CalendarSync", name := "agendaAt", desc := "(IIII)I" } : Jvm.MethodName)) ∈ e_good := List.mem_filter.mpr ⟨tm_6 _ (List.mem_of_getElem? (i := 46) rfl), rfl⟩
theorem yw6_57 : (Jvm.Cond.methodLink "CalendarSyncLaw" (178 : Nat) ({ cls := "CalendarSync", name := "busy", desc := "(III)F" } : Jvm.MethodName)) ∈ e_good := List.mem_filter.mpr ⟨tm_6 _ (List.mem_of_getElem? (i := 57) rfl), rfl⟩
theorem yw6_58 : (Jvm.Cond.instanceMethod ({ cls := "CalendarSync", name := "busy", desc := "(III)F" } : Jvm.MethodName)) ∈ e_good := List.mem_filter.mpr ⟨tm_6 _ (List.mem_of_getElem? (i := 58) rfl), rfl⟩
theorem yw6_59 : (Jvm.Cond.selects "CalendarSync" ({ cls := "CalendarSync", name := "busy", desc := "(III)F" } : Jvm.MethodName) ({ cls := "CalendarSync", name := "busy", desc := "(III)F" } : Jvm.MethodName)) ∈ e_good := List.mem_filter.mpr ⟨tm_6 _ (List.mem_of_getElem? (i := 59) rfl), rfl⟩
theorem yw6_77 : (Jvm.Cond.methodLink "CalendarSyncLaw" (182 : Nat) ({ cls := "CalendarSync", name := "clashes", desc := "(I)I" } : Jvm.MethodName)) ∈ e_good := List.mem_filter.mpr ⟨tm_6 _ (List.mem_of_getElem? (i := 77) rfl), rfl⟩
theorem yw6_78 : (Jvm.Cond.instanceMethod ({ cls := "CalendarSync", name := "clashes", desc := "(I)I" } : Jvm.MethodName)) ∈ e_good := List.mem_filter.mpr ⟨tm_6 _ (List.mem_of_getElem? (i := 78) rfl), rfl⟩
theorem yw6_79 : (Jvm.Cond.selects "CalendarSync" ({ cls := "CalendarSync", name := "clashes", desc := "(I)I" } : Jvm.MethodName) ({ cls := "CalendarSync", name := "clashes", desc := "(I)I" } : Jvm.MethodName)) ∈ e_good := List.mem_filter.mpr ⟨tm_6 _ (List.mem_of_getElem? (i := 79) rfl), rfl⟩
theorem yw6_85 : (Jvm.Cond.methodLink "CalendarSyncLaw" (214 : Nat) ({ cls := "CalendarSyncLaw", name := "exchanges", desc := "(LCalendarSync;I)Z" } : Jvm.MethodName)) ∈ e_good := List.mem_filter.mpr ⟨tm_6 _ (List.mem_of_getElem? (i := 85) rfl), rfl⟩
theorem yw6_86 : (Jvm.Cond.static ({ cls := "CalendarSyncLaw", name := "exchanges", desc := "(LCalendarSync;I)Z" } : Jvm.MethodName)) ∈ e_good := List.mem_filter.mpr ⟨tm_6 _ (List.mem_of_getElem? (i := 86) rfl), rfl⟩
theorem yw6_87 : (Jvm.Cond.code ({ cls := "CalendarSyncLaw", name := "exchanges", desc := "(LCalendarSync;I)Z" } : Jvm.MethodName) method_17_code (10 : Nat) (Option.some Jvm.ClassFile.FieldType.boolean)) ∈ e_good := List.mem_filter.mpr ⟨tm_6 _ (List.mem_of_getElem? (i := 87) rfl), rfl⟩
theorem yw6_88 : (Jvm.Cond.methodLink "CalendarSyncLaw" (221 : Nat) ({ cls := "java/lang/Integer", name := "bitCount", desc := "(I)I" } : Jvm.MethodName)) ∈ e_good := List.mem_filter.mpr ⟨tm_6 _ (List.mem_of_getElem? (i := 88) rfl), rfl⟩
theorem yw6_9 : (Jvm.Cond.methodLink "CalendarSyncLaw" (167 : Nat) ({ cls := "CalendarSync", name := "day", desc := "(II)I" } : Jvm.MethodName)) ∈ e_good := List.mem_filter.mpr ⟨tm_6 _ (List.mem_of_getElem? (i := 9) rfl), rfl⟩
theorem yw6_94 : (Jvm.Cond.methodLink "CalendarSyncLaw" (224 : Nat) ({ cls := "CalendarSync", name := "push", desc := "(I)I" } : Jvm.MethodName)) ∈ e_good := List.mem_filter.mpr ⟨tm_6 _ (List.mem_of_getElem? (i := 94) rfl), rfl⟩
theorem yw6_95 : (Jvm.Cond.instanceMethod ({ cls := "CalendarSync", name := "push", desc := "(I)I" } : Jvm.MethodName)) ∈ e_good := List.mem_filter.mpr ⟨tm_6 _ (List.mem_of_getElem? (i := 95) rfl), rfl⟩
theorem yw6_96 : (Jvm.Cond.selects "CalendarSync" ({ cls := "CalendarSync", name := "push", desc := "(I)I" } : Jvm.MethodName) ({ cls := "CalendarSync", name := "push", desc := "(I)I" } : Jvm.MethodName)) ∈ e_good := List.mem_filter.mpr ⟨tm_6 _ (List.mem_of_getElem? (i := 96) rfl), rfl⟩
theorem wq_0 : (Jvm.Cond.castable "java/util/NoSuchElementException" "java/util/NoSuchElementException") ∈ e_cast := List.mem_filter.mpr ⟨tm_3 _ (List.mem_of_getElem? (i := 82) rfl), rfl⟩
theorem wq_1 : (Jvm.Cond.castable "java/lang/IndexOutOfBoundsException" "java/lang/IndexOutOfBoundsException") ∈ e_cast := List.mem_filter.mpr ⟨tm_5 _ (List.mem_of_getElem? (i := 178) rfl), rfl⟩
theorem wq_2 : (Jvm.Cond.castable "java/lang/IllegalStateException" "java/lang/IllegalStateException") ∈ e_cast := List.mem_filter.mpr ⟨tm_3 _ (List.mem_of_getElem? (i := 168) rfl), rfl⟩
def sg_L_next : SG := (yL_next, cL_next, 1, (some .int), 0, 0, 0, 0, 1, false, [])
theorem cs_L_next : e_cs sg_L_next := ⟨yw3_102, yw1_0, ⟨by decide, by decide⟩, by decide +kernel, rfl⟩
theorem mt_L_next : e_mtF sg_L_next "CalendarSyncLaw" := ⟨rfl, by decide +kernel, rfl⟩
theorem dL_next_0 : decode cL_next 0 = .ok (.aload_n 0, 1) := by decide +kernel
theorem dL_next_1 : decode cL_next 1 = .ok (.iconst 0, 1) := by decide +kernel
theorem dL_next_2 : decode cL_next 2 = .ok (.aload_n 0, 1) := by decide +kernel
theorem dL_next_3 : decode cL_next 3 = .ok (.iconst 0, 1) := by decide +kernel
theorem dL_next_4 : decode cL_next 4 = .ok (.iaload, 1) := by decide +kernel
theorem dL_next_5 : decode cL_next 5 = .ok (.ldc 7, 2) := by decide +kernel
theorem dL_next_7 : decode cL_next 7 = .ok (.imul, 1) := by decide +kernel
theorem dL_next_8 : decode cL_next 8 = .ok (.sipush 12345, 3) := by decide +kernel
theorem dL_next_11 : decode cL_next 11 = .ok (.iadd, 1) := by decide +kernel
theorem dL_next_12 : decode cL_next 12 = .ok (.iastore, 1) := by decide +kernel
theorem dL_next_13 : decode cL_next 13 = .ok (.aload_n 0, 1) := by decide +kernel
theorem dL_next_14 : decode cL_next 14 = .ok (.iconst 0, 1) := by decide +kernel
theorem dL_next_15 : decode cL_next 15 = .ok (.dup2, 1) := by decide +kernel
theorem dL_next_16 : decode cL_next 16 = .ok (.iaload, 1) := by decide +kernel
theorem dL_next_17 : decode cL_next 17 = .ok (.aload_n 0, 1) := by decide +kernel
theorem dL_next_18 : decode cL_next 18 = .ok (.iconst 0, 1) := by decide +kernel
theorem dL_next_19 : decode cL_next 19 = .ok (.iaload, 1) := by decide +kernel
theorem dL_next_20 : decode cL_next 20 = .ok (.bipush 15, 2) := by decide +kernel
theorem dL_next_22 : decode cL_next 22 = .ok (.iushr, 1) := by decide +kernel
theorem dL_next_23 : decode cL_next 23 = .ok (.ixor, 1) := by decide +kernel
theorem dL_next_24 : decode cL_next 24 = .ok (.iastore, 1) := by decide +kernel
theorem dL_next_25 : decode cL_next 25 = .ok (.aload_n 0, 1) := by decide +kernel
theorem dL_next_26 : decode cL_next 26 = .ok (.iconst 0, 1) := by decide +kernel
theorem dL_next_27 : decode cL_next 27 = .ok (.iaload, 1) := by decide +kernel
theorem dL_next_28 : decode cL_next 28 = .ok (.bipush 9, 2) := by decide +kernel
theorem dL_next_30 : decode cL_next 30 = .ok (.iushr, 1) := by decide +kernel
theorem dL_next_31 : decode cL_next 31 = .ok (.ireturn, 1) := by decide +kernel
def pg_L_next (l : Launch) (g : EG) : List (Nat × ES) := [(0, s_ldP 0), (1, s_c (.inl 0)), (2, s_ldP 0), (3, s_c (.inl 0)), (4, s_iald), (5, s_c (.inl 1103515245)), (7, s_ii (fun x y => x * y)), (8, s_c (.inl 12345)), (11, s_ii (fun x y => x + y)), (12, s_iast), (13, s_ldP 0), (14, s_c (.inl 0)), (15, s_dup2), (16, s_iald), (17, s_ldP 0), (18, s_c (.inl 0)), (19, s_iald), (20, s_c (.inl 15)), (22, s_ii (fun x y => (x.toUInt32 >>> (y.toUInt32 &&& Int32.toUInt32 31)).toInt32)), (23, s_ii (fun x y => x ^^^ y)), (24, s_iast), (25, s_ldP 0), (26, s_c (.inl 0)), (27, s_iald), (28, s_c (.inl 9)), (30, s_ii (fun x y => (x.toUInt32 >>> (y.toUInt32 &&& Int32.toUInt32 31)).toInt32)), (31, s_ireti)]
set_option maxRecDepth 100000 in
theorem ok_L_next {l : Launch} {g : EG} : e_okp l g sg_L_next "CalendarSyncLaw" (pg_L_next l g) := fun p e R s m args below meth c ex M0 Q X =>
    e_each_cons (r_aload_n X (k := 0) (i := 0) rfl dL_next_0 rfl)
    (e_each_cons (r_iconst X (n := 0) (v := 0) dL_next_1 (by decide) rfl)
    (e_each_cons (r_aload_n X (k := 0) (i := 0) rfl dL_next_2 rfl)
    (e_each_cons (r_iconst X (n := 0) (v := 0) dL_next_3 (by decide) rfl)
    (e_each_cons (r_iald X dL_next_4 rfl)
    (e_each_cons (r_ldc X (n := 7) (v := 1103515245) dL_next_5 yw3_103 rfl)
    (e_each_cons (r_imul X dL_next_7 rfl)
    (e_each_cons (r_sipush X (n := 12345) (v := 12345) dL_next_8 (by decide) rfl)
    (e_each_cons (r_iadd X dL_next_11 rfl)
    (e_each_cons (r_iast X dL_next_12 rfl)
    (e_each_cons (r_aload_n X (k := 0) (i := 0) rfl dL_next_13 rfl)
    (e_each_cons (r_iconst X (n := 0) (v := 0) dL_next_14 (by decide) rfl)
    (e_each_cons (r_dup2 X dL_next_15 rfl)
    (e_each_cons (r_iald X dL_next_16 rfl)
    (e_each_cons (r_aload_n X (k := 0) (i := 0) rfl dL_next_17 rfl)
    (e_each_cons (r_iconst X (n := 0) (v := 0) dL_next_18 (by decide) rfl)
    (e_each_cons (r_iald X dL_next_19 rfl)
    (e_each_cons (r_bipush X (n := 15) (v := 15) dL_next_20 (by decide) rfl)
    (e_each_cons (r_iushr X dL_next_22 rfl)
    (e_each_cons (r_ixor X dL_next_23 rfl)
    (e_each_cons (r_iast X dL_next_24 rfl)
    (e_each_cons (r_aload_n X (k := 0) (i := 0) rfl dL_next_25 rfl)
    (e_each_cons (r_iconst X (n := 0) (v := 0) dL_next_26 (by decide) rfl)
    (e_each_cons (r_iald X dL_next_27 rfl)
    (e_each_cons (r_bipush X (n := 9) (v := 9) dL_next_28 (by decide) rfl)
    (e_each_cons (r_iushr X dL_next_30 rfl)
    (e_each_cons (r_ireti X dL_next_31 rfl)
    (e_each_nil)))))))))))))))))))))))))))
def sg_L_type : SG := (yL_type, cL_type, 5, (some .int), 8, 136, 34, 187, 2, false, [])
theorem cs_L_type : e_cs sg_L_type := ⟨yw3_110, yw1_0, ⟨by decide, by decide⟩, by decide +kernel, rfl⟩
theorem mt_L_type : e_mtF sg_L_type "CalendarSyncLaw" := ⟨rfl, by decide +kernel, rfl⟩
theorem dL_type_0 : decode cL_type 0 = .ok (.iconst 0, 1) := by decide +kernel
theorem dL_type_1 : decode cL_type 1 = .ok (.istore_n 2, 1) := by decide +kernel
theorem dL_type_2 : decode cL_type 2 = .ok (.iload_n 2, 1) := by decide +kernel
theorem dL_type_3 : decode cL_type 3 = .ok (.aload_n 1, 1) := by decide +kernel
theorem dL_type_4 : decode cL_type 4 = .ok (.invokevirtual 8, 3) := by decide +kernel
theorem dL_type_7 : decode cL_type 7 = .ok (.if_icmp .ge 109, 3) := by decide +kernel
theorem dL_type_10 : decode cL_type 10 = .ok (.iconst 5, 1) := by decide +kernel
theorem dL_type_11 : decode cL_type 11 = .ok (.newarray .int, 2) := by decide +kernel
theorem dL_type_13 : decode cL_type 13 = .ok (.dup, 1) := by decide +kernel
theorem dL_type_14 : decode cL_type 14 = .ok (.iconst 0, 1) := by decide +kernel
theorem dL_type_15 : decode cL_type 15 = .ok (.iconst 0, 1) := by decide +kernel
theorem dL_type_16 : decode cL_type 16 = .ok (.iastore, 1) := by decide +kernel
theorem dL_type_17 : decode cL_type 17 = .ok (.dup, 1) := by decide +kernel
theorem dL_type_18 : decode cL_type 18 = .ok (.iconst 1, 1) := by decide +kernel
theorem dL_type_19 : decode cL_type 19 = .ok (.iconst 0, 1) := by decide +kernel
theorem dL_type_20 : decode cL_type 20 = .ok (.iastore, 1) := by decide +kernel
theorem dL_type_21 : decode cL_type 21 = .ok (.dup, 1) := by decide +kernel
theorem dL_type_22 : decode cL_type 22 = .ok (.iconst 2, 1) := by decide +kernel
theorem dL_type_23 : decode cL_type 23 = .ok (.iconst 0, 1) := by decide +kernel
theorem dL_type_24 : decode cL_type 24 = .ok (.iastore, 1) := by decide +kernel
theorem dL_type_25 : decode cL_type 25 = .ok (.dup, 1) := by decide +kernel
theorem dL_type_26 : decode cL_type 26 = .ok (.iconst 3, 1) := by decide +kernel
theorem dL_type_27 : decode cL_type 27 = .ok (.iconst 0, 1) := by decide +kernel
theorem dL_type_28 : decode cL_type 28 = .ok (.iastore, 1) := by decide +kernel
theorem dL_type_29 : decode cL_type 29 = .ok (.dup, 1) := by decide +kernel
theorem dL_type_30 : decode cL_type 30 = .ok (.iconst 4, 1) := by decide +kernel
theorem dL_type_31 : decode cL_type 31 = .ok (.iconst 0, 1) := by decide +kernel
theorem dL_type_32 : decode cL_type 32 = .ok (.iastore, 1) := by decide +kernel
theorem dL_type_33 : decode cL_type 33 = .ok (.astore_n 3, 1) := by decide +kernel
theorem dL_type_34 : decode cL_type 34 = .ok (.iconst 0, 1) := by decide +kernel
theorem dL_type_35 : decode cL_type 35 = .ok (.istore 4, 2) := by decide +kernel
theorem dL_type_37 : decode cL_type 37 = .ok (.iload 4, 2) := by decide +kernel
theorem dL_type_39 : decode cL_type 39 = .ok (.bipush 20, 2) := by decide +kernel
theorem dL_type_41 : decode cL_type 41 = .ok (.if_icmp .ge 49, 3) := by decide +kernel
theorem dL_type_44 : decode cL_type 44 = .ok (.aload_n 3, 1) := by decide +kernel
theorem dL_type_45 : decode cL_type 45 = .ok (.iload 4, 2) := by decide +kernel
theorem dL_type_47 : decode cL_type 47 = .ok (.iconst 4, 1) := by decide +kernel
theorem dL_type_48 : decode cL_type 48 = .ok (.idiv, 1) := by decide +kernel
theorem dL_type_49 : decode cL_type 49 = .ok (.aload_n 3, 1) := by decide +kernel
theorem dL_type_50 : decode cL_type 50 = .ok (.iload 4, 2) := by decide +kernel
theorem dL_type_52 : decode cL_type 52 = .ok (.iconst 4, 1) := by decide +kernel
theorem dL_type_53 : decode cL_type 53 = .ok (.idiv, 1) := by decide +kernel
theorem dL_type_54 : decode cL_type 54 = .ok (.iaload, 1) := by decide +kernel
theorem dL_type_55 : decode cL_type 55 = .ok (.bipush 8, 2) := by decide +kernel
theorem dL_type_57 : decode cL_type 57 = .ok (.ishl, 1) := by decide +kernel
theorem dL_type_58 : decode cL_type 58 = .ok (.iload_n 2, 1) := by decide +kernel
theorem dL_type_59 : decode cL_type 59 = .ok (.iload 4, 2) := by decide +kernel
theorem dL_type_61 : decode cL_type 61 = .ok (.iadd, 1) := by decide +kernel
theorem dL_type_62 : decode cL_type 62 = .ok (.aload_n 1, 1) := by decide +kernel
theorem dL_type_63 : decode cL_type 63 = .ok (.invokevirtual 8, 3) := by decide +kernel
theorem dL_type_66 : decode cL_type 66 = .ok (.if_icmp .ge 14, 3) := by decide +kernel
theorem dL_type_69 : decode cL_type 69 = .ok (.aload_n 1, 1) := by decide +kernel
theorem dL_type_70 : decode cL_type 70 = .ok (.iload_n 2, 1) := by decide +kernel
theorem dL_type_71 : decode cL_type 71 = .ok (.iload 4, 2) := by decide +kernel
theorem dL_type_73 : decode cL_type 73 = .ok (.iadd, 1) := by decide +kernel
theorem dL_type_74 : decode cL_type 74 = .ok (.invokevirtual 14, 3) := by decide +kernel
theorem dL_type_77 : decode cL_type 77 = .ok (.goto 5, 3) := by decide +kernel
theorem dL_type_80 : decode cL_type 80 = .ok (.bipush 32, 2) := by decide +kernel
theorem dL_type_82 : decode cL_type 82 = .ok (.ior, 1) := by decide +kernel
theorem dL_type_83 : decode cL_type 83 = .ok (.iastore, 1) := by decide +kernel
theorem dL_type_84 : decode cL_type 84 = .ok (.iinc 4 1, 3) := by decide +kernel
theorem dL_type_87 : decode cL_type 87 = .ok (.goto (-50), 3) := by decide +kernel
theorem dL_type_90 : decode cL_type 90 = .ok (.aload_n 0, 1) := by decide +kernel
theorem dL_type_91 : decode cL_type 91 = .ok (.aload_n 3, 1) := by decide +kernel
theorem dL_type_92 : decode cL_type 92 = .ok (.iconst 0, 1) := by decide +kernel
theorem dL_type_93 : decode cL_type 93 = .ok (.iaload, 1) := by decide +kernel
theorem dL_type_94 : decode cL_type 94 = .ok (.aload_n 3, 1) := by decide +kernel
theorem dL_type_95 : decode cL_type 95 = .ok (.iconst 1, 1) := by decide +kernel
theorem dL_type_96 : decode cL_type 96 = .ok (.iaload, 1) := by decide +kernel
theorem dL_type_97 : decode cL_type 97 = .ok (.aload_n 3, 1) := by decide +kernel
theorem dL_type_98 : decode cL_type 98 = .ok (.iconst 2, 1) := by decide +kernel
theorem dL_type_99 : decode cL_type 99 = .ok (.iaload, 1) := by decide +kernel
theorem dL_type_100 : decode cL_type 100 = .ok (.aload_n 3, 1) := by decide +kernel
theorem dL_type_101 : decode cL_type 101 = .ok (.iconst 3, 1) := by decide +kernel
theorem dL_type_102 : decode cL_type 102 = .ok (.iaload, 1) := by decide +kernel
theorem dL_type_103 : decode cL_type 103 = .ok (.aload_n 3, 1) := by decide +kernel
theorem dL_type_104 : decode cL_type 104 = .ok (.iconst 4, 1) := by decide +kernel
theorem dL_type_105 : decode cL_type 105 = .ok (.iaload, 1) := by decide +kernel
theorem dL_type_106 : decode cL_type 106 = .ok (.invokevirtual 18, 3) := by decide +kernel
theorem dL_type_109 : decode cL_type 109 = .ok (.pop, 1) := by decide +kernel
theorem dL_type_110 : decode cL_type 110 = .ok (.iinc 2 20, 3) := by decide +kernel
theorem dL_type_113 : decode cL_type 113 = .ok (.goto (-111), 3) := by decide +kernel
theorem dL_type_116 : decode cL_type 116 = .ok (.aload_n 1, 1) := by decide +kernel
theorem dL_type_117 : decode cL_type 117 = .ok (.invokevirtual 8, 3) := by decide +kernel
theorem dL_type_120 : decode cL_type 120 = .ok (.ireturn, 1) := by decide +kernel
def pg_L_type (l : Launch) (g : EG) : List (Nat × ES) := [(0, s_c (.inl 0)), (1, s_stI 2), (2, s_ldI 2), (3, s_ldP 1), (4, s_callE l g sg_L_type sg_J0_length_8abf5), (7, s_icmp_ge 116), (10, s_c (.inl 5)), (11, s_newaL sg_L_type 53 5), (13, s_dup), (14, s_c (.inl 0)), (15, s_c (.inl 0)), (16, s_iast), (17, s_dup), (18, s_c (.inl 1)), (19, s_c (.inl 0)), (20, s_iast), (21, s_dup), (22, s_c (.inl 2)), (23, s_c (.inl 0)), (24, s_iast), (25, s_dup), (26, s_c (.inl 3)), (27, s_c (.inl 0)), (28, s_iast), (29, s_dup), (30, s_c (.inl 4)), (31, s_c (.inl 0)), (32, s_iast), (33, s_stP 3), (34, s_c (.inl 0)), (35, s_stI 4), (37, s_ldI 4), (39, s_c (.inl 20)), (41, s_icmp_ge 90), (44, s_ldP 3), (45, s_ldI 4), (47, s_c (.inl 4)), (48, s_iid (fun x y => x / y) (fun _ y => ¬ y = 0)), (49, s_ldP 3), (50, s_ldI 4), (52, s_c (.inl 4)), (53, s_iid (fun x y => x / y) (fun _ y => ¬ y = 0)), (54, s_iald), (55, s_c (.inl 8)), (57, s_ii (fun x y => x <<< (y &&& 31))), (58, s_ldI 2), (59, s_ldI 4), (61, s_ii (fun x y => x + y)), (62, s_ldP 1), (63, s_callE l g sg_L_type sg_J0_length_8abf5), (66, s_icmp_ge 80), (69, s_ldP 1), (70, s_ldI 2), (71, s_ldI 4), (73, s_ii (fun x y => x + y)), (74, s_callE l g sg_L_type sg_J0_charAt_5068e), (77, s_goto 82), (80, s_c (.inl 32)), (82, s_ii (fun x y => x ||| y)), (83, s_iast), (84, s_iinc 4 1), (87, s_goto 37), (90, s_ldP 0), (91, s_ldP 3), (92, s_c (.inl 0)), (93, s_iald), (94, s_ldP 3), (95, s_c (.inl 1)), (96, s_iald), (97, s_ldP 3), (98, s_c (.inl 2)), (99, s_iald), (100, s_ldP 3), (101, s_c (.inl 3)), (102, s_iald), (103, s_ldP 3), (104, s_c (.inl 4)), (105, s_iald), (106, s_callVL l g sg_L_type sg_X10_feed 9), (109, s_pop), (110, s_iinc 2 20), (113, s_goto 2), (116, s_ldP 1), (117, s_callE l g sg_L_type sg_J0_length_8abf5), (120, s_ireti)]
set_option maxRecDepth 100000 in
theorem ok_L_type {l : Launch} {g : EG} : e_okp l g sg_L_type "CalendarSyncLaw" (pg_L_type l g) := fun p e R s m args below meth c ex M0 Q X =>
    e_each_cons (r_iconst X (n := 0) (v := 0) dL_type_0 (by decide) rfl)
    (e_each_cons (r_istore_n X (k := 2) (i := 2) rfl dL_type_1 (by decide) rfl)
    (e_each_cons (r_iload_n X (k := 2) (i := 2) rfl dL_type_2 rfl)
    (e_each_cons (r_aload_n X (k := 1) (i := 1) rfl dL_type_3 rfl)
    (e_each_cons (r_callE X rfl (τ := sg_J0_length_8abf5) (index := 8) dL_type_4 rfl yw3_111 yw3_112 yw3_113 cs_J0_length_8abf5 rfl ⟨by decide, by decide⟩ rfl)
    (e_each_cons (r_icmp_ge X (off := 109) (t := 116) dL_type_7 (by decide) rfl)
    (e_each_cons (r_iconst X (n := 5) (v := 5) dL_type_10 (by decide) rfl)
    (e_each_cons (r_newaL (r_newa X (ai := 0) (t := 53) (n := 5) dL_type_11 rfl (fun _ => rfl) rfl (Or.inl ⟨rfl, rfl⟩) w1_159 (by decide) (by decide) rfl))
    (e_each_cons (r_dup X dL_type_13 rfl)
    (e_each_cons (r_iconst X (n := 0) (v := 0) dL_type_14 (by decide) rfl)
    (e_each_cons (r_iconst X (n := 0) (v := 0) dL_type_15 (by decide) rfl)
    (e_each_cons (r_iast X dL_type_16 rfl)
    (e_each_cons (r_dup X dL_type_17 rfl)
    (e_each_cons (r_iconst X (n := 1) (v := 1) dL_type_18 (by decide) rfl)
    (e_each_cons (r_iconst X (n := 0) (v := 0) dL_type_19 (by decide) rfl)
    (e_each_cons (r_iast X dL_type_20 rfl)
    (e_each_cons (r_dup X dL_type_21 rfl)
    (e_each_cons (r_iconst X (n := 2) (v := 2) dL_type_22 (by decide) rfl)
    (e_each_cons (r_iconst X (n := 0) (v := 0) dL_type_23 (by decide) rfl)
    (e_each_cons (r_iast X dL_type_24 rfl)
    (e_each_cons (r_dup X dL_type_25 rfl)
    (e_each_cons (r_iconst X (n := 3) (v := 3) dL_type_26 (by decide) rfl)
    (e_each_cons (r_iconst X (n := 0) (v := 0) dL_type_27 (by decide) rfl)
    (e_each_cons (r_iast X dL_type_28 rfl)
    (e_each_cons (r_dup X dL_type_29 rfl)
    (e_each_cons (r_iconst X (n := 4) (v := 4) dL_type_30 (by decide) rfl)
    (e_each_cons (r_iconst X (n := 0) (v := 0) dL_type_31 (by decide) rfl)
    (e_each_cons (r_iast X dL_type_32 rfl)
    (e_each_cons (r_astore_n X (k := 3) (i := 3) rfl dL_type_33 (by decide) rfl)
    (e_each_cons (r_iconst X (n := 0) (v := 0) dL_type_34 (by decide) rfl)
    (e_each_cons (r_istore X (i := 4) dL_type_35 (by decide) rfl)
    (e_each_cons (r_iload X (i := 4) dL_type_37 rfl)
    (e_each_cons (r_bipush X (n := 20) (v := 20) dL_type_39 (by decide) rfl)
    (e_each_cons (r_icmp_ge X (off := 49) (t := 90) dL_type_41 (by decide) rfl)
    (e_each_cons (r_aload_n X (k := 3) (i := 3) rfl dL_type_44 rfl)
    (e_each_cons (r_iload X (i := 4) dL_type_45 rfl)
    (e_each_cons (r_iconst X (n := 4) (v := 4) dL_type_47 (by decide) rfl)
    (e_each_cons (r_idiv X dL_type_48 rfl)
    (e_each_cons (r_aload_n X (k := 3) (i := 3) rfl dL_type_49 rfl)
    (e_each_cons (r_iload X (i := 4) dL_type_50 rfl)
    (e_each_cons (r_iconst X (n := 4) (v := 4) dL_type_52 (by decide) rfl)
    (e_each_cons (r_idiv X dL_type_53 rfl)
    (e_each_cons (r_iald X dL_type_54 rfl)
    (e_each_cons (r_bipush X (n := 8) (v := 8) dL_type_55 (by decide) rfl)
    (e_each_cons (r_ishl X dL_type_57 rfl)
    (e_each_cons (r_iload_n X (k := 2) (i := 2) rfl dL_type_58 rfl)
    (e_each_cons (r_iload X (i := 4) dL_type_59 rfl)
    (e_each_cons (r_iadd X dL_type_61 rfl)
    (e_each_cons (r_aload_n X (k := 1) (i := 1) rfl dL_type_62 rfl)
    (e_each_cons (r_callE X rfl (τ := sg_J0_length_8abf5) (index := 8) dL_type_63 rfl yw3_111 yw3_112 yw3_113 cs_J0_length_8abf5 rfl ⟨by decide, by decide⟩ rfl)
    (e_each_cons (r_icmp_ge X (off := 14) (t := 80) dL_type_66 (by decide) rfl)
    (e_each_cons (r_aload_n X (k := 1) (i := 1) rfl dL_type_69 rfl)
    (e_each_cons (r_iload_n X (k := 2) (i := 2) rfl dL_type_70 rfl)
    (e_each_cons (r_iload X (i := 4) dL_type_71 rfl)
    (e_each_cons (r_iadd X dL_type_73 rfl)
    (e_each_cons (r_callE X rfl (τ := sg_J0_charAt_5068e) (index := 14) dL_type_74 rfl yw3_121 yw3_122 yw3_123 cs_J0_charAt_5068e rfl ⟨by decide, by decide⟩ rfl)
    (e_each_cons (r_goto X (off := 5) (t := 82) dL_type_77 (by decide))
    (e_each_cons (r_bipush X (n := 32) (v := 32) dL_type_80 (by decide) rfl)
    (e_each_cons (r_ior X dL_type_82 rfl)
    (e_each_cons (r_iast X dL_type_83 rfl)
    (e_each_cons (r_iinc X (i := 4) (n := 1) (d := 1) dL_type_84 (by decide) (by decide) rfl)
    (e_each_cons (r_goto X (off := (-50)) (t := 37) dL_type_87 (by decide))
    (e_each_cons (r_aload_n X (k := 0) (i := 0) rfl dL_type_90 rfl)
    (e_each_cons (r_aload_n X (k := 3) (i := 3) rfl dL_type_91 rfl)
    (e_each_cons (r_iconst X (n := 0) (v := 0) dL_type_92 (by decide) rfl)
    (e_each_cons (r_iald X dL_type_93 rfl)
    (e_each_cons (r_aload_n X (k := 3) (i := 3) rfl dL_type_94 rfl)
    (e_each_cons (r_iconst X (n := 1) (v := 1) dL_type_95 (by decide) rfl)
    (e_each_cons (r_iald X dL_type_96 rfl)
    (e_each_cons (r_aload_n X (k := 3) (i := 3) rfl dL_type_97 rfl)
    (e_each_cons (r_iconst X (n := 2) (v := 2) dL_type_98 (by decide) rfl)
    (e_each_cons (r_iald X dL_type_99 rfl)
    (e_each_cons (r_aload_n X (k := 3) (i := 3) rfl dL_type_100 rfl)
    (e_each_cons (r_iconst X (n := 3) (v := 3) dL_type_101 (by decide) rfl)
    (e_each_cons (r_iald X dL_type_102 rfl)
    (e_each_cons (r_aload_n X (k := 3) (i := 3) rfl dL_type_103 rfl)
    (e_each_cons (r_iconst X (n := 4) (v := 4) dL_type_104 (by decide) rfl)
    (e_each_cons (r_iald X dL_type_105 rfl)
    (e_each_cons (r_callVL X rfl (τ := sg_X10_feed) (index := 18) (ci := 9) dL_type_106 (by decide) rfl yw3_159 yw3_160 yw3_161 cs_X10_feed rfl ⟨by decide, by decide⟩ rfl)
    (e_each_cons (r_pop X dL_type_109 rfl)
    (e_each_cons (r_iinc X (i := 2) (n := 20) (d := 20) dL_type_110 (by decide) (by decide) rfl)
    (e_each_cons (r_goto X (off := (-111)) (t := 2) dL_type_113 (by decide))
    (e_each_cons (r_aload_n X (k := 1) (i := 1) rfl dL_type_116 rfl)
    (e_each_cons (r_callE X rfl (τ := sg_J0_length_8abf5) (index := 8) dL_type_117 rfl yw3_111 yw3_112 yw3_113 cs_J0_length_8abf5 rfl ⟨by decide, by decide⟩ rfl)
    (e_each_cons (r_ireti X dL_type_120 rfl)
    (e_each_nil)))))))))))))))))))))))))))))))))))))))))))))))))))))))))))))))))))))))))))))))))))))
def sg_L_load : SG := (yL_load, cL_load, 4, (some .int), 11, 232, 36, 199, 2, false, [(6, 11, 12, 34)])
theorem cs_L_load : e_csH sg_L_load := ⟨yw3_106, yw1_0, ⟨by decide, by decide⟩, by decide +kernel, rfl⟩
def hd_L_load : String → Option Nat := fun E => if E = "java/lang/IllegalStateException" then some 12 else none
theorem hk_L_load : e_hdOk "CalendarSyncLaw" (ghh sg_L_load) 8 hd_L_load := by
  intro E h hE
  unfold hd_L_load at hE
  by_cases e0 : E = "java/lang/IllegalStateException"
  · subst e0
    rw [if_pos rfl] at hE
    obtain rfl := Option.some.inj hE
    refine ⟨wq_2, (tableOf (ghh sg_L_load)).take 0, (tableOf (ghh sg_L_load))[0]'(by decide), (tableOf (ghh sg_L_load)).drop 1, rfl, ?_, by decide +kernel, by decide +kernel, yw3_107, rfl⟩
    exact fun z hz => nomatch hz
  rw [if_neg e0] at hE
  cases hE
theorem dL_load_0 : decode cL_load 0 = .ok (.aload_n 0, 1) := by decide +kernel
theorem dL_load_1 : decode cL_load 1 = .ok (.aload_n 1, 1) := by decide +kernel
theorem dL_load_2 : decode cL_load 2 = .ok (.invokestatic 24, 3) := by decide +kernel
theorem dL_load_5 : decode cL_load 5 = .ok (.istore_n 2, 1) := by decide +kernel
theorem dL_load_6 : decode cL_load 6 = .ok (.aload_n 0, 1) := by decide +kernel
theorem dL_load_7 : decode cL_load 7 = .ok (.iload_n 2, 1) := by decide +kernel
theorem dL_load_8 : decode cL_load 8 = .ok (.invokevirtual 30, 3) := by decide +kernel
theorem dL_load_11 : decode cL_load 11 = .ok (.ireturn, 1) := by decide +kernel
theorem dL_load_12 : decode cL_load 12 = .ok (.astore_n 3, 1) := by decide +kernel
theorem dL_load_13 : decode cL_load 13 = .ok (.iconst (-1), 1) := by decide +kernel
theorem dL_load_14 : decode cL_load 14 = .ok (.ireturn, 1) := by decide +kernel
def pg_L_load (l : Launch) (g : EG) : List (Nat × ES) := [(0, s_ldP 0), (1, s_ldP 1), (2, s_callSL l g sg_L_load sg_L_type), (5, s_stI 2), (6, s_ldP 0), (7, s_ldI 2), (8, s_callVH l g sg_L_load sg_X10_load 9 hd_L_load), (11, s_ireti), (12, s_stP 3), (13, s_c (.inl (-1))), (14, s_ireti)]
set_option maxRecDepth 100000 in
theorem ok_L_load {l : Launch} {g : EG} : e_okp l g sg_L_load "CalendarSyncLaw" (pg_L_load l g) := fun p e R s m args below meth c ex M0 Q X =>
    e_each_cons (r_aload_n X (k := 0) (i := 0) rfl dL_load_0 rfl)
    (e_each_cons (r_aload_n X (k := 1) (i := 1) rfl dL_load_1 rfl)
    (e_each_cons (r_callSL X (τ := sg_L_type) (index := 24) dL_load_2 yw3_108 yw3_109 cs_L_type rfl ⟨by decide, by decide⟩ rfl)
    (e_each_cons (r_istore_n X (k := 2) (i := 2) rfl dL_load_5 (by decide) rfl)
    (e_each_cons (r_aload_n X (k := 0) (i := 0) rfl dL_load_6 rfl)
    (e_each_cons (r_iload_n X (k := 2) (i := 2) rfl dL_load_7 rfl)
    (e_each_cons (r_callVH X (τ := sg_X10_load) (hdl := hk_L_load) (index := 30) (ci := 9) dL_load_8 (by decide) rfl yw3_186 yw3_187 yw3_188 cs_X10_load rfl ⟨by decide, by decide⟩ rfl)
    (e_each_cons (r_ireti X dL_load_11 rfl)
    (e_each_cons (r_astore_n X (k := 3) (i := 3) rfl dL_load_12 (by decide) rfl)
    (e_each_cons (r_iconst X (n := (-1)) (v := (-1)) dL_load_13 (by decide) rfl)
    (e_each_cons (r_ireti X dL_load_14 rfl)
    (e_each_nil)))))))))))
def sg_L_rule : SG := (yL_rule, cL_rule, 3, (some (.object "java/lang/String")), 6, 151, 34, 86311, 1, false, [])
theorem cs_L_rule : e_cs sg_L_rule := ⟨yw5_132, yw1_0, ⟨by decide, by decide⟩, by decide +kernel, rfl⟩
theorem mt_L_rule : e_mtF sg_L_rule "CalendarSyncLaw" := ⟨rfl, by decide +kernel, rfl⟩
theorem dL_rule_0 : decode cL_rule 0 = .ok (.bipush 7, 2) := by decide +kernel
theorem dL_rule_2 : decode cL_rule 2 = .ok (.anewarray 9, 3) := by decide +kernel
theorem dL_rule_5 : decode cL_rule 5 = .ok (.dup, 1) := by decide +kernel
theorem dL_rule_6 : decode cL_rule 6 = .ok (.iconst 0, 1) := by decide +kernel
theorem dL_rule_7 : decode cL_rule 7 = .ok (.ldc 36, 2) := by decide +kernel
theorem dL_rule_9 : decode cL_rule 9 = .ok (.aastore, 1) := by decide +kernel
theorem dL_rule_10 : decode cL_rule 10 = .ok (.dup, 1) := by decide +kernel
theorem dL_rule_11 : decode cL_rule 11 = .ok (.iconst 1, 1) := by decide +kernel
theorem dL_rule_12 : decode cL_rule 12 = .ok (.ldc 38, 2) := by decide +kernel
theorem dL_rule_14 : decode cL_rule 14 = .ok (.aastore, 1) := by decide +kernel
theorem dL_rule_15 : decode cL_rule 15 = .ok (.dup, 1) := by decide +kernel
theorem dL_rule_16 : decode cL_rule 16 = .ok (.iconst 2, 1) := by decide +kernel
theorem dL_rule_17 : decode cL_rule 17 = .ok (.ldc 40, 2) := by decide +kernel
theorem dL_rule_19 : decode cL_rule 19 = .ok (.aastore, 1) := by decide +kernel
theorem dL_rule_20 : decode cL_rule 20 = .ok (.dup, 1) := by decide +kernel
theorem dL_rule_21 : decode cL_rule 21 = .ok (.iconst 3, 1) := by decide +kernel
theorem dL_rule_22 : decode cL_rule 22 = .ok (.ldc 42, 2) := by decide +kernel
theorem dL_rule_24 : decode cL_rule 24 = .ok (.aastore, 1) := by decide +kernel
theorem dL_rule_25 : decode cL_rule 25 = .ok (.dup, 1) := by decide +kernel
theorem dL_rule_26 : decode cL_rule 26 = .ok (.iconst 4, 1) := by decide +kernel
theorem dL_rule_27 : decode cL_rule 27 = .ok (.ldc 44, 2) := by decide +kernel
theorem dL_rule_29 : decode cL_rule 29 = .ok (.aastore, 1) := by decide +kernel
theorem dL_rule_30 : decode cL_rule 30 = .ok (.dup, 1) := by decide +kernel
theorem dL_rule_31 : decode cL_rule 31 = .ok (.iconst 5, 1) := by decide +kernel
theorem dL_rule_32 : decode cL_rule 32 = .ok (.ldc 46, 2) := by decide +kernel
theorem dL_rule_34 : decode cL_rule 34 = .ok (.aastore, 1) := by decide +kernel
theorem dL_rule_35 : decode cL_rule 35 = .ok (.dup, 1) := by decide +kernel
theorem dL_rule_36 : decode cL_rule 36 = .ok (.bipush 6, 2) := by decide +kernel
theorem dL_rule_38 : decode cL_rule 38 = .ok (.ldc 48, 2) := by decide +kernel
theorem dL_rule_40 : decode cL_rule 40 = .ok (.aastore, 1) := by decide +kernel
theorem dL_rule_41 : decode cL_rule 41 = .ok (.astore_n 1, 1) := by decide +kernel
theorem dL_rule_42 : decode cL_rule 42 = .ok (.aload_n 0, 1) := by decide +kernel
theorem dL_rule_43 : decode cL_rule 43 = .ok (.invokestatic 50, 3) := by decide +kernel
theorem dL_rule_46 : decode cL_rule 46 = .ok (.iconst 5, 1) := by decide +kernel
theorem dL_rule_47 : decode cL_rule 47 = .ok (.irem, 1) := by decide +kernel
theorem dL_rule_48 : decode cL_rule 48 = .ok (.tableswitch 220 0 2 #[28, 73, 176], 28) := by decide +kernel
theorem dL_rule_76 : decode cL_rule 76 = .ok (.new 54, 3) := by decide +kernel
theorem dL_rule_79 : decode cL_rule 79 = .ok (.dup, 1) := by decide +kernel
theorem dL_rule_80 : decode cL_rule 80 = .ok (.invokespecial 56, 3) := by decide +kernel
theorem dL_rule_83 : decode cL_rule 83 = .ok (.ldc 57, 2) := by decide +kernel
theorem dL_rule_85 : decode cL_rule 85 = .ok (.invokevirtual 59, 3) := by decide +kernel
theorem dL_rule_88 : decode cL_rule 88 = .ok (.iconst 1, 1) := by decide +kernel
theorem dL_rule_89 : decode cL_rule 89 = .ok (.aload_n 0, 1) := by decide +kernel
theorem dL_rule_90 : decode cL_rule 90 = .ok (.invokestatic 50, 3) := by decide +kernel
theorem dL_rule_93 : decode cL_rule 93 = .ok (.bipush 9, 2) := by decide +kernel
theorem dL_rule_95 : decode cL_rule 95 = .ok (.irem, 1) := by decide +kernel
theorem dL_rule_96 : decode cL_rule 96 = .ok (.iadd, 1) := by decide +kernel
theorem dL_rule_97 : decode cL_rule 97 = .ok (.invokevirtual 63, 3) := by decide +kernel
theorem dL_rule_100 : decode cL_rule 100 = .ok (.ldc 66, 2) := by decide +kernel
theorem dL_rule_102 : decode cL_rule 102 = .ok (.invokevirtual 59, 3) := by decide +kernel
theorem dL_rule_105 : decode cL_rule 105 = .ok (.iconst 1, 1) := by decide +kernel
theorem dL_rule_106 : decode cL_rule 106 = .ok (.aload_n 0, 1) := by decide +kernel
theorem dL_rule_107 : decode cL_rule 107 = .ok (.invokestatic 50, 3) := by decide +kernel
theorem dL_rule_110 : decode cL_rule 110 = .ok (.bipush 12, 2) := by decide +kernel
theorem dL_rule_112 : decode cL_rule 112 = .ok (.irem, 1) := by decide +kernel
theorem dL_rule_113 : decode cL_rule 113 = .ok (.iadd, 1) := by decide +kernel
theorem dL_rule_114 : decode cL_rule 114 = .ok (.invokevirtual 63, 3) := by decide +kernel
theorem dL_rule_117 : decode cL_rule 117 = .ok (.invokevirtual 68, 3) := by decide +kernel
theorem dL_rule_120 : decode cL_rule 120 = .ok (.areturn, 1) := by decide +kernel
theorem dL_rule_121 : decode cL_rule 121 = .ok (.aload_n 0, 1) := by decide +kernel
theorem dL_rule_122 : decode cL_rule 122 = .ok (.invokestatic 50, 3) := by decide +kernel
theorem dL_rule_125 : decode cL_rule 125 = .ok (.bipush 6, 2) := by decide +kernel
theorem dL_rule_127 : decode cL_rule 127 = .ok (.irem, 1) := by decide +kernel
theorem dL_rule_128 : decode cL_rule 128 = .ok (.istore_n 2, 1) := by decide +kernel
theorem dL_rule_129 : decode cL_rule 129 = .ok (.new 54, 3) := by decide +kernel
theorem dL_rule_132 : decode cL_rule 132 = .ok (.dup, 1) := by decide +kernel
theorem dL_rule_133 : decode cL_rule 133 = .ok (.invokespecial 56, 3) := by decide +kernel
theorem dL_rule_136 : decode cL_rule 136 = .ok (.ldc 57, 2) := by decide +kernel
theorem dL_rule_138 : decode cL_rule 138 = .ok (.invokevirtual 59, 3) := by decide +kernel
theorem dL_rule_141 : decode cL_rule 141 = .ok (.iconst 1, 1) := by decide +kernel
theorem dL_rule_142 : decode cL_rule 142 = .ok (.aload_n 0, 1) := by decide +kernel
theorem dL_rule_143 : decode cL_rule 143 = .ok (.invokestatic 50, 3) := by decide +kernel
theorem dL_rule_146 : decode cL_rule 146 = .ok (.iconst 3, 1) := by decide +kernel
theorem dL_rule_147 : decode cL_rule 147 = .ok (.irem, 1) := by decide +kernel
theorem dL_rule_148 : decode cL_rule 148 = .ok (.iadd, 1) := by decide +kernel
theorem dL_rule_149 : decode cL_rule 149 = .ok (.invokevirtual 63, 3) := by decide +kernel
theorem dL_rule_152 : decode cL_rule 152 = .ok (.ldc 72, 2) := by decide +kernel
theorem dL_rule_154 : decode cL_rule 154 = .ok (.invokevirtual 59, 3) := by decide +kernel
theorem dL_rule_157 : decode cL_rule 157 = .ok (.aload_n 1, 1) := by decide +kernel
theorem dL_rule_158 : decode cL_rule 158 = .ok (.iload_n 2, 1) := by decide +kernel
theorem dL_rule_159 : decode cL_rule 159 = .ok (.aaload, 1) := by decide +kernel
theorem dL_rule_160 : decode cL_rule 160 = .ok (.invokevirtual 59, 3) := by decide +kernel
theorem dL_rule_163 : decode cL_rule 163 = .ok (.aload_n 0, 1) := by decide +kernel
theorem dL_rule_164 : decode cL_rule 164 = .ok (.invokestatic 50, 3) := by decide +kernel
theorem dL_rule_167 : decode cL_rule 167 = .ok (.iconst 2, 1) := by decide +kernel
theorem dL_rule_168 : decode cL_rule 168 = .ok (.irem, 1) := by decide +kernel
theorem dL_rule_169 : decode cL_rule 169 = .ok (.ifCond .ne 8, 3) := by decide +kernel
theorem dL_rule_172 : decode cL_rule 172 = .ok (.ldc 74, 2) := by decide +kernel
theorem dL_rule_174 : decode cL_rule 174 = .ok (.goto 26, 3) := by decide +kernel
theorem dL_rule_177 : decode cL_rule 177 = .ok (.new 54, 3) := by decide +kernel
theorem dL_rule_180 : decode cL_rule 180 = .ok (.dup, 1) := by decide +kernel
theorem dL_rule_181 : decode cL_rule 181 = .ok (.invokespecial 56, 3) := by decide +kernel
theorem dL_rule_184 : decode cL_rule 184 = .ok (.ldc 76, 2) := by decide +kernel
theorem dL_rule_186 : decode cL_rule 186 = .ok (.invokevirtual 59, 3) := by decide +kernel
theorem dL_rule_189 : decode cL_rule 189 = .ok (.aload_n 1, 1) := by decide +kernel
theorem dL_rule_190 : decode cL_rule 190 = .ok (.iload_n 2, 1) := by decide +kernel
theorem dL_rule_191 : decode cL_rule 191 = .ok (.iconst 1, 1) := by decide +kernel
theorem dL_rule_192 : decode cL_rule 192 = .ok (.iadd, 1) := by decide +kernel
theorem dL_rule_193 : decode cL_rule 193 = .ok (.aaload, 1) := by decide +kernel
theorem dL_rule_194 : decode cL_rule 194 = .ok (.invokevirtual 59, 3) := by decide +kernel
theorem dL_rule_197 : decode cL_rule 197 = .ok (.invokevirtual 68, 3) := by decide +kernel
theorem dL_rule_200 : decode cL_rule 200 = .ok (.invokevirtual 59, 3) := by decide +kernel
theorem dL_rule_203 : decode cL_rule 203 = .ok (.ldc 78, 2) := by decide +kernel
theorem dL_rule_205 : decode cL_rule 205 = .ok (.invokevirtual 59, 3) := by decide +kernel
theorem dL_rule_208 : decode cL_rule 208 = .ok (.iconst 1, 1) := by decide +kernel
theorem dL_rule_209 : decode cL_rule 209 = .ok (.aload_n 0, 1) := by decide +kernel
theorem dL_rule_210 : decode cL_rule 210 = .ok (.invokestatic 50, 3) := by decide +kernel
theorem dL_rule_213 : decode cL_rule 213 = .ok (.bipush 12, 2) := by decide +kernel
theorem dL_rule_215 : decode cL_rule 215 = .ok (.irem, 1) := by decide +kernel
theorem dL_rule_216 : decode cL_rule 216 = .ok (.iadd, 1) := by decide +kernel
theorem dL_rule_217 : decode cL_rule 217 = .ok (.invokevirtual 63, 3) := by decide +kernel
theorem dL_rule_220 : decode cL_rule 220 = .ok (.invokevirtual 68, 3) := by decide +kernel
theorem dL_rule_223 : decode cL_rule 223 = .ok (.areturn, 1) := by decide +kernel
theorem dL_rule_224 : decode cL_rule 224 = .ok (.new 54, 3) := by decide +kernel
theorem dL_rule_227 : decode cL_rule 227 = .ok (.dup, 1) := by decide +kernel
theorem dL_rule_228 : decode cL_rule 228 = .ok (.invokespecial 56, 3) := by decide +kernel
theorem dL_rule_231 : decode cL_rule 231 = .ok (.ldc 57, 2) := by decide +kernel
theorem dL_rule_233 : decode cL_rule 233 = .ok (.invokevirtual 59, 3) := by decide +kernel
theorem dL_rule_236 : decode cL_rule 236 = .ok (.iconst 1, 1) := by decide +kernel
theorem dL_rule_237 : decode cL_rule 237 = .ok (.aload_n 0, 1) := by decide +kernel
theorem dL_rule_238 : decode cL_rule 238 = .ok (.invokestatic 50, 3) := by decide +kernel
theorem dL_rule_241 : decode cL_rule 241 = .ok (.iconst 4, 1) := by decide +kernel
theorem dL_rule_242 : decode cL_rule 242 = .ok (.irem, 1) := by decide +kernel
theorem dL_rule_243 : decode cL_rule 243 = .ok (.iadd, 1) := by decide +kernel
theorem dL_rule_244 : decode cL_rule 244 = .ok (.invokevirtual 63, 3) := by decide +kernel
theorem dL_rule_247 : decode cL_rule 247 = .ok (.ldc 80, 2) := by decide +kernel
theorem dL_rule_249 : decode cL_rule 249 = .ok (.invokevirtual 59, 3) := by decide +kernel
theorem dL_rule_252 : decode cL_rule 252 = .ok (.iconst 1, 1) := by decide +kernel
theorem dL_rule_253 : decode cL_rule 253 = .ok (.aload_n 0, 1) := by decide +kernel
theorem dL_rule_254 : decode cL_rule 254 = .ok (.invokestatic 50, 3) := by decide +kernel
theorem dL_rule_257 : decode cL_rule 257 = .ok (.bipush 12, 2) := by decide +kernel
theorem dL_rule_259 : decode cL_rule 259 = .ok (.irem, 1) := by decide +kernel
theorem dL_rule_260 : decode cL_rule 260 = .ok (.iadd, 1) := by decide +kernel
theorem dL_rule_261 : decode cL_rule 261 = .ok (.invokevirtual 63, 3) := by decide +kernel
theorem dL_rule_264 : decode cL_rule 264 = .ok (.invokevirtual 68, 3) := by decide +kernel
theorem dL_rule_267 : decode cL_rule 267 = .ok (.areturn, 1) := by decide +kernel
theorem dL_rule_268 : decode cL_rule 268 = .ok (.ldc 74, 2) := by decide +kernel
theorem dL_rule_270 : decode cL_rule 270 = .ok (.areturn, 1) := by decide +kernel
def pg_L_rule (l : Launch) (g : EG) : List (Nat × ES) := [(0, s_c (.inl 7)), (2, s_newaL sg_L_rule 54 7), (5, s_dup), (6, s_c (.inl 0)), (7, s_strG g 22), (9, s_aastS), (10, s_dup), (11, s_c (.inl 1)), (12, s_strG g 23), (14, s_aastS), (15, s_dup), (16, s_c (.inl 2)), (17, s_strG g 24), (19, s_aastS), (20, s_dup), (21, s_c (.inl 3)), (22, s_strG g 25), (24, s_aastS), (25, s_dup), (26, s_c (.inl 4)), (27, s_strG g 26), (29, s_aastS), (30, s_dup), (31, s_c (.inl 5)), (32, s_strG g 27), (34, s_aastS), (35, s_dup), (36, s_c (.inl 6)), (38, s_strG g 28), (40, s_aastS), (41, s_stP 1), (42, s_ldP 0), (43, s_callS0 l g sg_L_rule sg_L_next), (46, s_c (.inl 5)), (47, s_iid (fun x y => x - x / y * y) (fun _ y => ¬ y = 0)), (48, s_tab 0 [76, 121, 224] 268), (76, s_newL sg_L_rule 10 57), (79, s_dup), (80, s_callIA l g sg_L_rule sg_J4_init_da8c8), (83, s_strG g 29), (85, s_callVL l g sg_L_rule sg_J4_append_15ec4 10), (88, s_c (.inl 1)), (89, s_ldP 0), (90, s_callS0 l g sg_L_rule sg_L_next), (93, s_c (.inl 9)), (95, s_iid (fun x y => x - x / y * y) (fun _ y => ¬ y = 0)), (96, s_ii (fun x y => x + y)), (97, s_callVL l g sg_L_rule sg_J4_append_bf812 10), (100, s_strG g 30), (102, s_callVL l g sg_L_rule sg_J4_append_15ec4 10), (105, s_c (.inl 1)), (106, s_ldP 0), (107, s_callS0 l g sg_L_rule sg_L_next), (110, s_c (.inl 12)), (112, s_iid (fun x y => x - x / y * y) (fun _ y => ¬ y = 0)), (113, s_ii (fun x y => x + y)), (114, s_callVL l g sg_L_rule sg_J4_append_bf812 10), (117, s_callVL l g sg_L_rule sg_J4_toString_0e30d 10), (120, s_aret), (121, s_ldP 0), (122, s_callS0 l g sg_L_rule sg_L_next), (125, s_c (.inl 6)), (127, s_iid (fun x y => x - x / y * y) (fun _ y => ¬ y = 0)), (128, s_stI 2), (129, s_newL sg_L_rule 10 57), (132, s_dup), (133, s_callIA l g sg_L_rule sg_J4_init_da8c8), (136, s_strG g 29), (138, s_callVL l g sg_L_rule sg_J4_append_15ec4 10), (141, s_c (.inl 1)), (142, s_ldP 0), (143, s_callS0 l g sg_L_rule sg_L_next), (146, s_c (.inl 3)), (147, s_iid (fun x y => x - x / y * y) (fun _ y => ¬ y = 0)), (148, s_ii (fun x y => x + y)), (149, s_callVL l g sg_L_rule sg_J4_append_bf812 10), (152, s_strG g 31), (154, s_callVL l g sg_L_rule sg_J4_append_15ec4 10), (157, s_ldP 1), (158, s_ldI 2), (159, s_aaldS g), (160, s_callVL l g sg_L_rule sg_J4_append_15ec4 10), (163, s_ldP 0), (164, s_callS0 l g sg_L_rule sg_L_next), (167, s_c (.inl 2)), (168, s_iid (fun x y => x - x / y * y) (fun _ y => ¬ y = 0)), (169, s_if_ne 177), (172, s_strG g 17), (174, s_goto 200), (177, s_newL sg_L_rule 10 57), (180, s_dup), (181, s_callIA l g sg_L_rule sg_J4_init_da8c8), (184, s_strG g 32), (186, s_callVL l g sg_L_rule sg_J4_append_15ec4 10), (189, s_ldP 1), (190, s_ldI 2), (191, s_c (.inl 1)), (192, s_ii (fun x y => x + y)), (193, s_aaldS g), (194, s_callVL l g sg_L_rule sg_J4_append_15ec4 10), (197, s_callVL l g sg_L_rule sg_J4_toString_0e30d 10), (200, s_callVL l g sg_L_rule sg_J4_append_15ec4 10), (203, s_strG g 33), (205, s_callVL l g sg_L_rule sg_J4_append_15ec4 10), (208, s_c (.inl 1)), (209, s_ldP 0), (210, s_callS0 l g sg_L_rule sg_L_next), (213, s_c (.inl 12)), (215, s_iid (fun x y => x - x / y * y) (fun _ y => ¬ y = 0)), (216, s_ii (fun x y => x + y)), (217, s_callVL l g sg_L_rule sg_J4_append_bf812 10), (220, s_callVL l g sg_L_rule sg_J4_toString_0e30d 10), (223, s_aret), (224, s_newL sg_L_rule 10 57), (227, s_dup), (228, s_callIA l g sg_L_rule sg_J4_init_da8c8), (231, s_strG g 29), (233, s_callVL l g sg_L_rule sg_J4_append_15ec4 10), (236, s_c (.inl 1)), (237, s_ldP 0), (238, s_callS0 l g sg_L_rule sg_L_next), (241, s_c (.inl 4)), (242, s_iid (fun x y => x - x / y * y) (fun _ y => ¬ y = 0)), (243, s_ii (fun x y => x + y)), (244, s_callVL l g sg_L_rule sg_J4_append_bf812 10), (247, s_strG g 34), (249, s_callVL l g sg_L_rule sg_J4_append_15ec4 10), (252, s_c (.inl 1)), (253, s_ldP 0), (254, s_callS0 l g sg_L_rule sg_L_next), (257, s_c (.inl 12)), (259, s_iid (fun x y => x - x / y * y) (fun _ y => ¬ y = 0)), (260, s_ii (fun x y => x + y)), (261, s_callVL l g sg_L_rule sg_J4_append_bf812 10), (264, s_callVL l g sg_L_rule sg_J4_toString_0e30d 10), (267, s_aret), (268, s_strG g 17), (270, s_aret)]
set_option maxRecDepth 100000 in
theorem ok_L_rule {l : Launch} {g : EG} : e_okp l g sg_L_rule "CalendarSyncLaw" (pg_L_rule l g) := fun p e R s m args below meth c ex M0 Q X =>
    e_each_cons (r_bipush X (n := 7) (v := 7) dL_rule_0 (by decide) rfl)
    (e_each_cons (r_newaL (r_anewa X (index := 9) (ai := 4) (t := 54) (n := 7) (C := "java/lang/String") dL_rule_2 rfl (fun _ => rfl) ⟨by decide, by decide⟩ (fun _ => rfl) (by decide) yw5_133 (by decide) rfl))
    (e_each_cons (r_dup X dL_rule_5 rfl)
    (e_each_cons (r_iconst X (n := 0) (v := 0) dL_rule_6 (by decide) rfl)
    (e_each_cons (r_strG X (k := 22) (is := 36) dL_rule_7 rfl ⟨⟨rfl, rfl⟩, by decide⟩ rfl)
    (e_each_cons (r_aastS X dL_rule_9 rfl)
    (e_each_cons (r_dup X dL_rule_10 rfl)
    (e_each_cons (r_iconst X (n := 1) (v := 1) dL_rule_11 (by decide) rfl)
    (e_each_cons (r_strG X (k := 23) (is := 38) dL_rule_12 rfl ⟨⟨rfl, rfl⟩, by decide⟩ rfl)
    (e_each_cons (r_aastS X dL_rule_14 rfl)
    (e_each_cons (r_dup X dL_rule_15 rfl)
    (e_each_cons (r_iconst X (n := 2) (v := 2) dL_rule_16 (by decide) rfl)
    (e_each_cons (r_strG X (k := 24) (is := 40) dL_rule_17 rfl ⟨⟨rfl, rfl⟩, by decide⟩ rfl)
    (e_each_cons (r_aastS X dL_rule_19 rfl)
    (e_each_cons (r_dup X dL_rule_20 rfl)
    (e_each_cons (r_iconst X (n := 3) (v := 3) dL_rule_21 (by decide) rfl)
    (e_each_cons (r_strG X (k := 25) (is := 42) dL_rule_22 rfl ⟨⟨rfl, rfl⟩, by decide⟩ rfl)
    (e_each_cons (r_aastS X dL_rule_24 rfl)
    (e_each_cons (r_dup X dL_rule_25 rfl)
    (e_each_cons (r_iconst X (n := 4) (v := 4) dL_rule_26 (by decide) rfl)
    (e_each_cons (r_strG X (k := 26) (is := 44) dL_rule_27 rfl ⟨⟨rfl, rfl⟩, by decide⟩ rfl)
    (e_each_cons (r_aastS X dL_rule_29 rfl)
    (e_each_cons (r_dup X dL_rule_30 rfl)
    (e_each_cons (r_iconst X (n := 5) (v := 5) dL_rule_31 (by decide) rfl)
    (e_each_cons (r_strG X (k := 27) (is := 46) dL_rule_32 rfl ⟨⟨rfl, rfl⟩, by decide⟩ rfl)
    (e_each_cons (r_aastS X dL_rule_34 rfl)
    (e_each_cons (r_dup X dL_rule_35 rfl)
    (e_each_cons (r_bipush X (n := 6) (v := 6) dL_rule_36 (by decide) rfl)
    (e_each_cons (r_strG X (k := 28) (is := 48) dL_rule_38 rfl ⟨⟨rfl, rfl⟩, by decide⟩ rfl)
    (e_each_cons (r_aastS X dL_rule_40 rfl)
    (e_each_cons (r_astore_n X (k := 1) (i := 1) rfl dL_rule_41 (by decide) rfl)
    (e_each_cons (r_aload_n X (k := 0) (i := 0) rfl dL_rule_42 rfl)
    (e_each_cons (r_callS0 X (τ := sg_L_next) (index := 50) dL_rule_43 yw3_100 yw3_101 cs_L_next rfl ⟨by decide, by decide⟩ rfl)
    (e_each_cons (r_iconst X (n := 5) (v := 5) dL_rule_46 (by decide) rfl)
    (e_each_cons (r_irem X dL_rule_47 rfl)
    (e_each_cons (r_tab X (dflt := 220) (lo := 0) (hi := 2) (ts := [76, 121, 224]) (dt := 268) dL_rule_48 (by decide) (by decide) (by decide))
    (e_each_cons (r_newL (r_new X (index := 54) (ci := 10) (t := 57) dL_rule_76 (by decide) rfl (fun _ => rfl) yw4_131 yw4_132 yw1_12 uw_10 rfl))
    (e_each_cons (r_dup X dL_rule_79 rfl)
    (e_each_cons (r_callIA X rfl (τ := sg_J4_init_da8c8) (index := 56) dL_rule_80 yw5_51 yw5_52 cs_J4_init_da8c8 rfl rfl rfl ⟨by decide, by decide⟩ rfl)
    (e_each_cons (r_strG X (k := 29) (is := 57) dL_rule_83 rfl ⟨⟨rfl, rfl⟩, by decide⟩ rfl)
    (e_each_cons (r_callVL X rfl (τ := sg_J4_append_15ec4) (index := 59) (ci := 10) dL_rule_85 (by decide) rfl yw5_25 yw4_159 yw4_160 cs_J4_append_15ec4 rfl ⟨by decide, by decide⟩ rfl)
    (e_each_cons (r_iconst X (n := 1) (v := 1) dL_rule_88 (by decide) rfl)
    (e_each_cons (r_aload_n X (k := 0) (i := 0) rfl dL_rule_89 rfl)
    (e_each_cons (r_callS0 X (τ := sg_L_next) (index := 50) dL_rule_90 yw3_100 yw3_101 cs_L_next rfl ⟨by decide, by decide⟩ rfl)
    (e_each_cons (r_bipush X (n := 9) (v := 9) dL_rule_93 (by decide) rfl)
    (e_each_cons (r_irem X dL_rule_95 rfl)
    (e_each_cons (r_iadd X dL_rule_96 rfl)
    (e_each_cons (r_callVL X rfl (τ := sg_J4_append_bf812) (index := 63) (ci := 10) dL_rule_97 (by decide) rfl yw5_26 yw5_27 yw5_28 cs_J4_append_bf812 rfl ⟨by decide, by decide⟩ rfl)
    (e_each_cons (r_strG X (k := 30) (is := 66) dL_rule_100 rfl ⟨⟨rfl, rfl⟩, by decide⟩ rfl)
    (e_each_cons (r_callVL X rfl (τ := sg_J4_append_15ec4) (index := 59) (ci := 10) dL_rule_102 (by decide) rfl yw5_25 yw4_159 yw4_160 cs_J4_append_15ec4 rfl ⟨by decide, by decide⟩ rfl)
    (e_each_cons (r_iconst X (n := 1) (v := 1) dL_rule_105 (by decide) rfl)
    (e_each_cons (r_aload_n X (k := 0) (i := 0) rfl dL_rule_106 rfl)
    (e_each_cons (r_callS0 X (τ := sg_L_next) (index := 50) dL_rule_107 yw3_100 yw3_101 cs_L_next rfl ⟨by decide, by decide⟩ rfl)
    (e_each_cons (r_bipush X (n := 12) (v := 12) dL_rule_110 (by decide) rfl)
    (e_each_cons (r_irem X dL_rule_112 rfl)
    (e_each_cons (r_iadd X dL_rule_113 rfl)
    (e_each_cons (r_callVL X rfl (τ := sg_J4_append_bf812) (index := 63) (ci := 10) dL_rule_114 (by decide) rfl yw5_26 yw5_27 yw5_28 cs_J4_append_bf812 rfl ⟨by decide, by decide⟩ rfl)
    (e_each_cons (r_callVL X rfl (τ := sg_J4_toString_0e30d) (index := 68) (ci := 10) dL_rule_117 (by decide) rfl yw5_58 yw5_59 yw5_60 cs_J4_toString_0e30d rfl ⟨by decide, by decide⟩ rfl)
    (e_each_cons (r_aret X dL_rule_120 rfl)
    (e_each_cons (r_aload_n X (k := 0) (i := 0) rfl dL_rule_121 rfl)
    (e_each_cons (r_callS0 X (τ := sg_L_next) (index := 50) dL_rule_122 yw3_100 yw3_101 cs_L_next rfl ⟨by decide, by decide⟩ rfl)
    (e_each_cons (r_bipush X (n := 6) (v := 6) dL_rule_125 (by decide) rfl)
    (e_each_cons (r_irem X dL_rule_127 rfl)
    (e_each_cons (r_istore_n X (k := 2) (i := 2) rfl dL_rule_128 (by decide) rfl)
    (e_each_cons (r_newL (r_new X (index := 54) (ci := 10) (t := 57) dL_rule_129 (by decide) rfl (fun _ => rfl) yw4_131 yw4_132 yw1_12 uw_10 rfl))
    (e_each_cons (r_dup X dL_rule_132 rfl)
    (e_each_cons (r_callIA X rfl (τ := sg_J4_init_da8c8) (index := 56) dL_rule_133 yw5_51 yw5_52 cs_J4_init_da8c8 rfl rfl rfl ⟨by decide, by decide⟩ rfl)
    (e_each_cons (r_strG X (k := 29) (is := 57) dL_rule_136 rfl ⟨⟨rfl, rfl⟩, by decide⟩ rfl)
    (e_each_cons (r_callVL X rfl (τ := sg_J4_append_15ec4) (index := 59) (ci := 10) dL_rule_138 (by decide) rfl yw5_25 yw4_159 yw4_160 cs_J4_append_15ec4 rfl ⟨by decide, by decide⟩ rfl)
    (e_each_cons (r_iconst X (n := 1) (v := 1) dL_rule_141 (by decide) rfl)
    (e_each_cons (r_aload_n X (k := 0) (i := 0) rfl dL_rule_142 rfl)
    (e_each_cons (r_callS0 X (τ := sg_L_next) (index := 50) dL_rule_143 yw3_100 yw3_101 cs_L_next rfl ⟨by decide, by decide⟩ rfl)
    (e_each_cons (r_iconst X (n := 3) (v := 3) dL_rule_146 (by decide) rfl)
    (e_each_cons (r_irem X dL_rule_147 rfl)
    (e_each_cons (r_iadd X dL_rule_148 rfl)
    (e_each_cons (r_callVL X rfl (τ := sg_J4_append_bf812) (index := 63) (ci := 10) dL_rule_149 (by decide) rfl yw5_26 yw5_27 yw5_28 cs_J4_append_bf812 rfl ⟨by decide, by decide⟩ rfl)
    (e_each_cons (r_strG X (k := 31) (is := 72) dL_rule_152 rfl ⟨⟨rfl, rfl⟩, by decide⟩ rfl)
    (e_each_cons (r_callVL X rfl (τ := sg_J4_append_15ec4) (index := 59) (ci := 10) dL_rule_154 (by decide) rfl yw5_25 yw4_159 yw4_160 cs_J4_append_15ec4 rfl ⟨by decide, by decide⟩ rfl)
    (e_each_cons (r_aload_n X (k := 1) (i := 1) rfl dL_rule_157 rfl)
    (e_each_cons (r_iload_n X (k := 2) (i := 2) rfl dL_rule_158 rfl)
    (e_each_cons (r_aaldS X dL_rule_159 rfl)
    (e_each_cons (r_callVL X rfl (τ := sg_J4_append_15ec4) (index := 59) (ci := 10) dL_rule_160 (by decide) rfl yw5_25 yw4_159 yw4_160 cs_J4_append_15ec4 rfl ⟨by decide, by decide⟩ rfl)
    (e_each_cons (r_aload_n X (k := 0) (i := 0) rfl dL_rule_163 rfl)
    (e_each_cons (r_callS0 X (τ := sg_L_next) (index := 50) dL_rule_164 yw3_100 yw3_101 cs_L_next rfl ⟨by decide, by decide⟩ rfl)
    (e_each_cons (r_iconst X (n := 2) (v := 2) dL_rule_167 (by decide) rfl)
    (e_each_cons (r_irem X dL_rule_168 rfl)
    (e_each_cons (r_if_ne X (off := 8) (t := 177) dL_rule_169 (by decide) rfl)
    (e_each_cons (r_strG X (k := 17) (is := 74) dL_rule_172 rfl ⟨⟨rfl, rfl⟩, by decide⟩ rfl)
    (e_each_cons (r_goto X (off := 26) (t := 200) dL_rule_174 (by decide))
    (e_each_cons (r_newL (r_new X (index := 54) (ci := 10) (t := 57) dL_rule_177 (by decide) rfl (fun _ => rfl) yw4_131 yw4_132 yw1_12 uw_10 rfl))
    (e_each_cons (r_dup X dL_rule_180 rfl)
    (e_each_cons (r_callIA X rfl (τ := sg_J4_init_da8c8) (index := 56) dL_rule_181 yw5_51 yw5_52 cs_J4_init_da8c8 rfl rfl rfl ⟨by decide, by decide⟩ rfl)
    (e_each_cons (r_strG X (k := 32) (is := 76) dL_rule_184 rfl ⟨⟨rfl, rfl⟩, by decide⟩ rfl)
    (e_each_cons (r_callVL X rfl (τ := sg_J4_append_15ec4) (index := 59) (ci := 10) dL_rule_186 (by decide) rfl yw5_25 yw4_159 yw4_160 cs_J4_append_15ec4 rfl ⟨by decide, by decide⟩ rfl)
    (e_each_cons (r_aload_n X (k := 1) (i := 1) rfl dL_rule_189 rfl)
    (e_each_cons (r_iload_n X (k := 2) (i := 2) rfl dL_rule_190 rfl)
    (e_each_cons (r_iconst X (n := 1) (v := 1) dL_rule_191 (by decide) rfl)
    (e_each_cons (r_iadd X dL_rule_192 rfl)
    (e_each_cons (r_aaldS X dL_rule_193 rfl)
    (e_each_cons (r_callVL X rfl (τ := sg_J4_append_15ec4) (index := 59) (ci := 10) dL_rule_194 (by decide) rfl yw5_25 yw4_159 yw4_160 cs_J4_append_15ec4 rfl ⟨by decide, by decide⟩ rfl)
    (e_each_cons (r_callVL X rfl (τ := sg_J4_toString_0e30d) (index := 68) (ci := 10) dL_rule_197 (by decide) rfl yw5_58 yw5_59 yw5_60 cs_J4_toString_0e30d rfl ⟨by decide, by decide⟩ rfl)
    (e_each_cons (r_callVL X rfl (τ := sg_J4_append_15ec4) (index := 59) (ci := 10) dL_rule_200 (by decide) rfl yw5_25 yw4_159 yw4_160 cs_J4_append_15ec4 rfl ⟨by decide, by decide⟩ rfl)
    (e_each_cons (r_strG X (k := 33) (is := 78) dL_rule_203 rfl ⟨⟨rfl, rfl⟩, by decide⟩ rfl)
    (e_each_cons (r_callVL X rfl (τ := sg_J4_append_15ec4) (index := 59) (ci := 10) dL_rule_205 (by decide) rfl yw5_25 yw4_159 yw4_160 cs_J4_append_15ec4 rfl ⟨by decide, by decide⟩ rfl)
    (e_each_cons (r_iconst X (n := 1) (v := 1) dL_rule_208 (by decide) rfl)
    (e_each_cons (r_aload_n X (k := 0) (i := 0) rfl dL_rule_209 rfl)
    (e_each_cons (r_callS0 X (τ := sg_L_next) (index := 50) dL_rule_210 yw3_100 yw3_101 cs_L_next rfl ⟨by decide, by decide⟩ rfl)
    (e_each_cons (r_bipush X (n := 12) (v := 12) dL_rule_213 (by decide) rfl)
    (e_each_cons (r_irem X dL_rule_215 rfl)
    (e_each_cons (r_iadd X dL_rule_216 rfl)
    (e_each_cons (r_callVL X rfl (τ := sg_J4_append_bf812) (index := 63) (ci := 10) dL_rule_217 (by decide) rfl yw5_26 yw5_27 yw5_28 cs_J4_append_bf812 rfl ⟨by decide, by decide⟩ rfl)
    (e_each_cons (r_callVL X rfl (τ := sg_J4_toString_0e30d) (index := 68) (ci := 10) dL_rule_220 (by decide) rfl yw5_58 yw5_59 yw5_60 cs_J4_toString_0e30d rfl ⟨by decide, by decide⟩ rfl)
    (e_each_cons (r_aret X dL_rule_223 rfl)
    (e_each_cons (r_newL (r_new X (index := 54) (ci := 10) (t := 57) dL_rule_224 (by decide) rfl (fun _ => rfl) yw4_131 yw4_132 yw1_12 uw_10 rfl))
    (e_each_cons (r_dup X dL_rule_227 rfl)
    (e_each_cons (r_callIA X rfl (τ := sg_J4_init_da8c8) (index := 56) dL_rule_228 yw5_51 yw5_52 cs_J4_init_da8c8 rfl rfl rfl ⟨by decide, by decide⟩ rfl)
    (e_each_cons (r_strG X (k := 29) (is := 57) dL_rule_231 rfl ⟨⟨rfl, rfl⟩, by decide⟩ rfl)
    (e_each_cons (r_callVL X rfl (τ := sg_J4_append_15ec4) (index := 59) (ci := 10) dL_rule_233 (by decide) rfl yw5_25 yw4_159 yw4_160 cs_J4_append_15ec4 rfl ⟨by decide, by decide⟩ rfl)
    (e_each_cons (r_iconst X (n := 1) (v := 1) dL_rule_236 (by decide) rfl)
    (e_each_cons (r_aload_n X (k := 0) (i := 0) rfl dL_rule_237 rfl)
    (e_each_cons (r_callS0 X (τ := sg_L_next) (index := 50) dL_rule_238 yw3_100 yw3_101 cs_L_next rfl ⟨by decide, by decide⟩ rfl)
    (e_each_cons (r_iconst X (n := 4) (v := 4) dL_rule_241 (by decide) rfl)
    (e_each_cons (r_irem X dL_rule_242 rfl)
    (e_each_cons (r_iadd X dL_rule_243 rfl)
    (e_each_cons (r_callVL X rfl (τ := sg_J4_append_bf812) (index := 63) (ci := 10) dL_rule_244 (by decide) rfl yw5_26 yw5_27 yw5_28 cs_J4_append_bf812 rfl ⟨by decide, by decide⟩ rfl)
    (e_each_cons (r_strG X (k := 34) (is := 80) dL_rule_247 rfl ⟨⟨rfl, rfl⟩, by decide⟩ rfl)
    (e_each_cons (r_callVL X rfl (τ := sg_J4_append_15ec4) (index := 59) (ci := 10) dL_rule_249 (by decide) rfl yw5_25 yw4_159 yw4_160 cs_J4_append_15ec4 rfl ⟨by decide, by decide⟩ rfl)
    (e_each_cons (r_iconst X (n := 1) (v := 1) dL_rule_252 (by decide) rfl)
    (e_each_cons (r_aload_n X (k := 0) (i := 0) rfl dL_rule_253 rfl)
    (e_each_cons (r_callS0 X (τ := sg_L_next) (index := 50) dL_rule_254 yw3_100 yw3_101 cs_L_next rfl ⟨by decide, by decide⟩ rfl)
    (e_each_cons (r_bipush X (n := 12) (v := 12) dL_rule_257 (by decide) rfl)
    (e_each_cons (r_irem X dL_rule_259 rfl)
    (e_each_cons (r_iadd X dL_rule_260 rfl)
    (e_each_cons (r_callVL X rfl (τ := sg_J4_append_bf812) (index := 63) (ci := 10) dL_rule_261 (by decide) rfl yw5_26 yw5_27 yw5_28 cs_J4_append_bf812 rfl ⟨by decide, by decide⟩ rfl)
    (e_each_cons (r_callVL X rfl (τ := sg_J4_toString_0e30d) (index := 68) (ci := 10) dL_rule_264 (by decide) rfl yw5_58 yw5_59 yw5_60 cs_J4_toString_0e30d rfl ⟨by decide, by decide⟩ rfl)
    (e_each_cons (r_aret X dL_rule_267 rfl)
    (e_each_cons (r_strG X (k := 17) (is := 74) dL_rule_268 rfl ⟨⟨rfl, rfl⟩, by decide⟩ rfl)
    (e_each_cons (r_aret X dL_rule_270 rfl)
    (e_each_nil))))))))))))))))))))))))))))))))))))))))))))))))))))))))))))))))))))))))))))))))))))))))))))))))))))))))))))))))))))))))))))))))))))))))))
def sg_L_calendar : SG := (yL_calendar, cL_calendar, 3, (some (.object "java/lang/String")), 9, 201, 235, 673363, 1, false, [])
theorem cs_L_calendar : e_cs sg_L_calendar := ⟨yw4_130, yw1_0, ⟨by decide, by decide⟩, by decide +kernel, rfl⟩
theorem mt_L_calendar : e_mtF sg_L_calendar "CalendarSyncLaw" := ⟨rfl, by decide +kernel, rfl⟩
theorem dL_calendar_0 : decode cL_calendar 0 = .ok (.new 54, 3) := by decide +kernel
theorem dL_calendar_3 : decode cL_calendar 3 = .ok (.dup, 1) := by decide +kernel
theorem dL_calendar_4 : decode cL_calendar 4 = .ok (.ldc 82, 2) := by decide +kernel
theorem dL_calendar_6 : decode cL_calendar 6 = .ok (.invokespecial 84, 3) := by decide +kernel
theorem dL_calendar_9 : decode cL_calendar 9 = .ok (.aload_n 0, 1) := by decide +kernel
theorem dL_calendar_10 : decode cL_calendar 10 = .ok (.invokestatic 50, 3) := by decide +kernel
theorem dL_calendar_13 : decode cL_calendar 13 = .ok (.iconst 2, 1) := by decide +kernel
theorem dL_calendar_14 : decode cL_calendar 14 = .ok (.irem, 1) := by decide +kernel
theorem dL_calendar_15 : decode cL_calendar 15 = .ok (.ifCond .ne 8, 3) := by decide +kernel
theorem dL_calendar_18 : decode cL_calendar 18 = .ok (.ldc 74, 2) := by decide +kernel
theorem dL_calendar_20 : decode cL_calendar 20 = .ok (.goto 5, 3) := by decide +kernel
theorem dL_calendar_23 : decode cL_calendar 23 = .ok (.ldc 87, 2) := by decide +kernel
theorem dL_calendar_25 : decode cL_calendar 25 = .ok (.invokevirtual 59, 3) := by decide +kernel
theorem dL_calendar_28 : decode cL_calendar 28 = .ok (.aload_n 0, 1) := by decide +kernel
theorem dL_calendar_29 : decode cL_calendar 29 = .ok (.invokestatic 50, 3) := by decide +kernel
theorem dL_calendar_32 : decode cL_calendar 32 = .ok (.sipush 721, 3) := by decide +kernel
theorem dL_calendar_35 : decode cL_calendar 35 = .ok (.irem, 1) := by decide +kernel
theorem dL_calendar_36 : decode cL_calendar 36 = .ok (.invokevirtual 63, 3) := by decide +kernel
theorem dL_calendar_39 : decode cL_calendar 39 = .ok (.aload_n 0, 1) := by decide +kernel
theorem dL_calendar_40 : decode cL_calendar 40 = .ok (.invokestatic 50, 3) := by decide +kernel
theorem dL_calendar_43 : decode cL_calendar 43 = .ok (.iconst 2, 1) := by decide +kernel
theorem dL_calendar_44 : decode cL_calendar 44 = .ok (.irem, 1) := by decide +kernel
theorem dL_calendar_45 : decode cL_calendar 45 = .ok (.ifCond .ne 8, 3) := by decide +kernel
theorem dL_calendar_48 : decode cL_calendar 48 = .ok (.ldc 74, 2) := by decide +kernel
theorem dL_calendar_50 : decode cL_calendar 50 = .ok (.goto 32, 3) := by decide +kernel
theorem dL_calendar_53 : decode cL_calendar 53 = .ok (.new 54, 3) := by decide +kernel
theorem dL_calendar_56 : decode cL_calendar 56 = .ok (.dup, 1) := by decide +kernel
theorem dL_calendar_57 : decode cL_calendar 57 = .ok (.invokespecial 56, 3) := by decide +kernel
theorem dL_calendar_60 : decode cL_calendar 60 = .ok (.ldc 89, 2) := by decide +kernel
theorem dL_calendar_62 : decode cL_calendar 62 = .ok (.invokevirtual 59, 3) := by decide +kernel
theorem dL_calendar_65 : decode cL_calendar 65 = .ok (.bipush 80, 2) := by decide +kernel
theorem dL_calendar_67 : decode cL_calendar 67 = .ok (.aload_n 0, 1) := by decide +kernel
theorem dL_calendar_68 : decode cL_calendar 68 = .ok (.invokestatic 50, 3) := by decide +kernel
theorem dL_calendar_71 : decode cL_calendar 71 = .ok (.sipush 200, 3) := by decide +kernel
theorem dL_calendar_74 : decode cL_calendar 74 = .ok (.irem, 1) := by decide +kernel
theorem dL_calendar_75 : decode cL_calendar 75 = .ok (.iadd, 1) := by decide +kernel
theorem dL_calendar_76 : decode cL_calendar 76 = .ok (.invokevirtual 63, 3) := by decide +kernel
theorem dL_calendar_79 : decode cL_calendar 79 = .ok (.invokevirtual 68, 3) := by decide +kernel
theorem dL_calendar_82 : decode cL_calendar 82 = .ok (.invokevirtual 59, 3) := by decide +kernel
theorem dL_calendar_85 : decode cL_calendar 85 = .ok (.ldc 91, 2) := by decide +kernel
theorem dL_calendar_87 : decode cL_calendar 87 = .ok (.invokevirtual 59, 3) := by decide +kernel
theorem dL_calendar_90 : decode cL_calendar 90 = .ok (.astore_n 1, 1) := by decide +kernel
theorem dL_calendar_91 : decode cL_calendar 91 = .ok (.aload_n 0, 1) := by decide +kernel
theorem dL_calendar_92 : decode cL_calendar 92 = .ok (.invokestatic 50, 3) := by decide +kernel
theorem dL_calendar_95 : decode cL_calendar 95 = .ok (.bipush 6, 2) := by decide +kernel
theorem dL_calendar_97 : decode cL_calendar 97 = .ok (.irem, 1) := by decide +kernel
theorem dL_calendar_98 : decode cL_calendar 98 = .ok (.istore_n 2, 1) := by decide +kernel
theorem dL_calendar_99 : decode cL_calendar 99 = .ok (.iload_n 2, 1) := by decide +kernel
theorem dL_calendar_100 : decode cL_calendar 100 = .ok (.ifCond .le 106, 3) := by decide +kernel
theorem dL_calendar_103 : decode cL_calendar 103 = .ok (.aload_n 1, 1) := by decide +kernel
theorem dL_calendar_104 : decode cL_calendar 104 = .ok (.ldc 93, 2) := by decide +kernel
theorem dL_calendar_106 : decode cL_calendar 106 = .ok (.invokevirtual 59, 3) := by decide +kernel
theorem dL_calendar_109 : decode cL_calendar 109 = .ok (.aload_n 0, 1) := by decide +kernel
theorem dL_calendar_110 : decode cL_calendar 110 = .ok (.invokestatic 50, 3) := by decide +kernel
theorem dL_calendar_113 : decode cL_calendar 113 = .ok (.iconst 4, 1) := by decide +kernel
theorem dL_calendar_114 : decode cL_calendar 114 = .ok (.irem, 1) := by decide +kernel
theorem dL_calendar_115 : decode cL_calendar 115 = .ok (.ifCond .ne 14, 3) := by decide +kernel
theorem dL_calendar_118 : decode cL_calendar 118 = .ok (.aload_n 0, 1) := by decide +kernel
theorem dL_calendar_119 : decode cL_calendar 119 = .ok (.invokestatic 50, 3) := by decide +kernel
theorem dL_calendar_122 : decode cL_calendar 122 = .ok (.sipush 1095, 3) := by decide +kernel
theorem dL_calendar_125 : decode cL_calendar 125 = .ok (.irem, 1) := by decide +kernel
theorem dL_calendar_126 : decode cL_calendar 126 = .ok (.goto 10, 3) := by decide +kernel
theorem dL_calendar_129 : decode cL_calendar 129 = .ok (.aload_n 0, 1) := by decide +kernel
theorem dL_calendar_130 : decode cL_calendar 130 = .ok (.invokestatic 50, 3) := by decide +kernel
theorem dL_calendar_133 : decode cL_calendar 133 = .ok (.bipush 60, 2) := by decide +kernel
theorem dL_calendar_135 : decode cL_calendar 135 = .ok (.irem, 1) := by decide +kernel
theorem dL_calendar_136 : decode cL_calendar 136 = .ok (.invokevirtual 63, 3) := by decide +kernel
theorem dL_calendar_139 : decode cL_calendar 139 = .ok (.bipush 32, 2) := by decide +kernel
theorem dL_calendar_141 : decode cL_calendar 141 = .ok (.invokevirtual 95, 3) := by decide +kernel
theorem dL_calendar_144 : decode cL_calendar 144 = .ok (.aload_n 0, 1) := by decide +kernel
theorem dL_calendar_145 : decode cL_calendar 145 = .ok (.invokestatic 50, 3) := by decide +kernel
theorem dL_calendar_148 : decode cL_calendar 148 = .ok (.sipush 1440, 3) := by decide +kernel
theorem dL_calendar_151 : decode cL_calendar 151 = .ok (.irem, 1) := by decide +kernel
theorem dL_calendar_152 : decode cL_calendar 152 = .ok (.invokevirtual 63, 3) := by decide +kernel
theorem dL_calendar_155 : decode cL_calendar 155 = .ok (.bipush 32, 2) := by decide +kernel
theorem dL_calendar_157 : decode cL_calendar 157 = .ok (.invokevirtual 95, 3) := by decide +kernel
theorem dL_calendar_160 : decode cL_calendar 160 = .ok (.iconst 1, 1) := by decide +kernel
theorem dL_calendar_161 : decode cL_calendar 161 = .ok (.aload_n 0, 1) := by decide +kernel
theorem dL_calendar_162 : decode cL_calendar 162 = .ok (.invokestatic 50, 3) := by decide +kernel
theorem dL_calendar_165 : decode cL_calendar 165 = .ok (.sipush 600, 3) := by decide +kernel
theorem dL_calendar_168 : decode cL_calendar 168 = .ok (.irem, 1) := by decide +kernel
theorem dL_calendar_169 : decode cL_calendar 169 = .ok (.iadd, 1) := by decide +kernel
theorem dL_calendar_170 : decode cL_calendar 170 = .ok (.invokevirtual 63, 3) := by decide +kernel
theorem dL_calendar_173 : decode cL_calendar 173 = .ok (.bipush 32, 2) := by decide +kernel
theorem dL_calendar_175 : decode cL_calendar 175 = .ok (.invokevirtual 95, 3) := by decide +kernel
theorem dL_calendar_178 : decode cL_calendar 178 = .ok (.aload_n 0, 1) := by decide +kernel
theorem dL_calendar_179 : decode cL_calendar 179 = .ok (.invokestatic 50, 3) := by decide +kernel
theorem dL_calendar_182 : decode cL_calendar 182 = .ok (.iconst 2, 1) := by decide +kernel
theorem dL_calendar_183 : decode cL_calendar 183 = .ok (.irem, 1) := by decide +kernel
theorem dL_calendar_184 : decode cL_calendar 184 = .ok (.invokevirtual 63, 3) := by decide +kernel
theorem dL_calendar_187 : decode cL_calendar 187 = .ok (.aload_n 0, 1) := by decide +kernel
theorem dL_calendar_188 : decode cL_calendar 188 = .ok (.invokestatic 98, 3) := by decide +kernel
theorem dL_calendar_191 : decode cL_calendar 191 = .ok (.invokevirtual 59, 3) := by decide +kernel
theorem dL_calendar_194 : decode cL_calendar 194 = .ok (.bipush 59, 2) := by decide +kernel
theorem dL_calendar_196 : decode cL_calendar 196 = .ok (.invokevirtual 95, 3) := by decide +kernel
theorem dL_calendar_199 : decode cL_calendar 199 = .ok (.pop, 1) := by decide +kernel
theorem dL_calendar_200 : decode cL_calendar 200 = .ok (.iinc 2 (-1), 3) := by decide +kernel
theorem dL_calendar_203 : decode cL_calendar 203 = .ok (.goto (-104), 3) := by decide +kernel
theorem dL_calendar_206 : decode cL_calendar 206 = .ok (.aload_n 1, 1) := by decide +kernel
theorem dL_calendar_207 : decode cL_calendar 207 = .ok (.invokevirtual 68, 3) := by decide +kernel
theorem dL_calendar_210 : decode cL_calendar 210 = .ok (.areturn, 1) := by decide +kernel
def pg_L_calendar (l : Launch) (g : EG) : List (Nat × ES) := [(0, s_newL sg_L_calendar 10 57), (3, s_dup), (4, s_strG g 16), (6, s_callIA l g sg_L_calendar sg_J4_init_a7421), (9, s_ldP 0), (10, s_callS0 l g sg_L_calendar sg_L_next), (13, s_c (.inl 2)), (14, s_iid (fun x y => x - x / y * y) (fun _ y => ¬ y = 0)), (15, s_if_ne 23), (18, s_strG g 17), (20, s_goto 25), (23, s_strG g 18), (25, s_callVL l g sg_L_calendar sg_J4_append_15ec4 10), (28, s_ldP 0), (29, s_callS0 l g sg_L_calendar sg_L_next), (32, s_c (.inl 721)), (35, s_iid (fun x y => x - x / y * y) (fun _ y => ¬ y = 0)), (36, s_callVL l g sg_L_calendar sg_J4_append_bf812 10), (39, s_ldP 0), (40, s_callS0 l g sg_L_calendar sg_L_next), (43, s_c (.inl 2)), (44, s_iid (fun x y => x - x / y * y) (fun _ y => ¬ y = 0)), (45, s_if_ne 53), (48, s_strG g 17), (50, s_goto 82), (53, s_newL sg_L_calendar 10 57), (56, s_dup), (57, s_callIA l g sg_L_calendar sg_J4_init_da8c8), (60, s_strG g 19), (62, s_callVL l g sg_L_calendar sg_J4_append_15ec4 10), (65, s_c (.inl 80)), (67, s_ldP 0), (68, s_callS0 l g sg_L_calendar sg_L_next), (71, s_c (.inl 200)), (74, s_iid (fun x y => x - x / y * y) (fun _ y => ¬ y = 0)), (75, s_ii (fun x y => x + y)), (76, s_callVL l g sg_L_calendar sg_J4_append_bf812 10), (79, s_callVL l g sg_L_calendar sg_J4_toString_0e30d 10), (82, s_callVL l g sg_L_calendar sg_J4_append_15ec4 10), (85, s_strG g 20), (87, s_callVL l g sg_L_calendar sg_J4_append_15ec4 10), (90, s_stP 1), (91, s_ldP 0), (92, s_callS0 l g sg_L_calendar sg_L_next), (95, s_c (.inl 6)), (97, s_iid (fun x y => x - x / y * y) (fun _ y => ¬ y = 0)), (98, s_stI 2), (99, s_ldI 2), (100, s_if_le 206), (103, s_ldP 1), (104, s_strG g 21), (106, s_callVL l g sg_L_calendar sg_J4_append_15ec4 10), (109, s_ldP 0), (110, s_callS0 l g sg_L_calendar sg_L_next), (113, s_c (.inl 4)), (114, s_iid (fun x y => x - x / y * y) (fun _ y => ¬ y = 0)), (115, s_if_ne 129), (118, s_ldP 0), (119, s_callS0 l g sg_L_calendar sg_L_next), (122, s_c (.inl 1095)), (125, s_iid (fun x y => x - x / y * y) (fun _ y => ¬ y = 0)), (126, s_goto 136), (129, s_ldP 0), (130, s_callS0 l g sg_L_calendar sg_L_next), (133, s_c (.inl 60)), (135, s_iid (fun x y => x - x / y * y) (fun _ y => ¬ y = 0)), (136, s_callVL l g sg_L_calendar sg_J4_append_bf812 10), (139, s_c (.inl 32)), (141, s_callVL l g sg_L_calendar sg_J4_append_cf468 10), (144, s_ldP 0), (145, s_callS0 l g sg_L_calendar sg_L_next), (148, s_c (.inl 1440)), (151, s_iid (fun x y => x - x / y * y) (fun _ y => ¬ y = 0)), (152, s_callVL l g sg_L_calendar sg_J4_append_bf812 10), (155, s_c (.inl 32)), (157, s_callVL l g sg_L_calendar sg_J4_append_cf468 10), (160, s_c (.inl 1)), (161, s_ldP 0), (162, s_callS0 l g sg_L_calendar sg_L_next), (165, s_c (.inl 600)), (168, s_iid (fun x y => x - x / y * y) (fun _ y => ¬ y = 0)), (169, s_ii (fun x y => x + y)), (170, s_callVL l g sg_L_calendar sg_J4_append_bf812 10), (173, s_c (.inl 32)), (175, s_callVL l g sg_L_calendar sg_J4_append_cf468 10), (178, s_ldP 0), (179, s_callS0 l g sg_L_calendar sg_L_next), (182, s_c (.inl 2)), (183, s_iid (fun x y => x - x / y * y) (fun _ y => ¬ y = 0)), (184, s_callVL l g sg_L_calendar sg_J4_append_bf812 10), (187, s_ldP 0), (188, s_callSL l g sg_L_calendar sg_L_rule), (191, s_callVL l g sg_L_calendar sg_J4_append_15ec4 10), (194, s_c (.inl 59)), (196, s_callVL l g sg_L_calendar sg_J4_append_cf468 10), (199, s_pop), (200, s_iinc 2 (-1)), (203, s_goto 99), (206, s_ldP 1), (207, s_callVL l g sg_L_calendar sg_J4_toString_0e30d 10), (210, s_aret)]
set_option maxRecDepth 100000 in
theorem ok_L_calendar {l : Launch} {g : EG} : e_okp l g sg_L_calendar "CalendarSyncLaw" (pg_L_calendar l g) := fun p e R s m args below meth c ex M0 Q X =>
    e_each_cons (r_newL (r_new X (index := 54) (ci := 10) (t := 57) dL_calendar_0 (by decide) rfl (fun _ => rfl) yw4_131 yw4_132 yw1_12 uw_10 rfl))
    (e_each_cons (r_dup X dL_calendar_3 rfl)
    (e_each_cons (r_strG X (k := 16) (is := 82) dL_calendar_4 rfl ⟨⟨rfl, rfl⟩, by decide⟩ rfl)
    (e_each_cons (r_callIA X rfl (τ := sg_J4_init_a7421) (index := 84) dL_calendar_6 yw4_134 yw4_135 cs_J4_init_a7421 rfl rfl rfl ⟨by decide, by decide⟩ rfl)
    (e_each_cons (r_aload_n X (k := 0) (i := 0) rfl dL_calendar_9 rfl)
    (e_each_cons (r_callS0 X (τ := sg_L_next) (index := 50) dL_calendar_10 yw3_100 yw3_101 cs_L_next rfl ⟨by decide, by decide⟩ rfl)
    (e_each_cons (r_iconst X (n := 2) (v := 2) dL_calendar_13 (by decide) rfl)
    (e_each_cons (r_irem X dL_calendar_14 rfl)
    (e_each_cons (r_if_ne X (off := 8) (t := 23) dL_calendar_15 (by decide) rfl)
    (e_each_cons (r_strG X (k := 17) (is := 74) dL_calendar_18 rfl ⟨⟨rfl, rfl⟩, by decide⟩ rfl)
    (e_each_cons (r_goto X (off := 5) (t := 25) dL_calendar_20 (by decide))
    (e_each_cons (r_strG X (k := 18) (is := 87) dL_calendar_23 rfl ⟨⟨rfl, rfl⟩, by decide⟩ rfl)
    (e_each_cons (r_callVL X rfl (τ := sg_J4_append_15ec4) (index := 59) (ci := 10) dL_calendar_25 (by decide) rfl yw5_25 yw4_159 yw4_160 cs_J4_append_15ec4 rfl ⟨by decide, by decide⟩ rfl)
    (e_each_cons (r_aload_n X (k := 0) (i := 0) rfl dL_calendar_28 rfl)
    (e_each_cons (r_callS0 X (τ := sg_L_next) (index := 50) dL_calendar_29 yw3_100 yw3_101 cs_L_next rfl ⟨by decide, by decide⟩ rfl)
    (e_each_cons (r_sipush X (n := 721) (v := 721) dL_calendar_32 (by decide) rfl)
    (e_each_cons (r_irem X dL_calendar_35 rfl)
    (e_each_cons (r_callVL X rfl (τ := sg_J4_append_bf812) (index := 63) (ci := 10) dL_calendar_36 (by decide) rfl yw5_26 yw5_27 yw5_28 cs_J4_append_bf812 rfl ⟨by decide, by decide⟩ rfl)
    (e_each_cons (r_aload_n X (k := 0) (i := 0) rfl dL_calendar_39 rfl)
    (e_each_cons (r_callS0 X (τ := sg_L_next) (index := 50) dL_calendar_40 yw3_100 yw3_101 cs_L_next rfl ⟨by decide, by decide⟩ rfl)
    (e_each_cons (r_iconst X (n := 2) (v := 2) dL_calendar_43 (by decide) rfl)
    (e_each_cons (r_irem X dL_calendar_44 rfl)
    (e_each_cons (r_if_ne X (off := 8) (t := 53) dL_calendar_45 (by decide) rfl)
    (e_each_cons (r_strG X (k := 17) (is := 74) dL_calendar_48 rfl ⟨⟨rfl, rfl⟩, by decide⟩ rfl)
    (e_each_cons (r_goto X (off := 32) (t := 82) dL_calendar_50 (by decide))
    (e_each_cons (r_newL (r_new X (index := 54) (ci := 10) (t := 57) dL_calendar_53 (by decide) rfl (fun _ => rfl) yw4_131 yw4_132 yw1_12 uw_10 rfl))
    (e_each_cons (r_dup X dL_calendar_56 rfl)
    (e_each_cons (r_callIA X rfl (τ := sg_J4_init_da8c8) (index := 56) dL_calendar_57 yw5_51 yw5_52 cs_J4_init_da8c8 rfl rfl rfl ⟨by decide, by decide⟩ rfl)
    (e_each_cons (r_strG X (k := 19) (is := 89) dL_calendar_60 rfl ⟨⟨rfl, rfl⟩, by decide⟩ rfl)
    (e_each_cons (r_callVL X rfl (τ := sg_J4_append_15ec4) (index := 59) (ci := 10) dL_calendar_62 (by decide) rfl yw5_25 yw4_159 yw4_160 cs_J4_append_15ec4 rfl ⟨by decide, by decide⟩ rfl)
    (e_each_cons (r_bipush X (n := 80) (v := 80) dL_calendar_65 (by decide) rfl)
    (e_each_cons (r_aload_n X (k := 0) (i := 0) rfl dL_calendar_67 rfl)
    (e_each_cons (r_callS0 X (τ := sg_L_next) (index := 50) dL_calendar_68 yw3_100 yw3_101 cs_L_next rfl ⟨by decide, by decide⟩ rfl)
    (e_each_cons (r_sipush X (n := 200) (v := 200) dL_calendar_71 (by decide) rfl)
    (e_each_cons (r_irem X dL_calendar_74 rfl)
    (e_each_cons (r_iadd X dL_calendar_75 rfl)
    (e_each_cons (r_callVL X rfl (τ := sg_J4_append_bf812) (index := 63) (ci := 10) dL_calendar_76 (by decide) rfl yw5_26 yw5_27 yw5_28 cs_J4_append_bf812 rfl ⟨by decide, by decide⟩ rfl)
    (e_each_cons (r_callVL X rfl (τ := sg_J4_toString_0e30d) (index := 68) (ci := 10) dL_calendar_79 (by decide) rfl yw5_58 yw5_59 yw5_60 cs_J4_toString_0e30d rfl ⟨by decide, by decide⟩ rfl)
    (e_each_cons (r_callVL X rfl (τ := sg_J4_append_15ec4) (index := 59) (ci := 10) dL_calendar_82 (by decide) rfl yw5_25 yw4_159 yw4_160 cs_J4_append_15ec4 rfl ⟨by decide, by decide⟩ rfl)
    (e_each_cons (r_strG X (k := 20) (is := 91) dL_calendar_85 rfl ⟨⟨rfl, rfl⟩, by decide⟩ rfl)
    (e_each_cons (r_callVL X rfl (τ := sg_J4_append_15ec4) (index := 59) (ci := 10) dL_calendar_87 (by decide) rfl yw5_25 yw4_159 yw4_160 cs_J4_append_15ec4 rfl ⟨by decide, by decide⟩ rfl)
    (e_each_cons (r_astore_n X (k := 1) (i := 1) rfl dL_calendar_90 (by decide) rfl)
    (e_each_cons (r_aload_n X (k := 0) (i := 0) rfl dL_calendar_91 rfl)
    (e_each_cons (r_callS0 X (τ := sg_L_next) (index := 50) dL_calendar_92 yw3_100 yw3_101 cs_L_next rfl ⟨by decide, by decide⟩ rfl)
    (e_each_cons (r_bipush X (n := 6) (v := 6) dL_calendar_95 (by decide) rfl)
    (e_each_cons (r_irem X dL_calendar_97 rfl)
    (e_each_cons (r_istore_n X (k := 2) (i := 2) rfl dL_calendar_98 (by decide) rfl)
    (e_each_cons (r_iload_n X (k := 2) (i := 2) rfl dL_calendar_99 rfl)
    (e_each_cons (r_if_le X (off := 106) (t := 206) dL_calendar_100 (by decide) rfl)
    (e_each_cons (r_aload_n X (k := 1) (i := 1) rfl dL_calendar_103 rfl)
    (e_each_cons (r_strG X (k := 21) (is := 93) dL_calendar_104 rfl ⟨⟨rfl, rfl⟩, by decide⟩ rfl)
    (e_each_cons (r_callVL X rfl (τ := sg_J4_append_15ec4) (index := 59) (ci := 10) dL_calendar_106 (by decide) rfl yw5_25 yw4_159 yw4_160 cs_J4_append_15ec4 rfl ⟨by decide, by decide⟩ rfl)
    (e_each_cons (r_aload_n X (k := 0) (i := 0) rfl dL_calendar_109 rfl)
    (e_each_cons (r_callS0 X (τ := sg_L_next) (index := 50) dL_calendar_110 yw3_100 yw3_101 cs_L_next rfl ⟨by decide, by decide⟩ rfl)
    (e_each_cons (r_iconst X (n := 4) (v := 4) dL_calendar_113 (by decide) rfl)
    (e_each_cons (r_irem X dL_calendar_114 rfl)
    (e_each_cons (r_if_ne X (off := 14) (t := 129) dL_calendar_115 (by decide) rfl)
    (e_each_cons (r_aload_n X (k := 0) (i := 0) rfl dL_calendar_118 rfl)
    (e_each_cons (r_callS0 X (τ := sg_L_next) (index := 50) dL_calendar_119 yw3_100 yw3_101 cs_L_next rfl ⟨by decide, by decide⟩ rfl)
    (e_each_cons (r_sipush X (n := 1095) (v := 1095) dL_calendar_122 (by decide) rfl)
    (e_each_cons (r_irem X dL_calendar_125 rfl)
    (e_each_cons (r_goto X (off := 10) (t := 136) dL_calendar_126 (by decide))
    (e_each_cons (r_aload_n X (k := 0) (i := 0) rfl dL_calendar_129 rfl)
    (e_each_cons (r_callS0 X (τ := sg_L_next) (index := 50) dL_calendar_130 yw3_100 yw3_101 cs_L_next rfl ⟨by decide, by decide⟩ rfl)
    (e_each_cons (r_bipush X (n := 60) (v := 60) dL_calendar_133 (by decide) rfl)
    (e_each_cons (r_irem X dL_calendar_135 rfl)
    (e_each_cons (r_callVL X rfl (τ := sg_J4_append_bf812) (index := 63) (ci := 10) dL_calendar_136 (by decide) rfl yw5_26 yw5_27 yw5_28 cs_J4_append_bf812 rfl ⟨by decide, by decide⟩ rfl)
    (e_each_cons (r_bipush X (n := 32) (v := 32) dL_calendar_139 (by decide) rfl)
    (e_each_cons (r_callVL X rfl (τ := sg_J4_append_cf468) (index := 95) (ci := 10) dL_calendar_141 (by decide) rfl yw5_117 yw5_118 yw5_119 cs_J4_append_cf468 rfl ⟨by decide, by decide⟩ rfl)
    (e_each_cons (r_aload_n X (k := 0) (i := 0) rfl dL_calendar_144 rfl)
    (e_each_cons (r_callS0 X (τ := sg_L_next) (index := 50) dL_calendar_145 yw3_100 yw3_101 cs_L_next rfl ⟨by decide, by decide⟩ rfl)
    (e_each_cons (r_sipush X (n := 1440) (v := 1440) dL_calendar_148 (by decide) rfl)
    (e_each_cons (r_irem X dL_calendar_151 rfl)
    (e_each_cons (r_callVL X rfl (τ := sg_J4_append_bf812) (index := 63) (ci := 10) dL_calendar_152 (by decide) rfl yw5_26 yw5_27 yw5_28 cs_J4_append_bf812 rfl ⟨by decide, by decide⟩ rfl)
    (e_each_cons (r_bipush X (n := 32) (v := 32) dL_calendar_155 (by decide) rfl)
    (e_each_cons (r_callVL X rfl (τ := sg_J4_append_cf468) (index := 95) (ci := 10) dL_calendar_157 (by decide) rfl yw5_117 yw5_118 yw5_119 cs_J4_append_cf468 rfl ⟨by decide, by decide⟩ rfl)
    (e_each_cons (r_iconst X (n := 1) (v := 1) dL_calendar_160 (by decide) rfl)
    (e_each_cons (r_aload_n X (k := 0) (i := 0) rfl dL_calendar_161 rfl)
    (e_each_cons (r_callS0 X (τ := sg_L_next) (index := 50) dL_calendar_162 yw3_100 yw3_101 cs_L_next rfl ⟨by decide, by decide⟩ rfl)
    (e_each_cons (r_sipush X (n := 600) (v := 600) dL_calendar_165 (by decide) rfl)
    (e_each_cons (r_irem X dL_calendar_168 rfl)
    (e_each_cons (r_iadd X dL_calendar_169 rfl)
    (e_each_cons (r_callVL X rfl (τ := sg_J4_append_bf812) (index := 63) (ci := 10) dL_calendar_170 (by decide) rfl yw5_26 yw5_27 yw5_28 cs_J4_append_bf812 rfl ⟨by decide, by decide⟩ rfl)
    (e_each_cons (r_bipush X (n := 32) (v := 32) dL_calendar_173 (by decide) rfl)
    (e_each_cons (r_callVL X rfl (τ := sg_J4_append_cf468) (index := 95) (ci := 10) dL_calendar_175 (by decide) rfl yw5_117 yw5_118 yw5_119 cs_J4_append_cf468 rfl ⟨by decide, by decide⟩ rfl)
    (e_each_cons (r_aload_n X (k := 0) (i := 0) rfl dL_calendar_178 rfl)
    (e_each_cons (r_callS0 X (τ := sg_L_next) (index := 50) dL_calendar_179 yw3_100 yw3_101 cs_L_next rfl ⟨by decide, by decide⟩ rfl)
    (e_each_cons (r_iconst X (n := 2) (v := 2) dL_calendar_182 (by decide) rfl)
    (e_each_cons (r_irem X dL_calendar_183 rfl)
    (e_each_cons (r_callVL X rfl (τ := sg_J4_append_bf812) (index := 63) (ci := 10) dL_calendar_184 (by decide) rfl yw5_26 yw5_27 yw5_28 cs_J4_append_bf812 rfl ⟨by decide, by decide⟩ rfl)
    (e_each_cons (r_aload_n X (k := 0) (i := 0) rfl dL_calendar_187 rfl)
    (e_each_cons (r_callSL X (τ := sg_L_rule) (index := 98) dL_calendar_188 yw5_130 yw5_131 cs_L_rule rfl ⟨by decide, by decide⟩ rfl)
    (e_each_cons (r_callVL X rfl (τ := sg_J4_append_15ec4) (index := 59) (ci := 10) dL_calendar_191 (by decide) rfl yw5_25 yw4_159 yw4_160 cs_J4_append_15ec4 rfl ⟨by decide, by decide⟩ rfl)
    (e_each_cons (r_bipush X (n := 59) (v := 59) dL_calendar_194 (by decide) rfl)
    (e_each_cons (r_callVL X rfl (τ := sg_J4_append_cf468) (index := 95) (ci := 10) dL_calendar_196 (by decide) rfl yw5_117 yw5_118 yw5_119 cs_J4_append_cf468 rfl ⟨by decide, by decide⟩ rfl)
    (e_each_cons (r_pop X dL_calendar_199 rfl)
    (e_each_cons (r_iinc X (i := 2) (n := (-1)) (d := (-1)) dL_calendar_200 (by decide) (by decide) rfl)
    (e_each_cons (r_goto X (off := (-104)) (t := 99) dL_calendar_203 (by decide))
    (e_each_cons (r_aload_n X (k := 1) (i := 1) rfl dL_calendar_206 rfl)
    (e_each_cons (r_callVL X rfl (τ := sg_J4_toString_0e30d) (index := 68) (ci := 10) dL_calendar_207 (by decide) rfl yw5_58 yw5_59 yw5_60 cs_J4_toString_0e30d rfl ⟨by decide, by decide⟩ rfl)
    (e_each_cons (r_aret X dL_calendar_210 rfl)
    (e_each_nil)))))))))))))))))))))))))))))))))))))))))))))))))))))))))))))))))))))))))))))))))))))))))))))))))))))
def sg_L_undone : SG := (yL_undone, cL_undone, 2, (some .int), 8, 167, 1, 6, 1, false, [(0, 4, 5, 34)])
theorem cs_L_undone : e_csH sg_L_undone := ⟨yw5_150, yw1_0, ⟨by decide, by decide⟩, by decide +kernel, rfl⟩
def hd_L_undone : String → Option Nat := fun E => if E = "java/lang/IllegalStateException" then some 5 else none
theorem hk_L_undone : e_hdOk "CalendarSyncLaw" (ghh sg_L_undone) 1 hd_L_undone := by
  intro E h hE
  unfold hd_L_undone at hE
  by_cases e0 : E = "java/lang/IllegalStateException"
  · subst e0
    rw [if_pos rfl] at hE
    obtain rfl := Option.some.inj hE
    refine ⟨wq_2, (tableOf (ghh sg_L_undone)).take 0, (tableOf (ghh sg_L_undone))[0]'(by decide), (tableOf (ghh sg_L_undone)).drop 1, rfl, ?_, by decide +kernel, by decide +kernel, yw3_107, rfl⟩
    exact fun z hz => nomatch hz
  rw [if_neg e0] at hE
  cases hE
theorem dL_undone_0 : decode cL_undone 0 = .ok (.aload_n 0, 1) := by decide +kernel
theorem dL_undone_1 : decode cL_undone 1 = .ok (.invokevirtual 102, 3) := by decide +kernel
theorem dL_undone_4 : decode cL_undone 4 = .ok (.ireturn, 1) := by decide +kernel
theorem dL_undone_5 : decode cL_undone 5 = .ok (.astore_n 1, 1) := by decide +kernel
theorem dL_undone_6 : decode cL_undone 6 = .ok (.bipush (-2), 2) := by decide +kernel
theorem dL_undone_8 : decode cL_undone 8 = .ok (.ireturn, 1) := by decide +kernel
def pg_L_undone (l : Launch) (g : EG) : List (Nat × ES) := [(0, s_ldP 0), (1, s_callVH l g sg_L_undone sg_X10_undo 9 hd_L_undone), (4, s_ireti), (5, s_stP 1), (6, s_c (.inl (-2))), (8, s_ireti)]
set_option maxRecDepth 100000 in
theorem ok_L_undone {l : Launch} {g : EG} : e_okp l g sg_L_undone "CalendarSyncLaw" (pg_L_undone l g) := fun p e R s m args below meth c ex M0 Q X =>
    e_each_cons (r_aload_n X (k := 0) (i := 0) rfl dL_undone_0 rfl)
    (e_each_cons (r_callVH X (τ := sg_X10_undo) (hdl := hk_L_undone) (index := 102) (ci := 9) dL_undone_1 (by decide) rfl yw5_151 yw5_152 yw5_153 cs_X10_undo rfl ⟨by decide, by decide⟩ rfl)
    (e_each_cons (r_ireti X dL_undone_4 rfl)
    (e_each_cons (r_astore_n X (k := 1) (i := 1) rfl dL_undone_5 (by decide) rfl)
    (e_each_cons (r_bipush X (n := (-2)) (v := (-2)) dL_undone_6 (by decide) rfl)
    (e_each_cons (r_ireti X dL_undone_8 rfl)
    (e_each_nil))))))
def sg_L_made : SG := (yL_made, cL_made, 8, (some .int), 9, 174, 6, 36, 7, false, [(0, 13, 14, 34)])
theorem cs_L_made : e_csH sg_L_made := ⟨yw6_145, yw1_0, ⟨by decide, by decide⟩, by decide +kernel, rfl⟩
def hd_L_made : String → Option Nat := fun E => if E = "java/lang/IllegalStateException" then some 14 else none
theorem hk_L_made : e_hdOk "CalendarSyncLaw" (ghh sg_L_made) 10 hd_L_made := by
  intro E h hE
  unfold hd_L_made at hE
  by_cases e0 : E = "java/lang/IllegalStateException"
  · subst e0
    rw [if_pos rfl] at hE
    obtain rfl := Option.some.inj hE
    refine ⟨wq_2, (tableOf (ghh sg_L_made)).take 0, (tableOf (ghh sg_L_made))[0]'(by decide), (tableOf (ghh sg_L_made)).drop 1, rfl, ?_, by decide +kernel, by decide +kernel, yw3_107, rfl⟩
    exact fun z hz => nomatch hz
  rw [if_neg e0] at hE
  cases hE
theorem dL_made_0 : decode cL_made 0 = .ok (.aload_n 0, 1) := by decide +kernel
theorem dL_made_1 : decode cL_made 1 = .ok (.iload_n 1, 1) := by decide +kernel
theorem dL_made_2 : decode cL_made 2 = .ok (.iload_n 2, 1) := by decide +kernel
theorem dL_made_3 : decode cL_made 3 = .ok (.iload_n 3, 1) := by decide +kernel
theorem dL_made_4 : decode cL_made 4 = .ok (.iload 4, 2) := by decide +kernel
theorem dL_made_6 : decode cL_made 6 = .ok (.iload 5, 2) := by decide +kernel
theorem dL_made_8 : decode cL_made 8 = .ok (.iload 6, 2) := by decide +kernel
theorem dL_made_10 : decode cL_made 10 = .ok (.invokevirtual 105, 3) := by decide +kernel
theorem dL_made_13 : decode cL_made 13 = .ok (.ireturn, 1) := by decide +kernel
theorem dL_made_14 : decode cL_made 14 = .ok (.astore 7, 2) := by decide +kernel
theorem dL_made_16 : decode cL_made 16 = .ok (.bipush (-2), 2) := by decide +kernel
theorem dL_made_18 : decode cL_made 18 = .ok (.ireturn, 1) := by decide +kernel
def pg_L_made (l : Launch) (g : EG) : List (Nat × ES) := [(0, s_ldP 0), (1, s_ldI 1), (2, s_ldI 2), (3, s_ldI 3), (4, s_ldI 4), (6, s_ldI 5), (8, s_ldI 6), (10, s_callVH l g sg_L_made sg_X10_create 9 hd_L_made), (13, s_ireti), (14, s_stP 7), (16, s_c (.inl (-2))), (18, s_ireti)]
set_option maxRecDepth 100000 in
theorem ok_L_made {l : Launch} {g : EG} : e_okp l g sg_L_made "CalendarSyncLaw" (pg_L_made l g) := fun p e R s m args below meth c ex M0 Q X =>
    e_each_cons (r_aload_n X (k := 0) (i := 0) rfl dL_made_0 rfl)
    (e_each_cons (r_iload_n X (k := 1) (i := 1) rfl dL_made_1 rfl)
    (e_each_cons (r_iload_n X (k := 2) (i := 2) rfl dL_made_2 rfl)
    (e_each_cons (r_iload_n X (k := 3) (i := 3) rfl dL_made_3 rfl)
    (e_each_cons (r_iload X (i := 4) dL_made_4 rfl)
    (e_each_cons (r_iload X (i := 5) dL_made_6 rfl)
    (e_each_cons (r_iload X (i := 6) dL_made_8 rfl)
    (e_each_cons (r_callVH X (τ := sg_X10_create) (hdl := hk_L_made) (index := 105) (ci := 9) dL_made_10 (by decide) rfl yw6_146 yw6_147 yw6_148 cs_X10_create rfl ⟨by decide, by decide⟩ rfl)
    (e_each_cons (r_ireti X dL_made_13 rfl)
    (e_each_cons (r_astore X (i := 7) dL_made_14 (by decide) rfl)
    (e_each_cons (r_bipush X (n := (-2)) (v := (-2)) dL_made_16 (by decide) rfl)
    (e_each_cons (r_ireti X dL_made_18 rfl)
    (e_each_nil))))))))))))
def sg_L_repeated : SG := (yL_repeated, cL_repeated, 8, (some .int), 9, 175, 6, 36, 7, false, [(0, 13, 14, 112)])
theorem cs_L_repeated : e_csH sg_L_repeated := ⟨yw6_158, yw1_0, ⟨by decide, by decide⟩, by decide +kernel, rfl⟩
def hd_L_repeated : String → Option Nat := fun E => if E = "java/util/NoSuchElementException" then some 14 else none
theorem hk_L_repeated : e_hdOk "CalendarSyncLaw" (ghh sg_L_repeated) 10 hd_L_repeated := by
  intro E h hE
  unfold hd_L_repeated at hE
  by_cases e0 : E = "java/util/NoSuchElementException"
  · subst e0
    rw [if_pos rfl] at hE
    obtain rfl := Option.some.inj hE
    refine ⟨wq_0, (tableOf (ghh sg_L_repeated)).take 0, (tableOf (ghh sg_L_repeated))[0]'(by decide), (tableOf (ghh sg_L_repeated)).drop 1, rfl, ?_, by decide +kernel, by decide +kernel, yw6_159, rfl⟩
    exact fun z hz => nomatch hz
  rw [if_neg e0] at hE
  cases hE
theorem dL_repeated_0 : decode cL_repeated 0 = .ok (.aload_n 0, 1) := by decide +kernel
theorem dL_repeated_1 : decode cL_repeated 1 = .ok (.iload_n 1, 1) := by decide +kernel
theorem dL_repeated_2 : decode cL_repeated 2 = .ok (.iload_n 2, 1) := by decide +kernel
theorem dL_repeated_3 : decode cL_repeated 3 = .ok (.iload_n 3, 1) := by decide +kernel
theorem dL_repeated_4 : decode cL_repeated 4 = .ok (.iload 4, 2) := by decide +kernel
theorem dL_repeated_6 : decode cL_repeated 6 = .ok (.iload 5, 2) := by decide +kernel
theorem dL_repeated_8 : decode cL_repeated 8 = .ok (.iload 6, 2) := by decide +kernel
theorem dL_repeated_10 : decode cL_repeated 10 = .ok (.invokevirtual 109, 3) := by decide +kernel
theorem dL_repeated_13 : decode cL_repeated 13 = .ok (.ireturn, 1) := by decide +kernel
theorem dL_repeated_14 : decode cL_repeated 14 = .ok (.astore 7, 2) := by decide +kernel
theorem dL_repeated_16 : decode cL_repeated 16 = .ok (.bipush (-2), 2) := by decide +kernel
theorem dL_repeated_18 : decode cL_repeated 18 = .ok (.ireturn, 1) := by decide +kernel
def pg_L_repeated (l : Launch) (g : EG) : List (Nat × ES) := [(0, s_ldP 0), (1, s_ldI 1), (2, s_ldI 2), (3, s_ldI 3), (4, s_ldI 4), (6, s_ldI 5), (8, s_ldI 6), (10, s_callVH l g sg_L_repeated sg_X10_repeat 9 hd_L_repeated), (13, s_ireti), (14, s_stP 7), (16, s_c (.inl (-2))), (18, s_ireti)]
set_option maxRecDepth 100000 in
theorem ok_L_repeated {l : Launch} {g : EG} : e_okp l g sg_L_repeated "CalendarSyncLaw" (pg_L_repeated l g) := fun p e R s m args below meth c ex M0 Q X =>
    e_each_cons (r_aload_n X (k := 0) (i := 0) rfl dL_repeated_0 rfl)
    (e_each_cons (r_iload_n X (k := 1) (i := 1) rfl dL_repeated_1 rfl)
    (e_each_cons (r_iload_n X (k := 2) (i := 2) rfl dL_repeated_2 rfl)
    (e_each_cons (r_iload_n X (k := 3) (i := 3) rfl dL_repeated_3 rfl)
    (e_each_cons (r_iload X (i := 4) dL_repeated_4 rfl)
    (e_each_cons (r_iload X (i := 5) dL_repeated_6 rfl)
    (e_each_cons (r_iload X (i := 6) dL_repeated_8 rfl)
    (e_each_cons (r_callVH X (τ := sg_X10_repeat) (hdl := hk_L_repeated) (index := 109) (ci := 9) dL_repeated_10 (by decide) rfl yw6_160 yw6_161 yw6_162 cs_X10_repeat rfl ⟨by decide, by decide⟩ rfl)
    (e_each_cons (r_ireti X dL_repeated_13 rfl)
    (e_each_cons (r_astore X (i := 7) dL_repeated_14 (by decide) rfl)
    (e_each_cons (r_bipush X (n := (-2)) (v := (-2)) dL_repeated_16 (by decide) rfl)
    (e_each_cons (r_ireti X dL_repeated_18 rfl)
    (e_each_nil))))))))))))
def sg_L_cancelled : SG := (yL_cancelled, cL_cancelled, 5, (some .int), 9, 172, 3, 18, 4, false, [(0, 7, 8, 112), (0, 7, 13, 118)])
theorem cs_L_cancelled : e_csH sg_L_cancelled := ⟨yw6_167, yw1_0, ⟨by decide, by decide⟩, by decide +kernel, rfl⟩
def hd_L_cancelled : String → Option Nat := fun E => if E = "java/util/NoSuchElementException" then some 8 else if E = "java/lang/IndexOutOfBoundsException" then some 13 else none
theorem hk_L_cancelled : e_hdOk "CalendarSyncLaw" (ghh sg_L_cancelled) 4 hd_L_cancelled := by
  intro E h hE
  unfold hd_L_cancelled at hE
  by_cases e0 : E = "java/util/NoSuchElementException"
  · subst e0
    rw [if_pos rfl] at hE
    obtain rfl := Option.some.inj hE
    refine ⟨wq_0, (tableOf (ghh sg_L_cancelled)).take 0, (tableOf (ghh sg_L_cancelled))[0]'(by decide), (tableOf (ghh sg_L_cancelled)).drop 1, rfl, ?_, by decide +kernel, by decide +kernel, yw6_159, rfl⟩
    exact fun z hz => nomatch hz
  rw [if_neg e0] at hE
  by_cases e1 : E = "java/lang/IndexOutOfBoundsException"
  · subst e1
    rw [if_pos rfl] at hE
    obtain rfl := Option.some.inj hE
    refine ⟨wq_1, (tableOf (ghh sg_L_cancelled)).take 1, (tableOf (ghh sg_L_cancelled))[1]'(by decide), (tableOf (ghh sg_L_cancelled)).drop 2, rfl, ?_, by decide +kernel, by decide +kernel, yw6_168, rfl⟩
    refine e_pass (ns := ["java/util/NoSuchElementException"]) ?_
    exact ⟨⟨by decide +kernel, yw6_159, by decide +kernel⟩, trivial⟩
  rw [if_neg e1] at hE
  cases hE
theorem dL_cancelled_0 : decode cL_cancelled 0 = .ok (.aload_n 0, 1) := by decide +kernel
theorem dL_cancelled_1 : decode cL_cancelled 1 = .ok (.iload_n 1, 1) := by decide +kernel
theorem dL_cancelled_2 : decode cL_cancelled 2 = .ok (.iload_n 2, 1) := by decide +kernel
theorem dL_cancelled_3 : decode cL_cancelled 3 = .ok (.iload_n 3, 1) := by decide +kernel
theorem dL_cancelled_4 : decode cL_cancelled 4 = .ok (.invokevirtual 114, 3) := by decide +kernel
theorem dL_cancelled_7 : decode cL_cancelled 7 = .ok (.ireturn, 1) := by decide +kernel
theorem dL_cancelled_8 : decode cL_cancelled 8 = .ok (.astore 4, 2) := by decide +kernel
theorem dL_cancelled_10 : decode cL_cancelled 10 = .ok (.bipush (-2), 2) := by decide +kernel
theorem dL_cancelled_12 : decode cL_cancelled 12 = .ok (.ireturn, 1) := by decide +kernel
theorem dL_cancelled_13 : decode cL_cancelled 13 = .ok (.astore 4, 2) := by decide +kernel
theorem dL_cancelled_15 : decode cL_cancelled 15 = .ok (.bipush (-3), 2) := by decide +kernel
theorem dL_cancelled_17 : decode cL_cancelled 17 = .ok (.ireturn, 1) := by decide +kernel
def pg_L_cancelled (l : Launch) (g : EG) : List (Nat × ES) := [(0, s_ldP 0), (1, s_ldI 1), (2, s_ldI 2), (3, s_ldI 3), (4, s_callVH l g sg_L_cancelled sg_X10_cancel 9 hd_L_cancelled), (7, s_ireti), (8, s_stP 4), (10, s_c (.inl (-2))), (12, s_ireti), (13, s_stP 4), (15, s_c (.inl (-3))), (17, s_ireti)]
set_option maxRecDepth 100000 in
theorem ok_L_cancelled {l : Launch} {g : EG} : e_okp l g sg_L_cancelled "CalendarSyncLaw" (pg_L_cancelled l g) := fun p e R s m args below meth c ex M0 Q X =>
    e_each_cons (r_aload_n X (k := 0) (i := 0) rfl dL_cancelled_0 rfl)
    (e_each_cons (r_iload_n X (k := 1) (i := 1) rfl dL_cancelled_1 rfl)
    (e_each_cons (r_iload_n X (k := 2) (i := 2) rfl dL_cancelled_2 rfl)
    (e_each_cons (r_iload_n X (k := 3) (i := 3) rfl dL_cancelled_3 rfl)
    (e_each_cons (r_callVH X (τ := sg_X10_cancel) (hdl := hk_L_cancelled) (index := 114) (ci := 9) dL_cancelled_4 (by decide) rfl yw6_169 yw6_170 yw6_171 cs_X10_cancel rfl ⟨by decide, by decide⟩ rfl)
    (e_each_cons (r_ireti X dL_cancelled_7 rfl)
    (e_each_cons (r_astore X (i := 4) dL_cancelled_8 (by decide) rfl)
    (e_each_cons (r_bipush X (n := (-2)) (v := (-2)) dL_cancelled_10 (by decide) rfl)
    (e_each_cons (r_ireti X dL_cancelled_12 rfl)
    (e_each_cons (r_astore X (i := 4) dL_cancelled_13 (by decide) rfl)
    (e_each_cons (r_bipush X (n := (-3)) (v := (-3)) dL_cancelled_15 (by decide) rfl)
    (e_each_cons (r_ireti X dL_cancelled_17 rfl)
    (e_each_nil))))))))))))
def sg_L_moved : SG := (yL_moved, cL_moved, 7, (some .int), 9, 174, 4, 24, 6, false, [(0, 11, 12, 112), (0, 11, 17, 118)])
theorem cs_L_moved : e_csH sg_L_moved := ⟨yw6_176, yw1_0, ⟨by decide, by decide⟩, by decide +kernel, rfl⟩
def hd_L_moved : String → Option Nat := fun E => if E = "java/util/NoSuchElementException" then some 12 else if E = "java/lang/IndexOutOfBoundsException" then some 17 else none
theorem hk_L_moved : e_hdOk "CalendarSyncLaw" (ghh sg_L_moved) 8 hd_L_moved := by
  intro E h hE
  unfold hd_L_moved at hE
  by_cases e0 : E = "java/util/NoSuchElementException"
  · subst e0
    rw [if_pos rfl] at hE
    obtain rfl := Option.some.inj hE
    refine ⟨wq_0, (tableOf (ghh sg_L_moved)).take 0, (tableOf (ghh sg_L_moved))[0]'(by decide), (tableOf (ghh sg_L_moved)).drop 1, rfl, ?_, by decide +kernel, by decide +kernel, yw6_159, rfl⟩
    exact fun z hz => nomatch hz
  rw [if_neg e0] at hE
  by_cases e1 : E = "java/lang/IndexOutOfBoundsException"
  · subst e1
    rw [if_pos rfl] at hE
    obtain rfl := Option.some.inj hE
    refine ⟨wq_1, (tableOf (ghh sg_L_moved)).take 1, (tableOf (ghh sg_L_moved))[1]'(by decide), (tableOf (ghh sg_L_moved)).drop 2, rfl, ?_, by decide +kernel, by decide +kernel, yw6_168, rfl⟩
    refine e_pass (ns := ["java/util/NoSuchElementException"]) ?_
    exact ⟨⟨by decide +kernel, yw6_159, by decide +kernel⟩, trivial⟩
  rw [if_neg e1] at hE
  cases hE
theorem dL_moved_0 : decode cL_moved 0 = .ok (.aload_n 0, 1) := by decide +kernel
theorem dL_moved_1 : decode cL_moved 1 = .ok (.iload_n 1, 1) := by decide +kernel
theorem dL_moved_2 : decode cL_moved 2 = .ok (.iload_n 2, 1) := by decide +kernel
theorem dL_moved_3 : decode cL_moved 3 = .ok (.iload_n 3, 1) := by decide +kernel
theorem dL_moved_4 : decode cL_moved 4 = .ok (.iload 4, 2) := by decide +kernel
theorem dL_moved_6 : decode cL_moved 6 = .ok (.iload 5, 2) := by decide +kernel
theorem dL_moved_8 : decode cL_moved 8 = .ok (.invokevirtual 120, 3) := by decide +kernel
theorem dL_moved_11 : decode cL_moved 11 = .ok (.ireturn, 1) := by decide +kernel
theorem dL_moved_12 : decode cL_moved 12 = .ok (.astore 6, 2) := by decide +kernel
theorem dL_moved_14 : decode cL_moved 14 = .ok (.ldc 125, 2) := by decide +kernel
theorem dL_moved_16 : decode cL_moved 16 = .ok (.ireturn, 1) := by decide +kernel
theorem dL_moved_17 : decode cL_moved 17 = .ok (.astore 6, 2) := by decide +kernel
theorem dL_moved_19 : decode cL_moved 19 = .ok (.ldc 125, 2) := by decide +kernel
theorem dL_moved_21 : decode cL_moved 21 = .ok (.ireturn, 1) := by decide +kernel
def pg_L_moved (l : Launch) (g : EG) : List (Nat × ES) := [(0, s_ldP 0), (1, s_ldI 1), (2, s_ldI 2), (3, s_ldI 3), (4, s_ldI 4), (6, s_ldI 5), (8, s_callVH l g sg_L_moved sg_X10_move 9 hd_L_moved), (11, s_ireti), (12, s_stP 6), (14, s_c (.inl (-2147483648))), (16, s_ireti), (17, s_stP 6), (19, s_c (.inl (-2147483648))), (21, s_ireti)]
set_option maxRecDepth 100000 in
theorem ok_L_moved {l : Launch} {g : EG} : e_okp l g sg_L_moved "CalendarSyncLaw" (pg_L_moved l g) := fun p e R s m args below meth c ex M0 Q X =>
    e_each_cons (r_aload_n X (k := 0) (i := 0) rfl dL_moved_0 rfl)
    (e_each_cons (r_iload_n X (k := 1) (i := 1) rfl dL_moved_1 rfl)
    (e_each_cons (r_iload_n X (k := 2) (i := 2) rfl dL_moved_2 rfl)
    (e_each_cons (r_iload_n X (k := 3) (i := 3) rfl dL_moved_3 rfl)
    (e_each_cons (r_iload X (i := 4) dL_moved_4 rfl)
    (e_each_cons (r_iload X (i := 5) dL_moved_6 rfl)
    (e_each_cons (r_callVH X (τ := sg_X10_move) (hdl := hk_L_moved) (index := 120) (ci := 9) dL_moved_8 (by decide) rfl yw6_177 yw6_178 yw6_179 cs_X10_move rfl ⟨by decide, by decide⟩ rfl)
    (e_each_cons (r_ireti X dL_moved_11 rfl)
    (e_each_cons (r_astore X (i := 6) dL_moved_12 (by decide) rfl)
    (e_each_cons (r_ldc X (n := 125) (v := (-2147483648)) dL_moved_14 yw6_17 rfl)
    (e_each_cons (r_ireti X dL_moved_16 rfl)
    (e_each_cons (r_astore X (i := 6) dL_moved_17 (by decide) rfl)
    (e_each_cons (r_ldc X (n := 125) (v := (-2147483648)) dL_moved_19 yw6_17 rfl)
    (e_each_cons (r_ireti X dL_moved_21 rfl)
    (e_each_nil))))))))))))))
def sg_L_replied : SG := (yL_replied, cL_replied, 6, (some .int), 9, 174, 4, 24, 5, false, [(0, 9, 10, 112), (0, 9, 15, 118)])
theorem cs_L_replied : e_csH sg_L_replied := ⟨yw6_184, yw1_0, ⟨by decide, by decide⟩, by decide +kernel, rfl⟩
def hd_L_replied : String → Option Nat := fun E => if E = "java/util/NoSuchElementException" then some 10 else if E = "java/lang/IndexOutOfBoundsException" then some 15 else none
theorem hk_L_replied : e_hdOk "CalendarSyncLaw" (ghh sg_L_replied) 6 hd_L_replied := by
  intro E h hE
  unfold hd_L_replied at hE
  by_cases e0 : E = "java/util/NoSuchElementException"
  · subst e0
    rw [if_pos rfl] at hE
    obtain rfl := Option.some.inj hE
    refine ⟨wq_0, (tableOf (ghh sg_L_replied)).take 0, (tableOf (ghh sg_L_replied))[0]'(by decide), (tableOf (ghh sg_L_replied)).drop 1, rfl, ?_, by decide +kernel, by decide +kernel, yw6_159, rfl⟩
    exact fun z hz => nomatch hz
  rw [if_neg e0] at hE
  by_cases e1 : E = "java/lang/IndexOutOfBoundsException"
  · subst e1
    rw [if_pos rfl] at hE
    obtain rfl := Option.some.inj hE
    refine ⟨wq_1, (tableOf (ghh sg_L_replied)).take 1, (tableOf (ghh sg_L_replied))[1]'(by decide), (tableOf (ghh sg_L_replied)).drop 2, rfl, ?_, by decide +kernel, by decide +kernel, yw6_168, rfl⟩
    refine e_pass (ns := ["java/util/NoSuchElementException"]) ?_
    exact ⟨⟨by decide +kernel, yw6_159, by decide +kernel⟩, trivial⟩
  rw [if_neg e1] at hE
  cases hE
theorem dL_replied_0 : decode cL_replied 0 = .ok (.aload_n 0, 1) := by decide +kernel
theorem dL_replied_1 : decode cL_replied 1 = .ok (.iload_n 1, 1) := by decide +kernel
theorem dL_replied_2 : decode cL_replied 2 = .ok (.iload_n 2, 1) := by decide +kernel
theorem dL_replied_3 : decode cL_replied 3 = .ok (.iload_n 3, 1) := by decide +kernel
theorem dL_replied_4 : decode cL_replied 4 = .ok (.iload 4, 2) := by decide +kernel
theorem dL_replied_6 : decode cL_replied 6 = .ok (.invokevirtual 126, 3) := by decide +kernel
theorem dL_replied_9 : decode cL_replied 9 = .ok (.ireturn, 1) := by decide +kernel
theorem dL_replied_10 : decode cL_replied 10 = .ok (.astore 5, 2) := by decide +kernel
theorem dL_replied_12 : decode cL_replied 12 = .ok (.bipush (-2), 2) := by decide +kernel
theorem dL_replied_14 : decode cL_replied 14 = .ok (.ireturn, 1) := by decide +kernel
theorem dL_replied_15 : decode cL_replied 15 = .ok (.astore 5, 2) := by decide +kernel
theorem dL_replied_17 : decode cL_replied 17 = .ok (.bipush (-3), 2) := by decide +kernel
theorem dL_replied_19 : decode cL_replied 19 = .ok (.ireturn, 1) := by decide +kernel
def pg_L_replied (l : Launch) (g : EG) : List (Nat × ES) := [(0, s_ldP 0), (1, s_ldI 1), (2, s_ldI 2), (3, s_ldI 3), (4, s_ldI 4), (6, s_callVH l g sg_L_replied sg_X10_reply 9 hd_L_replied), (9, s_ireti), (10, s_stP 5), (12, s_c (.inl (-2))), (14, s_ireti), (15, s_stP 5), (17, s_c (.inl (-3))), (19, s_ireti)]
set_option maxRecDepth 100000 in
theorem ok_L_replied {l : Launch} {g : EG} : e_okp l g sg_L_replied "CalendarSyncLaw" (pg_L_replied l g) := fun p e R s m args below meth c ex M0 Q X =>
    e_each_cons (r_aload_n X (k := 0) (i := 0) rfl dL_replied_0 rfl)
    (e_each_cons (r_iload_n X (k := 1) (i := 1) rfl dL_replied_1 rfl)
    (e_each_cons (r_iload_n X (k := 2) (i := 2) rfl dL_replied_2 rfl)
    (e_each_cons (r_iload_n X (k := 3) (i := 3) rfl dL_replied_3 rfl)
    (e_each_cons (r_iload X (i := 4) dL_replied_4 rfl)
    (e_each_cons (r_callVH X (τ := sg_X10_reply) (hdl := hk_L_replied) (index := 126) (ci := 9) dL_replied_6 (by decide) rfl yw6_185 yw6_186 yw6_187 cs_X10_reply rfl ⟨by decide, by decide⟩ rfl)
    (e_each_cons (r_ireti X dL_replied_9 rfl)
    (e_each_cons (r_astore X (i := 5) dL_replied_10 (by decide) rfl)
    (e_each_cons (r_bipush X (n := (-2)) (v := (-2)) dL_replied_12 (by decide) rfl)
    (e_each_cons (r_ireti X dL_replied_14 rfl)
    (e_each_cons (r_astore X (i := 5) dL_replied_15 (by decide) rfl)
    (e_each_cons (r_bipush X (n := (-3)) (v := (-3)) dL_replied_17 (by decide) rfl)
    (e_each_cons (r_ireti X dL_replied_19 rfl)
    (e_each_nil)))))))))))))
def sg_L_removed : SG := (yL_removed, cL_removed, 4, (some .int), 9, 171, 2, 12, 3, false, [(0, 6, 7, 112)])
theorem cs_L_removed : e_csH sg_L_removed := ⟨yw6_202, yw1_0, ⟨by decide, by decide⟩, by decide +kernel, rfl⟩
def hd_L_removed : String → Option Nat := fun E => if E = "java/util/NoSuchElementException" then some 7 else none
theorem hk_L_removed : e_hdOk "CalendarSyncLaw" (ghh sg_L_removed) 3 hd_L_removed := by
  intro E h hE
  unfold hd_L_removed at hE
  by_cases e0 : E = "java/util/NoSuchElementException"
  · subst e0
    rw [if_pos rfl] at hE
    obtain rfl := Option.some.inj hE
    refine ⟨wq_0, (tableOf (ghh sg_L_removed)).take 0, (tableOf (ghh sg_L_removed))[0]'(by decide), (tableOf (ghh sg_L_removed)).drop 1, rfl, ?_, by decide +kernel, by decide +kernel, yw6_159, rfl⟩
    exact fun z hz => nomatch hz
  rw [if_neg e0] at hE
  cases hE
theorem dL_removed_0 : decode cL_removed 0 = .ok (.aload_n 0, 1) := by decide +kernel
theorem dL_removed_1 : decode cL_removed 1 = .ok (.iload_n 1, 1) := by decide +kernel
theorem dL_removed_2 : decode cL_removed 2 = .ok (.iload_n 2, 1) := by decide +kernel
theorem dL_removed_3 : decode cL_removed 3 = .ok (.invokevirtual 130, 3) := by decide +kernel
theorem dL_removed_6 : decode cL_removed 6 = .ok (.ireturn, 1) := by decide +kernel
theorem dL_removed_7 : decode cL_removed 7 = .ok (.astore_n 3, 1) := by decide +kernel
theorem dL_removed_8 : decode cL_removed 8 = .ok (.bipush (-2), 2) := by decide +kernel
theorem dL_removed_10 : decode cL_removed 10 = .ok (.ireturn, 1) := by decide +kernel
def pg_L_removed (l : Launch) (g : EG) : List (Nat × ES) := [(0, s_ldP 0), (1, s_ldI 1), (2, s_ldI 2), (3, s_callVH l g sg_L_removed sg_X10_remove 9 hd_L_removed), (6, s_ireti), (7, s_stP 3), (8, s_c (.inl (-2))), (10, s_ireti)]
set_option maxRecDepth 100000 in
theorem ok_L_removed {l : Launch} {g : EG} : e_okp l g sg_L_removed "CalendarSyncLaw" (pg_L_removed l g) := fun p e R s m args below meth c ex M0 Q X =>
    e_each_cons (r_aload_n X (k := 0) (i := 0) rfl dL_removed_0 rfl)
    (e_each_cons (r_iload_n X (k := 1) (i := 1) rfl dL_removed_1 rfl)
    (e_each_cons (r_iload_n X (k := 2) (i := 2) rfl dL_removed_2 rfl)
    (e_each_cons (r_callVH X (τ := sg_X10_remove) (hdl := hk_L_removed) (index := 130) (ci := 9) dL_removed_3 (by decide) rfl yw6_203 yw6_204 yw6_205 cs_X10_remove rfl ⟨by decide, by decide⟩ rfl)
    (e_each_cons (r_ireti X dL_removed_6 rfl)
    (e_each_cons (r_astore_n X (k := 3) (i := 3) rfl dL_removed_7 (by decide) rfl)
    (e_each_cons (r_bipush X (n := (-2)) (v := (-2)) dL_removed_8 (by decide) rfl)
    (e_each_cons (r_ireti X dL_removed_10 rfl)
    (e_each_nil))))))))
def sg_L_sum : SG := (yL_sum, cL_sum, 7, (some .long), 9, 157, 4, 24, 1, false, [])
theorem cs_L_sum : e_cs sg_L_sum := ⟨yw5_162, yw1_0, ⟨by decide, by decide⟩, by decide +kernel, rfl⟩
theorem mt_L_sum : e_mtF sg_L_sum "CalendarSyncLaw" := ⟨rfl, by decide +kernel, rfl⟩
theorem dL_sum_0 : decode cL_sum 0 = .ok (.aload_n 0, 1) := by decide +kernel
theorem dL_sum_1 : decode cL_sum 1 = .ok (.invokevirtual 134, 3) := by decide +kernel
theorem dL_sum_4 : decode cL_sum 4 = .ok (.i2l, 1) := by decide +kernel
theorem dL_sum_5 : decode cL_sum 5 = .ok (.lstore_n 1, 1) := by decide +kernel
theorem dL_sum_6 : decode cL_sum 6 = .ok (.iconst 0, 1) := by decide +kernel
theorem dL_sum_7 : decode cL_sum 7 = .ok (.istore_n 3, 1) := by decide +kernel
theorem dL_sum_8 : decode cL_sum 8 = .ok (.iload_n 3, 1) := by decide +kernel
theorem dL_sum_9 : decode cL_sum 9 = .ok (.iconst 3, 1) := by decide +kernel
theorem dL_sum_10 : decode cL_sum 10 = .ok (.if_icmp .ge 217, 3) := by decide +kernel
theorem dL_sum_13 : decode cL_sum 13 = .ok (.iconst 0, 1) := by decide +kernel
theorem dL_sum_14 : decode cL_sum 14 = .ok (.istore 4, 2) := by decide +kernel
theorem dL_sum_16 : decode cL_sum 16 = .ok (.iload 4, 2) := by decide +kernel
theorem dL_sum_18 : decode cL_sum 18 = .ok (.iconst 2, 1) := by decide +kernel
theorem dL_sum_19 : decode cL_sum 19 = .ok (.if_icmp .ge 41, 3) := by decide +kernel
theorem dL_sum_22 : decode cL_sum 22 = .ok (.iconst 0, 1) := by decide +kernel
theorem dL_sum_23 : decode cL_sum 23 = .ok (.istore 5, 2) := by decide +kernel
theorem dL_sum_25 : decode cL_sum 25 = .ok (.iload 5, 2) := by decide +kernel
theorem dL_sum_27 : decode cL_sum 27 = .ok (.iconst 4, 1) := by decide +kernel
theorem dL_sum_28 : decode cL_sum 28 = .ok (.if_icmp .ge 26, 3) := by decide +kernel
theorem dL_sum_31 : decode cL_sum 31 = .ok (.ldc2_w 137, 3) := by decide +kernel
theorem dL_sum_34 : decode cL_sum 34 = .ok (.lload_n 1, 1) := by decide +kernel
theorem dL_sum_35 : decode cL_sum 35 = .ok (.lmul, 1) := by decide +kernel
theorem dL_sum_36 : decode cL_sum 36 = .ok (.aload_n 0, 1) := by decide +kernel
theorem dL_sum_37 : decode cL_sum 37 = .ok (.iload_n 3, 1) := by decide +kernel
theorem dL_sum_38 : decode cL_sum 38 = .ok (.iload 4, 2) := by decide +kernel
theorem dL_sum_40 : decode cL_sum 40 = .ok (.iload 5, 2) := by decide +kernel
theorem dL_sum_42 : decode cL_sum 42 = .ok (.invokevirtual 139, 3) := by decide +kernel
theorem dL_sum_45 : decode cL_sum 45 = .ok (.i2l, 1) := by decide +kernel
theorem dL_sum_46 : decode cL_sum 46 = .ok (.ladd, 1) := by decide +kernel
theorem dL_sum_47 : decode cL_sum 47 = .ok (.lstore_n 1, 1) := by decide +kernel
theorem dL_sum_48 : decode cL_sum 48 = .ok (.iinc 5 1, 3) := by decide +kernel
theorem dL_sum_51 : decode cL_sum 51 = .ok (.goto (-26), 3) := by decide +kernel
theorem dL_sum_54 : decode cL_sum 54 = .ok (.iinc 4 1, 3) := by decide +kernel
theorem dL_sum_57 : decode cL_sum 57 = .ok (.goto (-41), 3) := by decide +kernel
theorem dL_sum_60 : decode cL_sum 60 = .ok (.iconst 0, 1) := by decide +kernel
theorem dL_sum_61 : decode cL_sum 61 = .ok (.istore 4, 2) := by decide +kernel
theorem dL_sum_63 : decode cL_sum 63 = .ok (.iload 4, 2) := by decide +kernel
theorem dL_sum_65 : decode cL_sum 65 = .ok (.bipush 8, 2) := by decide +kernel
theorem dL_sum_67 : decode cL_sum 67 = .ok (.if_icmp .ge 154, 3) := by decide +kernel
theorem dL_sum_70 : decode cL_sum 70 = .ok (.aload_n 0, 1) := by decide +kernel
theorem dL_sum_71 : decode cL_sum 71 = .ok (.iload_n 3, 1) := by decide +kernel
theorem dL_sum_72 : decode cL_sum 72 = .ok (.invokevirtual 142, 3) := by decide +kernel
theorem dL_sum_75 : decode cL_sum 75 = .ok (.iload 4, 2) := by decide +kernel
theorem dL_sum_77 : decode cL_sum 77 = .ok (.ishr, 1) := by decide +kernel
theorem dL_sum_78 : decode cL_sum 78 = .ok (.iconst 1, 1) := by decide +kernel
theorem dL_sum_79 : decode cL_sum 79 = .ok (.iand, 1) := by decide +kernel
theorem dL_sum_80 : decode cL_sum 80 = .ok (.ifCond .ne 14, 3) := by decide +kernel
theorem dL_sum_83 : decode cL_sum 83 = .ok (.ldc2_w 137, 3) := by decide +kernel
theorem dL_sum_86 : decode cL_sum 86 = .ok (.lload_n 1, 1) := by decide +kernel
theorem dL_sum_87 : decode cL_sum 87 = .ok (.lmul, 1) := by decide +kernel
theorem dL_sum_88 : decode cL_sum 88 = .ok (.lconst 1, 1) := by decide +kernel
theorem dL_sum_89 : decode cL_sum 89 = .ok (.lsub, 1) := by decide +kernel
theorem dL_sum_90 : decode cL_sum 90 = .ok (.lstore_n 1, 1) := by decide +kernel
theorem dL_sum_91 : decode cL_sum 91 = .ok (.goto 124, 3) := by decide +kernel
theorem dL_sum_94 : decode cL_sum 94 = .ok (.iconst 0, 1) := by decide +kernel
theorem dL_sum_95 : decode cL_sum 95 = .ok (.istore 5, 2) := by decide +kernel
theorem dL_sum_97 : decode cL_sum 97 = .ok (.iload 5, 2) := by decide +kernel
theorem dL_sum_99 : decode cL_sum 99 = .ok (.bipush 12, 2) := by decide +kernel
theorem dL_sum_101 : decode cL_sum 101 = .ok (.if_icmp .ge 26, 3) := by decide +kernel
theorem dL_sum_104 : decode cL_sum 104 = .ok (.ldc2_w 137, 3) := by decide +kernel
theorem dL_sum_107 : decode cL_sum 107 = .ok (.lload_n 1, 1) := by decide +kernel
theorem dL_sum_108 : decode cL_sum 108 = .ok (.lmul, 1) := by decide +kernel
theorem dL_sum_109 : decode cL_sum 109 = .ok (.aload_n 0, 1) := by decide +kernel
theorem dL_sum_110 : decode cL_sum 110 = .ok (.iload_n 3, 1) := by decide +kernel
theorem dL_sum_111 : decode cL_sum 111 = .ok (.iload 4, 2) := by decide +kernel
theorem dL_sum_113 : decode cL_sum 113 = .ok (.iload 5, 2) := by decide +kernel
theorem dL_sum_115 : decode cL_sum 115 = .ok (.invokevirtual 145, 3) := by decide +kernel
theorem dL_sum_118 : decode cL_sum 118 = .ok (.i2l, 1) := by decide +kernel
theorem dL_sum_119 : decode cL_sum 119 = .ok (.ladd, 1) := by decide +kernel
theorem dL_sum_120 : decode cL_sum 120 = .ok (.lstore_n 1, 1) := by decide +kernel
theorem dL_sum_121 : decode cL_sum 121 = .ok (.iinc 5 1, 3) := by decide +kernel
theorem dL_sum_124 : decode cL_sum 124 = .ok (.goto (-27), 3) := by decide +kernel
theorem dL_sum_127 : decode cL_sum 127 = .ok (.iconst 0, 1) := by decide +kernel
theorem dL_sum_128 : decode cL_sum 128 = .ok (.istore 5, 2) := by decide +kernel
theorem dL_sum_130 : decode cL_sum 130 = .ok (.iload 5, 2) := by decide +kernel
theorem dL_sum_132 : decode cL_sum 132 = .ok (.aload_n 0, 1) := by decide +kernel
theorem dL_sum_133 : decode cL_sum 133 = .ok (.iload_n 3, 1) := by decide +kernel
theorem dL_sum_134 : decode cL_sum 134 = .ok (.iload 4, 2) := by decide +kernel
theorem dL_sum_136 : decode cL_sum 136 = .ok (.bipush 9, 2) := by decide +kernel
theorem dL_sum_138 : decode cL_sum 138 = .ok (.invokevirtual 145, 3) := by decide +kernel
theorem dL_sum_141 : decode cL_sum 141 = .ok (.if_icmp .ge 44, 3) := by decide +kernel
theorem dL_sum_144 : decode cL_sum 144 = .ok (.iconst 0, 1) := by decide +kernel
theorem dL_sum_145 : decode cL_sum 145 = .ok (.istore 6, 2) := by decide +kernel
theorem dL_sum_147 : decode cL_sum 147 = .ok (.iload 6, 2) := by decide +kernel
theorem dL_sum_149 : decode cL_sum 149 = .ok (.bipush 7, 2) := by decide +kernel
theorem dL_sum_151 : decode cL_sum 151 = .ok (.if_icmp .ge 28, 3) := by decide +kernel
theorem dL_sum_154 : decode cL_sum 154 = .ok (.ldc2_w 137, 3) := by decide +kernel
theorem dL_sum_157 : decode cL_sum 157 = .ok (.lload_n 1, 1) := by decide +kernel
theorem dL_sum_158 : decode cL_sum 158 = .ok (.lmul, 1) := by decide +kernel
theorem dL_sum_159 : decode cL_sum 159 = .ok (.aload_n 0, 1) := by decide +kernel
theorem dL_sum_160 : decode cL_sum 160 = .ok (.iload_n 3, 1) := by decide +kernel
theorem dL_sum_161 : decode cL_sum 161 = .ok (.iload 4, 2) := by decide +kernel
theorem dL_sum_163 : decode cL_sum 163 = .ok (.iload 5, 2) := by decide +kernel
theorem dL_sum_165 : decode cL_sum 165 = .ok (.iload 6, 2) := by decide +kernel
theorem dL_sum_167 : decode cL_sum 167 = .ok (.invokevirtual 148, 3) := by decide +kernel
theorem dL_sum_170 : decode cL_sum 170 = .ok (.i2l, 1) := by decide +kernel
theorem dL_sum_171 : decode cL_sum 171 = .ok (.ladd, 1) := by decide +kernel
theorem dL_sum_172 : decode cL_sum 172 = .ok (.lstore_n 1, 1) := by decide +kernel
theorem dL_sum_173 : decode cL_sum 173 = .ok (.iinc 6 1, 3) := by decide +kernel
theorem dL_sum_176 : decode cL_sum 176 = .ok (.goto (-29), 3) := by decide +kernel
theorem dL_sum_179 : decode cL_sum 179 = .ok (.iinc 5 1, 3) := by decide +kernel
theorem dL_sum_182 : decode cL_sum 182 = .ok (.goto (-52), 3) := by decide +kernel
theorem dL_sum_185 : decode cL_sum 185 = .ok (.ldc2_w 137, 3) := by decide +kernel
theorem dL_sum_188 : decode cL_sum 188 = .ok (.lload_n 1, 1) := by decide +kernel
theorem dL_sum_189 : decode cL_sum 189 = .ok (.lmul, 1) := by decide +kernel
theorem dL_sum_190 : decode cL_sum 190 = .ok (.aload_n 0, 1) := by decide +kernel
theorem dL_sum_191 : decode cL_sum 191 = .ok (.iload_n 3, 1) := by decide +kernel
theorem dL_sum_192 : decode cL_sum 192 = .ok (.iload 4, 2) := by decide +kernel
theorem dL_sum_194 : decode cL_sum 194 = .ok (.iconst 0, 1) := by decide +kernel
theorem dL_sum_195 : decode cL_sum 195 = .ok (.invokevirtual 151, 3) := by decide +kernel
theorem dL_sum_198 : decode cL_sum 198 = .ok (.i2l, 1) := by decide +kernel
theorem dL_sum_199 : decode cL_sum 199 = .ok (.ladd, 1) := by decide +kernel
theorem dL_sum_200 : decode cL_sum 200 = .ok (.ldc2_w 154, 3) := by decide +kernel
theorem dL_sum_203 : decode cL_sum 203 = .ok (.aload_n 0, 1) := by decide +kernel
theorem dL_sum_204 : decode cL_sum 204 = .ok (.iload_n 3, 1) := by decide +kernel
theorem dL_sum_205 : decode cL_sum 205 = .ok (.iload 4, 2) := by decide +kernel
theorem dL_sum_207 : decode cL_sum 207 = .ok (.iconst 1, 1) := by decide +kernel
theorem dL_sum_208 : decode cL_sum 208 = .ok (.invokevirtual 151, 3) := by decide +kernel
theorem dL_sum_211 : decode cL_sum 211 = .ok (.i2l, 1) := by decide +kernel
theorem dL_sum_212 : decode cL_sum 212 = .ok (.lmul, 1) := by decide +kernel
theorem dL_sum_213 : decode cL_sum 213 = .ok (.ladd, 1) := by decide +kernel
theorem dL_sum_214 : decode cL_sum 214 = .ok (.lstore_n 1, 1) := by decide +kernel
theorem dL_sum_215 : decode cL_sum 215 = .ok (.iinc 4 1, 3) := by decide +kernel
theorem dL_sum_218 : decode cL_sum 218 = .ok (.goto (-155), 3) := by decide +kernel
theorem dL_sum_221 : decode cL_sum 221 = .ok (.iinc 3 1, 3) := by decide +kernel
theorem dL_sum_224 : decode cL_sum 224 = .ok (.goto (-216), 3) := by decide +kernel
theorem dL_sum_227 : decode cL_sum 227 = .ok (.iconst 0, 1) := by decide +kernel
theorem dL_sum_228 : decode cL_sum 228 = .ok (.istore_n 3, 1) := by decide +kernel
theorem dL_sum_229 : decode cL_sum 229 = .ok (.iload_n 3, 1) := by decide +kernel
theorem dL_sum_230 : decode cL_sum 230 = .ok (.iconst 2, 1) := by decide +kernel
theorem dL_sum_231 : decode cL_sum 231 = .ok (.if_icmp .ge 63, 3) := by decide +kernel
theorem dL_sum_234 : decode cL_sum 234 = .ok (.iconst 0, 1) := by decide +kernel
theorem dL_sum_235 : decode cL_sum 235 = .ok (.istore 4, 2) := by decide +kernel
theorem dL_sum_237 : decode cL_sum 237 = .ok (.iload 4, 2) := by decide +kernel
theorem dL_sum_239 : decode cL_sum 239 = .ok (.bipush 6, 2) := by decide +kernel
theorem dL_sum_241 : decode cL_sum 241 = .ok (.if_icmp .ge 47, 3) := by decide +kernel
theorem dL_sum_244 : decode cL_sum 244 = .ok (.ldc2_w 137, 3) := by decide +kernel
theorem dL_sum_247 : decode cL_sum 247 = .ok (.lload_n 1, 1) := by decide +kernel
theorem dL_sum_248 : decode cL_sum 248 = .ok (.lmul, 1) := by decide +kernel
theorem dL_sum_249 : decode cL_sum 249 = .ok (.iload 4, 2) := by decide +kernel
theorem dL_sum_251 : decode cL_sum 251 = .ok (.iconst 5, 1) := by decide +kernel
theorem dL_sum_252 : decode cL_sum 252 = .ok (.if_icmp .ge 13, 3) := by decide +kernel
theorem dL_sum_255 : decode cL_sum 255 = .ok (.aload_n 0, 1) := by decide +kernel
theorem dL_sum_256 : decode cL_sum 256 = .ok (.iload_n 3, 1) := by decide +kernel
theorem dL_sum_257 : decode cL_sum 257 = .ok (.iload 4, 2) := by decide +kernel
theorem dL_sum_259 : decode cL_sum 259 = .ok (.invokevirtual 156, 3) := by decide +kernel
theorem dL_sum_262 : decode cL_sum 262 = .ok (.goto 4, 3) := by decide +kernel
theorem dL_sum_265 : decode cL_sum 265 = .ok (.iconst 0, 1) := by decide +kernel
theorem dL_sum_266 : decode cL_sum 266 = .ok (.i2l, 1) := by decide +kernel
theorem dL_sum_267 : decode cL_sum 267 = .ok (.ladd, 1) := by decide +kernel
theorem dL_sum_268 : decode cL_sum 268 = .ok (.ldc2_w 159, 3) := by decide +kernel
theorem dL_sum_271 : decode cL_sum 271 = .ok (.aload_n 0, 1) := by decide +kernel
theorem dL_sum_272 : decode cL_sum 272 = .ok (.iload_n 3, 1) := by decide +kernel
theorem dL_sum_273 : decode cL_sum 273 = .ok (.iload 4, 2) := by decide +kernel
theorem dL_sum_275 : decode cL_sum 275 = .ok (.invokevirtual 161, 3) := by decide +kernel
theorem dL_sum_278 : decode cL_sum 278 = .ok (.i2l, 1) := by decide +kernel
theorem dL_sum_279 : decode cL_sum 279 = .ok (.lmul, 1) := by decide +kernel
theorem dL_sum_280 : decode cL_sum 280 = .ok (.ladd, 1) := by decide +kernel
theorem dL_sum_281 : decode cL_sum 281 = .ok (.lstore_n 1, 1) := by decide +kernel
theorem dL_sum_282 : decode cL_sum 282 = .ok (.iinc 4 1, 3) := by decide +kernel
theorem dL_sum_285 : decode cL_sum 285 = .ok (.goto (-48), 3) := by decide +kernel
theorem dL_sum_288 : decode cL_sum 288 = .ok (.iinc 3 1, 3) := by decide +kernel
theorem dL_sum_291 : decode cL_sum 291 = .ok (.goto (-62), 3) := by decide +kernel
theorem dL_sum_294 : decode cL_sum 294 = .ok (.lload_n 1, 1) := by decide +kernel
theorem dL_sum_295 : decode cL_sum 295 = .ok (.lreturn, 1) := by decide +kernel
def pg_L_sum (l : Launch) (g : EG) : List (Nat × ES) := [(0, s_ldP 0), (1, s_callV0 l g sg_L_sum sg_X10_clock 9), (4, s_il (fun x => x.toInt64)), (5, s_stL 1), (6, s_c (.inl 0)), (7, s_stI 3), (8, s_ldI 3), (9, s_c (.inl 3)), (10, s_icmp_ge 227), (13, s_c (.inl 0)), (14, s_stI 4), (16, s_ldI 4), (18, s_c (.inl 2)), (19, s_icmp_ge 60), (22, s_c (.inl 0)), (23, s_stI 5), (25, s_ldI 5), (27, s_c (.inl 4)), (28, s_icmp_ge 54), (31, s_c (.inr (.inl 31))), (34, s_ldL 1), (35, s_ll (fun x y => x * y)), (36, s_ldP 0), (37, s_ldI 3), (38, s_ldI 4), (40, s_ldI 5), (42, s_callV0 l g sg_L_sum sg_X10_zone 9), (45, s_il (fun x => x.toInt64)), (46, s_ll (fun x y => x + y)), (47, s_stL 1), (48, s_iinc 5 1), (51, s_goto 25), (54, s_iinc 4 1), (57, s_goto 16), (60, s_c (.inl 0)), (61, s_stI 4), (63, s_ldI 4), (65, s_c (.inl 8)), (67, s_icmp_ge 221), (70, s_ldP 0), (71, s_ldI 3), (72, s_callV0 l g sg_L_sum sg_X10_events 9), (75, s_ldI 4), (77, s_ii (fun x y => x >>> (y &&& 31))), (78, s_c (.inl 1)), (79, s_ii (fun x y => x &&& y)), (80, s_if_ne 94), (83, s_c (.inr (.inl 31))), (86, s_ldL 1), (87, s_ll (fun x y => x * y)), (88, s_c (.inr (.inl 1))), (89, s_ll (fun x y => x - y)), (90, s_stL 1), (91, s_goto 215), (94, s_c (.inl 0)), (95, s_stI 5), (97, s_ldI 5), (99, s_c (.inl 12)), (101, s_icmp_ge 127), (104, s_c (.inr (.inl 31))), (107, s_ldL 1), (108, s_ll (fun x y => x * y)), (109, s_ldP 0), (110, s_ldI 3), (111, s_ldI 4), (113, s_ldI 5), (115, s_callV0 l g sg_L_sum sg_X10_event 9), (118, s_il (fun x => x.toInt64)), (119, s_ll (fun x y => x + y)), (120, s_stL 1), (121, s_iinc 5 1), (124, s_goto 97), (127, s_c (.inl 0)), (128, s_stI 5), (130, s_ldI 5), (132, s_ldP 0), (133, s_ldI 3), (134, s_ldI 4), (136, s_c (.inl 9)), (138, s_callV0 l g sg_L_sum sg_X10_event 9), (141, s_icmp_ge 185), (144, s_c (.inl 0)), (145, s_stI 6), (147, s_ldI 6), (149, s_c (.inl 7)), (151, s_icmp_ge 179), (154, s_c (.inr (.inl 31))), (157, s_ldL 1), (158, s_ll (fun x y => x * y)), (159, s_ldP 0), (160, s_ldI 3), (161, s_ldI 4), (163, s_ldI 5), (165, s_ldI 6), (167, s_callV0 l g sg_L_sum sg_X10_date 9), (170, s_il (fun x => x.toInt64)), (171, s_ll (fun x y => x + y)), (172, s_stL 1), (173, s_iinc 6 1), (176, s_goto 147), (179, s_iinc 5 1), (182, s_goto 130), (185, s_c (.inr (.inl 31))), (188, s_ldL 1), (189, s_ll (fun x y => x * y)), (190, s_ldP 0), (191, s_ldI 3), (192, s_ldI 4), (194, s_c (.inl 0)), (195, s_callV0 l g sg_L_sum sg_X10_answer 9), (198, s_il (fun x => x.toInt64)), (199, s_ll (fun x y => x + y)), (200, s_c (.inr (.inl 7))), (203, s_ldP 0), (204, s_ldI 3), (205, s_ldI 4), (207, s_c (.inl 1)), (208, s_callV0 l g sg_L_sum sg_X10_answer 9), (211, s_il (fun x => x.toInt64)), (212, s_ll (fun x y => x * y)), (213, s_ll (fun x y => x + y)), (214, s_stL 1), (215, s_iinc 4 1), (218, s_goto 63), (221, s_iinc 3 1), (224, s_goto 8), (227, s_c (.inl 0)), (228, s_stI 3), (229, s_ldI 3), (230, s_c (.inl 2)), (231, s_icmp_ge 294), (234, s_c (.inl 0)), (235, s_stI 4), (237, s_ldI 4), (239, s_c (.inl 6)), (241, s_icmp_ge 288), (244, s_c (.inr (.inl 31))), (247, s_ldL 1), (248, s_ll (fun x y => x * y)), (249, s_ldI 4), (251, s_c (.inl 5)), (252, s_icmp_ge 265), (255, s_ldP 0), (256, s_ldI 3), (257, s_ldI 4), (259, s_callV0 l g sg_L_sum sg_X10_side 9), (262, s_goto 266), (265, s_c (.inl 0)), (266, s_il (fun x => x.toInt64)), (267, s_ll (fun x y => x + y)), (268, s_c (.inr (.inl 3))), (271, s_ldP 0), (272, s_ldI 3), (273, s_ldI 4), (275, s_callV0 l g sg_L_sum sg_X10_account 9), (278, s_il (fun x => x.toInt64)), (279, s_ll (fun x y => x * y)), (280, s_ll (fun x y => x + y)), (281, s_stL 1), (282, s_iinc 4 1), (285, s_goto 237), (288, s_iinc 3 1), (291, s_goto 229), (294, s_ldL 1), (295, s_lret)]
set_option maxRecDepth 100000 in
theorem ok_L_sum {l : Launch} {g : EG} : e_okp l g sg_L_sum "CalendarSyncLaw" (pg_L_sum l g) := fun p e R s m args below meth c ex M0 Q X =>
    e_each_cons (r_aload_n X (k := 0) (i := 0) rfl dL_sum_0 rfl)
    (e_each_cons (r_callV0 X (τ := sg_X10_clock) (index := 134) (ci := 9) dL_sum_1 (by decide) rfl yw3_20 yw3_21 yw3_22 cs_X10_clock rfl ⟨by decide, by decide⟩ rfl)
    (e_each_cons (r_i2l X dL_sum_4 rfl)
    (e_each_cons (r_lstore_n X (k := 1) (i := 1) rfl dL_sum_5 (by decide) rfl)
    (e_each_cons (r_iconst X (n := 0) (v := 0) dL_sum_6 (by decide) rfl)
    (e_each_cons (r_istore_n X (k := 3) (i := 3) rfl dL_sum_7 (by decide) rfl)
    (e_each_cons (r_iload_n X (k := 3) (i := 3) rfl dL_sum_8 rfl)
    (e_each_cons (r_iconst X (n := 3) (v := 3) dL_sum_9 (by decide) rfl)
    (e_each_cons (r_icmp_ge X (off := 217) (t := 227) dL_sum_10 (by decide) rfl)
    (e_each_cons (r_iconst X (n := 0) (v := 0) dL_sum_13 (by decide) rfl)
    (e_each_cons (r_istore X (i := 4) dL_sum_14 (by decide) rfl)
    (e_each_cons (r_iload X (i := 4) dL_sum_16 rfl)
    (e_each_cons (r_iconst X (n := 2) (v := 2) dL_sum_18 (by decide) rfl)
    (e_each_cons (r_icmp_ge X (off := 41) (t := 60) dL_sum_19 (by decide) rfl)
    (e_each_cons (r_iconst X (n := 0) (v := 0) dL_sum_22 (by decide) rfl)
    (e_each_cons (r_istore X (i := 5) dL_sum_23 (by decide) rfl)
    (e_each_cons (r_iload X (i := 5) dL_sum_25 rfl)
    (e_each_cons (r_iconst X (n := 4) (v := 4) dL_sum_27 (by decide) rfl)
    (e_each_cons (r_icmp_ge X (off := 26) (t := 54) dL_sum_28 (by decide) rfl)
    (e_each_cons (r_ldc2 X (n := 137) (v := 31) dL_sum_31 yw5_163 rfl)
    (e_each_cons (r_lload_n X (k := 1) (i := 1) rfl dL_sum_34 rfl)
    (e_each_cons (r_lmul X dL_sum_35 rfl)
    (e_each_cons (r_aload_n X (k := 0) (i := 0) rfl dL_sum_36 rfl)
    (e_each_cons (r_iload_n X (k := 3) (i := 3) rfl dL_sum_37 rfl)
    (e_each_cons (r_iload X (i := 4) dL_sum_38 rfl)
    (e_each_cons (r_iload X (i := 5) dL_sum_40 rfl)
    (e_each_cons (r_callV0 X (τ := sg_X10_zone) (index := 139) (ci := 9) dL_sum_42 (by decide) rfl yw5_164 yw5_165 yw5_166 cs_X10_zone rfl ⟨by decide, by decide⟩ rfl)
    (e_each_cons (r_i2l X dL_sum_45 rfl)
    (e_each_cons (r_ladd X dL_sum_46 rfl)
    (e_each_cons (r_lstore_n X (k := 1) (i := 1) rfl dL_sum_47 (by decide) rfl)
    (e_each_cons (r_iinc X (i := 5) (n := 1) (d := 1) dL_sum_48 (by decide) (by decide) rfl)
    (e_each_cons (r_goto X (off := (-26)) (t := 25) dL_sum_51 (by decide))
    (e_each_cons (r_iinc X (i := 4) (n := 1) (d := 1) dL_sum_54 (by decide) (by decide) rfl)
    (e_each_cons (r_goto X (off := (-41)) (t := 16) dL_sum_57 (by decide))
    (e_each_cons (r_iconst X (n := 0) (v := 0) dL_sum_60 (by decide) rfl)
    (e_each_cons (r_istore X (i := 4) dL_sum_61 (by decide) rfl)
    (e_each_cons (r_iload X (i := 4) dL_sum_63 rfl)
    (e_each_cons (r_bipush X (n := 8) (v := 8) dL_sum_65 (by decide) rfl)
    (e_each_cons (r_icmp_ge X (off := 154) (t := 221) dL_sum_67 (by decide) rfl)
    (e_each_cons (r_aload_n X (k := 0) (i := 0) rfl dL_sum_70 rfl)
    (e_each_cons (r_iload_n X (k := 3) (i := 3) rfl dL_sum_71 rfl)
    (e_each_cons (r_callV0 X (τ := sg_X10_events) (index := 142) (ci := 9) dL_sum_72 (by decide) rfl yw2_118 yw2_119 yw2_120 cs_X10_events rfl ⟨by decide, by decide⟩ rfl)
    (e_each_cons (r_iload X (i := 4) dL_sum_75 rfl)
    (e_each_cons (r_ishr X dL_sum_77 rfl)
    (e_each_cons (r_iconst X (n := 1) (v := 1) dL_sum_78 (by decide) rfl)
    (e_each_cons (r_iand X dL_sum_79 rfl)
    (e_each_cons (r_if_ne X (off := 14) (t := 94) dL_sum_80 (by decide) rfl)
    (e_each_cons (r_ldc2 X (n := 137) (v := 31) dL_sum_83 yw5_163 rfl)
    (e_each_cons (r_lload_n X (k := 1) (i := 1) rfl dL_sum_86 rfl)
    (e_each_cons (r_lmul X dL_sum_87 rfl)
    (e_each_cons (r_lconst X (n := 1) (v := 1) dL_sum_88 (by decide) rfl)
    (e_each_cons (r_lsub X dL_sum_89 rfl)
    (e_each_cons (r_lstore_n X (k := 1) (i := 1) rfl dL_sum_90 (by decide) rfl)
    (e_each_cons (r_goto X (off := 124) (t := 215) dL_sum_91 (by decide))
    (e_each_cons (r_iconst X (n := 0) (v := 0) dL_sum_94 (by decide) rfl)
    (e_each_cons (r_istore X (i := 5) dL_sum_95 (by decide) rfl)
    (e_each_cons (r_iload X (i := 5) dL_sum_97 rfl)
    (e_each_cons (r_bipush X (n := 12) (v := 12) dL_sum_99 (by decide) rfl)
    (e_each_cons (r_icmp_ge X (off := 26) (t := 127) dL_sum_101 (by decide) rfl)
    (e_each_cons (r_ldc2 X (n := 137) (v := 31) dL_sum_104 yw5_163 rfl)
    (e_each_cons (r_lload_n X (k := 1) (i := 1) rfl dL_sum_107 rfl)
    (e_each_cons (r_lmul X dL_sum_108 rfl)
    (e_each_cons (r_aload_n X (k := 0) (i := 0) rfl dL_sum_109 rfl)
    (e_each_cons (r_iload_n X (k := 3) (i := 3) rfl dL_sum_110 rfl)
    (e_each_cons (r_iload X (i := 4) dL_sum_111 rfl)
    (e_each_cons (r_iload X (i := 5) dL_sum_113 rfl)
    (e_each_cons (r_callV0 X (τ := sg_X10_event) (index := 145) (ci := 9) dL_sum_115 (by decide) rfl yw5_191 yw5_192 yw5_193 cs_X10_event rfl ⟨by decide, by decide⟩ rfl)
    (e_each_cons (r_i2l X dL_sum_118 rfl)
    (e_each_cons (r_ladd X dL_sum_119 rfl)
    (e_each_cons (r_lstore_n X (k := 1) (i := 1) rfl dL_sum_120 (by decide) rfl)
    (e_each_cons (r_iinc X (i := 5) (n := 1) (d := 1) dL_sum_121 (by decide) (by decide) rfl)
    (e_each_cons (r_goto X (off := (-27)) (t := 97) dL_sum_124 (by decide))
    (e_each_cons (r_iconst X (n := 0) (v := 0) dL_sum_127 (by decide) rfl)
    (e_each_cons (r_istore X (i := 5) dL_sum_128 (by decide) rfl)
    (e_each_cons (r_iload X (i := 5) dL_sum_130 rfl)
    (e_each_cons (r_aload_n X (k := 0) (i := 0) rfl dL_sum_132 rfl)
    (e_each_cons (r_iload_n X (k := 3) (i := 3) rfl dL_sum_133 rfl)
    (e_each_cons (r_iload X (i := 4) dL_sum_134 rfl)
    (e_each_cons (r_bipush X (n := 9) (v := 9) dL_sum_136 (by decide) rfl)
    (e_each_cons (r_callV0 X (τ := sg_X10_event) (index := 145) (ci := 9) dL_sum_138 (by decide) rfl yw5_191 yw5_192 yw5_193 cs_X10_event rfl ⟨by decide, by decide⟩ rfl)
    (e_each_cons (r_icmp_ge X (off := 44) (t := 185) dL_sum_141 (by decide) rfl)
    (e_each_cons (r_iconst X (n := 0) (v := 0) dL_sum_144 (by decide) rfl)
    (e_each_cons (r_istore X (i := 6) dL_sum_145 (by decide) rfl)
    (e_each_cons (r_iload X (i := 6) dL_sum_147 rfl)
    (e_each_cons (r_bipush X (n := 7) (v := 7) dL_sum_149 (by decide) rfl)
    (e_each_cons (r_icmp_ge X (off := 28) (t := 179) dL_sum_151 (by decide) rfl)
    (e_each_cons (r_ldc2 X (n := 137) (v := 31) dL_sum_154 yw5_163 rfl)
    (e_each_cons (r_lload_n X (k := 1) (i := 1) rfl dL_sum_157 rfl)
    (e_each_cons (r_lmul X dL_sum_158 rfl)
    (e_each_cons (r_aload_n X (k := 0) (i := 0) rfl dL_sum_159 rfl)
    (e_each_cons (r_iload_n X (k := 3) (i := 3) rfl dL_sum_160 rfl)
    (e_each_cons (r_iload X (i := 4) dL_sum_161 rfl)
    (e_each_cons (r_iload X (i := 5) dL_sum_163 rfl)
    (e_each_cons (r_iload X (i := 6) dL_sum_165 rfl)
    (e_each_cons (r_callV0 X (τ := sg_X10_date) (index := 148) (ci := 9) dL_sum_167 (by decide) rfl yw5_202 yw5_203 yw5_204 cs_X10_date rfl ⟨by decide, by decide⟩ rfl)
    (e_each_cons (r_i2l X dL_sum_170 rfl)
    (e_each_cons (r_ladd X dL_sum_171 rfl)
    (e_each_cons (r_lstore_n X (k := 1) (i := 1) rfl dL_sum_172 (by decide) rfl)
    (e_each_cons (r_iinc X (i := 6) (n := 1) (d := 1) dL_sum_173 (by decide) (by decide) rfl)
    (e_each_cons (r_goto X (off := (-29)) (t := 147) dL_sum_176 (by decide))
    (e_each_cons (r_iinc X (i := 5) (n := 1) (d := 1) dL_sum_179 (by decide) (by decide) rfl)
    (e_each_cons (r_goto X (off := (-52)) (t := 130) dL_sum_182 (by decide))
    (e_each_cons (r_ldc2 X (n := 137) (v := 31) dL_sum_185 yw5_163 rfl)
    (e_each_cons (r_lload_n X (k := 1) (i := 1) rfl dL_sum_188 rfl)
    (e_each_cons (r_lmul X dL_sum_189 rfl)
    (e_each_cons (r_aload_n X (k := 0) (i := 0) rfl dL_sum_190 rfl)
    (e_each_cons (r_iload_n X (k := 3) (i := 3) rfl dL_sum_191 rfl)
    (e_each_cons (r_iload X (i := 4) dL_sum_192 rfl)
    (e_each_cons (r_iconst X (n := 0) (v := 0) dL_sum_194 (by decide) rfl)
    (e_each_cons (r_callV0 X (τ := sg_X10_answer) (index := 151) (ci := 9) dL_sum_195 (by decide) rfl yw5_224 yw5_225 yw5_226 cs_X10_answer rfl ⟨by decide, by decide⟩ rfl)
    (e_each_cons (r_i2l X dL_sum_198 rfl)
    (e_each_cons (r_ladd X dL_sum_199 rfl)
    (e_each_cons (r_ldc2 X (n := 154) (v := 7) dL_sum_200 yw5_228 rfl)
    (e_each_cons (r_aload_n X (k := 0) (i := 0) rfl dL_sum_203 rfl)
    (e_each_cons (r_iload_n X (k := 3) (i := 3) rfl dL_sum_204 rfl)
    (e_each_cons (r_iload X (i := 4) dL_sum_205 rfl)
    (e_each_cons (r_iconst X (n := 1) (v := 1) dL_sum_207 (by decide) rfl)
    (e_each_cons (r_callV0 X (τ := sg_X10_answer) (index := 151) (ci := 9) dL_sum_208 (by decide) rfl yw5_224 yw5_225 yw5_226 cs_X10_answer rfl ⟨by decide, by decide⟩ rfl)
    (e_each_cons (r_i2l X dL_sum_211 rfl)
    (e_each_cons (r_lmul X dL_sum_212 rfl)
    (e_each_cons (r_ladd X dL_sum_213 rfl)
    (e_each_cons (r_lstore_n X (k := 1) (i := 1) rfl dL_sum_214 (by decide) rfl)
    (e_each_cons (r_iinc X (i := 4) (n := 1) (d := 1) dL_sum_215 (by decide) (by decide) rfl)
    (e_each_cons (r_goto X (off := (-155)) (t := 63) dL_sum_218 (by decide))
    (e_each_cons (r_iinc X (i := 3) (n := 1) (d := 1) dL_sum_221 (by decide) (by decide) rfl)
    (e_each_cons (r_goto X (off := (-216)) (t := 8) dL_sum_224 (by decide))
    (e_each_cons (r_iconst X (n := 0) (v := 0) dL_sum_227 (by decide) rfl)
    (e_each_cons (r_istore_n X (k := 3) (i := 3) rfl dL_sum_228 (by decide) rfl)
    (e_each_cons (r_iload_n X (k := 3) (i := 3) rfl dL_sum_229 rfl)
    (e_each_cons (r_iconst X (n := 2) (v := 2) dL_sum_230 (by decide) rfl)
    (e_each_cons (r_icmp_ge X (off := 63) (t := 294) dL_sum_231 (by decide) rfl)
    (e_each_cons (r_iconst X (n := 0) (v := 0) dL_sum_234 (by decide) rfl)
    (e_each_cons (r_istore X (i := 4) dL_sum_235 (by decide) rfl)
    (e_each_cons (r_iload X (i := 4) dL_sum_237 rfl)
    (e_each_cons (r_bipush X (n := 6) (v := 6) dL_sum_239 (by decide) rfl)
    (e_each_cons (r_icmp_ge X (off := 47) (t := 288) dL_sum_241 (by decide) rfl)
    (e_each_cons (r_ldc2 X (n := 137) (v := 31) dL_sum_244 yw5_163 rfl)
    (e_each_cons (r_lload_n X (k := 1) (i := 1) rfl dL_sum_247 rfl)
    (e_each_cons (r_lmul X dL_sum_248 rfl)
    (e_each_cons (r_iload X (i := 4) dL_sum_249 rfl)
    (e_each_cons (r_iconst X (n := 5) (v := 5) dL_sum_251 (by decide) rfl)
    (e_each_cons (r_icmp_ge X (off := 13) (t := 265) dL_sum_252 (by decide) rfl)
    (e_each_cons (r_aload_n X (k := 0) (i := 0) rfl dL_sum_255 rfl)
    (e_each_cons (r_iload_n X (k := 3) (i := 3) rfl dL_sum_256 rfl)
    (e_each_cons (r_iload X (i := 4) dL_sum_257 rfl)
    (e_each_cons (r_callV0 X (τ := sg_X10_side) (index := 156) (ci := 9) dL_sum_259 (by decide) rfl yw3_24 yw3_25 yw3_26 cs_X10_side rfl ⟨by decide, by decide⟩ rfl)
    (e_each_cons (r_goto X (off := 4) (t := 266) dL_sum_262 (by decide))
    (e_each_cons (r_iconst X (n := 0) (v := 0) dL_sum_265 (by decide) rfl)
    (e_each_cons (r_i2l X dL_sum_266 rfl)
    (e_each_cons (r_ladd X dL_sum_267 rfl)
    (e_each_cons (r_ldc2 X (n := 159) (v := 3) dL_sum_268 yw5_229 rfl)
    (e_each_cons (r_aload_n X (k := 0) (i := 0) rfl dL_sum_271 rfl)
    (e_each_cons (r_iload_n X (k := 3) (i := 3) rfl dL_sum_272 rfl)
    (e_each_cons (r_iload X (i := 4) dL_sum_273 rfl)
    (e_each_cons (r_callV0 X (τ := sg_X10_account) (index := 161) (ci := 9) dL_sum_275 (by decide) rfl yw5_230 yw5_231 yw5_232 cs_X10_account rfl ⟨by decide, by decide⟩ rfl)
    (e_each_cons (r_i2l X dL_sum_278 rfl)
    (e_each_cons (r_lmul X dL_sum_279 rfl)
    (e_each_cons (r_ladd X dL_sum_280 rfl)
    (e_each_cons (r_lstore_n X (k := 1) (i := 1) rfl dL_sum_281 (by decide) rfl)
    (e_each_cons (r_iinc X (i := 4) (n := 1) (d := 1) dL_sum_282 (by decide) (by decide) rfl)
    (e_each_cons (r_goto X (off := (-48)) (t := 237) dL_sum_285 (by decide))
    (e_each_cons (r_iinc X (i := 3) (n := 1) (d := 1) dL_sum_288 (by decide) (by decide) rfl)
    (e_each_cons (r_goto X (off := (-62)) (t := 229) dL_sum_291 (by decide))
    (e_each_cons (r_lload_n X (k := 1) (i := 1) rfl dL_sum_294 rfl)
    (e_each_cons (r_lret X dL_sum_295 rfl)
    (e_each_nil)))))))))))))))))))))))))))))))))))))))))))))))))))))))))))))))))))))))))))))))))))))))))))))))))))))))))))))))))))))))))))))))))))))))))))))))))))))))))))))))))))))
def sg_L_place : SG := (yL_place, cL_place, 13, (some .boolean), 10, 180, 4, 24, 3, false, [])
theorem cs_L_place : e_cs sg_L_place := ⟨yw5_236, yw1_0, ⟨by decide, by decide⟩, by decide +kernel, rfl⟩
theorem mt_L_place : e_mtF sg_L_place "CalendarSyncLaw" := ⟨rfl, by decide +kernel, rfl⟩
theorem dL_place_0 : decode cL_place 0 = .ok (.iconst 0, 1) := by decide +kernel
theorem dL_place_1 : decode cL_place 1 = .ok (.istore_n 3, 1) := by decide +kernel
theorem dL_place_2 : decode cL_place 2 = .ok (.iconst 1, 1) := by decide +kernel
theorem dL_place_3 : decode cL_place 3 = .ok (.istore 4, 2) := by decide +kernel
theorem dL_place_5 : decode cL_place 5 = .ok (.iconst 0, 1) := by decide +kernel
theorem dL_place_6 : decode cL_place 6 = .ok (.istore 5, 2) := by decide +kernel
theorem dL_place_8 : decode cL_place 8 = .ok (.iload 5, 2) := by decide +kernel
theorem dL_place_10 : decode cL_place 10 = .ok (.bipush 8, 2) := by decide +kernel
theorem dL_place_12 : decode cL_place 12 = .ok (.if_icmp .ge 423, 3) := by decide +kernel
theorem dL_place_15 : decode cL_place 15 = .ok (.iload 4, 2) := by decide +kernel
theorem dL_place_17 : decode cL_place 17 = .ok (.ifCond .eq 418, 3) := by decide +kernel
theorem dL_place_20 : decode cL_place 20 = .ok (.aload_n 0, 1) := by decide +kernel
theorem dL_place_21 : decode cL_place 21 = .ok (.iload_n 1, 1) := by decide +kernel
theorem dL_place_22 : decode cL_place 22 = .ok (.invokevirtual 142, 3) := by decide +kernel
theorem dL_place_25 : decode cL_place 25 = .ok (.iload 5, 2) := by decide +kernel
theorem dL_place_27 : decode cL_place 27 = .ok (.ishr, 1) := by decide +kernel
theorem dL_place_28 : decode cL_place 28 = .ok (.iconst 1, 1) := by decide +kernel
theorem dL_place_29 : decode cL_place 29 = .ok (.iand, 1) := by decide +kernel
theorem dL_place_30 : decode cL_place 30 = .ok (.ifCond .ne 6, 3) := by decide +kernel
theorem dL_place_33 : decode cL_place 33 = .ok (.goto 396, 3) := by decide +kernel
theorem dL_place_36 : decode cL_place 36 = .ok (.aload_n 0, 1) := by decide +kernel
theorem dL_place_37 : decode cL_place 37 = .ok (.iload_n 1, 1) := by decide +kernel
theorem dL_place_38 : decode cL_place 38 = .ok (.iload 5, 2) := by decide +kernel
theorem dL_place_40 : decode cL_place 40 = .ok (.bipush 9, 2) := by decide +kernel
theorem dL_place_42 : decode cL_place 42 = .ok (.invokevirtual 145, 3) := by decide +kernel
theorem dL_place_45 : decode cL_place 45 = .ok (.istore 6, 2) := by decide +kernel
theorem dL_place_47 : decode cL_place 47 = .ok (.aload_n 0, 1) := by decide +kernel
theorem dL_place_48 : decode cL_place 48 = .ok (.iload_n 1, 1) := by decide +kernel
theorem dL_place_49 : decode cL_place 49 = .ok (.iload 5, 2) := by decide +kernel
theorem dL_place_51 : decode cL_place 51 = .ok (.iconst 3, 1) := by decide +kernel
theorem dL_place_52 : decode cL_place 52 = .ok (.invokevirtual 145, 3) := by decide +kernel
theorem dL_place_55 : decode cL_place 55 = .ok (.istore 7, 2) := by decide +kernel
theorem dL_place_57 : decode cL_place 57 = .ok (.iload 6, 2) := by decide +kernel
theorem dL_place_59 : decode cL_place 59 = .ok (.aload_n 0, 1) := by decide +kernel
theorem dL_place_60 : decode cL_place 60 = .ok (.iload_n 1, 1) := by decide +kernel
theorem dL_place_61 : decode cL_place 61 = .ok (.iload 5, 2) := by decide +kernel
theorem dL_place_63 : decode cL_place 63 = .ok (.bipush 7, 2) := by decide +kernel
theorem dL_place_65 : decode cL_place 65 = .ok (.invokevirtual 145, 3) := by decide +kernel
theorem dL_place_68 : decode cL_place 68 = .ok (.if_icmp .gt 33, 3) := by decide +kernel
theorem dL_place_71 : decode cL_place 71 = .ok (.aload_n 0, 1) := by decide +kernel
theorem dL_place_72 : decode cL_place 72 = .ok (.iload_n 1, 1) := by decide +kernel
theorem dL_place_73 : decode cL_place 73 = .ok (.iload 5, 2) := by decide +kernel
theorem dL_place_75 : decode cL_place 75 = .ok (.bipush 10, 2) := by decide +kernel
theorem dL_place_77 : decode cL_place 77 = .ok (.invokevirtual 145, 3) := by decide +kernel
theorem dL_place_80 : decode cL_place 80 = .ok (.aload_n 0, 1) := by decide +kernel
theorem dL_place_81 : decode cL_place 81 = .ok (.iload_n 1, 1) := by decide +kernel
theorem dL_place_82 : decode cL_place 82 = .ok (.iload 5, 2) := by decide +kernel
theorem dL_place_84 : decode cL_place 84 = .ok (.bipush 11, 2) := by decide +kernel
theorem dL_place_86 : decode cL_place 86 = .ok (.invokevirtual 145, 3) := by decide +kernel
theorem dL_place_89 : decode cL_place 89 = .ok (.ior, 1) := by decide +kernel
theorem dL_place_90 : decode cL_place 90 = .ok (.iconst 1, 1) := by decide +kernel
theorem dL_place_91 : decode cL_place 91 = .ok (.iload 6, 2) := by decide +kernel
theorem dL_place_93 : decode cL_place 93 = .ok (.ishl, 1) := by decide +kernel
theorem dL_place_94 : decode cL_place 94 = .ok (.if_icmp .ge 7, 3) := by decide +kernel
theorem dL_place_97 : decode cL_place 97 = .ok (.iconst 1, 1) := by decide +kernel
theorem dL_place_98 : decode cL_place 98 = .ok (.goto 4, 3) := by decide +kernel
theorem dL_place_101 : decode cL_place 101 = .ok (.iconst 0, 1) := by decide +kernel
theorem dL_place_102 : decode cL_place 102 = .ok (.istore 4, 2) := by decide +kernel
theorem dL_place_104 : decode cL_place 104 = .ok (.iconst 0, 1) := by decide +kernel
theorem dL_place_105 : decode cL_place 105 = .ok (.istore 8, 2) := by decide +kernel
theorem dL_place_107 : decode cL_place 107 = .ok (.iload 8, 2) := by decide +kernel
theorem dL_place_109 : decode cL_place 109 = .ok (.iload 6, 2) := by decide +kernel
theorem dL_place_111 : decode cL_place 111 = .ok (.if_icmp .ge 318, 3) := by decide +kernel
theorem dL_place_114 : decode cL_place 114 = .ok (.iload 4, 2) := by decide +kernel
theorem dL_place_116 : decode cL_place 116 = .ok (.ifCond .eq 313, 3) := by decide +kernel
theorem dL_place_119 : decode cL_place 119 = .ok (.aload_n 0, 1) := by decide +kernel
theorem dL_place_120 : decode cL_place 120 = .ok (.iload_n 1, 1) := by decide +kernel
theorem dL_place_121 : decode cL_place 121 = .ok (.iload 5, 2) := by decide +kernel
theorem dL_place_123 : decode cL_place 123 = .ok (.iload 8, 2) := by decide +kernel
theorem dL_place_125 : decode cL_place 125 = .ok (.iconst 4, 1) := by decide +kernel
theorem dL_place_126 : decode cL_place 126 = .ok (.invokevirtual 148, 3) := by decide +kernel
theorem dL_place_129 : decode cL_place 129 = .ok (.istore 9, 2) := by decide +kernel
theorem dL_place_131 : decode cL_place 131 = .ok (.iload 9, 2) := by decide +kernel
theorem dL_place_133 : decode cL_place 133 = .ok (.aload_n 0, 1) := by decide +kernel
theorem dL_place_134 : decode cL_place 134 = .ok (.iload_n 1, 1) := by decide +kernel
theorem dL_place_135 : decode cL_place 135 = .ok (.iload 5, 2) := by decide +kernel
theorem dL_place_137 : decode cL_place 137 = .ok (.iconst 0, 1) := by decide +kernel
theorem dL_place_138 : decode cL_place 138 = .ok (.invokevirtual 145, 3) := by decide +kernel
theorem dL_place_141 : decode cL_place 141 = .ok (.if_icmp .lt 77, 3) := by decide +kernel
theorem dL_place_144 : decode cL_place 144 = .ok (.iload 9, 2) := by decide +kernel
theorem dL_place_146 : decode cL_place 146 = .ok (.sipush 1094, 3) := by decide +kernel
theorem dL_place_149 : decode cL_place 149 = .ok (.if_icmp .gt 69, 3) := by decide +kernel
theorem dL_place_152 : decode cL_place 152 = .ok (.iload 8, 2) := by decide +kernel
theorem dL_place_154 : decode cL_place 154 = .ok (.ifCond .eq 20, 3) := by decide +kernel
theorem dL_place_157 : decode cL_place 157 = .ok (.iload 9, 2) := by decide +kernel
theorem dL_place_159 : decode cL_place 159 = .ok (.aload_n 0, 1) := by decide +kernel
theorem dL_place_160 : decode cL_place 160 = .ok (.iload_n 1, 1) := by decide +kernel
theorem dL_place_161 : decode cL_place 161 = .ok (.iload 5, 2) := by decide +kernel
theorem dL_place_163 : decode cL_place 163 = .ok (.iload 8, 2) := by decide +kernel
theorem dL_place_165 : decode cL_place 165 = .ok (.iconst 1, 1) := by decide +kernel
theorem dL_place_166 : decode cL_place 166 = .ok (.isub, 1) := by decide +kernel
theorem dL_place_167 : decode cL_place 167 = .ok (.iconst 4, 1) := by decide +kernel
theorem dL_place_168 : decode cL_place 168 = .ok (.invokevirtual 148, 3) := by decide +kernel
theorem dL_place_171 : decode cL_place 171 = .ok (.if_icmp .le 47, 3) := by decide +kernel
theorem dL_place_174 : decode cL_place 174 = .ok (.aload_n 0, 1) := by decide +kernel
theorem dL_place_175 : decode cL_place 175 = .ok (.iload_n 1, 1) := by decide +kernel
theorem dL_place_176 : decode cL_place 176 = .ok (.iload 5, 2) := by decide +kernel
theorem dL_place_178 : decode cL_place 178 = .ok (.iload 8, 2) := by decide +kernel
theorem dL_place_180 : decode cL_place 180 = .ok (.iconst 2, 1) := by decide +kernel
theorem dL_place_181 : decode cL_place 181 = .ok (.invokevirtual 148, 3) := by decide +kernel
theorem dL_place_184 : decode cL_place 184 = .ok (.aload_n 0, 1) := by decide +kernel
theorem dL_place_185 : decode cL_place 185 = .ok (.iload_n 1, 1) := by decide +kernel
theorem dL_place_186 : decode cL_place 186 = .ok (.iload 7, 2) := by decide +kernel
theorem dL_place_188 : decode cL_place 188 = .ok (.aload_n 0, 1) := by decide +kernel
theorem dL_place_189 : decode cL_place 189 = .ok (.iload_n 1, 1) := by decide +kernel
theorem dL_place_190 : decode cL_place 190 = .ok (.iload 5, 2) := by decide +kernel
theorem dL_place_192 : decode cL_place 192 = .ok (.iload 8, 2) := by decide +kernel
theorem dL_place_194 : decode cL_place 194 = .ok (.iconst 0, 1) := by decide +kernel
theorem dL_place_195 : decode cL_place 195 = .ok (.invokevirtual 148, 3) := by decide +kernel
theorem dL_place_198 : decode cL_place 198 = .ok (.aload_n 0, 1) := by decide +kernel
theorem dL_place_199 : decode cL_place 199 = .ok (.iload_n 1, 1) := by decide +kernel
theorem dL_place_200 : decode cL_place 200 = .ok (.iload 5, 2) := by decide +kernel
theorem dL_place_202 : decode cL_place 202 = .ok (.iload 8, 2) := by decide +kernel
theorem dL_place_204 : decode cL_place 204 = .ok (.iconst 1, 1) := by decide +kernel
theorem dL_place_205 : decode cL_place 205 = .ok (.invokevirtual 148, 3) := by decide +kernel
theorem dL_place_208 : decode cL_place 208 = .ok (.invokevirtual 164, 3) := by decide +kernel
theorem dL_place_211 : decode cL_place 211 = .ok (.if_icmp .ne 7, 3) := by decide +kernel
theorem dL_place_214 : decode cL_place 214 = .ok (.iconst 1, 1) := by decide +kernel
theorem dL_place_215 : decode cL_place 215 = .ok (.goto 4, 3) := by decide +kernel
theorem dL_place_218 : decode cL_place 218 = .ok (.iconst 0, 1) := by decide +kernel
theorem dL_place_219 : decode cL_place 219 = .ok (.istore 4, 2) := by decide +kernel
theorem dL_place_221 : decode cL_place 221 = .ok (.iload 4, 2) := by decide +kernel
theorem dL_place_223 : decode cL_place 223 = .ok (.ifCond .eq 77, 3) := by decide +kernel
theorem dL_place_226 : decode cL_place 226 = .ok (.aload_n 0, 1) := by decide +kernel
theorem dL_place_227 : decode cL_place 227 = .ok (.iload_n 1, 1) := by decide +kernel
theorem dL_place_228 : decode cL_place 228 = .ok (.iload 5, 2) := by decide +kernel
theorem dL_place_230 : decode cL_place 230 = .ok (.iconst 4, 1) := by decide +kernel
theorem dL_place_231 : decode cL_place 231 = .ok (.invokevirtual 145, 3) := by decide +kernel
theorem dL_place_234 : decode cL_place 234 = .ok (.iconst 2, 1) := by decide +kernel
theorem dL_place_235 : decode cL_place 235 = .ok (.if_icmp .ne 26, 3) := by decide +kernel
theorem dL_place_238 : decode cL_place 238 = .ok (.aload_n 0, 1) := by decide +kernel
theorem dL_place_239 : decode cL_place 239 = .ok (.iload_n 1, 1) := by decide +kernel
theorem dL_place_240 : decode cL_place 240 = .ok (.iload 5, 2) := by decide +kernel
theorem dL_place_242 : decode cL_place 242 = .ok (.bipush 6, 2) := by decide +kernel
theorem dL_place_244 : decode cL_place 244 = .ok (.invokevirtual 145, 3) := by decide +kernel
theorem dL_place_247 : decode cL_place 247 = .ok (.aload_n 0, 1) := by decide +kernel
theorem dL_place_248 : decode cL_place 248 = .ok (.iload 9, 2) := by decide +kernel
theorem dL_place_250 : decode cL_place 250 = .ok (.iconst 2, 1) := by decide +kernel
theorem dL_place_251 : decode cL_place 251 = .ok (.invokevirtual 167, 3) := by decide +kernel
theorem dL_place_254 : decode cL_place 254 = .ok (.ishr, 1) := by decide +kernel
theorem dL_place_255 : decode cL_place 255 = .ok (.iconst 1, 1) := by decide +kernel
theorem dL_place_256 : decode cL_place 256 = .ok (.iand, 1) := by decide +kernel
theorem dL_place_257 : decode cL_place 257 = .ok (.iconst 1, 1) := by decide +kernel
theorem dL_place_258 : decode cL_place 258 = .ok (.if_icmp .ne 42, 3) := by decide +kernel
theorem dL_place_261 : decode cL_place 261 = .ok (.aload_n 0, 1) := by decide +kernel
theorem dL_place_262 : decode cL_place 262 = .ok (.iload_n 1, 1) := by decide +kernel
theorem dL_place_263 : decode cL_place 263 = .ok (.iload 5, 2) := by decide +kernel
theorem dL_place_265 : decode cL_place 265 = .ok (.iconst 4, 1) := by decide +kernel
theorem dL_place_266 : decode cL_place 266 = .ok (.invokevirtual 145, 3) := by decide +kernel
theorem dL_place_269 : decode cL_place 269 = .ok (.iconst 3, 1) := by decide +kernel
theorem dL_place_270 : decode cL_place 270 = .ok (.if_icmp .ne 26, 3) := by decide +kernel
theorem dL_place_273 : decode cL_place 273 = .ok (.aload_n 0, 1) := by decide +kernel
theorem dL_place_274 : decode cL_place 274 = .ok (.iload 9, 2) := by decide +kernel
theorem dL_place_276 : decode cL_place 276 = .ok (.iconst 1, 1) := by decide +kernel
theorem dL_place_277 : decode cL_place 277 = .ok (.invokevirtual 167, 3) := by decide +kernel
theorem dL_place_280 : decode cL_place 280 = .ok (.aload_n 0, 1) := by decide +kernel
theorem dL_place_281 : decode cL_place 281 = .ok (.aload_n 0, 1) := by decide +kernel
theorem dL_place_282 : decode cL_place 282 = .ok (.iload_n 1, 1) := by decide +kernel
theorem dL_place_283 : decode cL_place 283 = .ok (.iload 5, 2) := by decide +kernel
theorem dL_place_285 : decode cL_place 285 = .ok (.iconst 0, 1) := by decide +kernel
theorem dL_place_286 : decode cL_place 286 = .ok (.invokevirtual 145, 3) := by decide +kernel
theorem dL_place_289 : decode cL_place 289 = .ok (.iconst 1, 1) := by decide +kernel
theorem dL_place_290 : decode cL_place 290 = .ok (.invokevirtual 167, 3) := by decide +kernel
theorem dL_place_293 : decode cL_place 293 = .ok (.if_icmp .ne 7, 3) := by decide +kernel
theorem dL_place_296 : decode cL_place 296 = .ok (.iconst 1, 1) := by decide +kernel
theorem dL_place_297 : decode cL_place 297 = .ok (.goto 4, 3) := by decide +kernel
theorem dL_place_300 : decode cL_place 300 = .ok (.iconst 0, 1) := by decide +kernel
theorem dL_place_301 : decode cL_place 301 = .ok (.istore 4, 2) := by decide +kernel
theorem dL_place_303 : decode cL_place 303 = .ok (.aload_n 0, 1) := by decide +kernel
theorem dL_place_304 : decode cL_place 304 = .ok (.iload_n 1, 1) := by decide +kernel
theorem dL_place_305 : decode cL_place 305 = .ok (.iload 5, 2) := by decide +kernel
theorem dL_place_307 : decode cL_place 307 = .ok (.bipush 11, 2) := by decide +kernel
theorem dL_place_309 : decode cL_place 309 = .ok (.invokevirtual 145, 3) := by decide +kernel
theorem dL_place_312 : decode cL_place 312 = .ok (.iload 8, 2) := by decide +kernel
theorem dL_place_314 : decode cL_place 314 = .ok (.ishr, 1) := by decide +kernel
theorem dL_place_315 : decode cL_place 315 = .ok (.iconst 1, 1) := by decide +kernel
theorem dL_place_316 : decode cL_place 316 = .ok (.iand, 1) := by decide +kernel
theorem dL_place_317 : decode cL_place 317 = .ok (.iconst 1, 1) := by decide +kernel
theorem dL_place_318 : decode cL_place 318 = .ok (.if_icmp .ne 7, 3) := by decide +kernel
theorem dL_place_321 : decode cL_place 321 = .ok (.iconst 1, 1) := by decide +kernel
theorem dL_place_322 : decode cL_place 322 = .ok (.goto 4, 3) := by decide +kernel
theorem dL_place_325 : decode cL_place 325 = .ok (.iconst 0, 1) := by decide +kernel
theorem dL_place_326 : decode cL_place 326 = .ok (.istore 10, 2) := by decide +kernel
theorem dL_place_328 : decode cL_place 328 = .ok (.iload 4, 2) := by decide +kernel
theorem dL_place_330 : decode cL_place 330 = .ok (.ifCond .eq 77, 3) := by decide +kernel
theorem dL_place_333 : decode cL_place 333 = .ok (.iload 10, 2) := by decide +kernel
theorem dL_place_335 : decode cL_place 335 = .ok (.ifCond .ne 39, 3) := by decide +kernel
theorem dL_place_338 : decode cL_place 338 = .ok (.aload_n 0, 1) := by decide +kernel
theorem dL_place_339 : decode cL_place 339 = .ok (.iload_n 1, 1) := by decide +kernel
theorem dL_place_340 : decode cL_place 340 = .ok (.iload 5, 2) := by decide +kernel
theorem dL_place_342 : decode cL_place 342 = .ok (.iload 8, 2) := by decide +kernel
theorem dL_place_344 : decode cL_place 344 = .ok (.iconst 0, 1) := by decide +kernel
theorem dL_place_345 : decode cL_place 345 = .ok (.invokevirtual 148, 3) := by decide +kernel
theorem dL_place_348 : decode cL_place 348 = .ok (.iload 9, 2) := by decide +kernel
theorem dL_place_350 : decode cL_place 350 = .ok (.if_icmp .ne 57, 3) := by decide +kernel
theorem dL_place_353 : decode cL_place 353 = .ok (.aload_n 0, 1) := by decide +kernel
theorem dL_place_354 : decode cL_place 354 = .ok (.iload_n 1, 1) := by decide +kernel
theorem dL_place_355 : decode cL_place 355 = .ok (.iload 5, 2) := by decide +kernel
theorem dL_place_357 : decode cL_place 357 = .ok (.iload 8, 2) := by decide +kernel
theorem dL_place_359 : decode cL_place 359 = .ok (.iconst 1, 1) := by decide +kernel
theorem dL_place_360 : decode cL_place 360 = .ok (.invokevirtual 148, 3) := by decide +kernel
theorem dL_place_363 : decode cL_place 363 = .ok (.aload_n 0, 1) := by decide +kernel
theorem dL_place_364 : decode cL_place 364 = .ok (.iload_n 1, 1) := by decide +kernel
theorem dL_place_365 : decode cL_place 365 = .ok (.iload 5, 2) := by decide +kernel
theorem dL_place_367 : decode cL_place 367 = .ok (.iconst 1, 1) := by decide +kernel
theorem dL_place_368 : decode cL_place 368 = .ok (.invokevirtual 145, 3) := by decide +kernel
theorem dL_place_371 : decode cL_place 371 = .ok (.if_icmp .ne 36, 3) := by decide +kernel
theorem dL_place_374 : decode cL_place 374 = .ok (.aload_n 0, 1) := by decide +kernel
theorem dL_place_375 : decode cL_place 375 = .ok (.iload_n 1, 1) := by decide +kernel
theorem dL_place_376 : decode cL_place 376 = .ok (.iload 5, 2) := by decide +kernel
theorem dL_place_378 : decode cL_place 378 = .ok (.iload 8, 2) := by decide +kernel
theorem dL_place_380 : decode cL_place 380 = .ok (.iconst 3, 1) := by decide +kernel
theorem dL_place_381 : decode cL_place 381 = .ok (.invokevirtual 148, 3) := by decide +kernel
theorem dL_place_384 : decode cL_place 384 = .ok (.iconst 1, 1) := by decide +kernel
theorem dL_place_385 : decode cL_place 385 = .ok (.aload_n 0, 1) := by decide +kernel
theorem dL_place_386 : decode cL_place 386 = .ok (.iload_n 1, 1) := by decide +kernel
theorem dL_place_387 : decode cL_place 387 = .ok (.iload 5, 2) := by decide +kernel
theorem dL_place_389 : decode cL_place 389 = .ok (.bipush 10, 2) := by decide +kernel
theorem dL_place_391 : decode cL_place 391 = .ok (.invokevirtual 145, 3) := by decide +kernel
theorem dL_place_394 : decode cL_place 394 = .ok (.iload 8, 2) := by decide +kernel
theorem dL_place_396 : decode cL_place 396 = .ok (.ishr, 1) := by decide +kernel
theorem dL_place_397 : decode cL_place 397 = .ok (.iconst 1, 1) := by decide +kernel
theorem dL_place_398 : decode cL_place 398 = .ok (.iand, 1) := by decide +kernel
theorem dL_place_399 : decode cL_place 399 = .ok (.isub, 1) := by decide +kernel
theorem dL_place_400 : decode cL_place 400 = .ok (.if_icmp .ne 7, 3) := by decide +kernel
theorem dL_place_403 : decode cL_place 403 = .ok (.iconst 1, 1) := by decide +kernel
theorem dL_place_404 : decode cL_place 404 = .ok (.goto 4, 3) := by decide +kernel
theorem dL_place_407 : decode cL_place 407 = .ok (.iconst 0, 1) := by decide +kernel
theorem dL_place_408 : decode cL_place 408 = .ok (.istore 4, 2) := by decide +kernel
theorem dL_place_410 : decode cL_place 410 = .ok (.iload_n 3, 1) := by decide +kernel
theorem dL_place_411 : decode cL_place 411 = .ok (.aload_n 0, 1) := by decide +kernel
theorem dL_place_412 : decode cL_place 412 = .ok (.iload_n 1, 1) := by decide +kernel
theorem dL_place_413 : decode cL_place 413 = .ok (.iload 5, 2) := by decide +kernel
theorem dL_place_415 : decode cL_place 415 = .ok (.iload 8, 2) := by decide +kernel
theorem dL_place_417 : decode cL_place 417 = .ok (.iconst 3, 1) := by decide +kernel
theorem dL_place_418 : decode cL_place 418 = .ok (.invokevirtual 148, 3) := by decide +kernel
theorem dL_place_421 : decode cL_place 421 = .ok (.iadd, 1) := by decide +kernel
theorem dL_place_422 : decode cL_place 422 = .ok (.istore_n 3, 1) := by decide +kernel
theorem dL_place_423 : decode cL_place 423 = .ok (.iinc 8 1, 3) := by decide +kernel
theorem dL_place_426 : decode cL_place 426 = .ok (.goto (-319), 3) := by decide +kernel
theorem dL_place_429 : decode cL_place 429 = .ok (.iinc 5 1, 3) := by decide +kernel
theorem dL_place_432 : decode cL_place 432 = .ok (.goto (-424), 3) := by decide +kernel
theorem dL_place_435 : decode cL_place 435 = .ok (.iload 4, 2) := by decide +kernel
theorem dL_place_437 : decode cL_place 437 = .ok (.ifCond .eq 20, 3) := by decide +kernel
theorem dL_place_440 : decode cL_place 440 = .ok (.aload_n 0, 1) := by decide +kernel
theorem dL_place_441 : decode cL_place 441 = .ok (.iload_n 1, 1) := by decide +kernel
theorem dL_place_442 : decode cL_place 442 = .ok (.ldc 125, 2) := by decide +kernel
theorem dL_place_444 : decode cL_place 444 = .ok (.ldc 170, 2) := by decide +kernel
theorem dL_place_446 : decode cL_place 446 = .ok (.invokevirtual 171, 3) := by decide +kernel
theorem dL_place_449 : decode cL_place 449 = .ok (.iload_n 3, 1) := by decide +kernel
theorem dL_place_450 : decode cL_place 450 = .ok (.if_icmp .ne 7, 3) := by decide +kernel
theorem dL_place_453 : decode cL_place 453 = .ok (.iconst 1, 1) := by decide +kernel
theorem dL_place_454 : decode cL_place 454 = .ok (.goto 4, 3) := by decide +kernel
theorem dL_place_457 : decode cL_place 457 = .ok (.iconst 0, 1) := by decide +kernel
theorem dL_place_458 : decode cL_place 458 = .ok (.istore 4, 2) := by decide +kernel
theorem dL_place_460 : decode cL_place 460 = .ok (.aload_n 2, 1) := by decide +kernel
theorem dL_place_461 : decode cL_place 461 = .ok (.invokestatic 50, 3) := by decide +kernel
theorem dL_place_464 : decode cL_place 464 = .ok (.ldc 174, 2) := by decide +kernel
theorem dL_place_466 : decode cL_place 466 = .ok (.irem, 1) := by decide +kernel
theorem dL_place_467 : decode cL_place 467 = .ok (.sipush 1000, 3) := by decide +kernel
theorem dL_place_470 : decode cL_place 470 = .ok (.isub, 1) := by decide +kernel
theorem dL_place_471 : decode cL_place 471 = .ok (.istore 5, 2) := by decide +kernel
theorem dL_place_473 : decode cL_place 473 = .ok (.aload_n 0, 1) := by decide +kernel
theorem dL_place_474 : decode cL_place 474 = .ok (.iload_n 1, 1) := by decide +kernel
theorem dL_place_475 : decode cL_place 475 = .ok (.iload 5, 2) := by decide +kernel
theorem dL_place_477 : decode cL_place 477 = .ok (.ldc 170, 2) := by decide +kernel
theorem dL_place_479 : decode cL_place 479 = .ok (.invokevirtual 171, 3) := by decide +kernel
theorem dL_place_482 : decode cL_place 482 = .ok (.istore 6, 2) := by decide +kernel
theorem dL_place_484 : decode cL_place 484 = .ok (.iconst 0, 1) := by decide +kernel
theorem dL_place_485 : decode cL_place 485 = .ok (.istore 7, 2) := by decide +kernel
theorem dL_place_487 : decode cL_place 487 = .ok (.iload 7, 2) := by decide +kernel
theorem dL_place_489 : decode cL_place 489 = .ok (.iload 6, 2) := by decide +kernel
theorem dL_place_491 : decode cL_place 491 = .ok (.if_icmp .ge 181, 3) := by decide +kernel
theorem dL_place_494 : decode cL_place 494 = .ok (.iload 4, 2) := by decide +kernel
theorem dL_place_496 : decode cL_place 496 = .ok (.ifCond .eq 176, 3) := by decide +kernel
theorem dL_place_499 : decode cL_place 499 = .ok (.aload_n 0, 1) := by decide +kernel
theorem dL_place_500 : decode cL_place 500 = .ok (.iload_n 1, 1) := by decide +kernel
theorem dL_place_501 : decode cL_place 501 = .ok (.iload 5, 2) := by decide +kernel
theorem dL_place_503 : decode cL_place 503 = .ok (.iload 7, 2) := by decide +kernel
theorem dL_place_505 : decode cL_place 505 = .ok (.iconst 0, 1) := by decide +kernel
theorem dL_place_506 : decode cL_place 506 = .ok (.invokevirtual 175, 3) := by decide +kernel
theorem dL_place_509 : decode cL_place 509 = .ok (.istore 8, 2) := by decide +kernel
theorem dL_place_511 : decode cL_place 511 = .ok (.aload_n 0, 1) := by decide +kernel
theorem dL_place_512 : decode cL_place 512 = .ok (.iload_n 1, 1) := by decide +kernel
theorem dL_place_513 : decode cL_place 513 = .ok (.iload 5, 2) := by decide +kernel
theorem dL_place_515 : decode cL_place 515 = .ok (.iload 7, 2) := by decide +kernel
theorem dL_place_517 : decode cL_place 517 = .ok (.iconst 1, 1) := by decide +kernel
theorem dL_place_518 : decode cL_place 518 = .ok (.invokevirtual 175, 3) := by decide +kernel
theorem dL_place_521 : decode cL_place 521 = .ok (.istore 9, 2) := by decide +kernel
theorem dL_place_523 : decode cL_place 523 = .ok (.aload_n 0, 1) := by decide +kernel
theorem dL_place_524 : decode cL_place 524 = .ok (.iload_n 1, 1) := by decide +kernel
theorem dL_place_525 : decode cL_place 525 = .ok (.iload 5, 2) := by decide +kernel
theorem dL_place_527 : decode cL_place 527 = .ok (.iload 7, 2) := by decide +kernel
theorem dL_place_529 : decode cL_place 529 = .ok (.iconst 2, 1) := by decide +kernel
theorem dL_place_530 : decode cL_place 530 = .ok (.invokevirtual 175, 3) := by decide +kernel
theorem dL_place_533 : decode cL_place 533 = .ok (.istore 10, 2) := by decide +kernel
theorem dL_place_535 : decode cL_place 535 = .ok (.iload 10, 2) := by decide +kernel
theorem dL_place_537 : decode cL_place 537 = .ok (.iload 5, 2) := by decide +kernel
theorem dL_place_539 : decode cL_place 539 = .ok (.if_icmp .lt 36, 3) := by decide +kernel
theorem dL_place_542 : decode cL_place 542 = .ok (.aload_n 0, 1) := by decide +kernel
theorem dL_place_543 : decode cL_place 543 = .ok (.iload_n 1, 1) := by decide +kernel
theorem dL_place_544 : decode cL_place 544 = .ok (.iload 8, 2) := by decide +kernel
theorem dL_place_546 : decode cL_place 546 = .ok (.iload 9, 2) := by decide +kernel
theorem dL_place_548 : decode cL_place 548 = .ok (.iconst 2, 1) := by decide +kernel
theorem dL_place_549 : decode cL_place 549 = .ok (.invokevirtual 148, 3) := by decide +kernel
theorem dL_place_552 : decode cL_place 552 = .ok (.iload 10, 2) := by decide +kernel
theorem dL_place_554 : decode cL_place 554 = .ok (.if_icmp .ne 21, 3) := by decide +kernel
theorem dL_place_557 : decode cL_place 557 = .ok (.aload_n 0, 1) := by decide +kernel
theorem dL_place_558 : decode cL_place 558 = .ok (.iload_n 1, 1) := by decide +kernel
theorem dL_place_559 : decode cL_place 559 = .ok (.iload 8, 2) := by decide +kernel
theorem dL_place_561 : decode cL_place 561 = .ok (.iload 9, 2) := by decide +kernel
theorem dL_place_563 : decode cL_place 563 = .ok (.iconst 3, 1) := by decide +kernel
theorem dL_place_564 : decode cL_place 564 = .ok (.invokevirtual 148, 3) := by decide +kernel
theorem dL_place_567 : decode cL_place 567 = .ok (.iconst 1, 1) := by decide +kernel
theorem dL_place_568 : decode cL_place 568 = .ok (.if_icmp .ne 7, 3) := by decide +kernel
theorem dL_place_571 : decode cL_place 571 = .ok (.iconst 1, 1) := by decide +kernel
theorem dL_place_572 : decode cL_place 572 = .ok (.goto 4, 3) := by decide +kernel
theorem dL_place_575 : decode cL_place 575 = .ok (.iconst 0, 1) := by decide +kernel
theorem dL_place_576 : decode cL_place 576 = .ok (.istore 4, 2) := by decide +kernel
theorem dL_place_578 : decode cL_place 578 = .ok (.iload 4, 2) := by decide +kernel
theorem dL_place_580 : decode cL_place 580 = .ok (.ifCond .eq 86, 3) := by decide +kernel
theorem dL_place_583 : decode cL_place 583 = .ok (.iload 7, 2) := by decide +kernel
theorem dL_place_585 : decode cL_place 585 = .ok (.ifCond .le 81, 3) := by decide +kernel
theorem dL_place_588 : decode cL_place 588 = .ok (.aload_n 0, 1) := by decide +kernel
theorem dL_place_589 : decode cL_place 589 = .ok (.iload_n 1, 1) := by decide +kernel
theorem dL_place_590 : decode cL_place 590 = .ok (.iload 5, 2) := by decide +kernel
theorem dL_place_592 : decode cL_place 592 = .ok (.iload 7, 2) := by decide +kernel
theorem dL_place_594 : decode cL_place 594 = .ok (.iconst 1, 1) := by decide +kernel
theorem dL_place_595 : decode cL_place 595 = .ok (.isub, 1) := by decide +kernel
theorem dL_place_596 : decode cL_place 596 = .ok (.iconst 2, 1) := by decide +kernel
theorem dL_place_597 : decode cL_place 597 = .ok (.invokevirtual 175, 3) := by decide +kernel
theorem dL_place_600 : decode cL_place 600 = .ok (.istore 11, 2) := by decide +kernel
theorem dL_place_602 : decode cL_place 602 = .ok (.bipush 100, 2) := by decide +kernel
theorem dL_place_604 : decode cL_place 604 = .ok (.aload_n 0, 1) := by decide +kernel
theorem dL_place_605 : decode cL_place 605 = .ok (.iload_n 1, 1) := by decide +kernel
theorem dL_place_606 : decode cL_place 606 = .ok (.iload 5, 2) := by decide +kernel
theorem dL_place_608 : decode cL_place 608 = .ok (.iload 7, 2) := by decide +kernel
theorem dL_place_610 : decode cL_place 610 = .ok (.iconst 1, 1) := by decide +kernel
theorem dL_place_611 : decode cL_place 611 = .ok (.isub, 1) := by decide +kernel
theorem dL_place_612 : decode cL_place 612 = .ok (.iconst 0, 1) := by decide +kernel
theorem dL_place_613 : decode cL_place 613 = .ok (.invokevirtual 175, 3) := by decide +kernel
theorem dL_place_616 : decode cL_place 616 = .ok (.imul, 1) := by decide +kernel
theorem dL_place_617 : decode cL_place 617 = .ok (.aload_n 0, 1) := by decide +kernel
theorem dL_place_618 : decode cL_place 618 = .ok (.iload_n 1, 1) := by decide +kernel
theorem dL_place_619 : decode cL_place 619 = .ok (.iload 5, 2) := by decide +kernel
theorem dL_place_621 : decode cL_place 621 = .ok (.iload 7, 2) := by decide +kernel
theorem dL_place_623 : decode cL_place 623 = .ok (.iconst 1, 1) := by decide +kernel
theorem dL_place_624 : decode cL_place 624 = .ok (.isub, 1) := by decide +kernel
theorem dL_place_625 : decode cL_place 625 = .ok (.iconst 1, 1) := by decide +kernel
theorem dL_place_626 : decode cL_place 626 = .ok (.invokevirtual 175, 3) := by decide +kernel
theorem dL_place_629 : decode cL_place 629 = .ok (.iadd, 1) := by decide +kernel
theorem dL_place_630 : decode cL_place 630 = .ok (.istore 12, 2) := by decide +kernel
theorem dL_place_632 : decode cL_place 632 = .ok (.iload 11, 2) := by decide +kernel
theorem dL_place_634 : decode cL_place 634 = .ok (.iload 10, 2) := by decide +kernel
theorem dL_place_636 : decode cL_place 636 = .ok (.if_icmp .lt 23, 3) := by decide +kernel
theorem dL_place_639 : decode cL_place 639 = .ok (.iload 11, 2) := by decide +kernel
theorem dL_place_641 : decode cL_place 641 = .ok (.iload 10, 2) := by decide +kernel
theorem dL_place_643 : decode cL_place 643 = .ok (.if_icmp .ne 20, 3) := by decide +kernel
theorem dL_place_646 : decode cL_place 646 = .ok (.iload 12, 2) := by decide +kernel
theorem dL_place_648 : decode cL_place 648 = .ok (.bipush 100, 2) := by decide +kernel
theorem dL_place_650 : decode cL_place 650 = .ok (.iload 8, 2) := by decide +kernel
theorem dL_place_652 : decode cL_place 652 = .ok (.imul, 1) := by decide +kernel
theorem dL_place_653 : decode cL_place 653 = .ok (.iload 9, 2) := by decide +kernel
theorem dL_place_655 : decode cL_place 655 = .ok (.iadd, 1) := by decide +kernel
theorem dL_place_656 : decode cL_place 656 = .ok (.if_icmp .ge 7, 3) := by decide +kernel
theorem dL_place_659 : decode cL_place 659 = .ok (.iconst 1, 1) := by decide +kernel
theorem dL_place_660 : decode cL_place 660 = .ok (.goto 4, 3) := by decide +kernel
theorem dL_place_663 : decode cL_place 663 = .ok (.iconst 0, 1) := by decide +kernel
theorem dL_place_664 : decode cL_place 664 = .ok (.istore 4, 2) := by decide +kernel
theorem dL_place_666 : decode cL_place 666 = .ok (.iinc 7 1, 3) := by decide +kernel
theorem dL_place_669 : decode cL_place 669 = .ok (.goto (-182), 3) := by decide +kernel
theorem dL_place_672 : decode cL_place 672 = .ok (.aload_n 0, 1) := by decide +kernel
theorem dL_place_673 : decode cL_place 673 = .ok (.iload_n 1, 1) := by decide +kernel
theorem dL_place_674 : decode cL_place 674 = .ok (.iload 5, 2) := by decide +kernel
theorem dL_place_676 : decode cL_place 676 = .ok (.iload 5, 2) := by decide +kernel
theorem dL_place_678 : decode cL_place 678 = .ok (.iconst 1, 1) := by decide +kernel
theorem dL_place_679 : decode cL_place 679 = .ok (.iadd, 1) := by decide +kernel
theorem dL_place_680 : decode cL_place 680 = .ok (.aload_n 2, 1) := by decide +kernel
theorem dL_place_681 : decode cL_place 681 = .ok (.invokestatic 50, 3) := by decide +kernel
theorem dL_place_684 : decode cL_place 684 = .ok (.sipush 3000, 3) := by decide +kernel
theorem dL_place_687 : decode cL_place 687 = .ok (.irem, 1) := by decide +kernel
theorem dL_place_688 : decode cL_place 688 = .ok (.iadd, 1) := by decide +kernel
theorem dL_place_689 : decode cL_place 689 = .ok (.invokevirtual 178, 3) := by decide +kernel
theorem dL_place_692 : decode cL_place 692 = .ok (.fstore 7, 2) := by decide +kernel
theorem dL_place_694 : decode cL_place 694 = .ok (.iload 4, 2) := by decide +kernel
theorem dL_place_696 : decode cL_place 696 = .ok (.ifCond .eq 36, 3) := by decide +kernel
theorem dL_place_699 : decode cL_place 699 = .ok (.fload 7, 2) := by decide +kernel
theorem dL_place_701 : decode cL_place 701 = .ok (.fconst 0, 1) := by decide +kernel
theorem dL_place_702 : decode cL_place 702 = .ok (.fcmp .l, 1) := by decide +kernel
theorem dL_place_703 : decode cL_place 703 = .ok (.ifCond .lt 29, 3) := by decide +kernel
theorem dL_place_706 : decode cL_place 706 = .ok (.fload 7, 2) := by decide +kernel
theorem dL_place_708 : decode cL_place 708 = .ok (.fconst 1, 1) := by decide +kernel
theorem dL_place_709 : decode cL_place 709 = .ok (.fcmp .g, 1) := by decide +kernel
theorem dL_place_710 : decode cL_place 710 = .ok (.ifCond .gt 22, 3) := by decide +kernel
theorem dL_place_713 : decode cL_place 713 = .ok (.aload_n 0, 1) := by decide +kernel
theorem dL_place_714 : decode cL_place 714 = .ok (.iload_n 1, 1) := by decide +kernel
theorem dL_place_715 : decode cL_place 715 = .ok (.invokevirtual 182, 3) := by decide +kernel
theorem dL_place_718 : decode cL_place 718 = .ok (.iload_n 3, 1) := by decide +kernel
theorem dL_place_719 : decode cL_place 719 = .ok (.iload_n 3, 1) := by decide +kernel
theorem dL_place_720 : decode cL_place 720 = .ok (.iconst 1, 1) := by decide +kernel
theorem dL_place_721 : decode cL_place 721 = .ok (.isub, 1) := by decide +kernel
theorem dL_place_722 : decode cL_place 722 = .ok (.imul, 1) := by decide +kernel
theorem dL_place_723 : decode cL_place 723 = .ok (.iconst 2, 1) := by decide +kernel
theorem dL_place_724 : decode cL_place 724 = .ok (.idiv, 1) := by decide +kernel
theorem dL_place_725 : decode cL_place 725 = .ok (.if_icmp .gt 7, 3) := by decide +kernel
theorem dL_place_728 : decode cL_place 728 = .ok (.iconst 1, 1) := by decide +kernel
theorem dL_place_729 : decode cL_place 729 = .ok (.goto 4, 3) := by decide +kernel
theorem dL_place_732 : decode cL_place 732 = .ok (.iconst 0, 1) := by decide +kernel
theorem dL_place_733 : decode cL_place 733 = .ok (.ireturn, 1) := by decide +kernel
def pg_L_place (l : Launch) (g : EG) : List (Nat × ES) := [(0, s_c (.inl 0)), (1, s_stI 3), (2, s_c (.inl 1)), (3, s_stI 4), (5, s_c (.inl 0)), (6, s_stI 5), (8, s_ldI 5), (10, s_c (.inl 8)), (12, s_icmp_ge 435), (15, s_ldI 4), (17, s_if_eq 435), (20, s_ldP 0), (21, s_ldI 1), (22, s_callV0 l g sg_L_place sg_X10_events 9), (25, s_ldI 5), (27, s_ii (fun x y => x >>> (y &&& 31))), (28, s_c (.inl 1)), (29, s_ii (fun x y => x &&& y)), (30, s_if_ne 36), (33, s_goto 429), (36, s_ldP 0), (37, s_ldI 1), (38, s_ldI 5), (40, s_c (.inl 9)), (42, s_callV0 l g sg_L_place sg_X10_event 9), (45, s_stI 6), (47, s_ldP 0), (48, s_ldI 1), (49, s_ldI 5), (51, s_c (.inl 3)), (52, s_callV0 l g sg_L_place sg_X10_event 9), (55, s_stI 7), (57, s_ldI 6), (59, s_ldP 0), (60, s_ldI 1), (61, s_ldI 5), (63, s_c (.inl 7)), (65, s_callV0 l g sg_L_place sg_X10_event 9), (68, s_icmp_gt 101), (71, s_ldP 0), (72, s_ldI 1), (73, s_ldI 5), (75, s_c (.inl 10)), (77, s_callV0 l g sg_L_place sg_X10_event 9), (80, s_ldP 0), (81, s_ldI 1), (82, s_ldI 5), (84, s_c (.inl 11)), (86, s_callV0 l g sg_L_place sg_X10_event 9), (89, s_ii (fun x y => x ||| y)), (90, s_c (.inl 1)), (91, s_ldI 6), (93, s_ii (fun x y => x <<< (y &&& 31))), (94, s_icmp_ge 101), (97, s_c (.inl 1)), (98, s_goto 102), (101, s_c (.inl 0)), (102, s_stI 4), (104, s_c (.inl 0)), (105, s_stI 8), (107, s_ldI 8), (109, s_ldI 6), (111, s_icmp_ge 429), (114, s_ldI 4), (116, s_if_eq 429), (119, s_ldP 0), (120, s_ldI 1), (121, s_ldI 5), (123, s_ldI 8), (125, s_c (.inl 4)), (126, s_callV0 l g sg_L_place sg_X10_date 9), (129, s_stI 9), (131, s_ldI 9), (133, s_ldP 0), (134, s_ldI 1), (135, s_ldI 5), (137, s_c (.inl 0)), (138, s_callV0 l g sg_L_place sg_X10_event 9), (141, s_icmp_lt 218), (144, s_ldI 9), (146, s_c (.inl 1094)), (149, s_icmp_gt 218), (152, s_ldI 8), (154, s_if_eq 174), (157, s_ldI 9), (159, s_ldP 0), (160, s_ldI 1), (161, s_ldI 5), (163, s_ldI 8), (165, s_c (.inl 1)), (166, s_ii (fun x y => x - y)), (167, s_c (.inl 4)), (168, s_callV0 l g sg_L_place sg_X10_date 9), (171, s_icmp_le 218), (174, s_ldP 0), (175, s_ldI 1), (176, s_ldI 5), (178, s_ldI 8), (180, s_c (.inl 2)), (181, s_callV0 l g sg_L_place sg_X10_date 9), (184, s_ldP 0), (185, s_ldI 1), (186, s_ldI 7), (188, s_ldP 0), (189, s_ldI 1), (190, s_ldI 5), (192, s_ldI 8), (194, s_c (.inl 0)), (195, s_callV0 l g sg_L_place sg_X10_date 9), (198, s_ldP 0), (199, s_ldI 1), (200, s_ldI 5), (202, s_ldI 8), (204, s_c (.inl 1)), (205, s_callV0 l g sg_L_place sg_X10_date 9), (208, s_callV0 l g sg_L_place sg_X10_moment 9), (211, s_icmp_ne 218), (214, s_c (.inl 1)), (215, s_goto 219), (218, s_c (.inl 0)), (219, s_stI 4), (221, s_ldI 4), (223, s_if_eq 300), (226, s_ldP 0), (227, s_ldI 1), (228, s_ldI 5), (230, s_c (.inl 4)), (231, s_callV0 l g sg_L_place sg_X10_event 9), (234, s_c (.inl 2)), (235, s_icmp_ne 261), (238, s_ldP 0), (239, s_ldI 1), (240, s_ldI 5), (242, s_c (.inl 6)), (244, s_callV0 l g sg_L_place sg_X10_event 9), (247, s_ldP 0), (248, s_ldI 9), (250, s_c (.inl 2)), (251, s_callV0 l g sg_L_place sg_X10_day 9), (254, s_ii (fun x y => x >>> (y &&& 31))), (255, s_c (.inl 1)), (256, s_ii (fun x y => x &&& y)), (257, s_c (.inl 1)), (258, s_icmp_ne 300), (261, s_ldP 0), (262, s_ldI 1), (263, s_ldI 5), (265, s_c (.inl 4)), (266, s_callV0 l g sg_L_place sg_X10_event 9), (269, s_c (.inl 3)), (270, s_icmp_ne 296), (273, s_ldP 0), (274, s_ldI 9), (276, s_c (.inl 1)), (277, s_callV0 l g sg_L_place sg_X10_day 9), (280, s_ldP 0), (281, s_ldP 0), (282, s_ldI 1), (283, s_ldI 5), (285, s_c (.inl 0)), (286, s_callV0 l g sg_L_place sg_X10_event 9), (289, s_c (.inl 1)), (290, s_callV0 l g sg_L_place sg_X10_day 9), (293, s_icmp_ne 300), (296, s_c (.inl 1)), (297, s_goto 301), (300, s_c (.inl 0)), (301, s_stI 4), (303, s_ldP 0), (304, s_ldI 1), (305, s_ldI 5), (307, s_c (.inl 11)), (309, s_callV0 l g sg_L_place sg_X10_event 9), (312, s_ldI 8), (314, s_ii (fun x y => x >>> (y &&& 31))), (315, s_c (.inl 1)), (316, s_ii (fun x y => x &&& y)), (317, s_c (.inl 1)), (318, s_icmp_ne 325), (321, s_c (.inl 1)), (322, s_goto 326), (325, s_c (.inl 0)), (326, s_stI 10), (328, s_ldI 4), (330, s_if_eq 407), (333, s_ldI 10), (335, s_if_ne 374), (338, s_ldP 0), (339, s_ldI 1), (340, s_ldI 5), (342, s_ldI 8), (344, s_c (.inl 0)), (345, s_callV0 l g sg_L_place sg_X10_date 9), (348, s_ldI 9), (350, s_icmp_ne 407), (353, s_ldP 0), (354, s_ldI 1), (355, s_ldI 5), (357, s_ldI 8), (359, s_c (.inl 1)), (360, s_callV0 l g sg_L_place sg_X10_date 9), (363, s_ldP 0), (364, s_ldI 1), (365, s_ldI 5), (367, s_c (.inl 1)), (368, s_callV0 l g sg_L_place sg_X10_event 9), (371, s_icmp_ne 407), (374, s_ldP 0), (375, s_ldI 1), (376, s_ldI 5), (378, s_ldI 8), (380, s_c (.inl 3)), (381, s_callV0 l g sg_L_place sg_X10_date 9), (384, s_c (.inl 1)), (385, s_ldP 0), (386, s_ldI 1), (387, s_ldI 5), (389, s_c (.inl 10)), (391, s_callV0 l g sg_L_place sg_X10_event 9), (394, s_ldI 8), (396, s_ii (fun x y => x >>> (y &&& 31))), (397, s_c (.inl 1)), (398, s_ii (fun x y => x &&& y)), (399, s_ii (fun x y => x - y)), (400, s_icmp_ne 407), (403, s_c (.inl 1)), (404, s_goto 408), (407, s_c (.inl 0)), (408, s_stI 4), (410, s_ldI 3), (411, s_ldP 0), (412, s_ldI 1), (413, s_ldI 5), (415, s_ldI 8), (417, s_c (.inl 3)), (418, s_callV0 l g sg_L_place sg_X10_date 9), (421, s_ii (fun x y => x + y)), (422, s_stI 3), (423, s_iinc 8 1), (426, s_goto 107), (429, s_iinc 5 1), (432, s_goto 8), (435, s_ldI 4), (437, s_if_eq 457), (440, s_ldP 0), (441, s_ldI 1), (442, s_c (.inl (-2147483648))), (444, s_c (.inl 2147483647)), (446, s_callV0 l g sg_L_place sg_X10_agenda 9), (449, s_ldI 3), (450, s_icmp_ne 457), (453, s_c (.inl 1)), (454, s_goto 458), (457, s_c (.inl 0)), (458, s_stI 4), (460, s_ldP 2), (461, s_callS0 l g sg_L_place sg_L_next), (464, s_c (.inl 200000)), (466, s_iid (fun x y => x - x / y * y) (fun _ y => ¬ y = 0)), (467, s_c (.inl 1000)), (470, s_ii (fun x y => x - y)), (471, s_stI 5), (473, s_ldP 0), (474, s_ldI 1), (475, s_ldI 5), (477, s_c (.inl 2147483647)), (479, s_callV0 l g sg_L_place sg_X10_agenda 9), (482, s_stI 6), (484, s_c (.inl 0)), (485, s_stI 7), (487, s_ldI 7), (489, s_ldI 6), (491, s_icmp_ge 672), (494, s_ldI 4), (496, s_if_eq 672), (499, s_ldP 0), (500, s_ldI 1), (501, s_ldI 5), (503, s_ldI 7), (505, s_c (.inl 0)), (506, s_callV0 l g sg_L_place sg_X10_agendaAt 9), (509, s_stI 8), (511, s_ldP 0), (512, s_ldI 1), (513, s_ldI 5), (515, s_ldI 7), (517, s_c (.inl 1)), (518, s_callV0 l g sg_L_place sg_X10_agendaAt 9), (521, s_stI 9), (523, s_ldP 0), (524, s_ldI 1), (525, s_ldI 5), (527, s_ldI 7), (529, s_c (.inl 2)), (530, s_callV0 l g sg_L_place sg_X10_agendaAt 9), (533, s_stI 10), (535, s_ldI 10), (537, s_ldI 5), (539, s_icmp_lt 575), (542, s_ldP 0), (543, s_ldI 1), (544, s_ldI 8), (546, s_ldI 9), (548, s_c (.inl 2)), (549, s_callV0 l g sg_L_place sg_X10_date 9), (552, s_ldI 10), (554, s_icmp_ne 575), (557, s_ldP 0), (558, s_ldI 1), (559, s_ldI 8), (561, s_ldI 9), (563, s_c (.inl 3)), (564, s_callV0 l g sg_L_place sg_X10_date 9), (567, s_c (.inl 1)), (568, s_icmp_ne 575), (571, s_c (.inl 1)), (572, s_goto 576), (575, s_c (.inl 0)), (576, s_stI 4), (578, s_ldI 4), (580, s_if_eq 666), (583, s_ldI 7), (585, s_if_le 666), (588, s_ldP 0), (589, s_ldI 1), (590, s_ldI 5), (592, s_ldI 7), (594, s_c (.inl 1)), (595, s_ii (fun x y => x - y)), (596, s_c (.inl 2)), (597, s_callV0 l g sg_L_place sg_X10_agendaAt 9), (600, s_stI 11), (602, s_c (.inl 100)), (604, s_ldP 0), (605, s_ldI 1), (606, s_ldI 5), (608, s_ldI 7), (610, s_c (.inl 1)), (611, s_ii (fun x y => x - y)), (612, s_c (.inl 0)), (613, s_callV0 l g sg_L_place sg_X10_agendaAt 9), (616, s_ii (fun x y => x * y)), (617, s_ldP 0), (618, s_ldI 1), (619, s_ldI 5), (621, s_ldI 7), (623, s_c (.inl 1)), (624, s_ii (fun x y => x - y)), (625, s_c (.inl 1)), (626, s_callV0 l g sg_L_place sg_X10_agendaAt 9), (629, s_ii (fun x y => x + y)), (630, s_stI 12), (632, s_ldI 11), (634, s_ldI 10), (636, s_icmp_lt 659), (639, s_ldI 11), (641, s_ldI 10), (643, s_icmp_ne 663), (646, s_ldI 12), (648, s_c (.inl 100)), (650, s_ldI 8), (652, s_ii (fun x y => x * y)), (653, s_ldI 9), (655, s_ii (fun x y => x + y)), (656, s_icmp_ge 663), (659, s_c (.inl 1)), (660, s_goto 664), (663, s_c (.inl 0)), (664, s_stI 4), (666, s_iinc 7 1), (669, s_goto 487), (672, s_ldP 0), (673, s_ldI 1), (674, s_ldI 5), (676, s_ldI 5), (678, s_c (.inl 1)), (679, s_ii (fun x y => x + y)), (680, s_ldP 2), (681, s_callS0 l g sg_L_place sg_L_next), (684, s_c (.inl 3000)), (687, s_iid (fun x y => x - x / y * y) (fun _ y => ¬ y = 0)), (688, s_ii (fun x y => x + y)), (689, s_callV0 l g sg_L_place sg_X10_busy 9), (692, s_stF 7), (694, s_ldI 4), (696, s_if_eq 732), (699, s_ldF 7), (701, s_c (.inr (.inr (.inl FP.fconst0)))), (702, s_ffi (fun x y => Op.cmpValue (FP.fcmp x y) .l)), (703, s_if_lt 732), (706, s_ldF 7), (708, s_c (.inr (.inr (.inl FP.fconst1)))), (709, s_ffi (fun x y => Op.cmpValue (FP.fcmp x y) .g)), (710, s_if_gt 732), (713, s_ldP 0), (714, s_ldI 1), (715, s_callV0 l g sg_L_place sg_X10_clashes 9), (718, s_ldI 3), (719, s_ldI 3), (720, s_c (.inl 1)), (721, s_ii (fun x y => x - y)), (722, s_ii (fun x y => x * y)), (723, s_c (.inl 2)), (724, s_iid (fun x y => x / y) (fun _ y => ¬ y = 0)), (725, s_icmp_gt 732), (728, s_c (.inl 1)), (729, s_goto 733), (732, s_c (.inl 0)), (733, s_iretz)]
set_option maxRecDepth 100000 in
theorem ok_L_place {l : Launch} {g : EG} : e_okp l g sg_L_place "CalendarSyncLaw" (pg_L_place l g) := fun p e R s m args below meth c ex M0 Q X =>
    e_each_cons (r_iconst X (n := 0) (v := 0) dL_place_0 (by decide) rfl)
    (e_each_cons (r_istore_n X (k := 3) (i := 3) rfl dL_place_1 (by decide) rfl)
    (e_each_cons (r_iconst X (n := 1) (v := 1) dL_place_2 (by decide) rfl)
    (e_each_cons (r_istore X (i := 4) dL_place_3 (by decide) rfl)
    (e_each_cons (r_iconst X (n := 0) (v := 0) dL_place_5 (by decide) rfl)
    (e_each_cons (r_istore X (i := 5) dL_place_6 (by decide) rfl)
    (e_each_cons (r_iload X (i := 5) dL_place_8 rfl)
    (e_each_cons (r_bipush X (n := 8) (v := 8) dL_place_10 (by decide) rfl)
    (e_each_cons (r_icmp_ge X (off := 423) (t := 435) dL_place_12 (by decide) rfl)
    (e_each_cons (r_iload X (i := 4) dL_place_15 rfl)
    (e_each_cons (r_if_eq X (off := 418) (t := 435) dL_place_17 (by decide) rfl)
    (e_each_cons (r_aload_n X (k := 0) (i := 0) rfl dL_place_20 rfl)
    (e_each_cons (r_iload_n X (k := 1) (i := 1) rfl dL_place_21 rfl)
    (e_each_cons (r_callV0 X (τ := sg_X10_events) (index := 142) (ci := 9) dL_place_22 (by decide) rfl yw2_118 yw2_119 yw2_120 cs_X10_events rfl ⟨by decide, by decide⟩ rfl)
    (e_each_cons (r_iload X (i := 5) dL_place_25 rfl)
    (e_each_cons (r_ishr X dL_place_27 rfl)
    (e_each_cons (r_iconst X (n := 1) (v := 1) dL_place_28 (by decide) rfl)
    (e_each_cons (r_iand X dL_place_29 rfl)
    (e_each_cons (r_if_ne X (off := 6) (t := 36) dL_place_30 (by decide) rfl)
    (e_each_cons (r_goto X (off := 396) (t := 429) dL_place_33 (by decide))
    (e_each_cons (r_aload_n X (k := 0) (i := 0) rfl dL_place_36 rfl)
    (e_each_cons (r_iload_n X (k := 1) (i := 1) rfl dL_place_37 rfl)
    (e_each_cons (r_iload X (i := 5) dL_place_38 rfl)
    (e_each_cons (r_bipush X (n := 9) (v := 9) dL_place_40 (by decide) rfl)
    (e_each_cons (r_callV0 X (τ := sg_X10_event) (index := 145) (ci := 9) dL_place_42 (by decide) rfl yw5_191 yw5_192 yw5_193 cs_X10_event rfl ⟨by decide, by decide⟩ rfl)
    (e_each_cons (r_istore X (i := 6) dL_place_45 (by decide) rfl)
    (e_each_cons (r_aload_n X (k := 0) (i := 0) rfl dL_place_47 rfl)
    (e_each_cons (r_iload_n X (k := 1) (i := 1) rfl dL_place_48 rfl)
    (e_each_cons (r_iload X (i := 5) dL_place_49 rfl)
    (e_each_cons (r_iconst X (n := 3) (v := 3) dL_place_51 (by decide) rfl)
    (e_each_cons (r_callV0 X (τ := sg_X10_event) (index := 145) (ci := 9) dL_place_52 (by decide) rfl yw5_191 yw5_192 yw5_193 cs_X10_event rfl ⟨by decide, by decide⟩ rfl)
    (e_each_cons (r_istore X (i := 7) dL_place_55 (by decide) rfl)
    (e_each_cons (r_iload X (i := 6) dL_place_57 rfl)
    (e_each_cons (r_aload_n X (k := 0) (i := 0) rfl dL_place_59 rfl)
    (e_each_cons (r_iload_n X (k := 1) (i := 1) rfl dL_place_60 rfl)
    (e_each_cons (r_iload X (i := 5) dL_place_61 rfl)
    (e_each_cons (r_bipush X (n := 7) (v := 7) dL_place_63 (by decide) rfl)
    (e_each_cons (r_callV0 X (τ := sg_X10_event) (index := 145) (ci := 9) dL_place_65 (by decide) rfl yw5_191 yw5_192 yw5_193 cs_X10_event rfl ⟨by decide, by decide⟩ rfl)
    (e_each_cons (r_icmp_gt X (off := 33) (t := 101) dL_place_68 (by decide) rfl)
    (e_each_cons (r_aload_n X (k := 0) (i := 0) rfl dL_place_71 rfl)
    (e_each_cons (r_iload_n X (k := 1) (i := 1) rfl dL_place_72 rfl)
    (e_each_cons (r_iload X (i := 5) dL_place_73 rfl)
    (e_each_cons (r_bipush X (n := 10) (v := 10) dL_place_75 (by decide) rfl)
    (e_each_cons (r_callV0 X (τ := sg_X10_event) (index := 145) (ci := 9) dL_place_77 (by decide) rfl yw5_191 yw5_192 yw5_193 cs_X10_event rfl ⟨by decide, by decide⟩ rfl)
    (e_each_cons (r_aload_n X (k := 0) (i := 0) rfl dL_place_80 rfl)
    (e_each_cons (r_iload_n X (k := 1) (i := 1) rfl dL_place_81 rfl)
    (e_each_cons (r_iload X (i := 5) dL_place_82 rfl)
    (e_each_cons (r_bipush X (n := 11) (v := 11) dL_place_84 (by decide) rfl)
    (e_each_cons (r_callV0 X (τ := sg_X10_event) (index := 145) (ci := 9) dL_place_86 (by decide) rfl yw5_191 yw5_192 yw5_193 cs_X10_event rfl ⟨by decide, by decide⟩ rfl)
    (e_each_cons (r_ior X dL_place_89 rfl)
    (e_each_cons (r_iconst X (n := 1) (v := 1) dL_place_90 (by decide) rfl)
    (e_each_cons (r_iload X (i := 6) dL_place_91 rfl)
    (e_each_cons (r_ishl X dL_place_93 rfl)
    (e_each_cons (r_icmp_ge X (off := 7) (t := 101) dL_place_94 (by decide) rfl)
    (e_each_cons (r_iconst X (n := 1) (v := 1) dL_place_97 (by decide) rfl)
    (e_each_cons (r_goto X (off := 4) (t := 102) dL_place_98 (by decide))
    (e_each_cons (r_iconst X (n := 0) (v := 0) dL_place_101 (by decide) rfl)
    (e_each_cons (r_istore X (i := 4) dL_place_102 (by decide) rfl)
    (e_each_cons (r_iconst X (n := 0) (v := 0) dL_place_104 (by decide) rfl)
    (e_each_cons (r_istore X (i := 8) dL_place_105 (by decide) rfl)
    (e_each_cons (r_iload X (i := 8) dL_place_107 rfl)
    (e_each_cons (r_iload X (i := 6) dL_place_109 rfl)
    (e_each_cons (r_icmp_ge X (off := 318) (t := 429) dL_place_111 (by decide) rfl)
    (e_each_cons (r_iload X (i := 4) dL_place_114 rfl)
    (e_each_cons (r_if_eq X (off := 313) (t := 429) dL_place_116 (by decide) rfl)
    (e_each_cons (r_aload_n X (k := 0) (i := 0) rfl dL_place_119 rfl)
    (e_each_cons (r_iload_n X (k := 1) (i := 1) rfl dL_place_120 rfl)
    (e_each_cons (r_iload X (i := 5) dL_place_121 rfl)
    (e_each_cons (r_iload X (i := 8) dL_place_123 rfl)
    (e_each_cons (r_iconst X (n := 4) (v := 4) dL_place_125 (by decide) rfl)
    (e_each_cons (r_callV0 X (τ := sg_X10_date) (index := 148) (ci := 9) dL_place_126 (by decide) rfl yw5_202 yw5_203 yw5_204 cs_X10_date rfl ⟨by decide, by decide⟩ rfl)
    (e_each_cons (r_istore X (i := 9) dL_place_129 (by decide) rfl)
    (e_each_cons (r_iload X (i := 9) dL_place_131 rfl)
    (e_each_cons (r_aload_n X (k := 0) (i := 0) rfl dL_place_133 rfl)
    (e_each_cons (r_iload_n X (k := 1) (i := 1) rfl dL_place_134 rfl)
    (e_each_cons (r_iload X (i := 5) dL_place_135 rfl)
    (e_each_cons (r_iconst X (n := 0) (v := 0) dL_place_137 (by decide) rfl)
    (e_each_cons (r_callV0 X (τ := sg_X10_event) (index := 145) (ci := 9) dL_place_138 (by decide) rfl yw5_191 yw5_192 yw5_193 cs_X10_event rfl ⟨by decide, by decide⟩ rfl)
    (e_each_cons (r_icmp_lt X (off := 77) (t := 218) dL_place_141 (by decide) rfl)
    (e_each_cons (r_iload X (i := 9) dL_place_144 rfl)
    (e_each_cons (r_sipush X (n := 1094) (v := 1094) dL_place_146 (by decide) rfl)
    (e_each_cons (r_icmp_gt X (off := 69) (t := 218) dL_place_149 (by decide) rfl)
    (e_each_cons (r_iload X (i := 8) dL_place_152 rfl)
    (e_each_cons (r_if_eq X (off := 20) (t := 174) dL_place_154 (by decide) rfl)
    (e_each_cons (r_iload X (i := 9) dL_place_157 rfl)
    (e_each_cons (r_aload_n X (k := 0) (i := 0) rfl dL_place_159 rfl)
    (e_each_cons (r_iload_n X (k := 1) (i := 1) rfl dL_place_160 rfl)
    (e_each_cons (r_iload X (i := 5) dL_place_161 rfl)
    (e_each_cons (r_iload X (i := 8) dL_place_163 rfl)
    (e_each_cons (r_iconst X (n := 1) (v := 1) dL_place_165 (by decide) rfl)
    (e_each_cons (r_isub X dL_place_166 rfl)
    (e_each_cons (r_iconst X (n := 4) (v := 4) dL_place_167 (by decide) rfl)
    (e_each_cons (r_callV0 X (τ := sg_X10_date) (index := 148) (ci := 9) dL_place_168 (by decide) rfl yw5_202 yw5_203 yw5_204 cs_X10_date rfl ⟨by decide, by decide⟩ rfl)
    (e_each_cons (r_icmp_le X (off := 47) (t := 218) dL_place_171 (by decide) rfl)
    (e_each_cons (r_aload_n X (k := 0) (i := 0) rfl dL_place_174 rfl)
    (e_each_cons (r_iload_n X (k := 1) (i := 1) rfl dL_place_175 rfl)
    (e_each_cons (r_iload X (i := 5) dL_place_176 rfl)
    (e_each_cons (r_iload X (i := 8) dL_place_178 rfl)
    (e_each_cons (r_iconst X (n := 2) (v := 2) dL_place_180 (by decide) rfl)
    (e_each_cons (r_callV0 X (τ := sg_X10_date) (index := 148) (ci := 9) dL_place_181 (by decide) rfl yw5_202 yw5_203 yw5_204 cs_X10_date rfl ⟨by decide, by decide⟩ rfl)
    (e_each_cons (r_aload_n X (k := 0) (i := 0) rfl dL_place_184 rfl)
    (e_each_cons (r_iload_n X (k := 1) (i := 1) rfl dL_place_185 rfl)
    (e_each_cons (r_iload X (i := 7) dL_place_186 rfl)
    (e_each_cons (r_aload_n X (k := 0) (i := 0) rfl dL_place_188 rfl)
    (e_each_cons (r_iload_n X (k := 1) (i := 1) rfl dL_place_189 rfl)
    (e_each_cons (r_iload X (i := 5) dL_place_190 rfl)
    (e_each_cons (r_iload X (i := 8) dL_place_192 rfl)
    (e_each_cons (r_iconst X (n := 0) (v := 0) dL_place_194 (by decide) rfl)
    (e_each_cons (r_callV0 X (τ := sg_X10_date) (index := 148) (ci := 9) dL_place_195 (by decide) rfl yw5_202 yw5_203 yw5_204 cs_X10_date rfl ⟨by decide, by decide⟩ rfl)
    (e_each_cons (r_aload_n X (k := 0) (i := 0) rfl dL_place_198 rfl)
    (e_each_cons (r_iload_n X (k := 1) (i := 1) rfl dL_place_199 rfl)
    (e_each_cons (r_iload X (i := 5) dL_place_200 rfl)
    (e_each_cons (r_iload X (i := 8) dL_place_202 rfl)
    (e_each_cons (r_iconst X (n := 1) (v := 1) dL_place_204 (by decide) rfl)
    (e_each_cons (r_callV0 X (τ := sg_X10_date) (index := 148) (ci := 9) dL_place_205 (by decide) rfl yw5_202 yw5_203 yw5_204 cs_X10_date rfl ⟨by decide, by decide⟩ rfl)
    (e_each_cons (r_callV0 X (τ := sg_X10_moment) (index := 164) (ci := 9) dL_place_208 (by decide) rfl yw5_237 yw5_238 yw5_239 cs_X10_moment rfl ⟨by decide, by decide⟩ rfl)
    (e_each_cons (r_icmp_ne X (off := 7) (t := 218) dL_place_211 (by decide) rfl)
    (e_each_cons (r_iconst X (n := 1) (v := 1) dL_place_214 (by decide) rfl)
    (e_each_cons (r_goto X (off := 4) (t := 219) dL_place_215 (by decide))
    (e_each_cons (r_iconst X (n := 0) (v := 0) dL_place_218 (by decide) rfl)
    (e_each_cons (r_istore X (i := 4) dL_place_219 (by decide) rfl)
    (e_each_cons (r_iload X (i := 4) dL_place_221 rfl)
    (e_each_cons (r_if_eq X (off := 77) (t := 300) dL_place_223 (by decide) rfl)
    (e_each_cons (r_aload_n X (k := 0) (i := 0) rfl dL_place_226 rfl)
    (e_each_cons (r_iload_n X (k := 1) (i := 1) rfl dL_place_227 rfl)
    (e_each_cons (r_iload X (i := 5) dL_place_228 rfl)
    (e_each_cons (r_iconst X (n := 4) (v := 4) dL_place_230 (by decide) rfl)
    (e_each_cons (r_callV0 X (τ := sg_X10_event) (index := 145) (ci := 9) dL_place_231 (by decide) rfl yw5_191 yw5_192 yw5_193 cs_X10_event rfl ⟨by decide, by decide⟩ rfl)
    (e_each_cons (r_iconst X (n := 2) (v := 2) dL_place_234 (by decide) rfl)
    (e_each_cons (r_icmp_ne X (off := 26) (t := 261) dL_place_235 (by decide) rfl)
    (e_each_cons (r_aload_n X (k := 0) (i := 0) rfl dL_place_238 rfl)
    (e_each_cons (r_iload_n X (k := 1) (i := 1) rfl dL_place_239 rfl)
    (e_each_cons (r_iload X (i := 5) dL_place_240 rfl)
    (e_each_cons (r_bipush X (n := 6) (v := 6) dL_place_242 (by decide) rfl)
    (e_each_cons (r_callV0 X (τ := sg_X10_event) (index := 145) (ci := 9) dL_place_244 (by decide) rfl yw5_191 yw5_192 yw5_193 cs_X10_event rfl ⟨by decide, by decide⟩ rfl)
    (e_each_cons (r_aload_n X (k := 0) (i := 0) rfl dL_place_247 rfl)
    (e_each_cons (r_iload X (i := 9) dL_place_248 rfl)
    (e_each_cons (r_iconst X (n := 2) (v := 2) dL_place_250 (by decide) rfl)
    (e_each_cons (r_callV0 X (τ := sg_X10_day) (index := 167) (ci := 9) dL_place_251 (by decide) rfl yw6_9 yw6_10 yw6_11 cs_X10_day rfl ⟨by decide, by decide⟩ rfl)
    (e_each_cons (r_ishr X dL_place_254 rfl)
    (e_each_cons (r_iconst X (n := 1) (v := 1) dL_place_255 (by decide) rfl)
    (e_each_cons (r_iand X dL_place_256 rfl)
    (e_each_cons (r_iconst X (n := 1) (v := 1) dL_place_257 (by decide) rfl)
    (e_each_cons (r_icmp_ne X (off := 42) (t := 300) dL_place_258 (by decide) rfl)
    (e_each_cons (r_aload_n X (k := 0) (i := 0) rfl dL_place_261 rfl)
    (e_each_cons (r_iload_n X (k := 1) (i := 1) rfl dL_place_262 rfl)
    (e_each_cons (r_iload X (i := 5) dL_place_263 rfl)
    (e_each_cons (r_iconst X (n := 4) (v := 4) dL_place_265 (by decide) rfl)
    (e_each_cons (r_callV0 X (τ := sg_X10_event) (index := 145) (ci := 9) dL_place_266 (by decide) rfl yw5_191 yw5_192 yw5_193 cs_X10_event rfl ⟨by decide, by decide⟩ rfl)
    (e_each_cons (r_iconst X (n := 3) (v := 3) dL_place_269 (by decide) rfl)
    (e_each_cons (r_icmp_ne X (off := 26) (t := 296) dL_place_270 (by decide) rfl)
    (e_each_cons (r_aload_n X (k := 0) (i := 0) rfl dL_place_273 rfl)
    (e_each_cons (r_iload X (i := 9) dL_place_274 rfl)
    (e_each_cons (r_iconst X (n := 1) (v := 1) dL_place_276 (by decide) rfl)
    (e_each_cons (r_callV0 X (τ := sg_X10_day) (index := 167) (ci := 9) dL_place_277 (by decide) rfl yw6_9 yw6_10 yw6_11 cs_X10_day rfl ⟨by decide, by decide⟩ rfl)
    (e_each_cons (r_aload_n X (k := 0) (i := 0) rfl dL_place_280 rfl)
    (e_each_cons (r_aload_n X (k := 0) (i := 0) rfl dL_place_281 rfl)
    (e_each_cons (r_iload_n X (k := 1) (i := 1) rfl dL_place_282 rfl)
    (e_each_cons (r_iload X (i := 5) dL_place_283 rfl)
    (e_each_cons (r_iconst X (n := 0) (v := 0) dL_place_285 (by decide) rfl)
    (e_each_cons (r_callV0 X (τ := sg_X10_event) (index := 145) (ci := 9) dL_place_286 (by decide) rfl yw5_191 yw5_192 yw5_193 cs_X10_event rfl ⟨by decide, by decide⟩ rfl)
    (e_each_cons (r_iconst X (n := 1) (v := 1) dL_place_289 (by decide) rfl)
    (e_each_cons (r_callV0 X (τ := sg_X10_day) (index := 167) (ci := 9) dL_place_290 (by decide) rfl yw6_9 yw6_10 yw6_11 cs_X10_day rfl ⟨by decide, by decide⟩ rfl)
    (e_each_cons (r_icmp_ne X (off := 7) (t := 300) dL_place_293 (by decide) rfl)
    (e_each_cons (r_iconst X (n := 1) (v := 1) dL_place_296 (by decide) rfl)
    (e_each_cons (r_goto X (off := 4) (t := 301) dL_place_297 (by decide))
    (e_each_cons (r_iconst X (n := 0) (v := 0) dL_place_300 (by decide) rfl)
    (e_each_cons (r_istore X (i := 4) dL_place_301 (by decide) rfl)
    (e_each_cons (r_aload_n X (k := 0) (i := 0) rfl dL_place_303 rfl)
    (e_each_cons (r_iload_n X (k := 1) (i := 1) rfl dL_place_304 rfl)
    (e_each_cons (r_iload X (i := 5) dL_place_305 rfl)
    (e_each_cons (r_bipush X (n := 11) (v := 11) dL_place_307 (by decide) rfl)
    (e_each_cons (r_callV0 X (τ := sg_X10_event) (index := 145) (ci := 9) dL_place_309 (by decide) rfl yw5_191 yw5_192 yw5_193 cs_X10_event rfl ⟨by decide, by decide⟩ rfl)
    (e_each_cons (r_iload X (i := 8) dL_place_312 rfl)
    (e_each_cons (r_ishr X dL_place_314 rfl)
    (e_each_cons (r_iconst X (n := 1) (v := 1) dL_place_315 (by decide) rfl)
    (e_each_cons (r_iand X dL_place_316 rfl)
    (e_each_cons (r_iconst X (n := 1) (v := 1) dL_place_317 (by decide) rfl)
    (e_each_cons (r_icmp_ne X (off := 7) (t := 325) dL_place_318 (by decide) rfl)
    (e_each_cons (r_iconst X (n := 1) (v := 1) dL_place_321 (by decide) rfl)
    (e_each_cons (r_goto X (off := 4) (t := 326) dL_place_322 (by decide))
    (e_each_cons (r_iconst X (n := 0) (v := 0) dL_place_325 (by decide) rfl)
    (e_each_cons (r_istore X (i := 10) dL_place_326 (by decide) rfl)
    (e_each_cons (r_iload X (i := 4) dL_place_328 rfl)
    (e_each_cons (r_if_eq X (off := 77) (t := 407) dL_place_330 (by decide) rfl)
    (e_each_cons (r_iload X (i := 10) dL_place_333 rfl)
    (e_each_cons (r_if_ne X (off := 39) (t := 374) dL_place_335 (by decide) rfl)
    (e_each_cons (r_aload_n X (k := 0) (i := 0) rfl dL_place_338 rfl)
    (e_each_cons (r_iload_n X (k := 1) (i := 1) rfl dL_place_339 rfl)
    (e_each_cons (r_iload X (i := 5) dL_place_340 rfl)
    (e_each_cons (r_iload X (i := 8) dL_place_342 rfl)
    (e_each_cons (r_iconst X (n := 0) (v := 0) dL_place_344 (by decide) rfl)
    (e_each_cons (r_callV0 X (τ := sg_X10_date) (index := 148) (ci := 9) dL_place_345 (by decide) rfl yw5_202 yw5_203 yw5_204 cs_X10_date rfl ⟨by decide, by decide⟩ rfl)
    (e_each_cons (r_iload X (i := 9) dL_place_348 rfl)
    (e_each_cons (r_icmp_ne X (off := 57) (t := 407) dL_place_350 (by decide) rfl)
    (e_each_cons (r_aload_n X (k := 0) (i := 0) rfl dL_place_353 rfl)
    (e_each_cons (r_iload_n X (k := 1) (i := 1) rfl dL_place_354 rfl)
    (e_each_cons (r_iload X (i := 5) dL_place_355 rfl)
    (e_each_cons (r_iload X (i := 8) dL_place_357 rfl)
    (e_each_cons (r_iconst X (n := 1) (v := 1) dL_place_359 (by decide) rfl)
    (e_each_cons (r_callV0 X (τ := sg_X10_date) (index := 148) (ci := 9) dL_place_360 (by decide) rfl yw5_202 yw5_203 yw5_204 cs_X10_date rfl ⟨by decide, by decide⟩ rfl)
    (e_each_cons (r_aload_n X (k := 0) (i := 0) rfl dL_place_363 rfl)
    (e_each_cons (r_iload_n X (k := 1) (i := 1) rfl dL_place_364 rfl)
    (e_each_cons (r_iload X (i := 5) dL_place_365 rfl)
    (e_each_cons (r_iconst X (n := 1) (v := 1) dL_place_367 (by decide) rfl)
    (e_each_cons (r_callV0 X (τ := sg_X10_event) (index := 145) (ci := 9) dL_place_368 (by decide) rfl yw5_191 yw5_192 yw5_193 cs_X10_event rfl ⟨by decide, by decide⟩ rfl)
    (e_each_cons (r_icmp_ne X (off := 36) (t := 407) dL_place_371 (by decide) rfl)
    (e_each_cons (r_aload_n X (k := 0) (i := 0) rfl dL_place_374 rfl)
    (e_each_cons (r_iload_n X (k := 1) (i := 1) rfl dL_place_375 rfl)
    (e_each_cons (r_iload X (i := 5) dL_place_376 rfl)
    (e_each_cons (r_iload X (i := 8) dL_place_378 rfl)
    (e_each_cons (r_iconst X (n := 3) (v := 3) dL_place_380 (by decide) rfl)
    (e_each_cons (r_callV0 X (τ := sg_X10_date) (index := 148) (ci := 9) dL_place_381 (by decide) rfl yw5_202 yw5_203 yw5_204 cs_X10_date rfl ⟨by decide, by decide⟩ rfl)
    (e_each_cons (r_iconst X (n := 1) (v := 1) dL_place_384 (by decide) rfl)
    (e_each_cons (r_aload_n X (k := 0) (i := 0) rfl dL_place_385 rfl)
    (e_each_cons (r_iload_n X (k := 1) (i := 1) rfl dL_place_386 rfl)
    (e_each_cons (r_iload X (i := 5) dL_place_387 rfl)
    (e_each_cons (r_bipush X (n := 10) (v := 10) dL_place_389 (by decide) rfl)
    (e_each_cons (r_callV0 X (τ := sg_X10_event) (index := 145) (ci := 9) dL_place_391 (by decide) rfl yw5_191 yw5_192 yw5_193 cs_X10_event rfl ⟨by decide, by decide⟩ rfl)
    (e_each_cons (r_iload X (i := 8) dL_place_394 rfl)
    (e_each_cons (r_ishr X dL_place_396 rfl)
    (e_each_cons (r_iconst X (n := 1) (v := 1) dL_place_397 (by decide) rfl)
    (e_each_cons (r_iand X dL_place_398 rfl)
    (e_each_cons (r_isub X dL_place_399 rfl)
    (e_each_cons (r_icmp_ne X (off := 7) (t := 407) dL_place_400 (by decide) rfl)
    (e_each_cons (r_iconst X (n := 1) (v := 1) dL_place_403 (by decide) rfl)
    (e_each_cons (r_goto X (off := 4) (t := 408) dL_place_404 (by decide))
    (e_each_cons (r_iconst X (n := 0) (v := 0) dL_place_407 (by decide) rfl)
    (e_each_cons (r_istore X (i := 4) dL_place_408 (by decide) rfl)
    (e_each_cons (r_iload_n X (k := 3) (i := 3) rfl dL_place_410 rfl)
    (e_each_cons (r_aload_n X (k := 0) (i := 0) rfl dL_place_411 rfl)
    (e_each_cons (r_iload_n X (k := 1) (i := 1) rfl dL_place_412 rfl)
    (e_each_cons (r_iload X (i := 5) dL_place_413 rfl)
    (e_each_cons (r_iload X (i := 8) dL_place_415 rfl)
    (e_each_cons (r_iconst X (n := 3) (v := 3) dL_place_417 (by decide) rfl)
    (e_each_cons (r_callV0 X (τ := sg_X10_date) (index := 148) (ci := 9) dL_place_418 (by decide) rfl yw5_202 yw5_203 yw5_204 cs_X10_date rfl ⟨by decide, by decide⟩ rfl)
    (e_each_cons (r_iadd X dL_place_421 rfl)
    (e_each_cons (r_istore_n X (k := 3) (i := 3) rfl dL_place_422 (by decide) rfl)
    (e_each_cons (r_iinc X (i := 8) (n := 1) (d := 1) dL_place_423 (by decide) (by decide) rfl)
    (e_each_cons (r_goto X (off := (-319)) (t := 107) dL_place_426 (by decide))
    (e_each_cons (r_iinc X (i := 5) (n := 1) (d := 1) dL_place_429 (by decide) (by decide) rfl)
    (e_each_cons (r_goto X (off := (-424)) (t := 8) dL_place_432 (by decide))
    (e_each_cons (r_iload X (i := 4) dL_place_435 rfl)
    (e_each_cons (r_if_eq X (off := 20) (t := 457) dL_place_437 (by decide) rfl)
    (e_each_cons (r_aload_n X (k := 0) (i := 0) rfl dL_place_440 rfl)
    (e_each_cons (r_iload_n X (k := 1) (i := 1) rfl dL_place_441 rfl)
    (e_each_cons (r_ldc X (n := 125) (v := (-2147483648)) dL_place_442 yw6_17 rfl)
    (e_each_cons (r_ldc X (n := 170) (v := 2147483647) dL_place_444 yw6_18 rfl)
    (e_each_cons (r_callV0 X (τ := sg_X10_agenda) (index := 171) (ci := 9) dL_place_446 (by decide) rfl yw6_19 yw6_20 yw6_21 cs_X10_agenda rfl ⟨by decide, by decide⟩ rfl)
    (e_each_cons (r_iload_n X (k := 3) (i := 3) rfl dL_place_449 rfl)
    (e_each_cons (r_icmp_ne X (off := 7) (t := 457) dL_place_450 (by decide) rfl)
    (e_each_cons (r_iconst X (n := 1) (v := 1) dL_place_453 (by decide) rfl)
    (e_each_cons (r_goto X (off := 4) (t := 458) dL_place_454 (by decide))
    (e_each_cons (r_iconst X (n := 0) (v := 0) dL_place_457 (by decide) rfl)
    (e_each_cons (r_istore X (i := 4) dL_place_458 (by decide) rfl)
    (e_each_cons (r_aload_n X (k := 2) (i := 2) rfl dL_place_460 rfl)
    (e_each_cons (r_callS0 X (τ := sg_L_next) (index := 50) dL_place_461 yw3_100 yw3_101 cs_L_next rfl ⟨by decide, by decide⟩ rfl)
    (e_each_cons (r_ldc X (n := 174) (v := 200000) dL_place_464 yw6_43 rfl)
    (e_each_cons (r_irem X dL_place_466 rfl)
    (e_each_cons (r_sipush X (n := 1000) (v := 1000) dL_place_467 (by decide) rfl)
    (e_each_cons (r_isub X dL_place_470 rfl)
    (e_each_cons (r_istore X (i := 5) dL_place_471 (by decide) rfl)
    (e_each_cons (r_aload_n X (k := 0) (i := 0) rfl dL_place_473 rfl)
    (e_each_cons (r_iload_n X (k := 1) (i := 1) rfl dL_place_474 rfl)
    (e_each_cons (r_iload X (i := 5) dL_place_475 rfl)
    (e_each_cons (r_ldc X (n := 170) (v := 2147483647) dL_place_477 yw6_18 rfl)
    (e_each_cons (r_callV0 X (τ := sg_X10_agenda) (index := 171) (ci := 9) dL_place_479 (by decide) rfl yw6_19 yw6_20 yw6_21 cs_X10_agenda rfl ⟨by decide, by decide⟩ rfl)
    (e_each_cons (r_istore X (i := 6) dL_place_482 (by decide) rfl)
    (e_each_cons (r_iconst X (n := 0) (v := 0) dL_place_484 (by decide) rfl)
    (e_each_cons (r_istore X (i := 7) dL_place_485 (by decide) rfl)
    (e_each_cons (r_iload X (i := 7) dL_place_487 rfl)
    (e_each_cons (r_iload X (i := 6) dL_place_489 rfl)
    (e_each_cons (r_icmp_ge X (off := 181) (t := 672) dL_place_491 (by decide) rfl)
    (e_each_cons (r_iload X (i := 4) dL_place_494 rfl)
    (e_each_cons (r_if_eq X (off := 176) (t := 672) dL_place_496 (by decide) rfl)
    (e_each_cons (r_aload_n X (k := 0) (i := 0) rfl dL_place_499 rfl)
    (e_each_cons (r_iload_n X (k := 1) (i := 1) rfl dL_place_500 rfl)
    (e_each_cons (r_iload X (i := 5) dL_place_501 rfl)
    (e_each_cons (r_iload X (i := 7) dL_place_503 rfl)
    (e_each_cons (r_iconst X (n := 0) (v := 0) dL_place_505 (by decide) rfl)
    (e_each_cons (r_callV0 X (τ := sg_X10_agendaAt) (index := 175) (ci := 9) dL_place_506 (by decide) rfl yw6_44 yw6_45 yw6_46 cs_X10_agendaAt rfl ⟨by decide, by decide⟩ rfl)
    (e_each_cons (r_istore X (i := 8) dL_place_509 (by decide) rfl)
    (e_each_cons (r_aload_n X (k := 0) (i := 0) rfl dL_place_511 rfl)
    (e_each_cons (r_iload_n X (k := 1) (i := 1) rfl dL_place_512 rfl)
    (e_each_cons (r_iload X (i := 5) dL_place_513 rfl)
    (e_each_cons (r_iload X (i := 7) dL_place_515 rfl)
    (e_each_cons (r_iconst X (n := 1) (v := 1) dL_place_517 (by decide) rfl)
    (e_each_cons (r_callV0 X (τ := sg_X10_agendaAt) (index := 175) (ci := 9) dL_place_518 (by decide) rfl yw6_44 yw6_45 yw6_46 cs_X10_agendaAt rfl ⟨by decide, by decide⟩ rfl)
    (e_each_cons (r_istore X (i := 9) dL_place_521 (by decide) rfl)
    (e_each_cons (r_aload_n X (k := 0) (i := 0) rfl dL_place_523 rfl)
    (e_each_cons (r_iload_n X (k := 1) (i := 1) rfl dL_place_524 rfl)
    (e_each_cons (r_iload X (i := 5) dL_place_525 rfl)
    (e_each_cons (r_iload X (i := 7) dL_place_527 rfl)
    (e_each_cons (r_iconst X (n := 2) (v := 2) dL_place_529 (by decide) rfl)
    (e_each_cons (r_callV0 X (τ := sg_X10_agendaAt) (index := 175) (ci := 9) dL_place_530 (by decide) rfl yw6_44 yw6_45 yw6_46 cs_X10_agendaAt rfl ⟨by decide, by decide⟩ rfl)
    (e_each_cons (r_istore X (i := 10) dL_place_533 (by decide) rfl)
    (e_each_cons (r_iload X (i := 10) dL_place_535 rfl)
    (e_each_cons (r_iload X (i := 5) dL_place_537 rfl)
    (e_each_cons (r_icmp_lt X (off := 36) (t := 575) dL_place_539 (by decide) rfl)
    (e_each_cons (r_aload_n X (k := 0) (i := 0) rfl dL_place_542 rfl)
    (e_each_cons (r_iload_n X (k := 1) (i := 1) rfl dL_place_543 rfl)
    (e_each_cons (r_iload X (i := 8) dL_place_544 rfl)
    (e_each_cons (r_iload X (i := 9) dL_place_546 rfl)
    (e_each_cons (r_iconst X (n := 2) (v := 2) dL_place_548 (by decide) rfl)
    (e_each_cons (r_callV0 X (τ := sg_X10_date) (index := 148) (ci := 9) dL_place_549 (by decide) rfl yw5_202 yw5_203 yw5_204 cs_X10_date rfl ⟨by decide, by decide⟩ rfl)
    (e_each_cons (r_iload X (i := 10) dL_place_552 rfl)
    (e_each_cons (r_icmp_ne X (off := 21) (t := 575) dL_place_554 (by decide) rfl)
    (e_each_cons (r_aload_n X (k := 0) (i := 0) rfl dL_place_557 rfl)
    (e_each_cons (r_iload_n X (k := 1) (i := 1) rfl dL_place_558 rfl)
    (e_each_cons (r_iload X (i := 8) dL_place_559 rfl)
    (e_each_cons (r_iload X (i := 9) dL_place_561 rfl)
    (e_each_cons (r_iconst X (n := 3) (v := 3) dL_place_563 (by decide) rfl)
    (e_each_cons (r_callV0 X (τ := sg_X10_date) (index := 148) (ci := 9) dL_place_564 (by decide) rfl yw5_202 yw5_203 yw5_204 cs_X10_date rfl ⟨by decide, by decide⟩ rfl)
    (e_each_cons (r_iconst X (n := 1) (v := 1) dL_place_567 (by decide) rfl)
    (e_each_cons (r_icmp_ne X (off := 7) (t := 575) dL_place_568 (by decide) rfl)
    (e_each_cons (r_iconst X (n := 1) (v := 1) dL_place_571 (by decide) rfl)
    (e_each_cons (r_goto X (off := 4) (t := 576) dL_place_572 (by decide))
    (e_each_cons (r_iconst X (n := 0) (v := 0) dL_place_575 (by decide) rfl)
    (e_each_cons (r_istore X (i := 4) dL_place_576 (by decide) rfl)
    (e_each_cons (r_iload X (i := 4) dL_place_578 rfl)
    (e_each_cons (r_if_eq X (off := 86) (t := 666) dL_place_580 (by decide) rfl)
    (e_each_cons (r_iload X (i := 7) dL_place_583 rfl)
    (e_each_cons (r_if_le X (off := 81) (t := 666) dL_place_585 (by decide) rfl)
    (e_each_cons (r_aload_n X (k := 0) (i := 0) rfl dL_place_588 rfl)
    (e_each_cons (r_iload_n X (k := 1) (i := 1) rfl dL_place_589 rfl)
    (e_each_cons (r_iload X (i := 5) dL_place_590 rfl)
    (e_each_cons (r_iload X (i := 7) dL_place_592 rfl)
    (e_each_cons (r_iconst X (n := 1) (v := 1) dL_place_594 (by decide) rfl)
    (e_each_cons (r_isub X dL_place_595 rfl)
    (e_each_cons (r_iconst X (n := 2) (v := 2) dL_place_596 (by decide) rfl)
    (e_each_cons (r_callV0 X (τ := sg_X10_agendaAt) (index := 175) (ci := 9) dL_place_597 (by decide) rfl yw6_44 yw6_45 yw6_46 cs_X10_agendaAt rfl ⟨by decide, by decide⟩ rfl)
    (e_each_cons (r_istore X (i := 11) dL_place_600 (by decide) rfl)
    (e_each_cons (r_bipush X (n := 100) (v := 100) dL_place_602 (by decide) rfl)
    (e_each_cons (r_aload_n X (k := 0) (i := 0) rfl dL_place_604 rfl)
    (e_each_cons (r_iload_n X (k := 1) (i := 1) rfl dL_place_605 rfl)
    (e_each_cons (r_iload X (i := 5) dL_place_606 rfl)
    (e_each_cons (r_iload X (i := 7) dL_place_608 rfl)
    (e_each_cons (r_iconst X (n := 1) (v := 1) dL_place_610 (by decide) rfl)
    (e_each_cons (r_isub X dL_place_611 rfl)
    (e_each_cons (r_iconst X (n := 0) (v := 0) dL_place_612 (by decide) rfl)
    (e_each_cons (r_callV0 X (τ := sg_X10_agendaAt) (index := 175) (ci := 9) dL_place_613 (by decide) rfl yw6_44 yw6_45 yw6_46 cs_X10_agendaAt rfl ⟨by decide, by decide⟩ rfl)
    (e_each_cons (r_imul X dL_place_616 rfl)
    (e_each_cons (r_aload_n X (k := 0) (i := 0) rfl dL_place_617 rfl)
    (e_each_cons (r_iload_n X (k := 1) (i := 1) rfl dL_place_618 rfl)
    (e_each_cons (r_iload X (i := 5) dL_place_619 rfl)
    (e_each_cons (r_iload X (i := 7) dL_place_621 rfl)
    (e_each_cons (r_iconst X (n := 1) (v := 1) dL_place_623 (by decide) rfl)
    (e_each_cons (r_isub X dL_place_624 rfl)
    (e_each_cons (r_iconst X (n := 1) (v := 1) dL_place_625 (by decide) rfl)
    (e_each_cons (r_callV0 X (τ := sg_X10_agendaAt) (index := 175) (ci := 9) dL_place_626 (by decide) rfl yw6_44 yw6_45 yw6_46 cs_X10_agendaAt rfl ⟨by decide, by decide⟩ rfl)
    (e_each_cons (r_iadd X dL_place_629 rfl)
    (e_each_cons (r_istore X (i := 12) dL_place_630 (by decide) rfl)
    (e_each_cons (r_iload X (i := 11) dL_place_632 rfl)
    (e_each_cons (r_iload X (i := 10) dL_place_634 rfl)
    (e_each_cons (r_icmp_lt X (off := 23) (t := 659) dL_place_636 (by decide) rfl)
    (e_each_cons (r_iload X (i := 11) dL_place_639 rfl)
    (e_each_cons (r_iload X (i := 10) dL_place_641 rfl)
    (e_each_cons (r_icmp_ne X (off := 20) (t := 663) dL_place_643 (by decide) rfl)
    (e_each_cons (r_iload X (i := 12) dL_place_646 rfl)
    (e_each_cons (r_bipush X (n := 100) (v := 100) dL_place_648 (by decide) rfl)
    (e_each_cons (r_iload X (i := 8) dL_place_650 rfl)
    (e_each_cons (r_imul X dL_place_652 rfl)
    (e_each_cons (r_iload X (i := 9) dL_place_653 rfl)
    (e_each_cons (r_iadd X dL_place_655 rfl)
    (e_each_cons (r_icmp_ge X (off := 7) (t := 663) dL_place_656 (by decide) rfl)
    (e_each_cons (r_iconst X (n := 1) (v := 1) dL_place_659 (by decide) rfl)
    (e_each_cons (r_goto X (off := 4) (t := 664) dL_place_660 (by decide))
    (e_each_cons (r_iconst X (n := 0) (v := 0) dL_place_663 (by decide) rfl)
    (e_each_cons (r_istore X (i := 4) dL_place_664 (by decide) rfl)
    (e_each_cons (r_iinc X (i := 7) (n := 1) (d := 1) dL_place_666 (by decide) (by decide) rfl)
    (e_each_cons (r_goto X (off := (-182)) (t := 487) dL_place_669 (by decide))
    (e_each_cons (r_aload_n X (k := 0) (i := 0) rfl dL_place_672 rfl)
    (e_each_cons (r_iload_n X (k := 1) (i := 1) rfl dL_place_673 rfl)
    (e_each_cons (r_iload X (i := 5) dL_place_674 rfl)
    (e_each_cons (r_iload X (i := 5) dL_place_676 rfl)
    (e_each_cons (r_iconst X (n := 1) (v := 1) dL_place_678 (by decide) rfl)
    (e_each_cons (r_iadd X dL_place_679 rfl)
    (e_each_cons (r_aload_n X (k := 2) (i := 2) rfl dL_place_680 rfl)
    (e_each_cons (r_callS0 X (τ := sg_L_next) (index := 50) dL_place_681 yw3_100 yw3_101 cs_L_next rfl ⟨by decide, by decide⟩ rfl)
    (e_each_cons (r_sipush X (n := 3000) (v := 3000) dL_place_684 (by decide) rfl)
    (e_each_cons (r_irem X dL_place_687 rfl)
    (e_each_cons (r_iadd X dL_place_688 rfl)
    (e_each_cons (r_callV0 X (τ := sg_X10_busy) (index := 178) (ci := 9) dL_place_689 (by decide) rfl yw6_57 yw6_58 yw6_59 cs_X10_busy rfl ⟨by decide, by decide⟩ rfl)
    (e_each_cons (r_fstore X (i := 7) dL_place_692 (by decide) rfl)
    (e_each_cons (r_iload X (i := 4) dL_place_694 rfl)
    (e_each_cons (r_if_eq X (off := 36) (t := 732) dL_place_696 (by decide) rfl)
    (e_each_cons (r_fload X (i := 7) dL_place_699 rfl)
    (e_each_cons (r_fconst0 X dL_place_701 rfl)
    (e_each_cons (r_fcmpl X dL_place_702 rfl)
    (e_each_cons (r_if_lt X (off := 29) (t := 732) dL_place_703 (by decide) rfl)
    (e_each_cons (r_fload X (i := 7) dL_place_706 rfl)
    (e_each_cons (r_fconst1 X dL_place_708 rfl)
    (e_each_cons (r_fcmpg X dL_place_709 rfl)
    (e_each_cons (r_if_gt X (off := 22) (t := 732) dL_place_710 (by decide) rfl)
    (e_each_cons (r_aload_n X (k := 0) (i := 0) rfl dL_place_713 rfl)
    (e_each_cons (r_iload_n X (k := 1) (i := 1) rfl dL_place_714 rfl)
    (e_each_cons (r_callV0 X (τ := sg_X10_clashes) (index := 182) (ci := 9) dL_place_715 (by decide) rfl yw6_77 yw6_78 yw6_79 cs_X10_clashes rfl ⟨by decide, by decide⟩ rfl)
    (e_each_cons (r_iload_n X (k := 3) (i := 3) rfl dL_place_718 rfl)
    (e_each_cons (r_iload_n X (k := 3) (i := 3) rfl dL_place_719 rfl)
    (e_each_cons (r_iconst X (n := 1) (v := 1) dL_place_720 (by decide) rfl)
    (e_each_cons (r_isub X dL_place_721 rfl)
    (e_each_cons (r_imul X dL_place_722 rfl)
    (e_each_cons (r_iconst X (n := 2) (v := 2) dL_place_723 (by decide) rfl)
    (e_each_cons (r_idiv X dL_place_724 rfl)
    (e_each_cons (r_icmp_gt X (off := 7) (t := 732) dL_place_725 (by decide) rfl)
    (e_each_cons (r_iconst X (n := 1) (v := 1) dL_place_728 (by decide) rfl)
    (e_each_cons (r_goto X (off := 4) (t := 733) dL_place_729 (by decide))
    (e_each_cons (r_iconst X (n := 0) (v := 0) dL_place_732 (by decide) rfl)
    (e_each_cons (r_iretz X dL_place_733 rfl)
    (e_each_nil)))))))))))))))))))))))))))))))))))))))))))))))))))))))))))))))))))))))))))))))))))))))))))))))))))))))))))))))))))))))))))))))))))))))))))))))))))))))))))))))))))))))))))))))))))))))))))))))))))))))))))))))))))))))))))))))))))))))))))))))))))))))))))))))))))))))))))))))))))))))))))))))))))))))))))))))))))))))))))))))))))))))))))))))))))))))))))))))))))))))))))))))))))))))))))))))))))))))))))))))))))))))))
def sg_L_exchanges : SG := (yL_exchanges, cL_exchanges, 10, (some .boolean), 9, 168, 41, 246, 2, false, [])
theorem cs_L_exchanges : e_cs sg_L_exchanges := ⟨yw6_87, yw1_0, ⟨by decide, by decide⟩, by decide +kernel, rfl⟩
theorem mt_L_exchanges : e_mtF sg_L_exchanges "CalendarSyncLaw" := ⟨rfl, by decide +kernel, rfl⟩
theorem dL_exchanges_0 : decode cL_exchanges 0 = .ok (.aload_n 0, 1) := by decide +kernel
theorem dL_exchanges_1 : decode cL_exchanges 1 = .ok (.iload_n 1, 1) := by decide +kernel
theorem dL_exchanges_2 : decode cL_exchanges 2 = .ok (.iconst 1, 1) := by decide +kernel
theorem dL_exchanges_3 : decode cL_exchanges 3 = .ok (.invokevirtual 156, 3) := by decide +kernel
theorem dL_exchanges_6 : decode cL_exchanges 6 = .ok (.invokestatic 221, 3) := by decide +kernel
theorem dL_exchanges_9 : decode cL_exchanges 9 = .ok (.istore_n 2, 1) := by decide +kernel
theorem dL_exchanges_10 : decode cL_exchanges 10 = .ok (.aload_n 0, 1) := by decide +kernel
theorem dL_exchanges_11 : decode cL_exchanges 11 = .ok (.iload_n 1, 1) := by decide +kernel
theorem dL_exchanges_12 : decode cL_exchanges 12 = .ok (.iconst 0, 1) := by decide +kernel
theorem dL_exchanges_13 : decode cL_exchanges 13 = .ok (.invokevirtual 161, 3) := by decide +kernel
theorem dL_exchanges_16 : decode cL_exchanges 16 = .ok (.aload_n 0, 1) := by decide +kernel
theorem dL_exchanges_17 : decode cL_exchanges 17 = .ok (.iload_n 1, 1) := by decide +kernel
theorem dL_exchanges_18 : decode cL_exchanges 18 = .ok (.iconst 1, 1) := by decide +kernel
theorem dL_exchanges_19 : decode cL_exchanges 19 = .ok (.invokevirtual 161, 3) := by decide +kernel
theorem dL_exchanges_22 : decode cL_exchanges 22 = .ok (.iadd, 1) := by decide +kernel
theorem dL_exchanges_23 : decode cL_exchanges 23 = .ok (.aload_n 0, 1) := by decide +kernel
theorem dL_exchanges_24 : decode cL_exchanges 24 = .ok (.iload_n 1, 1) := by decide +kernel
theorem dL_exchanges_25 : decode cL_exchanges 25 = .ok (.iconst 2, 1) := by decide +kernel
theorem dL_exchanges_26 : decode cL_exchanges 26 = .ok (.invokevirtual 161, 3) := by decide +kernel
theorem dL_exchanges_29 : decode cL_exchanges 29 = .ok (.iadd, 1) := by decide +kernel
theorem dL_exchanges_30 : decode cL_exchanges 30 = .ok (.istore_n 3, 1) := by decide +kernel
theorem dL_exchanges_31 : decode cL_exchanges 31 = .ok (.aload_n 0, 1) := by decide +kernel
theorem dL_exchanges_32 : decode cL_exchanges 32 = .ok (.iload_n 1, 1) := by decide +kernel
theorem dL_exchanges_33 : decode cL_exchanges 33 = .ok (.invokevirtual 224, 3) := by decide +kernel
theorem dL_exchanges_36 : decode cL_exchanges 36 = .ok (.istore 4, 2) := by decide +kernel
theorem dL_exchanges_38 : decode cL_exchanges 38 = .ok (.aload_n 0, 1) := by decide +kernel
theorem dL_exchanges_39 : decode cL_exchanges 39 = .ok (.iload_n 1, 1) := by decide +kernel
theorem dL_exchanges_40 : decode cL_exchanges 40 = .ok (.iconst 1, 1) := by decide +kernel
theorem dL_exchanges_41 : decode cL_exchanges 41 = .ok (.invokevirtual 156, 3) := by decide +kernel
theorem dL_exchanges_44 : decode cL_exchanges 44 = .ok (.ifCond .ne 48, 3) := by decide +kernel
theorem dL_exchanges_47 : decode cL_exchanges 47 = .ok (.aload_n 0, 1) := by decide +kernel
theorem dL_exchanges_48 : decode cL_exchanges 48 = .ok (.iload_n 1, 1) := by decide +kernel
theorem dL_exchanges_49 : decode cL_exchanges 49 = .ok (.iconst 2, 1) := by decide +kernel
theorem dL_exchanges_50 : decode cL_exchanges 50 = .ok (.invokevirtual 156, 3) := by decide +kernel
theorem dL_exchanges_53 : decode cL_exchanges 53 = .ok (.ifCond .ne 39, 3) := by decide +kernel
theorem dL_exchanges_56 : decode cL_exchanges 56 = .ok (.iload 4, 2) := by decide +kernel
theorem dL_exchanges_58 : decode cL_exchanges 58 = .ok (.iload_n 2, 1) := by decide +kernel
theorem dL_exchanges_59 : decode cL_exchanges 59 = .ok (.if_icmp .gt 33, 3) := by decide +kernel
theorem dL_exchanges_62 : decode cL_exchanges 62 = .ok (.aload_n 0, 1) := by decide +kernel
theorem dL_exchanges_63 : decode cL_exchanges 63 = .ok (.iload_n 1, 1) := by decide +kernel
theorem dL_exchanges_64 : decode cL_exchanges 64 = .ok (.iconst 0, 1) := by decide +kernel
theorem dL_exchanges_65 : decode cL_exchanges 65 = .ok (.invokevirtual 161, 3) := by decide +kernel
theorem dL_exchanges_68 : decode cL_exchanges 68 = .ok (.aload_n 0, 1) := by decide +kernel
theorem dL_exchanges_69 : decode cL_exchanges 69 = .ok (.iload_n 1, 1) := by decide +kernel
theorem dL_exchanges_70 : decode cL_exchanges 70 = .ok (.iconst 1, 1) := by decide +kernel
theorem dL_exchanges_71 : decode cL_exchanges 71 = .ok (.invokevirtual 161, 3) := by decide +kernel
theorem dL_exchanges_74 : decode cL_exchanges 74 = .ok (.iadd, 1) := by decide +kernel
theorem dL_exchanges_75 : decode cL_exchanges 75 = .ok (.aload_n 0, 1) := by decide +kernel
theorem dL_exchanges_76 : decode cL_exchanges 76 = .ok (.iload_n 1, 1) := by decide +kernel
theorem dL_exchanges_77 : decode cL_exchanges 77 = .ok (.iconst 2, 1) := by decide +kernel
theorem dL_exchanges_78 : decode cL_exchanges 78 = .ok (.invokevirtual 161, 3) := by decide +kernel
theorem dL_exchanges_81 : decode cL_exchanges 81 = .ok (.iadd, 1) := by decide +kernel
theorem dL_exchanges_82 : decode cL_exchanges 82 = .ok (.iload_n 3, 1) := by decide +kernel
theorem dL_exchanges_83 : decode cL_exchanges 83 = .ok (.iload_n 2, 1) := by decide +kernel
theorem dL_exchanges_84 : decode cL_exchanges 84 = .ok (.iadd, 1) := by decide +kernel
theorem dL_exchanges_85 : decode cL_exchanges 85 = .ok (.if_icmp .gt 7, 3) := by decide +kernel
theorem dL_exchanges_88 : decode cL_exchanges 88 = .ok (.iconst 1, 1) := by decide +kernel
theorem dL_exchanges_89 : decode cL_exchanges 89 = .ok (.goto 4, 3) := by decide +kernel
theorem dL_exchanges_92 : decode cL_exchanges 92 = .ok (.iconst 0, 1) := by decide +kernel
theorem dL_exchanges_93 : decode cL_exchanges 93 = .ok (.istore 5, 2) := by decide +kernel
theorem dL_exchanges_95 : decode cL_exchanges 95 = .ok (.aload_n 0, 1) := by decide +kernel
theorem dL_exchanges_96 : decode cL_exchanges 96 = .ok (.iload_n 1, 1) := by decide +kernel
theorem dL_exchanges_97 : decode cL_exchanges 97 = .ok (.iconst 4, 1) := by decide +kernel
theorem dL_exchanges_98 : decode cL_exchanges 98 = .ok (.invokevirtual 156, 3) := by decide +kernel
theorem dL_exchanges_101 : decode cL_exchanges 101 = .ok (.istore 6, 2) := by decide +kernel
theorem dL_exchanges_103 : decode cL_exchanges 103 = .ok (.aload_n 0, 1) := by decide +kernel
theorem dL_exchanges_104 : decode cL_exchanges 104 = .ok (.iload_n 1, 1) := by decide +kernel
theorem dL_exchanges_105 : decode cL_exchanges 105 = .ok (.iconst 3, 1) := by decide +kernel
theorem dL_exchanges_106 : decode cL_exchanges 106 = .ok (.invokevirtual 156, 3) := by decide +kernel
theorem dL_exchanges_109 : decode cL_exchanges 109 = .ok (.istore 7, 2) := by decide +kernel
theorem dL_exchanges_111 : decode cL_exchanges 111 = .ok (.aload_n 0, 1) := by decide +kernel
theorem dL_exchanges_112 : decode cL_exchanges 112 = .ok (.iload_n 1, 1) := by decide +kernel
theorem dL_exchanges_113 : decode cL_exchanges 113 = .ok (.iconst 3, 1) := by decide +kernel
theorem dL_exchanges_114 : decode cL_exchanges 114 = .ok (.invokevirtual 161, 3) := by decide +kernel
theorem dL_exchanges_117 : decode cL_exchanges 117 = .ok (.istore 8, 2) := by decide +kernel
theorem dL_exchanges_119 : decode cL_exchanges 119 = .ok (.aload_n 0, 1) := by decide +kernel
theorem dL_exchanges_120 : decode cL_exchanges 120 = .ok (.iload_n 1, 1) := by decide +kernel
theorem dL_exchanges_121 : decode cL_exchanges 121 = .ok (.iconst 4, 1) := by decide +kernel
theorem dL_exchanges_122 : decode cL_exchanges 122 = .ok (.invokevirtual 161, 3) := by decide +kernel
theorem dL_exchanges_125 : decode cL_exchanges 125 = .ok (.istore 9, 2) := by decide +kernel
theorem dL_exchanges_127 : decode cL_exchanges 127 = .ok (.iload 5, 2) := by decide +kernel
theorem dL_exchanges_129 : decode cL_exchanges 129 = .ok (.ifCond .eq 75, 3) := by decide +kernel
theorem dL_exchanges_132 : decode cL_exchanges 132 = .ok (.iload 7, 2) := by decide +kernel
theorem dL_exchanges_134 : decode cL_exchanges 134 = .ok (.ifCond .eq 13, 3) := by decide +kernel
theorem dL_exchanges_137 : decode cL_exchanges 137 = .ok (.iload 6, 2) := by decide +kernel
theorem dL_exchanges_139 : decode cL_exchanges 139 = .ok (.aload_n 0, 1) := by decide +kernel
theorem dL_exchanges_140 : decode cL_exchanges 140 = .ok (.iconst 2, 1) := by decide +kernel
theorem dL_exchanges_141 : decode cL_exchanges 141 = .ok (.invokevirtual 142, 3) := by decide +kernel
theorem dL_exchanges_144 : decode cL_exchanges 144 = .ok (.if_icmp .ne 60, 3) := by decide +kernel
theorem dL_exchanges_147 : decode cL_exchanges 147 = .ok (.aload_n 0, 1) := by decide +kernel
theorem dL_exchanges_148 : decode cL_exchanges 148 = .ok (.iload_n 1, 1) := by decide +kernel
theorem dL_exchanges_149 : decode cL_exchanges 149 = .ok (.invokevirtual 227, 3) := by decide +kernel
theorem dL_exchanges_152 : decode cL_exchanges 152 = .ok (.iload 6, 2) := by decide +kernel
theorem dL_exchanges_154 : decode cL_exchanges 154 = .ok (.invokestatic 221, 3) := by decide +kernel
theorem dL_exchanges_157 : decode cL_exchanges 157 = .ok (.if_icmp .ne 47, 3) := by decide +kernel
theorem dL_exchanges_160 : decode cL_exchanges 160 = .ok (.aload_n 0, 1) := by decide +kernel
theorem dL_exchanges_161 : decode cL_exchanges 161 = .ok (.iload_n 1, 1) := by decide +kernel
theorem dL_exchanges_162 : decode cL_exchanges 162 = .ok (.iconst 0, 1) := by decide +kernel
theorem dL_exchanges_163 : decode cL_exchanges 163 = .ok (.invokevirtual 156, 3) := by decide +kernel
theorem dL_exchanges_166 : decode cL_exchanges 166 = .ok (.aload_n 0, 1) := by decide +kernel
theorem dL_exchanges_167 : decode cL_exchanges 167 = .ok (.invokevirtual 134, 3) := by decide +kernel
theorem dL_exchanges_170 : decode cL_exchanges 170 = .ok (.if_icmp .ne 34, 3) := by decide +kernel
theorem dL_exchanges_173 : decode cL_exchanges 173 = .ok (.aload_n 0, 1) := by decide +kernel
theorem dL_exchanges_174 : decode cL_exchanges 174 = .ok (.iload_n 1, 1) := by decide +kernel
theorem dL_exchanges_175 : decode cL_exchanges 175 = .ok (.iconst 3, 1) := by decide +kernel
theorem dL_exchanges_176 : decode cL_exchanges 176 = .ok (.invokevirtual 161, 3) := by decide +kernel
theorem dL_exchanges_179 : decode cL_exchanges 179 = .ok (.iload 8, 2) := by decide +kernel
theorem dL_exchanges_181 : decode cL_exchanges 181 = .ok (.iconst 1, 1) := by decide +kernel
theorem dL_exchanges_182 : decode cL_exchanges 182 = .ok (.iadd, 1) := by decide +kernel
theorem dL_exchanges_183 : decode cL_exchanges 183 = .ok (.if_icmp .ne 21, 3) := by decide +kernel
theorem dL_exchanges_186 : decode cL_exchanges 186 = .ok (.aload_n 0, 1) := by decide +kernel
theorem dL_exchanges_187 : decode cL_exchanges 187 = .ok (.iload_n 1, 1) := by decide +kernel
theorem dL_exchanges_188 : decode cL_exchanges 188 = .ok (.iconst 4, 1) := by decide +kernel
theorem dL_exchanges_189 : decode cL_exchanges 189 = .ok (.invokevirtual 161, 3) := by decide +kernel
theorem dL_exchanges_192 : decode cL_exchanges 192 = .ok (.iload 9, 2) := by decide +kernel
theorem dL_exchanges_194 : decode cL_exchanges 194 = .ok (.iload 7, 2) := by decide +kernel
theorem dL_exchanges_196 : decode cL_exchanges 196 = .ok (.iadd, 1) := by decide +kernel
theorem dL_exchanges_197 : decode cL_exchanges 197 = .ok (.if_icmp .ne 7, 3) := by decide +kernel
theorem dL_exchanges_200 : decode cL_exchanges 200 = .ok (.iconst 1, 1) := by decide +kernel
theorem dL_exchanges_201 : decode cL_exchanges 201 = .ok (.goto 4, 3) := by decide +kernel
theorem dL_exchanges_204 : decode cL_exchanges 204 = .ok (.iconst 0, 1) := by decide +kernel
theorem dL_exchanges_205 : decode cL_exchanges 205 = .ok (.istore 5, 2) := by decide +kernel
theorem dL_exchanges_207 : decode cL_exchanges 207 = .ok (.iload 5, 2) := by decide +kernel
theorem dL_exchanges_209 : decode cL_exchanges 209 = .ok (.ifCond .eq 45, 3) := by decide +kernel
theorem dL_exchanges_212 : decode cL_exchanges 212 = .ok (.aload_n 0, 1) := by decide +kernel
theorem dL_exchanges_213 : decode cL_exchanges 213 = .ok (.iload_n 1, 1) := by decide +kernel
theorem dL_exchanges_214 : decode cL_exchanges 214 = .ok (.invokevirtual 191, 3) := by decide +kernel
theorem dL_exchanges_217 : decode cL_exchanges 217 = .ok (.ifCond .eq 37, 3) := by decide +kernel
theorem dL_exchanges_220 : decode cL_exchanges 220 = .ok (.aload_n 0, 1) := by decide +kernel
theorem dL_exchanges_221 : decode cL_exchanges 221 = .ok (.iload_n 1, 1) := by decide +kernel
theorem dL_exchanges_222 : decode cL_exchanges 222 = .ok (.iconst 4, 1) := by decide +kernel
theorem dL_exchanges_223 : decode cL_exchanges 223 = .ok (.invokevirtual 156, 3) := by decide +kernel
theorem dL_exchanges_226 : decode cL_exchanges 226 = .ok (.ifCond .ne 28, 3) := by decide +kernel
theorem dL_exchanges_229 : decode cL_exchanges 229 = .ok (.aload_n 0, 1) := by decide +kernel
theorem dL_exchanges_230 : decode cL_exchanges 230 = .ok (.iload_n 1, 1) := by decide +kernel
theorem dL_exchanges_231 : decode cL_exchanges 231 = .ok (.invokevirtual 142, 3) := by decide +kernel
theorem dL_exchanges_234 : decode cL_exchanges 234 = .ok (.aload_n 0, 1) := by decide +kernel
theorem dL_exchanges_235 : decode cL_exchanges 235 = .ok (.iconst 2, 1) := by decide +kernel
theorem dL_exchanges_236 : decode cL_exchanges 236 = .ok (.invokevirtual 142, 3) := by decide +kernel
theorem dL_exchanges_239 : decode cL_exchanges 239 = .ok (.if_icmp .ne 15, 3) := by decide +kernel
theorem dL_exchanges_242 : decode cL_exchanges 242 = .ok (.aload_n 0, 1) := by decide +kernel
theorem dL_exchanges_243 : decode cL_exchanges 243 = .ok (.iload_n 1, 1) := by decide +kernel
theorem dL_exchanges_244 : decode cL_exchanges 244 = .ok (.invokevirtual 230, 3) := by decide +kernel
theorem dL_exchanges_247 : decode cL_exchanges 247 = .ok (.ifCond .ne 7, 3) := by decide +kernel
theorem dL_exchanges_250 : decode cL_exchanges 250 = .ok (.iconst 1, 1) := by decide +kernel
theorem dL_exchanges_251 : decode cL_exchanges 251 = .ok (.goto 4, 3) := by decide +kernel
theorem dL_exchanges_254 : decode cL_exchanges 254 = .ok (.iconst 0, 1) := by decide +kernel
theorem dL_exchanges_255 : decode cL_exchanges 255 = .ok (.ireturn, 1) := by decide +kernel
def pg_L_exchanges (l : Launch) (g : EG) : List (Nat × ES) := [(0, s_ldP 0), (1, s_ldI 1), (2, s_c (.inl 1)), (3, s_callVL l g sg_L_exchanges sg_X10_side 9), (6, s_callSL l g sg_L_exchanges sg_J6_bitCount_0f7a4), (9, s_stI 2), (10, s_ldP 0), (11, s_ldI 1), (12, s_c (.inl 0)), (13, s_callVL l g sg_L_exchanges sg_X10_account 9), (16, s_ldP 0), (17, s_ldI 1), (18, s_c (.inl 1)), (19, s_callVL l g sg_L_exchanges sg_X10_account 9), (22, s_ii (fun x y => x + y)), (23, s_ldP 0), (24, s_ldI 1), (25, s_c (.inl 2)), (26, s_callVL l g sg_L_exchanges sg_X10_account 9), (29, s_ii (fun x y => x + y)), (30, s_stI 3), (31, s_ldP 0), (32, s_ldI 1), (33, s_callVL l g sg_L_exchanges sg_X10_push 9), (36, s_stI 4), (38, s_ldP 0), (39, s_ldI 1), (40, s_c (.inl 1)), (41, s_callVL l g sg_L_exchanges sg_X10_side 9), (44, s_if_ne 92), (47, s_ldP 0), (48, s_ldI 1), (49, s_c (.inl 2)), (50, s_callVL l g sg_L_exchanges sg_X10_side 9), (53, s_if_ne 92), (56, s_ldI 4), (58, s_ldI 2), (59, s_icmp_gt 92), (62, s_ldP 0), (63, s_ldI 1), (64, s_c (.inl 0)), (65, s_callVL l g sg_L_exchanges sg_X10_account 9), (68, s_ldP 0), (69, s_ldI 1), (70, s_c (.inl 1)), (71, s_callVL l g sg_L_exchanges sg_X10_account 9), (74, s_ii (fun x y => x + y)), (75, s_ldP 0), (76, s_ldI 1), (77, s_c (.inl 2)), (78, s_callVL l g sg_L_exchanges sg_X10_account 9), (81, s_ii (fun x y => x + y)), (82, s_ldI 3), (83, s_ldI 2), (84, s_ii (fun x y => x + y)), (85, s_icmp_gt 92), (88, s_c (.inl 1)), (89, s_goto 93), (92, s_c (.inl 0)), (93, s_stI 5), (95, s_ldP 0), (96, s_ldI 1), (97, s_c (.inl 4)), (98, s_callVL l g sg_L_exchanges sg_X10_side 9), (101, s_stI 6), (103, s_ldP 0), (104, s_ldI 1), (105, s_c (.inl 3)), (106, s_callVL l g sg_L_exchanges sg_X10_side 9), (109, s_stI 7), (111, s_ldP 0), (112, s_ldI 1), (113, s_c (.inl 3)), (114, s_callVL l g sg_L_exchanges sg_X10_account 9), (117, s_stI 8), (119, s_ldP 0), (120, s_ldI 1), (121, s_c (.inl 4)), (122, s_callVL l g sg_L_exchanges sg_X10_account 9), (125, s_stI 9), (127, s_ldI 5), (129, s_if_eq 204), (132, s_ldI 7), (134, s_if_eq 147), (137, s_ldI 6), (139, s_ldP 0), (140, s_c (.inl 2)), (141, s_callVL l g sg_L_exchanges sg_X10_events 9), (144, s_icmp_ne 204), (147, s_ldP 0), (148, s_ldI 1), (149, s_callVL l g sg_L_exchanges sg_X10_pull 9), (152, s_ldI 6), (154, s_callSL l g sg_L_exchanges sg_J6_bitCount_0f7a4), (157, s_icmp_ne 204), (160, s_ldP 0), (161, s_ldI 1), (162, s_c (.inl 0)), (163, s_callVL l g sg_L_exchanges sg_X10_side 9), (166, s_ldP 0), (167, s_callVL l g sg_L_exchanges sg_X10_clock 9), (170, s_icmp_ne 204), (173, s_ldP 0), (174, s_ldI 1), (175, s_c (.inl 3)), (176, s_callVL l g sg_L_exchanges sg_X10_account 9), (179, s_ldI 8), (181, s_c (.inl 1)), (182, s_ii (fun x y => x + y)), (183, s_icmp_ne 204), (186, s_ldP 0), (187, s_ldI 1), (188, s_c (.inl 4)), (189, s_callVL l g sg_L_exchanges sg_X10_account 9), (192, s_ldI 9), (194, s_ldI 7), (196, s_ii (fun x y => x + y)), (197, s_icmp_ne 204), (200, s_c (.inl 1)), (201, s_goto 205), (204, s_c (.inl 0)), (205, s_stI 5), (207, s_ldI 5), (209, s_if_eq 254), (212, s_ldP 0), (213, s_ldI 1), (214, s_callVL l g sg_L_exchanges sg_X10_isSame 9), (217, s_if_eq 254), (220, s_ldP 0), (221, s_ldI 1), (222, s_c (.inl 4)), (223, s_callVL l g sg_L_exchanges sg_X10_side 9), (226, s_if_ne 254), (229, s_ldP 0), (230, s_ldI 1), (231, s_callVL l g sg_L_exchanges sg_X10_events 9), (234, s_ldP 0), (235, s_c (.inl 2)), (236, s_callVL l g sg_L_exchanges sg_X10_events 9), (239, s_icmp_ne 254), (242, s_ldP 0), (243, s_ldI 1), (244, s_callVL l g sg_L_exchanges sg_X10_sync 9), (247, s_if_ne 254), (250, s_c (.inl 1)), (251, s_goto 255), (254, s_c (.inl 0)), (255, s_iretz)]
set_option maxRecDepth 100000 in
theorem ok_L_exchanges {l : Launch} {g : EG} : e_okp l g sg_L_exchanges "CalendarSyncLaw" (pg_L_exchanges l g) := fun p e R s m args below meth c ex M0 Q X =>
    e_each_cons (r_aload_n X (k := 0) (i := 0) rfl dL_exchanges_0 rfl)
    (e_each_cons (r_iload_n X (k := 1) (i := 1) rfl dL_exchanges_1 rfl)
    (e_each_cons (r_iconst X (n := 1) (v := 1) dL_exchanges_2 (by decide) rfl)
    (e_each_cons (r_callVL X rfl (τ := sg_X10_side) (index := 156) (ci := 9) dL_exchanges_3 (by decide) rfl yw3_24 yw3_25 yw3_26 cs_X10_side rfl ⟨by decide, by decide⟩ rfl)
    (e_each_cons (r_callSL X (τ := sg_J6_bitCount_0f7a4) (index := 221) dL_exchanges_6 yw6_88 w6_89 cs_J6_bitCount_0f7a4 rfl ⟨by decide, by decide⟩ rfl)
    (e_each_cons (r_istore_n X (k := 2) (i := 2) rfl dL_exchanges_9 (by decide) rfl)
    (e_each_cons (r_aload_n X (k := 0) (i := 0) rfl dL_exchanges_10 rfl)
    (e_each_cons (r_iload_n X (k := 1) (i := 1) rfl dL_exchanges_11 rfl)
    (e_each_cons (r_iconst X (n := 0) (v := 0) dL_exchanges_12 (by decide) rfl)
    (e_each_cons (r_callVL X rfl (τ := sg_X10_account) (index := 161) (ci := 9) dL_exchanges_13 (by decide) rfl yw5_230 yw5_231 yw5_232 cs_X10_account rfl ⟨by decide, by decide⟩ rfl)
    (e_each_cons (r_aload_n X (k := 0) (i := 0) rfl dL_exchanges_16 rfl)
    (e_each_cons (r_iload_n X (k := 1) (i := 1) rfl dL_exchanges_17 rfl)
    (e_each_cons (r_iconst X (n := 1) (v := 1) dL_exchanges_18 (by decide) rfl)
    (e_each_cons (r_callVL X rfl (τ := sg_X10_account) (index := 161) (ci := 9) dL_exchanges_19 (by decide) rfl yw5_230 yw5_231 yw5_232 cs_X10_account rfl ⟨by decide, by decide⟩ rfl)
    (e_each_cons (r_iadd X dL_exchanges_22 rfl)
    (e_each_cons (r_aload_n X (k := 0) (i := 0) rfl dL_exchanges_23 rfl)
    (e_each_cons (r_iload_n X (k := 1) (i := 1) rfl dL_exchanges_24 rfl)
    (e_each_cons (r_iconst X (n := 2) (v := 2) dL_exchanges_25 (by decide) rfl)
    (e_each_cons (r_callVL X rfl (τ := sg_X10_account) (index := 161) (ci := 9) dL_exchanges_26 (by decide) rfl yw5_230 yw5_231 yw5_232 cs_X10_account rfl ⟨by decide, by decide⟩ rfl)
    (e_each_cons (r_iadd X dL_exchanges_29 rfl)
    (e_each_cons (r_istore_n X (k := 3) (i := 3) rfl dL_exchanges_30 (by decide) rfl)
    (e_each_cons (r_aload_n X (k := 0) (i := 0) rfl dL_exchanges_31 rfl)
    (e_each_cons (r_iload_n X (k := 1) (i := 1) rfl dL_exchanges_32 rfl)
    (e_each_cons (r_callVL X rfl (τ := sg_X10_push) (index := 224) (ci := 9) dL_exchanges_33 (by decide) rfl yw6_94 yw6_95 yw6_96 cs_X10_push rfl ⟨by decide, by decide⟩ rfl)
    (e_each_cons (r_istore X (i := 4) dL_exchanges_36 (by decide) rfl)
    (e_each_cons (r_aload_n X (k := 0) (i := 0) rfl dL_exchanges_38 rfl)
    (e_each_cons (r_iload_n X (k := 1) (i := 1) rfl dL_exchanges_39 rfl)
    (e_each_cons (r_iconst X (n := 1) (v := 1) dL_exchanges_40 (by decide) rfl)
    (e_each_cons (r_callVL X rfl (τ := sg_X10_side) (index := 156) (ci := 9) dL_exchanges_41 (by decide) rfl yw3_24 yw3_25 yw3_26 cs_X10_side rfl ⟨by decide, by decide⟩ rfl)
    (e_each_cons (r_if_ne X (off := 48) (t := 92) dL_exchanges_44 (by decide) rfl)
    (e_each_cons (r_aload_n X (k := 0) (i := 0) rfl dL_exchanges_47 rfl)
    (e_each_cons (r_iload_n X (k := 1) (i := 1) rfl dL_exchanges_48 rfl)
    (e_each_cons (r_iconst X (n := 2) (v := 2) dL_exchanges_49 (by decide) rfl)
    (e_each_cons (r_callVL X rfl (τ := sg_X10_side) (index := 156) (ci := 9) dL_exchanges_50 (by decide) rfl yw3_24 yw3_25 yw3_26 cs_X10_side rfl ⟨by decide, by decide⟩ rfl)
    (e_each_cons (r_if_ne X (off := 39) (t := 92) dL_exchanges_53 (by decide) rfl)
    (e_each_cons (r_iload X (i := 4) dL_exchanges_56 rfl)
    (e_each_cons (r_iload_n X (k := 2) (i := 2) rfl dL_exchanges_58 rfl)
    (e_each_cons (r_icmp_gt X (off := 33) (t := 92) dL_exchanges_59 (by decide) rfl)
    (e_each_cons (r_aload_n X (k := 0) (i := 0) rfl dL_exchanges_62 rfl)
    (e_each_cons (r_iload_n X (k := 1) (i := 1) rfl dL_exchanges_63 rfl)
    (e_each_cons (r_iconst X (n := 0) (v := 0) dL_exchanges_64 (by decide) rfl)
    (e_each_cons (r_callVL X rfl (τ := sg_X10_account) (index := 161) (ci := 9) dL_exchanges_65 (by decide) rfl yw5_230 yw5_231 yw5_232 cs_X10_account rfl ⟨by decide, by decide⟩ rfl)
    (e_each_cons (r_aload_n X (k := 0) (i := 0) rfl dL_exchanges_68 rfl)
    (e_each_cons (r_iload_n X (k := 1) (i := 1) rfl dL_exchanges_69 rfl)
    (e_each_cons (r_iconst X (n := 1) (v := 1) dL_exchanges_70 (by decide) rfl)
    (e_each_cons (r_callVL X rfl (τ := sg_X10_account) (index := 161) (ci := 9) dL_exchanges_71 (by decide) rfl yw5_230 yw5_231 yw5_232 cs_X10_account rfl ⟨by decide, by decide⟩ rfl)
    (e_each_cons (r_iadd X dL_exchanges_74 rfl)
    (e_each_cons (r_aload_n X (k := 0) (i := 0) rfl dL_exchanges_75 rfl)
    (e_each_cons (r_iload_n X (k := 1) (i := 1) rfl dL_exchanges_76 rfl)
    (e_each_cons (r_iconst X (n := 2) (v := 2) dL_exchanges_77 (by decide) rfl)
    (e_each_cons (r_callVL X rfl (τ := sg_X10_account) (index := 161) (ci := 9) dL_exchanges_78 (by decide) rfl yw5_230 yw5_231 yw5_232 cs_X10_account rfl ⟨by decide, by decide⟩ rfl)
    (e_each_cons (r_iadd X dL_exchanges_81 rfl)
    (e_each_cons (r_iload_n X (k := 3) (i := 3) rfl dL_exchanges_82 rfl)
    (e_each_cons (r_iload_n X (k := 2) (i := 2) rfl dL_exchanges_83 rfl)
    (e_each_cons (r_iadd X dL_exchanges_84 rfl)
    (e_each_cons (r_icmp_gt X (off := 7) (t := 92) dL_exchanges_85 (by decide) rfl)
    (e_each_cons (r_iconst X (n := 1) (v := 1) dL_exchanges_88 (by decide) rfl)
    (e_each_cons (r_goto X (off := 4) (t := 93) dL_exchanges_89 (by decide))
    (e_each_cons (r_iconst X (n := 0) (v := 0) dL_exchanges_92 (by decide) rfl)
    (e_each_cons (r_istore X (i := 5) dL_exchanges_93 (by decide) rfl)
    (e_each_cons (r_aload_n X (k := 0) (i := 0) rfl dL_exchanges_95 rfl)
    (e_each_cons (r_iload_n X (k := 1) (i := 1) rfl dL_exchanges_96 rfl)
    (e_each_cons (r_iconst X (n := 4) (v := 4) dL_exchanges_97 (by decide) rfl)
    (e_each_cons (r_callVL X rfl (τ := sg_X10_side) (index := 156) (ci := 9) dL_exchanges_98 (by decide) rfl yw3_24 yw3_25 yw3_26 cs_X10_side rfl ⟨by decide, by decide⟩ rfl)
    (e_each_cons (r_istore X (i := 6) dL_exchanges_101 (by decide) rfl)
    (e_each_cons (r_aload_n X (k := 0) (i := 0) rfl dL_exchanges_103 rfl)
    (e_each_cons (r_iload_n X (k := 1) (i := 1) rfl dL_exchanges_104 rfl)
    (e_each_cons (r_iconst X (n := 3) (v := 3) dL_exchanges_105 (by decide) rfl)
    (e_each_cons (r_callVL X rfl (τ := sg_X10_side) (index := 156) (ci := 9) dL_exchanges_106 (by decide) rfl yw3_24 yw3_25 yw3_26 cs_X10_side rfl ⟨by decide, by decide⟩ rfl)
    (e_each_cons (r_istore X (i := 7) dL_exchanges_109 (by decide) rfl)
    (e_each_cons (r_aload_n X (k := 0) (i := 0) rfl dL_exchanges_111 rfl)
    (e_each_cons (r_iload_n X (k := 1) (i := 1) rfl dL_exchanges_112 rfl)
    (e_each_cons (r_iconst X (n := 3) (v := 3) dL_exchanges_113 (by decide) rfl)
    (e_each_cons (r_callVL X rfl (τ := sg_X10_account) (index := 161) (ci := 9) dL_exchanges_114 (by decide) rfl yw5_230 yw5_231 yw5_232 cs_X10_account rfl ⟨by decide, by decide⟩ rfl)
    (e_each_cons (r_istore X (i := 8) dL_exchanges_117 (by decide) rfl)
    (e_each_cons (r_aload_n X (k := 0) (i := 0) rfl dL_exchanges_119 rfl)
    (e_each_cons (r_iload_n X (k := 1) (i := 1) rfl dL_exchanges_120 rfl)
    (e_each_cons (r_iconst X (n := 4) (v := 4) dL_exchanges_121 (by decide) rfl)
    (e_each_cons (r_callVL X rfl (τ := sg_X10_account) (index := 161) (ci := 9) dL_exchanges_122 (by decide) rfl yw5_230 yw5_231 yw5_232 cs_X10_account rfl ⟨by decide, by decide⟩ rfl)
    (e_each_cons (r_istore X (i := 9) dL_exchanges_125 (by decide) rfl)
    (e_each_cons (r_iload X (i := 5) dL_exchanges_127 rfl)
    (e_each_cons (r_if_eq X (off := 75) (t := 204) dL_exchanges_129 (by decide) rfl)
    (e_each_cons (r_iload X (i := 7) dL_exchanges_132 rfl)
    (e_each_cons (r_if_eq X (off := 13) (t := 147) dL_exchanges_134 (by decide) rfl)
    (e_each_cons (r_iload X (i := 6) dL_exchanges_137 rfl)
    (e_each_cons (r_aload_n X (k := 0) (i := 0) rfl dL_exchanges_139 rfl)
    (e_each_cons (r_iconst X (n := 2) (v := 2) dL_exchanges_140 (by decide) rfl)
    (e_each_cons (r_callVL X rfl (τ := sg_X10_events) (index := 142) (ci := 9) dL_exchanges_141 (by decide) rfl yw2_118 yw2_119 yw2_120 cs_X10_events rfl ⟨by decide, by decide⟩ rfl)
    (e_each_cons (r_icmp_ne X (off := 60) (t := 204) dL_exchanges_144 (by decide) rfl)
    (e_each_cons (r_aload_n X (k := 0) (i := 0) rfl dL_exchanges_147 rfl)
    (e_each_cons (r_iload_n X (k := 1) (i := 1) rfl dL_exchanges_148 rfl)
    (e_each_cons (r_callVL X rfl (τ := sg_X10_pull) (index := 227) (ci := 9) dL_exchanges_149 (by decide) rfl yw6_125 yw6_126 yw6_127 cs_X10_pull rfl ⟨by decide, by decide⟩ rfl)
    (e_each_cons (r_iload X (i := 6) dL_exchanges_152 rfl)
    (e_each_cons (r_callSL X (τ := sg_J6_bitCount_0f7a4) (index := 221) dL_exchanges_154 yw6_88 w6_89 cs_J6_bitCount_0f7a4 rfl ⟨by decide, by decide⟩ rfl)
    (e_each_cons (r_icmp_ne X (off := 47) (t := 204) dL_exchanges_157 (by decide) rfl)
    (e_each_cons (r_aload_n X (k := 0) (i := 0) rfl dL_exchanges_160 rfl)
    (e_each_cons (r_iload_n X (k := 1) (i := 1) rfl dL_exchanges_161 rfl)
    (e_each_cons (r_iconst X (n := 0) (v := 0) dL_exchanges_162 (by decide) rfl)
    (e_each_cons (r_callVL X rfl (τ := sg_X10_side) (index := 156) (ci := 9) dL_exchanges_163 (by decide) rfl yw3_24 yw3_25 yw3_26 cs_X10_side rfl ⟨by decide, by decide⟩ rfl)
    (e_each_cons (r_aload_n X (k := 0) (i := 0) rfl dL_exchanges_166 rfl)
    (e_each_cons (r_callVL X rfl (τ := sg_X10_clock) (index := 134) (ci := 9) dL_exchanges_167 (by decide) rfl yw3_20 yw3_21 yw3_22 cs_X10_clock rfl ⟨by decide, by decide⟩ rfl)
    (e_each_cons (r_icmp_ne X (off := 34) (t := 204) dL_exchanges_170 (by decide) rfl)
    (e_each_cons (r_aload_n X (k := 0) (i := 0) rfl dL_exchanges_173 rfl)
    (e_each_cons (r_iload_n X (k := 1) (i := 1) rfl dL_exchanges_174 rfl)
    (e_each_cons (r_iconst X (n := 3) (v := 3) dL_exchanges_175 (by decide) rfl)
    (e_each_cons (r_callVL X rfl (τ := sg_X10_account) (index := 161) (ci := 9) dL_exchanges_176 (by decide) rfl yw5_230 yw5_231 yw5_232 cs_X10_account rfl ⟨by decide, by decide⟩ rfl)
    (e_each_cons (r_iload X (i := 8) dL_exchanges_179 rfl)
    (e_each_cons (r_iconst X (n := 1) (v := 1) dL_exchanges_181 (by decide) rfl)
    (e_each_cons (r_iadd X dL_exchanges_182 rfl)
    (e_each_cons (r_icmp_ne X (off := 21) (t := 204) dL_exchanges_183 (by decide) rfl)
    (e_each_cons (r_aload_n X (k := 0) (i := 0) rfl dL_exchanges_186 rfl)
    (e_each_cons (r_iload_n X (k := 1) (i := 1) rfl dL_exchanges_187 rfl)
    (e_each_cons (r_iconst X (n := 4) (v := 4) dL_exchanges_188 (by decide) rfl)
    (e_each_cons (r_callVL X rfl (τ := sg_X10_account) (index := 161) (ci := 9) dL_exchanges_189 (by decide) rfl yw5_230 yw5_231 yw5_232 cs_X10_account rfl ⟨by decide, by decide⟩ rfl)
    (e_each_cons (r_iload X (i := 9) dL_exchanges_192 rfl)
    (e_each_cons (r_iload X (i := 7) dL_exchanges_194 rfl)
    (e_each_cons (r_iadd X dL_exchanges_196 rfl)
    (e_each_cons (r_icmp_ne X (off := 7) (t := 204) dL_exchanges_197 (by decide) rfl)
    (e_each_cons (r_iconst X (n := 1) (v := 1) dL_exchanges_200 (by decide) rfl)
    (e_each_cons (r_goto X (off := 4) (t := 205) dL_exchanges_201 (by decide))
    (e_each_cons (r_iconst X (n := 0) (v := 0) dL_exchanges_204 (by decide) rfl)
    (e_each_cons (r_istore X (i := 5) dL_exchanges_205 (by decide) rfl)
    (e_each_cons (r_iload X (i := 5) dL_exchanges_207 rfl)
    (e_each_cons (r_if_eq X (off := 45) (t := 254) dL_exchanges_209 (by decide) rfl)
    (e_each_cons (r_aload_n X (k := 0) (i := 0) rfl dL_exchanges_212 rfl)
    (e_each_cons (r_iload_n X (k := 1) (i := 1) rfl dL_exchanges_213 rfl)
    (e_each_cons (r_callVL X rfl (τ := sg_X10_isSame) (index := 191) (ci := 9) dL_exchanges_214 (by decide) rfl yw2_204 yw2_205 yw2_206 cs_X10_isSame rfl ⟨by decide, by decide⟩ rfl)
    (e_each_cons (r_if_eq X (off := 37) (t := 254) dL_exchanges_217 (by decide) rfl)
    (e_each_cons (r_aload_n X (k := 0) (i := 0) rfl dL_exchanges_220 rfl)
    (e_each_cons (r_iload_n X (k := 1) (i := 1) rfl dL_exchanges_221 rfl)
    (e_each_cons (r_iconst X (n := 4) (v := 4) dL_exchanges_222 (by decide) rfl)
    (e_each_cons (r_callVL X rfl (τ := sg_X10_side) (index := 156) (ci := 9) dL_exchanges_223 (by decide) rfl yw3_24 yw3_25 yw3_26 cs_X10_side rfl ⟨by decide, by decide⟩ rfl)
    (e_each_cons (r_if_ne X (off := 28) (t := 254) dL_exchanges_226 (by decide) rfl)
    (e_each_cons (r_aload_n X (k := 0) (i := 0) rfl dL_exchanges_229 rfl)
    (e_each_cons (r_iload_n X (k := 1) (i := 1) rfl dL_exchanges_230 rfl)
    (e_each_cons (r_callVL X rfl (τ := sg_X10_events) (index := 142) (ci := 9) dL_exchanges_231 (by decide) rfl yw2_118 yw2_119 yw2_120 cs_X10_events rfl ⟨by decide, by decide⟩ rfl)
    (e_each_cons (r_aload_n X (k := 0) (i := 0) rfl dL_exchanges_234 rfl)
    (e_each_cons (r_iconst X (n := 2) (v := 2) dL_exchanges_235 (by decide) rfl)
    (e_each_cons (r_callVL X rfl (τ := sg_X10_events) (index := 142) (ci := 9) dL_exchanges_236 (by decide) rfl yw2_118 yw2_119 yw2_120 cs_X10_events rfl ⟨by decide, by decide⟩ rfl)
    (e_each_cons (r_icmp_ne X (off := 15) (t := 254) dL_exchanges_239 (by decide) rfl)
    (e_each_cons (r_aload_n X (k := 0) (i := 0) rfl dL_exchanges_242 rfl)
    (e_each_cons (r_iload_n X (k := 1) (i := 1) rfl dL_exchanges_243 rfl)
    (e_each_cons (r_callVL X rfl (τ := sg_X10_sync) (index := 230) (ci := 9) dL_exchanges_244 (by decide) rfl yw6_136 yw6_137 yw6_138 cs_X10_sync rfl ⟨by decide, by decide⟩ rfl)
    (e_each_cons (r_if_ne X (off := 7) (t := 254) dL_exchanges_247 (by decide) rfl)
    (e_each_cons (r_iconst X (n := 1) (v := 1) dL_exchanges_250 (by decide) rfl)
    (e_each_cons (r_goto X (off := 4) (t := 255) dL_exchanges_251 (by decide))
    (e_each_cons (r_iconst X (n := 0) (v := 0) dL_exchanges_254 (by decide) rfl)
    (e_each_cons (r_iretz X dL_exchanges_255 rfl)
    (e_each_nil))))))))))))))))))))))))))))))))))))))))))))))))))))))))))))))))))))))))))))))))))))))))))))))))))))))))))))))))))))))))))))))))))))))))))))))))))))
def sg_L_act : SG := (yL_act, cL_act, 4, (some .boolean), 10, 202, 33, 198, 2, false, [])
theorem cs_L_act : e_cs sg_L_act := ⟨yw6_142, yw1_0, ⟨by decide, by decide⟩, by decide +kernel, rfl⟩
theorem mt_L_act : e_mtF sg_L_act "CalendarSyncLaw" := ⟨rfl, by decide +kernel, rfl⟩
theorem dL_act_0 : decode cL_act 0 = .ok (.aload_n 1, 1) := by decide +kernel
theorem dL_act_1 : decode cL_act 1 = .ok (.invokestatic 50, 3) := by decide +kernel
theorem dL_act_4 : decode cL_act 4 = .ok (.iconst 2, 1) := by decide +kernel
theorem dL_act_5 : decode cL_act 5 = .ok (.irem, 1) := by decide +kernel
theorem dL_act_6 : decode cL_act 6 = .ok (.istore_n 2, 1) := by decide +kernel
theorem dL_act_7 : decode cL_act 7 = .ok (.aload_n 1, 1) := by decide +kernel
theorem dL_act_8 : decode cL_act 8 = .ok (.invokestatic 50, 3) := by decide +kernel
theorem dL_act_11 : decode cL_act 11 = .ok (.bipush 8, 2) := by decide +kernel
theorem dL_act_13 : decode cL_act 13 = .ok (.irem, 1) := by decide +kernel
theorem dL_act_14 : decode cL_act 14 = .ok (.istore_n 3, 1) := by decide +kernel
theorem dL_act_15 : decode cL_act 15 = .ok (.aload_n 1, 1) := by decide +kernel
theorem dL_act_16 : decode cL_act 16 = .ok (.invokestatic 50, 3) := by decide +kernel
theorem dL_act_19 : decode cL_act 19 = .ok (.bipush 9, 2) := by decide +kernel
theorem dL_act_21 : decode cL_act 21 = .ok (.irem, 1) := by decide +kernel
theorem dL_act_22 : decode cL_act 22 = .ok (.tableswitch 332 0 7 #[46, 92, 140, 161, 213, 242, 257, 318], 46) := by decide +kernel
theorem dL_act_68 : decode cL_act 68 = .ok (.aload_n 0, 1) := by decide +kernel
theorem dL_act_69 : decode cL_act 69 = .ok (.iload_n 2, 1) := by decide +kernel
theorem dL_act_70 : decode cL_act 70 = .ok (.iload_n 3, 1) := by decide +kernel
theorem dL_act_71 : decode cL_act 71 = .ok (.aload_n 1, 1) := by decide +kernel
theorem dL_act_72 : decode cL_act 72 = .ok (.invokestatic 50, 3) := by decide +kernel
theorem dL_act_75 : decode cL_act 75 = .ok (.bipush 100, 2) := by decide +kernel
theorem dL_act_77 : decode cL_act 77 = .ok (.irem, 1) := by decide +kernel
theorem dL_act_78 : decode cL_act 78 = .ok (.aload_n 1, 1) := by decide +kernel
theorem dL_act_79 : decode cL_act 79 = .ok (.invokestatic 50, 3) := by decide +kernel
theorem dL_act_82 : decode cL_act 82 = .ok (.sipush 1440, 3) := by decide +kernel
theorem dL_act_85 : decode cL_act 85 = .ok (.irem, 1) := by decide +kernel
theorem dL_act_86 : decode cL_act 86 = .ok (.iconst 1, 1) := by decide +kernel
theorem dL_act_87 : decode cL_act 87 = .ok (.aload_n 1, 1) := by decide +kernel
theorem dL_act_88 : decode cL_act 88 = .ok (.invokestatic 50, 3) := by decide +kernel
theorem dL_act_91 : decode cL_act 91 = .ok (.sipush 300, 3) := by decide +kernel
theorem dL_act_94 : decode cL_act 94 = .ok (.irem, 1) := by decide +kernel
theorem dL_act_95 : decode cL_act 95 = .ok (.iadd, 1) := by decide +kernel
theorem dL_act_96 : decode cL_act 96 = .ok (.aload_n 1, 1) := by decide +kernel
theorem dL_act_97 : decode cL_act 97 = .ok (.invokestatic 50, 3) := by decide +kernel
theorem dL_act_100 : decode cL_act 100 = .ok (.iconst 2, 1) := by decide +kernel
theorem dL_act_101 : decode cL_act 101 = .ok (.irem, 1) := by decide +kernel
theorem dL_act_102 : decode cL_act 102 = .ok (.invokestatic 233, 3) := by decide +kernel
theorem dL_act_105 : decode cL_act 105 = .ok (.ifCond .lt 7, 3) := by decide +kernel
theorem dL_act_108 : decode cL_act 108 = .ok (.iconst 1, 1) := by decide +kernel
theorem dL_act_109 : decode cL_act 109 = .ok (.goto 4, 3) := by decide +kernel
theorem dL_act_112 : decode cL_act 112 = .ok (.iconst 0, 1) := by decide +kernel
theorem dL_act_113 : decode cL_act 113 = .ok (.ireturn, 1) := by decide +kernel
theorem dL_act_114 : decode cL_act 114 = .ok (.aload_n 0, 1) := by decide +kernel
theorem dL_act_115 : decode cL_act 115 = .ok (.iload_n 2, 1) := by decide +kernel
theorem dL_act_116 : decode cL_act 116 = .ok (.iload_n 3, 1) := by decide +kernel
theorem dL_act_117 : decode cL_act 117 = .ok (.aload_n 1, 1) := by decide +kernel
theorem dL_act_118 : decode cL_act 118 = .ok (.invokestatic 50, 3) := by decide +kernel
theorem dL_act_121 : decode cL_act 121 = .ok (.iconst 4, 1) := by decide +kernel
theorem dL_act_122 : decode cL_act 122 = .ok (.irem, 1) := by decide +kernel
theorem dL_act_123 : decode cL_act 123 = .ok (.iconst 1, 1) := by decide +kernel
theorem dL_act_124 : decode cL_act 124 = .ok (.aload_n 1, 1) := by decide +kernel
theorem dL_act_125 : decode cL_act 125 = .ok (.invokestatic 50, 3) := by decide +kernel
theorem dL_act_128 : decode cL_act 128 = .ok (.bipush 9, 2) := by decide +kernel
theorem dL_act_130 : decode cL_act 130 = .ok (.irem, 1) := by decide +kernel
theorem dL_act_131 : decode cL_act 131 = .ok (.iadd, 1) := by decide +kernel
theorem dL_act_132 : decode cL_act 132 = .ok (.iconst 1, 1) := by decide +kernel
theorem dL_act_133 : decode cL_act 133 = .ok (.aload_n 1, 1) := by decide +kernel
theorem dL_act_134 : decode cL_act 134 = .ok (.invokestatic 50, 3) := by decide +kernel
theorem dL_act_137 : decode cL_act 137 = .ok (.bipush 127, 2) := by decide +kernel
theorem dL_act_139 : decode cL_act 139 = .ok (.irem, 1) := by decide +kernel
theorem dL_act_140 : decode cL_act 140 = .ok (.iadd, 1) := by decide +kernel
theorem dL_act_141 : decode cL_act 141 = .ok (.iconst 1, 1) := by decide +kernel
theorem dL_act_142 : decode cL_act 142 = .ok (.aload_n 1, 1) := by decide +kernel
theorem dL_act_143 : decode cL_act 143 = .ok (.invokestatic 50, 3) := by decide +kernel
theorem dL_act_146 : decode cL_act 146 = .ok (.bipush 30, 2) := by decide +kernel
theorem dL_act_148 : decode cL_act 148 = .ok (.irem, 1) := by decide +kernel
theorem dL_act_149 : decode cL_act 149 = .ok (.iadd, 1) := by decide +kernel
theorem dL_act_150 : decode cL_act 150 = .ok (.invokestatic 237, 3) := by decide +kernel
theorem dL_act_153 : decode cL_act 153 = .ok (.ifCond .lt 7, 3) := by decide +kernel
theorem dL_act_156 : decode cL_act 156 = .ok (.iconst 1, 1) := by decide +kernel
theorem dL_act_157 : decode cL_act 157 = .ok (.goto 4, 3) := by decide +kernel
theorem dL_act_160 : decode cL_act 160 = .ok (.iconst 0, 1) := by decide +kernel
theorem dL_act_161 : decode cL_act 161 = .ok (.ireturn, 1) := by decide +kernel
theorem dL_act_162 : decode cL_act 162 = .ok (.aload_n 0, 1) := by decide +kernel
theorem dL_act_163 : decode cL_act 163 = .ok (.iload_n 2, 1) := by decide +kernel
theorem dL_act_164 : decode cL_act 164 = .ok (.iload_n 3, 1) := by decide +kernel
theorem dL_act_165 : decode cL_act 165 = .ok (.aload_n 1, 1) := by decide +kernel
theorem dL_act_166 : decode cL_act 166 = .ok (.invokestatic 50, 3) := by decide +kernel
theorem dL_act_169 : decode cL_act 169 = .ok (.iconst 4, 1) := by decide +kernel
theorem dL_act_170 : decode cL_act 170 = .ok (.irem, 1) := by decide +kernel
theorem dL_act_171 : decode cL_act 171 = .ok (.invokestatic 240, 3) := by decide +kernel
theorem dL_act_174 : decode cL_act 174 = .ok (.ifCond .lt 7, 3) := by decide +kernel
theorem dL_act_177 : decode cL_act 177 = .ok (.iconst 1, 1) := by decide +kernel
theorem dL_act_178 : decode cL_act 178 = .ok (.goto 4, 3) := by decide +kernel
theorem dL_act_181 : decode cL_act 181 = .ok (.iconst 0, 1) := by decide +kernel
theorem dL_act_182 : decode cL_act 182 = .ok (.ireturn, 1) := by decide +kernel
theorem dL_act_183 : decode cL_act 183 = .ok (.aload_n 0, 1) := by decide +kernel
theorem dL_act_184 : decode cL_act 184 = .ok (.iload_n 2, 1) := by decide +kernel
theorem dL_act_185 : decode cL_act 185 = .ok (.iload_n 3, 1) := by decide +kernel
theorem dL_act_186 : decode cL_act 186 = .ok (.aload_n 1, 1) := by decide +kernel
theorem dL_act_187 : decode cL_act 187 = .ok (.invokestatic 50, 3) := by decide +kernel
theorem dL_act_190 : decode cL_act 190 = .ok (.iconst 4, 1) := by decide +kernel
theorem dL_act_191 : decode cL_act 191 = .ok (.irem, 1) := by decide +kernel
theorem dL_act_192 : decode cL_act 192 = .ok (.aload_n 1, 1) := by decide +kernel
theorem dL_act_193 : decode cL_act 193 = .ok (.invokestatic 50, 3) := by decide +kernel
theorem dL_act_196 : decode cL_act 196 = .ok (.iconst 5, 1) := by decide +kernel
theorem dL_act_197 : decode cL_act 197 = .ok (.irem, 1) := by decide +kernel
theorem dL_act_198 : decode cL_act 198 = .ok (.ifCond .ne 7, 3) := by decide +kernel
theorem dL_act_201 : decode cL_act 201 = .ok (.iconst (-1), 1) := by decide +kernel
theorem dL_act_202 : decode cL_act 202 = .ok (.goto 11, 3) := by decide +kernel
theorem dL_act_205 : decode cL_act 205 = .ok (.aload_n 1, 1) := by decide +kernel
theorem dL_act_206 : decode cL_act 206 = .ok (.invokestatic 50, 3) := by decide +kernel
theorem dL_act_209 : decode cL_act 209 = .ok (.sipush 200, 3) := by decide +kernel
theorem dL_act_212 : decode cL_act 212 = .ok (.irem, 1) := by decide +kernel
theorem dL_act_213 : decode cL_act 213 = .ok (.aload_n 1, 1) := by decide +kernel
theorem dL_act_214 : decode cL_act 214 = .ok (.invokestatic 50, 3) := by decide +kernel
theorem dL_act_217 : decode cL_act 217 = .ok (.sipush 1440, 3) := by decide +kernel
theorem dL_act_220 : decode cL_act 220 = .ok (.irem, 1) := by decide +kernel
theorem dL_act_221 : decode cL_act 221 = .ok (.invokestatic 244, 3) := by decide +kernel
theorem dL_act_224 : decode cL_act 224 = .ok (.ldc 125, 2) := by decide +kernel
theorem dL_act_226 : decode cL_act 226 = .ok (.if_icmp .eq 7, 3) := by decide +kernel
theorem dL_act_229 : decode cL_act 229 = .ok (.iconst 1, 1) := by decide +kernel
theorem dL_act_230 : decode cL_act 230 = .ok (.goto 4, 3) := by decide +kernel
theorem dL_act_233 : decode cL_act 233 = .ok (.iconst 0, 1) := by decide +kernel
theorem dL_act_234 : decode cL_act 234 = .ok (.ireturn, 1) := by decide +kernel
theorem dL_act_235 : decode cL_act 235 = .ok (.aload_n 0, 1) := by decide +kernel
theorem dL_act_236 : decode cL_act 236 = .ok (.iload_n 2, 1) := by decide +kernel
theorem dL_act_237 : decode cL_act 237 = .ok (.iload_n 3, 1) := by decide +kernel
theorem dL_act_238 : decode cL_act 238 = .ok (.aload_n 1, 1) := by decide +kernel
theorem dL_act_239 : decode cL_act 239 = .ok (.invokestatic 50, 3) := by decide +kernel
theorem dL_act_242 : decode cL_act 242 = .ok (.iconst 5, 1) := by decide +kernel
theorem dL_act_243 : decode cL_act 243 = .ok (.irem, 1) := by decide +kernel
theorem dL_act_244 : decode cL_act 244 = .ok (.iconst 1, 1) := by decide +kernel
theorem dL_act_245 : decode cL_act 245 = .ok (.isub, 1) := by decide +kernel
theorem dL_act_246 : decode cL_act 246 = .ok (.aload_n 1, 1) := by decide +kernel
theorem dL_act_247 : decode cL_act 247 = .ok (.invokestatic 50, 3) := by decide +kernel
theorem dL_act_250 : decode cL_act 250 = .ok (.iconst 4, 1) := by decide +kernel
theorem dL_act_251 : decode cL_act 251 = .ok (.irem, 1) := by decide +kernel
theorem dL_act_252 : decode cL_act 252 = .ok (.invokestatic 248, 3) := by decide +kernel
theorem dL_act_255 : decode cL_act 255 = .ok (.ifCond .lt 7, 3) := by decide +kernel
theorem dL_act_258 : decode cL_act 258 = .ok (.iconst 1, 1) := by decide +kernel
theorem dL_act_259 : decode cL_act 259 = .ok (.goto 4, 3) := by decide +kernel
theorem dL_act_262 : decode cL_act 262 = .ok (.iconst 0, 1) := by decide +kernel
theorem dL_act_263 : decode cL_act 263 = .ok (.ireturn, 1) := by decide +kernel
theorem dL_act_264 : decode cL_act 264 = .ok (.aload_n 0, 1) := by decide +kernel
theorem dL_act_265 : decode cL_act 265 = .ok (.iload_n 2, 1) := by decide +kernel
theorem dL_act_266 : decode cL_act 266 = .ok (.iload_n 3, 1) := by decide +kernel
theorem dL_act_267 : decode cL_act 267 = .ok (.invokestatic 252, 3) := by decide +kernel
theorem dL_act_270 : decode cL_act 270 = .ok (.ifCond .lt 7, 3) := by decide +kernel
theorem dL_act_273 : decode cL_act 273 = .ok (.iconst 1, 1) := by decide +kernel
theorem dL_act_274 : decode cL_act 274 = .ok (.goto 4, 3) := by decide +kernel
theorem dL_act_277 : decode cL_act 277 = .ok (.iconst 0, 1) := by decide +kernel
theorem dL_act_278 : decode cL_act 278 = .ok (.ireturn, 1) := by decide +kernel
theorem dL_act_279 : decode cL_act 279 = .ok (.aload_n 0, 1) := by decide +kernel
theorem dL_act_280 : decode cL_act 280 = .ok (.aload_n 1, 1) := by decide +kernel
theorem dL_act_281 : decode cL_act 281 = .ok (.invokestatic 50, 3) := by decide +kernel
theorem dL_act_284 : decode cL_act 284 = .ok (.iconst 2, 1) := by decide +kernel
theorem dL_act_285 : decode cL_act 285 = .ok (.irem, 1) := by decide +kernel
theorem dL_act_286 : decode cL_act 286 = .ok (.aload_n 1, 1) := by decide +kernel
theorem dL_act_287 : decode cL_act 287 = .ok (.invokestatic 50, 3) := by decide +kernel
theorem dL_act_290 : decode cL_act 290 = .ok (.sipush 1441, 3) := by decide +kernel
theorem dL_act_293 : decode cL_act 293 = .ok (.irem, 1) := by decide +kernel
theorem dL_act_294 : decode cL_act 294 = .ok (.sipush 720, 3) := by decide +kernel
theorem dL_act_297 : decode cL_act 297 = .ok (.isub, 1) := by decide +kernel
theorem dL_act_298 : decode cL_act 298 = .ok (.aload_n 1, 1) := by decide +kernel
theorem dL_act_299 : decode cL_act 299 = .ok (.invokestatic 50, 3) := by decide +kernel
theorem dL_act_302 : decode cL_act 302 = .ok (.iconst 2, 1) := by decide +kernel
theorem dL_act_303 : decode cL_act 303 = .ok (.irem, 1) := by decide +kernel
theorem dL_act_304 : decode cL_act 304 = .ok (.ifCond .ne 7, 3) := by decide +kernel
theorem dL_act_307 : decode cL_act 307 = .ok (.iconst (-1), 1) := by decide +kernel
theorem dL_act_308 : decode cL_act 308 = .ok (.goto 5, 3) := by decide +kernel
theorem dL_act_311 : decode cL_act 311 = .ok (.bipush 50, 2) := by decide +kernel
theorem dL_act_313 : decode cL_act 313 = .ok (.bipush 50, 2) := by decide +kernel
theorem dL_act_315 : decode cL_act 315 = .ok (.aload_n 1, 1) := by decide +kernel
theorem dL_act_316 : decode cL_act 316 = .ok (.invokestatic 50, 3) := by decide +kernel
theorem dL_act_319 : decode cL_act 319 = .ok (.sipush 200, 3) := by decide +kernel
theorem dL_act_322 : decode cL_act 322 = .ok (.irem, 1) := by decide +kernel
theorem dL_act_323 : decode cL_act 323 = .ok (.iadd, 1) := by decide +kernel
theorem dL_act_324 : decode cL_act 324 = .ok (.invokevirtual 256, 3) := by decide +kernel
theorem dL_act_327 : decode cL_act 327 = .ok (.aload_n 0, 1) := by decide +kernel
theorem dL_act_328 : decode cL_act 328 = .ok (.invokevirtual 134, 3) := by decide +kernel
theorem dL_act_331 : decode cL_act 331 = .ok (.if_icmp .ne 7, 3) := by decide +kernel
theorem dL_act_334 : decode cL_act 334 = .ok (.iconst 1, 1) := by decide +kernel
theorem dL_act_335 : decode cL_act 335 = .ok (.goto 4, 3) := by decide +kernel
theorem dL_act_338 : decode cL_act 338 = .ok (.iconst 0, 1) := by decide +kernel
theorem dL_act_339 : decode cL_act 339 = .ok (.ireturn, 1) := by decide +kernel
theorem dL_act_340 : decode cL_act 340 = .ok (.aload_n 0, 1) := by decide +kernel
theorem dL_act_341 : decode cL_act 341 = .ok (.iload_n 2, 1) := by decide +kernel
theorem dL_act_342 : decode cL_act 342 = .ok (.invokevirtual 224, 3) := by decide +kernel
theorem dL_act_345 : decode cL_act 345 = .ok (.ifCond .lt 7, 3) := by decide +kernel
theorem dL_act_348 : decode cL_act 348 = .ok (.iconst 1, 1) := by decide +kernel
theorem dL_act_349 : decode cL_act 349 = .ok (.goto 4, 3) := by decide +kernel
theorem dL_act_352 : decode cL_act 352 = .ok (.iconst 0, 1) := by decide +kernel
theorem dL_act_353 : decode cL_act 353 = .ok (.ireturn, 1) := by decide +kernel
theorem dL_act_354 : decode cL_act 354 = .ok (.aload_n 1, 1) := by decide +kernel
theorem dL_act_355 : decode cL_act 355 = .ok (.invokestatic 50, 3) := by decide +kernel
theorem dL_act_358 : decode cL_act 358 = .ok (.iconst 2, 1) := by decide +kernel
theorem dL_act_359 : decode cL_act 359 = .ok (.irem, 1) := by decide +kernel
theorem dL_act_360 : decode cL_act 360 = .ok (.ifCond .ne 19, 3) := by decide +kernel
theorem dL_act_363 : decode cL_act 363 = .ok (.aload_n 0, 1) := by decide +kernel
theorem dL_act_364 : decode cL_act 364 = .ok (.iload_n 2, 1) := by decide +kernel
theorem dL_act_365 : decode cL_act 365 = .ok (.invokevirtual 227, 3) := by decide +kernel
theorem dL_act_368 : decode cL_act 368 = .ok (.ifCond .lt 7, 3) := by decide +kernel
theorem dL_act_371 : decode cL_act 371 = .ok (.iconst 1, 1) := by decide +kernel
theorem dL_act_372 : decode cL_act 372 = .ok (.goto 28, 3) := by decide +kernel
theorem dL_act_375 : decode cL_act 375 = .ok (.iconst 0, 1) := by decide +kernel
theorem dL_act_376 : decode cL_act 376 = .ok (.goto 24, 3) := by decide +kernel
theorem dL_act_379 : decode cL_act 379 = .ok (.aload_n 0, 1) := by decide +kernel
theorem dL_act_380 : decode cL_act 380 = .ok (.iload_n 2, 1) := by decide +kernel
theorem dL_act_381 : decode cL_act 381 = .ok (.invokevirtual 230, 3) := by decide +kernel
theorem dL_act_384 : decode cL_act 384 = .ok (.ifCond .lt 15, 3) := by decide +kernel
theorem dL_act_387 : decode cL_act 387 = .ok (.aload_n 0, 1) := by decide +kernel
theorem dL_act_388 : decode cL_act 388 = .ok (.iload_n 2, 1) := by decide +kernel
theorem dL_act_389 : decode cL_act 389 = .ok (.invokevirtual 191, 3) := by decide +kernel
theorem dL_act_392 : decode cL_act 392 = .ok (.ifCond .eq 7, 3) := by decide +kernel
theorem dL_act_395 : decode cL_act 395 = .ok (.iconst 1, 1) := by decide +kernel
theorem dL_act_396 : decode cL_act 396 = .ok (.goto 4, 3) := by decide +kernel
theorem dL_act_399 : decode cL_act 399 = .ok (.iconst 0, 1) := by decide +kernel
theorem dL_act_400 : decode cL_act 400 = .ok (.ireturn, 1) := by decide +kernel
def pg_L_act (l : Launch) (g : EG) : List (Nat × ES) := [(0, s_ldP 1), (1, s_callS0 l g sg_L_act sg_L_next), (4, s_c (.inl 2)), (5, s_iid (fun x y => x - x / y * y) (fun _ y => ¬ y = 0)), (6, s_stI 2), (7, s_ldP 1), (8, s_callS0 l g sg_L_act sg_L_next), (11, s_c (.inl 8)), (13, s_iid (fun x y => x - x / y * y) (fun _ y => ¬ y = 0)), (14, s_stI 3), (15, s_ldP 1), (16, s_callS0 l g sg_L_act sg_L_next), (19, s_c (.inl 9)), (21, s_iid (fun x y => x - x / y * y) (fun _ y => ¬ y = 0)), (22, s_tab 0 [68, 114, 162, 183, 235, 264, 279, 340] 354), (68, s_ldP 0), (69, s_ldI 2), (70, s_ldI 3), (71, s_ldP 1), (72, s_callS0 l g sg_L_act sg_L_next), (75, s_c (.inl 100)), (77, s_iid (fun x y => x - x / y * y) (fun _ y => ¬ y = 0)), (78, s_ldP 1), (79, s_callS0 l g sg_L_act sg_L_next), (82, s_c (.inl 1440)), (85, s_iid (fun x y => x - x / y * y) (fun _ y => ¬ y = 0)), (86, s_c (.inl 1)), (87, s_ldP 1), (88, s_callS0 l g sg_L_act sg_L_next), (91, s_c (.inl 300)), (94, s_iid (fun x y => x - x / y * y) (fun _ y => ¬ y = 0)), (95, s_ii (fun x y => x + y)), (96, s_ldP 1), (97, s_callS0 l g sg_L_act sg_L_next), (100, s_c (.inl 2)), (101, s_iid (fun x y => x - x / y * y) (fun _ y => ¬ y = 0)), (102, s_callSL l g sg_L_act sg_L_made), (105, s_if_lt 112), (108, s_c (.inl 1)), (109, s_goto 113), (112, s_c (.inl 0)), (113, s_iretz), (114, s_ldP 0), (115, s_ldI 2), (116, s_ldI 3), (117, s_ldP 1), (118, s_callS0 l g sg_L_act sg_L_next), (121, s_c (.inl 4)), (122, s_iid (fun x y => x - x / y * y) (fun _ y => ¬ y = 0)), (123, s_c (.inl 1)), (124, s_ldP 1), (125, s_callS0 l g sg_L_act sg_L_next), (128, s_c (.inl 9)), (130, s_iid (fun x y => x - x / y * y) (fun _ y => ¬ y = 0)), (131, s_ii (fun x y => x + y)), (132, s_c (.inl 1)), (133, s_ldP 1), (134, s_callS0 l g sg_L_act sg_L_next), (137, s_c (.inl 127)), (139, s_iid (fun x y => x - x / y * y) (fun _ y => ¬ y = 0)), (140, s_ii (fun x y => x + y)), (141, s_c (.inl 1)), (142, s_ldP 1), (143, s_callS0 l g sg_L_act sg_L_next), (146, s_c (.inl 30)), (148, s_iid (fun x y => x - x / y * y) (fun _ y => ¬ y = 0)), (149, s_ii (fun x y => x + y)), (150, s_callSL l g sg_L_act sg_L_repeated), (153, s_if_lt 160), (156, s_c (.inl 1)), (157, s_goto 161), (160, s_c (.inl 0)), (161, s_iretz), (162, s_ldP 0), (163, s_ldI 2), (164, s_ldI 3), (165, s_ldP 1), (166, s_callS0 l g sg_L_act sg_L_next), (169, s_c (.inl 4)), (170, s_iid (fun x y => x - x / y * y) (fun _ y => ¬ y = 0)), (171, s_callSL l g sg_L_act sg_L_cancelled), (174, s_if_lt 181), (177, s_c (.inl 1)), (178, s_goto 182), (181, s_c (.inl 0)), (182, s_iretz), (183, s_ldP 0), (184, s_ldI 2), (185, s_ldI 3), (186, s_ldP 1), (187, s_callS0 l g sg_L_act sg_L_next), (190, s_c (.inl 4)), (191, s_iid (fun x y => x - x / y * y) (fun _ y => ¬ y = 0)), (192, s_ldP 1), (193, s_callS0 l g sg_L_act sg_L_next), (196, s_c (.inl 5)), (197, s_iid (fun x y => x - x / y * y) (fun _ y => ¬ y = 0)), (198, s_if_ne 205), (201, s_c (.inl (-1))), (202, s_goto 213), (205, s_ldP 1), (206, s_callS0 l g sg_L_act sg_L_next), (209, s_c (.inl 200)), (212, s_iid (fun x y => x - x / y * y) (fun _ y => ¬ y = 0)), (213, s_ldP 1), (214, s_callS0 l g sg_L_act sg_L_next), (217, s_c (.inl 1440)), (220, s_iid (fun x y => x - x / y * y) (fun _ y => ¬ y = 0)), (221, s_callSL l g sg_L_act sg_L_moved), (224, s_c (.inl (-2147483648))), (226, s_icmp_eq 233), (229, s_c (.inl 1)), (230, s_goto 234), (233, s_c (.inl 0)), (234, s_iretz), (235, s_ldP 0), (236, s_ldI 2), (237, s_ldI 3), (238, s_ldP 1), (239, s_callS0 l g sg_L_act sg_L_next), (242, s_c (.inl 5)), (243, s_iid (fun x y => x - x / y * y) (fun _ y => ¬ y = 0)), (244, s_c (.inl 1)), (245, s_ii (fun x y => x - y)), (246, s_ldP 1), (247, s_callS0 l g sg_L_act sg_L_next), (250, s_c (.inl 4)), (251, s_iid (fun x y => x - x / y * y) (fun _ y => ¬ y = 0)), (252, s_callSL l g sg_L_act sg_L_replied), (255, s_if_lt 262), (258, s_c (.inl 1)), (259, s_goto 263), (262, s_c (.inl 0)), (263, s_iretz), (264, s_ldP 0), (265, s_ldI 2), (266, s_ldI 3), (267, s_callSL l g sg_L_act sg_L_removed), (270, s_if_lt 277), (273, s_c (.inl 1)), (274, s_goto 278), (277, s_c (.inl 0)), (278, s_iretz), (279, s_ldP 0), (280, s_ldP 1), (281, s_callS0 l g sg_L_act sg_L_next), (284, s_c (.inl 2)), (285, s_iid (fun x y => x - x / y * y) (fun _ y => ¬ y = 0)), (286, s_ldP 1), (287, s_callS0 l g sg_L_act sg_L_next), (290, s_c (.inl 1441)), (293, s_iid (fun x y => x - x / y * y) (fun _ y => ¬ y = 0)), (294, s_c (.inl 720)), (297, s_ii (fun x y => x - y)), (298, s_ldP 1), (299, s_callS0 l g sg_L_act sg_L_next), (302, s_c (.inl 2)), (303, s_iid (fun x y => x - x / y * y) (fun _ y => ¬ y = 0)), (304, s_if_ne 311), (307, s_c (.inl (-1))), (308, s_goto 313), (311, s_c (.inl 50)), (313, s_c (.inl 50)), (315, s_ldP 1), (316, s_callS0 l g sg_L_act sg_L_next), (319, s_c (.inl 200)), (322, s_iid (fun x y => x - x / y * y) (fun _ y => ¬ y = 0)), (323, s_ii (fun x y => x + y)), (324, s_callVL l g sg_L_act sg_X10_setZone 9), (327, s_ldP 0), (328, s_callVL l g sg_L_act sg_X10_clock 9), (331, s_icmp_ne 338), (334, s_c (.inl 1)), (335, s_goto 339), (338, s_c (.inl 0)), (339, s_iretz), (340, s_ldP 0), (341, s_ldI 2), (342, s_callVL l g sg_L_act sg_X10_push 9), (345, s_if_lt 352), (348, s_c (.inl 1)), (349, s_goto 353), (352, s_c (.inl 0)), (353, s_iretz), (354, s_ldP 1), (355, s_callS0 l g sg_L_act sg_L_next), (358, s_c (.inl 2)), (359, s_iid (fun x y => x - x / y * y) (fun _ y => ¬ y = 0)), (360, s_if_ne 379), (363, s_ldP 0), (364, s_ldI 2), (365, s_callVL l g sg_L_act sg_X10_pull 9), (368, s_if_lt 375), (371, s_c (.inl 1)), (372, s_goto 400), (375, s_c (.inl 0)), (376, s_goto 400), (379, s_ldP 0), (380, s_ldI 2), (381, s_callVL l g sg_L_act sg_X10_sync 9), (384, s_if_lt 399), (387, s_ldP 0), (388, s_ldI 2), (389, s_callVL l g sg_L_act sg_X10_isSame 9), (392, s_if_eq 399), (395, s_c (.inl 1)), (396, s_goto 400), (399, s_c (.inl 0)), (400, s_iretz)]
set_option maxRecDepth 100000 in
theorem ok_L_act {l : Launch} {g : EG} : e_okp l g sg_L_act "CalendarSyncLaw" (pg_L_act l g) := fun p e R s m args below meth c ex M0 Q X =>
    e_each_cons (r_aload_n X (k := 1) (i := 1) rfl dL_act_0 rfl)
    (e_each_cons (r_callS0 X (τ := sg_L_next) (index := 50) dL_act_1 yw3_100 yw3_101 cs_L_next rfl ⟨by decide, by decide⟩ rfl)
    (e_each_cons (r_iconst X (n := 2) (v := 2) dL_act_4 (by decide) rfl)
    (e_each_cons (r_irem X dL_act_5 rfl)
    (e_each_cons (r_istore_n X (k := 2) (i := 2) rfl dL_act_6 (by decide) rfl)
    (e_each_cons (r_aload_n X (k := 1) (i := 1) rfl dL_act_7 rfl)
    (e_each_cons (r_callS0 X (τ := sg_L_next) (index := 50) dL_act_8 yw3_100 yw3_101 cs_L_next rfl ⟨by decide, by decide⟩ rfl)
    (e_each_cons (r_bipush X (n := 8) (v := 8) dL_act_11 (by decide) rfl)
    (e_each_cons (r_irem X dL_act_13 rfl)
    (e_each_cons (r_istore_n X (k := 3) (i := 3) rfl dL_act_14 (by decide) rfl)
    (e_each_cons (r_aload_n X (k := 1) (i := 1) rfl dL_act_15 rfl)
    (e_each_cons (r_callS0 X (τ := sg_L_next) (index := 50) dL_act_16 yw3_100 yw3_101 cs_L_next rfl ⟨by decide, by decide⟩ rfl)
    (e_each_cons (r_bipush X (n := 9) (v := 9) dL_act_19 (by decide) rfl)
    (e_each_cons (r_irem X dL_act_21 rfl)
    (e_each_cons (r_tab X (dflt := 332) (lo := 0) (hi := 7) (ts := [68, 114, 162, 183, 235, 264, 279, 340]) (dt := 354) dL_act_22 (by decide) (by decide) (by decide))
    (e_each_cons (r_aload_n X (k := 0) (i := 0) rfl dL_act_68 rfl)
    (e_each_cons (r_iload_n X (k := 2) (i := 2) rfl dL_act_69 rfl)
    (e_each_cons (r_iload_n X (k := 3) (i := 3) rfl dL_act_70 rfl)
    (e_each_cons (r_aload_n X (k := 1) (i := 1) rfl dL_act_71 rfl)
    (e_each_cons (r_callS0 X (τ := sg_L_next) (index := 50) dL_act_72 yw3_100 yw3_101 cs_L_next rfl ⟨by decide, by decide⟩ rfl)
    (e_each_cons (r_bipush X (n := 100) (v := 100) dL_act_75 (by decide) rfl)
    (e_each_cons (r_irem X dL_act_77 rfl)
    (e_each_cons (r_aload_n X (k := 1) (i := 1) rfl dL_act_78 rfl)
    (e_each_cons (r_callS0 X (τ := sg_L_next) (index := 50) dL_act_79 yw3_100 yw3_101 cs_L_next rfl ⟨by decide, by decide⟩ rfl)
    (e_each_cons (r_sipush X (n := 1440) (v := 1440) dL_act_82 (by decide) rfl)
    (e_each_cons (r_irem X dL_act_85 rfl)
    (e_each_cons (r_iconst X (n := 1) (v := 1) dL_act_86 (by decide) rfl)
    (e_each_cons (r_aload_n X (k := 1) (i := 1) rfl dL_act_87 rfl)
    (e_each_cons (r_callS0 X (τ := sg_L_next) (index := 50) dL_act_88 yw3_100 yw3_101 cs_L_next rfl ⟨by decide, by decide⟩ rfl)
    (e_each_cons (r_sipush X (n := 300) (v := 300) dL_act_91 (by decide) rfl)
    (e_each_cons (r_irem X dL_act_94 rfl)
    (e_each_cons (r_iadd X dL_act_95 rfl)
    (e_each_cons (r_aload_n X (k := 1) (i := 1) rfl dL_act_96 rfl)
    (e_each_cons (r_callS0 X (τ := sg_L_next) (index := 50) dL_act_97 yw3_100 yw3_101 cs_L_next rfl ⟨by decide, by decide⟩ rfl)
    (e_each_cons (r_iconst X (n := 2) (v := 2) dL_act_100 (by decide) rfl)
    (e_each_cons (r_irem X dL_act_101 rfl)
    (e_each_cons (r_callSHL X (τ := sg_L_made) (index := 233) dL_act_102 yw6_143 yw6_144 cs_L_made rfl ⟨by decide, by decide⟩ rfl)
    (e_each_cons (r_if_lt X (off := 7) (t := 112) dL_act_105 (by decide) rfl)
    (e_each_cons (r_iconst X (n := 1) (v := 1) dL_act_108 (by decide) rfl)
    (e_each_cons (r_goto X (off := 4) (t := 113) dL_act_109 (by decide))
    (e_each_cons (r_iconst X (n := 0) (v := 0) dL_act_112 (by decide) rfl)
    (e_each_cons (r_iretz X dL_act_113 rfl)
    (e_each_cons (r_aload_n X (k := 0) (i := 0) rfl dL_act_114 rfl)
    (e_each_cons (r_iload_n X (k := 2) (i := 2) rfl dL_act_115 rfl)
    (e_each_cons (r_iload_n X (k := 3) (i := 3) rfl dL_act_116 rfl)
    (e_each_cons (r_aload_n X (k := 1) (i := 1) rfl dL_act_117 rfl)
    (e_each_cons (r_callS0 X (τ := sg_L_next) (index := 50) dL_act_118 yw3_100 yw3_101 cs_L_next rfl ⟨by decide, by decide⟩ rfl)
    (e_each_cons (r_iconst X (n := 4) (v := 4) dL_act_121 (by decide) rfl)
    (e_each_cons (r_irem X dL_act_122 rfl)
    (e_each_cons (r_iconst X (n := 1) (v := 1) dL_act_123 (by decide) rfl)
    (e_each_cons (r_aload_n X (k := 1) (i := 1) rfl dL_act_124 rfl)
    (e_each_cons (r_callS0 X (τ := sg_L_next) (index := 50) dL_act_125 yw3_100 yw3_101 cs_L_next rfl ⟨by decide, by decide⟩ rfl)
    (e_each_cons (r_bipush X (n := 9) (v := 9) dL_act_128 (by decide) rfl)
    (e_each_cons (r_irem X dL_act_130 rfl)
    (e_each_cons (r_iadd X dL_act_131 rfl)
    (e_each_cons (r_iconst X (n := 1) (v := 1) dL_act_132 (by decide) rfl)
    (e_each_cons (r_aload_n X (k := 1) (i := 1) rfl dL_act_133 rfl)
    (e_each_cons (r_callS0 X (τ := sg_L_next) (index := 50) dL_act_134 yw3_100 yw3_101 cs_L_next rfl ⟨by decide, by decide⟩ rfl)
    (e_each_cons (r_bipush X (n := 127) (v := 127) dL_act_137 (by decide) rfl)
    (e_each_cons (r_irem X dL_act_139 rfl)
    (e_each_cons (r_iadd X dL_act_140 rfl)
    (e_each_cons (r_iconst X (n := 1) (v := 1) dL_act_141 (by decide) rfl)
    (e_each_cons (r_aload_n X (k := 1) (i := 1) rfl dL_act_142 rfl)
    (e_each_cons (r_callS0 X (τ := sg_L_next) (index := 50) dL_act_143 yw3_100 yw3_101 cs_L_next rfl ⟨by decide, by decide⟩ rfl)
    (e_each_cons (r_bipush X (n := 30) (v := 30) dL_act_146 (by decide) rfl)
    (e_each_cons (r_irem X dL_act_148 rfl)
    (e_each_cons (r_iadd X dL_act_149 rfl)
    (e_each_cons (r_callSHL X (τ := sg_L_repeated) (index := 237) dL_act_150 yw6_156 yw6_157 cs_L_repeated rfl ⟨by decide, by decide⟩ rfl)
    (e_each_cons (r_if_lt X (off := 7) (t := 160) dL_act_153 (by decide) rfl)
    (e_each_cons (r_iconst X (n := 1) (v := 1) dL_act_156 (by decide) rfl)
    (e_each_cons (r_goto X (off := 4) (t := 161) dL_act_157 (by decide))
    (e_each_cons (r_iconst X (n := 0) (v := 0) dL_act_160 (by decide) rfl)
    (e_each_cons (r_iretz X dL_act_161 rfl)
    (e_each_cons (r_aload_n X (k := 0) (i := 0) rfl dL_act_162 rfl)
    (e_each_cons (r_iload_n X (k := 2) (i := 2) rfl dL_act_163 rfl)
    (e_each_cons (r_iload_n X (k := 3) (i := 3) rfl dL_act_164 rfl)
    (e_each_cons (r_aload_n X (k := 1) (i := 1) rfl dL_act_165 rfl)
    (e_each_cons (r_callS0 X (τ := sg_L_next) (index := 50) dL_act_166 yw3_100 yw3_101 cs_L_next rfl ⟨by decide, by decide⟩ rfl)
    (e_each_cons (r_iconst X (n := 4) (v := 4) dL_act_169 (by decide) rfl)
    (e_each_cons (r_irem X dL_act_170 rfl)
    (e_each_cons (r_callSHL X (τ := sg_L_cancelled) (index := 240) dL_act_171 yw6_165 yw6_166 cs_L_cancelled rfl ⟨by decide, by decide⟩ rfl)
    (e_each_cons (r_if_lt X (off := 7) (t := 181) dL_act_174 (by decide) rfl)
    (e_each_cons (r_iconst X (n := 1) (v := 1) dL_act_177 (by decide) rfl)
    (e_each_cons (r_goto X (off := 4) (t := 182) dL_act_178 (by decide))
    (e_each_cons (r_iconst X (n := 0) (v := 0) dL_act_181 (by decide) rfl)
    (e_each_cons (r_iretz X dL_act_182 rfl)
    (e_each_cons (r_aload_n X (k := 0) (i := 0) rfl dL_act_183 rfl)
    (e_each_cons (r_iload_n X (k := 2) (i := 2) rfl dL_act_184 rfl)
    (e_each_cons (r_iload_n X (k := 3) (i := 3) rfl dL_act_185 rfl)
    (e_each_cons (r_aload_n X (k := 1) (i := 1) rfl dL_act_186 rfl)
    (e_each_cons (r_callS0 X (τ := sg_L_next) (index := 50) dL_act_187 yw3_100 yw3_101 cs_L_next rfl ⟨by decide, by decide⟩ rfl)
    (e_each_cons (r_iconst X (n := 4) (v := 4) dL_act_190 (by decide) rfl)
    (e_each_cons (r_irem X dL_act_191 rfl)
    (e_each_cons (r_aload_n X (k := 1) (i := 1) rfl dL_act_192 rfl)
    (e_each_cons (r_callS0 X (τ := sg_L_next) (index := 50) dL_act_193 yw3_100 yw3_101 cs_L_next rfl ⟨by decide, by decide⟩ rfl)
    (e_each_cons (r_iconst X (n := 5) (v := 5) dL_act_196 (by decide) rfl)
    (e_each_cons (r_irem X dL_act_197 rfl)
    (e_each_cons (r_if_ne X (off := 7) (t := 205) dL_act_198 (by decide) rfl)
    (e_each_cons (r_iconst X (n := (-1)) (v := (-1)) dL_act_201 (by decide) rfl)
    (e_each_cons (r_goto X (off := 11) (t := 213) dL_act_202 (by decide))
    (e_each_cons (r_aload_n X (k := 1) (i := 1) rfl dL_act_205 rfl)
    (e_each_cons (r_callS0 X (τ := sg_L_next) (index := 50) dL_act_206 yw3_100 yw3_101 cs_L_next rfl ⟨by decide, by decide⟩ rfl)
    (e_each_cons (r_sipush X (n := 200) (v := 200) dL_act_209 (by decide) rfl)
    (e_each_cons (r_irem X dL_act_212 rfl)
    (e_each_cons (r_aload_n X (k := 1) (i := 1) rfl dL_act_213 rfl)
    (e_each_cons (r_callS0 X (τ := sg_L_next) (index := 50) dL_act_214 yw3_100 yw3_101 cs_L_next rfl ⟨by decide, by decide⟩ rfl)
    (e_each_cons (r_sipush X (n := 1440) (v := 1440) dL_act_217 (by decide) rfl)
    (e_each_cons (r_irem X dL_act_220 rfl)
    (e_each_cons (r_callSHL X (τ := sg_L_moved) (index := 244) dL_act_221 yw6_174 yw6_175 cs_L_moved rfl ⟨by decide, by decide⟩ rfl)
    (e_each_cons (r_ldc X (n := 125) (v := (-2147483648)) dL_act_224 yw6_17 rfl)
    (e_each_cons (r_icmp_eq X (off := 7) (t := 233) dL_act_226 (by decide) rfl)
    (e_each_cons (r_iconst X (n := 1) (v := 1) dL_act_229 (by decide) rfl)
    (e_each_cons (r_goto X (off := 4) (t := 234) dL_act_230 (by decide))
    (e_each_cons (r_iconst X (n := 0) (v := 0) dL_act_233 (by decide) rfl)
    (e_each_cons (r_iretz X dL_act_234 rfl)
    (e_each_cons (r_aload_n X (k := 0) (i := 0) rfl dL_act_235 rfl)
    (e_each_cons (r_iload_n X (k := 2) (i := 2) rfl dL_act_236 rfl)
    (e_each_cons (r_iload_n X (k := 3) (i := 3) rfl dL_act_237 rfl)
    (e_each_cons (r_aload_n X (k := 1) (i := 1) rfl dL_act_238 rfl)
    (e_each_cons (r_callS0 X (τ := sg_L_next) (index := 50) dL_act_239 yw3_100 yw3_101 cs_L_next rfl ⟨by decide, by decide⟩ rfl)
    (e_each_cons (r_iconst X (n := 5) (v := 5) dL_act_242 (by decide) rfl)
    (e_each_cons (r_irem X dL_act_243 rfl)
    (e_each_cons (r_iconst X (n := 1) (v := 1) dL_act_244 (by decide) rfl)
    (e_each_cons (r_isub X dL_act_245 rfl)
    (e_each_cons (r_aload_n X (k := 1) (i := 1) rfl dL_act_246 rfl)
    (e_each_cons (r_callS0 X (τ := sg_L_next) (index := 50) dL_act_247 yw3_100 yw3_101 cs_L_next rfl ⟨by decide, by decide⟩ rfl)
    (e_each_cons (r_iconst X (n := 4) (v := 4) dL_act_250 (by decide) rfl)
    (e_each_cons (r_irem X dL_act_251 rfl)
    (e_each_cons (r_callSHL X (τ := sg_L_replied) (index := 248) dL_act_252 yw6_182 yw6_183 cs_L_replied rfl ⟨by decide, by decide⟩ rfl)
    (e_each_cons (r_if_lt X (off := 7) (t := 262) dL_act_255 (by decide) rfl)
    (e_each_cons (r_iconst X (n := 1) (v := 1) dL_act_258 (by decide) rfl)
    (e_each_cons (r_goto X (off := 4) (t := 263) dL_act_259 (by decide))
    (e_each_cons (r_iconst X (n := 0) (v := 0) dL_act_262 (by decide) rfl)
    (e_each_cons (r_iretz X dL_act_263 rfl)
    (e_each_cons (r_aload_n X (k := 0) (i := 0) rfl dL_act_264 rfl)
    (e_each_cons (r_iload_n X (k := 2) (i := 2) rfl dL_act_265 rfl)
    (e_each_cons (r_iload_n X (k := 3) (i := 3) rfl dL_act_266 rfl)
    (e_each_cons (r_callSHL X (τ := sg_L_removed) (index := 252) dL_act_267 yw6_200 yw6_201 cs_L_removed rfl ⟨by decide, by decide⟩ rfl)
    (e_each_cons (r_if_lt X (off := 7) (t := 277) dL_act_270 (by decide) rfl)
    (e_each_cons (r_iconst X (n := 1) (v := 1) dL_act_273 (by decide) rfl)
    (e_each_cons (r_goto X (off := 4) (t := 278) dL_act_274 (by decide))
    (e_each_cons (r_iconst X (n := 0) (v := 0) dL_act_277 (by decide) rfl)
    (e_each_cons (r_iretz X dL_act_278 rfl)
    (e_each_cons (r_aload_n X (k := 0) (i := 0) rfl dL_act_279 rfl)
    (e_each_cons (r_aload_n X (k := 1) (i := 1) rfl dL_act_280 rfl)
    (e_each_cons (r_callS0 X (τ := sg_L_next) (index := 50) dL_act_281 yw3_100 yw3_101 cs_L_next rfl ⟨by decide, by decide⟩ rfl)
    (e_each_cons (r_iconst X (n := 2) (v := 2) dL_act_284 (by decide) rfl)
    (e_each_cons (r_irem X dL_act_285 rfl)
    (e_each_cons (r_aload_n X (k := 1) (i := 1) rfl dL_act_286 rfl)
    (e_each_cons (r_callS0 X (τ := sg_L_next) (index := 50) dL_act_287 yw3_100 yw3_101 cs_L_next rfl ⟨by decide, by decide⟩ rfl)
    (e_each_cons (r_sipush X (n := 1441) (v := 1441) dL_act_290 (by decide) rfl)
    (e_each_cons (r_irem X dL_act_293 rfl)
    (e_each_cons (r_sipush X (n := 720) (v := 720) dL_act_294 (by decide) rfl)
    (e_each_cons (r_isub X dL_act_297 rfl)
    (e_each_cons (r_aload_n X (k := 1) (i := 1) rfl dL_act_298 rfl)
    (e_each_cons (r_callS0 X (τ := sg_L_next) (index := 50) dL_act_299 yw3_100 yw3_101 cs_L_next rfl ⟨by decide, by decide⟩ rfl)
    (e_each_cons (r_iconst X (n := 2) (v := 2) dL_act_302 (by decide) rfl)
    (e_each_cons (r_irem X dL_act_303 rfl)
    (e_each_cons (r_if_ne X (off := 7) (t := 311) dL_act_304 (by decide) rfl)
    (e_each_cons (r_iconst X (n := (-1)) (v := (-1)) dL_act_307 (by decide) rfl)
    (e_each_cons (r_goto X (off := 5) (t := 313) dL_act_308 (by decide))
    (e_each_cons (r_bipush X (n := 50) (v := 50) dL_act_311 (by decide) rfl)
    (e_each_cons (r_bipush X (n := 50) (v := 50) dL_act_313 (by decide) rfl)
    (e_each_cons (r_aload_n X (k := 1) (i := 1) rfl dL_act_315 rfl)
    (e_each_cons (r_callS0 X (τ := sg_L_next) (index := 50) dL_act_316 yw3_100 yw3_101 cs_L_next rfl ⟨by decide, by decide⟩ rfl)
    (e_each_cons (r_sipush X (n := 200) (v := 200) dL_act_319 (by decide) rfl)
    (e_each_cons (r_irem X dL_act_322 rfl)
    (e_each_cons (r_iadd X dL_act_323 rfl)
    (e_each_cons (r_callVL X rfl (τ := sg_X10_setZone) (index := 256) (ci := 9) dL_act_324 (by decide) rfl yw6_207 yw6_208 yw6_209 cs_X10_setZone rfl ⟨by decide, by decide⟩ rfl)
    (e_each_cons (r_aload_n X (k := 0) (i := 0) rfl dL_act_327 rfl)
    (e_each_cons (r_callVL X rfl (τ := sg_X10_clock) (index := 134) (ci := 9) dL_act_328 (by decide) rfl yw3_20 yw3_21 yw3_22 cs_X10_clock rfl ⟨by decide, by decide⟩ rfl)
    (e_each_cons (r_icmp_ne X (off := 7) (t := 338) dL_act_331 (by decide) rfl)
    (e_each_cons (r_iconst X (n := 1) (v := 1) dL_act_334 (by decide) rfl)
    (e_each_cons (r_goto X (off := 4) (t := 339) dL_act_335 (by decide))
    (e_each_cons (r_iconst X (n := 0) (v := 0) dL_act_338 (by decide) rfl)
    (e_each_cons (r_iretz X dL_act_339 rfl)
    (e_each_cons (r_aload_n X (k := 0) (i := 0) rfl dL_act_340 rfl)
    (e_each_cons (r_iload_n X (k := 2) (i := 2) rfl dL_act_341 rfl)
    (e_each_cons (r_callVL X rfl (τ := sg_X10_push) (index := 224) (ci := 9) dL_act_342 (by decide) rfl yw6_94 yw6_95 yw6_96 cs_X10_push rfl ⟨by decide, by decide⟩ rfl)
    (e_each_cons (r_if_lt X (off := 7) (t := 352) dL_act_345 (by decide) rfl)
    (e_each_cons (r_iconst X (n := 1) (v := 1) dL_act_348 (by decide) rfl)
    (e_each_cons (r_goto X (off := 4) (t := 353) dL_act_349 (by decide))
    (e_each_cons (r_iconst X (n := 0) (v := 0) dL_act_352 (by decide) rfl)
    (e_each_cons (r_iretz X dL_act_353 rfl)
    (e_each_cons (r_aload_n X (k := 1) (i := 1) rfl dL_act_354 rfl)
    (e_each_cons (r_callS0 X (τ := sg_L_next) (index := 50) dL_act_355 yw3_100 yw3_101 cs_L_next rfl ⟨by decide, by decide⟩ rfl)
    (e_each_cons (r_iconst X (n := 2) (v := 2) dL_act_358 (by decide) rfl)
    (e_each_cons (r_irem X dL_act_359 rfl)
    (e_each_cons (r_if_ne X (off := 19) (t := 379) dL_act_360 (by decide) rfl)
    (e_each_cons (r_aload_n X (k := 0) (i := 0) rfl dL_act_363 rfl)
    (e_each_cons (r_iload_n X (k := 2) (i := 2) rfl dL_act_364 rfl)
    (e_each_cons (r_callVL X rfl (τ := sg_X10_pull) (index := 227) (ci := 9) dL_act_365 (by decide) rfl yw6_125 yw6_126 yw6_127 cs_X10_pull rfl ⟨by decide, by decide⟩ rfl)
    (e_each_cons (r_if_lt X (off := 7) (t := 375) dL_act_368 (by decide) rfl)
    (e_each_cons (r_iconst X (n := 1) (v := 1) dL_act_371 (by decide) rfl)
    (e_each_cons (r_goto X (off := 28) (t := 400) dL_act_372 (by decide))
    (e_each_cons (r_iconst X (n := 0) (v := 0) dL_act_375 (by decide) rfl)
    (e_each_cons (r_goto X (off := 24) (t := 400) dL_act_376 (by decide))
    (e_each_cons (r_aload_n X (k := 0) (i := 0) rfl dL_act_379 rfl)
    (e_each_cons (r_iload_n X (k := 2) (i := 2) rfl dL_act_380 rfl)
    (e_each_cons (r_callVL X rfl (τ := sg_X10_sync) (index := 230) (ci := 9) dL_act_381 (by decide) rfl yw6_136 yw6_137 yw6_138 cs_X10_sync rfl ⟨by decide, by decide⟩ rfl)
    (e_each_cons (r_if_lt X (off := 15) (t := 399) dL_act_384 (by decide) rfl)
    (e_each_cons (r_aload_n X (k := 0) (i := 0) rfl dL_act_387 rfl)
    (e_each_cons (r_iload_n X (k := 2) (i := 2) rfl dL_act_388 rfl)
    (e_each_cons (r_callVL X rfl (τ := sg_X10_isSame) (index := 191) (ci := 9) dL_act_389 (by decide) rfl yw2_204 yw2_205 yw2_206 cs_X10_isSame rfl ⟨by decide, by decide⟩ rfl)
    (e_each_cons (r_if_eq X (off := 7) (t := 399) dL_act_392 (by decide) rfl)
    (e_each_cons (r_iconst X (n := 1) (v := 1) dL_act_395 (by decide) rfl)
    (e_each_cons (r_goto X (off := 4) (t := 400) dL_act_396 (by decide))
    (e_each_cons (r_iconst X (n := 0) (v := 0) dL_act_399 (by decide) rfl)
    (e_each_cons (r_iretz X dL_act_400 rfl)
    (e_each_nil)))))))))))))))))))))))))))))))))))))))))))))))))))))))))))))))))))))))))))))))))))))))))))))))))))))))))))))))))))))))))))))))))))))))))))))))))))))))))))))))))))))))))))))))))))))))))))))))))))))))))))))))))
def sg_L_law : SG := (yL_law, cL_law, 13, (some .boolean), 16, 622, 600074, 7301550, 1, false, [])
theorem dL_law_0 : decode cL_law 0 = .ok (.new 19, 3) := by decide +kernel
theorem dL_law_3 : decode cL_law 3 = .ok (.dup, 1) := by decide +kernel
theorem dL_law_4 : decode cL_law 4 = .ok (.invokespecial 185, 3) := by decide +kernel
theorem dL_law_7 : decode cL_law 7 = .ok (.astore_n 1, 1) := by decide +kernel
theorem dL_law_8 : decode cL_law 8 = .ok (.iconst 1, 1) := by decide +kernel
theorem dL_law_9 : decode cL_law 9 = .ok (.newarray .int, 2) := by decide +kernel
theorem dL_law_11 : decode cL_law 11 = .ok (.dup, 1) := by decide +kernel
theorem dL_law_12 : decode cL_law 12 = .ok (.iconst 0, 1) := by decide +kernel
theorem dL_law_13 : decode cL_law 13 = .ok (.aload_n 0, 1) := by decide +kernel
theorem dL_law_14 : decode cL_law 14 = .ok (.arraylength, 1) := by decide +kernel
theorem dL_law_15 : decode cL_law 15 = .ok (.ifCond .ne 9, 3) := by decide +kernel
theorem dL_law_18 : decode cL_law 18 = .ok (.sipush 5809, 3) := by decide +kernel
theorem dL_law_21 : decode cL_law 21 = .ok (.goto 6, 3) := by decide +kernel
theorem dL_law_24 : decode cL_law 24 = .ok (.aload_n 0, 1) := by decide +kernel
theorem dL_law_25 : decode cL_law 25 = .ok (.iconst 0, 1) := by decide +kernel
theorem dL_law_26 : decode cL_law 26 = .ok (.iaload, 1) := by decide +kernel
theorem dL_law_27 : decode cL_law 27 = .ok (.iastore, 1) := by decide +kernel
theorem dL_law_28 : decode cL_law 28 = .ok (.astore_n 2, 1) := by decide +kernel
theorem dL_law_29 : decode cL_law 29 = .ok (.iconst 1, 1) := by decide +kernel
theorem dL_law_30 : decode cL_law 30 = .ok (.istore_n 3, 1) := by decide +kernel
theorem dL_law_31 : decode cL_law 31 = .ok (.iconst 0, 1) := by decide +kernel
theorem dL_law_32 : decode cL_law 32 = .ok (.istore 4, 2) := by decide +kernel
theorem dL_law_34 : decode cL_law 34 = .ok (.iload 4, 2) := by decide +kernel
theorem dL_law_36 : decode cL_law 36 = .ok (.iconst 4, 1) := by decide +kernel
theorem dL_law_37 : decode cL_law 37 = .ok (.if_icmp .ge 327, 3) := by decide +kernel
theorem dL_law_40 : decode cL_law 40 = .ok (.iload_n 3, 1) := by decide +kernel
theorem dL_law_41 : decode cL_law 41 = .ok (.ifCond .eq 323, 3) := by decide +kernel
theorem dL_law_44 : decode cL_law 44 = .ok (.aload_n 2, 1) := by decide +kernel
theorem dL_law_45 : decode cL_law 45 = .ok (.iconst 0, 1) := by decide +kernel
theorem dL_law_46 : decode cL_law 46 = .ok (.dup2, 1) := by decide +kernel
theorem dL_law_47 : decode cL_law 47 = .ok (.iaload, 1) := by decide +kernel
theorem dL_law_48 : decode cL_law 48 = .ok (.iload 4, 2) := by decide +kernel
theorem dL_law_50 : decode cL_law 50 = .ok (.aload_n 0, 1) := by decide +kernel
theorem dL_law_51 : decode cL_law 51 = .ok (.arraylength, 1) := by decide +kernel
theorem dL_law_52 : decode cL_law 52 = .ok (.if_icmp .ge 10, 3) := by decide +kernel
theorem dL_law_55 : decode cL_law 55 = .ok (.aload_n 0, 1) := by decide +kernel
theorem dL_law_56 : decode cL_law 56 = .ok (.iload 4, 2) := by decide +kernel
theorem dL_law_58 : decode cL_law 58 = .ok (.iaload, 1) := by decide +kernel
theorem dL_law_59 : decode cL_law 59 = .ok (.goto 4, 3) := by decide +kernel
theorem dL_law_62 : decode cL_law 62 = .ok (.iconst 0, 1) := by decide +kernel
theorem dL_law_63 : decode cL_law 63 = .ok (.ixor, 1) := by decide +kernel
theorem dL_law_64 : decode cL_law 64 = .ok (.iastore, 1) := by decide +kernel
theorem dL_law_65 : decode cL_law 65 = .ok (.aload_n 1, 1) := by decide +kernel
theorem dL_law_66 : decode cL_law 66 = .ok (.aload_n 2, 1) := by decide +kernel
theorem dL_law_67 : decode cL_law 67 = .ok (.invokestatic 186, 3) := by decide +kernel
theorem dL_law_70 : decode cL_law 70 = .ok (.invokestatic 189, 3) := by decide +kernel
theorem dL_law_73 : decode cL_law 73 = .ok (.istore 5, 2) := by decide +kernel
theorem dL_law_75 : decode cL_law 75 = .ok (.iload 5, 2) := by decide +kernel
theorem dL_law_77 : decode cL_law 77 = .ok (.ifCond .lt 61, 3) := by decide +kernel
theorem dL_law_80 : decode cL_law 80 = .ok (.aload_n 1, 1) := by decide +kernel
theorem dL_law_81 : decode cL_law 81 = .ok (.iconst 0, 1) := by decide +kernel
theorem dL_law_82 : decode cL_law 82 = .ok (.invokevirtual 142, 3) := by decide +kernel
theorem dL_law_85 : decode cL_law 85 = .ok (.iconst 1, 1) := by decide +kernel
theorem dL_law_86 : decode cL_law 86 = .ok (.iload 5, 2) := by decide +kernel
theorem dL_law_88 : decode cL_law 88 = .ok (.ishl, 1) := by decide +kernel
theorem dL_law_89 : decode cL_law 89 = .ok (.iconst 1, 1) := by decide +kernel
theorem dL_law_90 : decode cL_law 90 = .ok (.isub, 1) := by decide +kernel
theorem dL_law_91 : decode cL_law 91 = .ok (.if_icmp .ne 47, 3) := by decide +kernel
theorem dL_law_94 : decode cL_law 94 = .ok (.aload_n 1, 1) := by decide +kernel
theorem dL_law_95 : decode cL_law 95 = .ok (.iconst 0, 1) := by decide +kernel
theorem dL_law_96 : decode cL_law 96 = .ok (.invokevirtual 191, 3) := by decide +kernel
theorem dL_law_99 : decode cL_law 99 = .ok (.ifCond .eq 39, 3) := by decide +kernel
theorem dL_law_102 : decode cL_law 102 = .ok (.aload_n 1, 1) := by decide +kernel
theorem dL_law_103 : decode cL_law 103 = .ok (.iconst 1, 1) := by decide +kernel
theorem dL_law_104 : decode cL_law 104 = .ok (.invokevirtual 191, 3) := by decide +kernel
theorem dL_law_107 : decode cL_law 107 = .ok (.ifCond .eq 31, 3) := by decide +kernel
theorem dL_law_110 : decode cL_law 110 = .ok (.aload_n 1, 1) := by decide +kernel
theorem dL_law_111 : decode cL_law 111 = .ok (.invokevirtual 134, 3) := by decide +kernel
theorem dL_law_114 : decode cL_law 114 = .ok (.ifCond .ne 24, 3) := by decide +kernel
theorem dL_law_117 : decode cL_law 117 = .ok (.aload_n 1, 1) := by decide +kernel
theorem dL_law_118 : decode cL_law 118 = .ok (.iconst 0, 1) := by decide +kernel
theorem dL_law_119 : decode cL_law 119 = .ok (.invokevirtual 195, 3) := by decide +kernel
theorem dL_law_122 : decode cL_law 122 = .ok (.ifCond .ne 16, 3) := by decide +kernel
theorem dL_law_125 : decode cL_law 125 = .ok (.aload_n 1, 1) := by decide +kernel
theorem dL_law_126 : decode cL_law 126 = .ok (.iconst 2, 1) := by decide +kernel
theorem dL_law_127 : decode cL_law 127 = .ok (.aload_n 2, 1) := by decide +kernel
theorem dL_law_128 : decode cL_law 128 = .ok (.invokestatic 198, 3) := by decide +kernel
theorem dL_law_131 : decode cL_law 131 = .ok (.ifCond .eq 7, 3) := by decide +kernel
theorem dL_law_134 : decode cL_law 134 = .ok (.iconst 1, 1) := by decide +kernel
theorem dL_law_135 : decode cL_law 135 = .ok (.goto 4, 3) := by decide +kernel
theorem dL_law_138 : decode cL_law 138 = .ok (.iconst 0, 1) := by decide +kernel
theorem dL_law_139 : decode cL_law 139 = .ok (.istore_n 3, 1) := by decide +kernel
theorem dL_law_140 : decode cL_law 140 = .ok (.aload_n 1, 1) := by decide +kernel
theorem dL_law_141 : decode cL_law 141 = .ok (.invokestatic 202, 3) := by decide +kernel
theorem dL_law_144 : decode cL_law 144 = .ok (.lstore 6, 2) := by decide +kernel
theorem dL_law_146 : decode cL_law 146 = .ok (.iconst 0, 1) := by decide +kernel
theorem dL_law_147 : decode cL_law 147 = .ok (.istore 8, 2) := by decide +kernel
theorem dL_law_149 : decode cL_law 149 = .ok (.iload 8, 2) := by decide +kernel
theorem dL_law_151 : decode cL_law 151 = .ok (.bipush 12, 2) := by decide +kernel
theorem dL_law_153 : decode cL_law 153 = .ok (.if_icmp .ge 152, 3) := by decide +kernel
theorem dL_law_156 : decode cL_law 156 = .ok (.iload_n 3, 1) := by decide +kernel
theorem dL_law_157 : decode cL_law 157 = .ok (.ifCond .eq 148, 3) := by decide +kernel
theorem dL_law_160 : decode cL_law 160 = .ok (.aload_n 1, 1) := by decide +kernel
theorem dL_law_161 : decode cL_law 161 = .ok (.invokestatic 202, 3) := by decide +kernel
theorem dL_law_164 : decode cL_law 164 = .ok (.lstore 9, 2) := by decide +kernel
theorem dL_law_166 : decode cL_law 166 = .ok (.aload_n 1, 1) := by decide +kernel
theorem dL_law_167 : decode cL_law 167 = .ok (.invokevirtual 134, 3) := by decide +kernel
theorem dL_law_170 : decode cL_law 170 = .ok (.istore 11, 2) := by decide +kernel
theorem dL_law_172 : decode cL_law 172 = .ok (.aload_n 1, 1) := by decide +kernel
theorem dL_law_173 : decode cL_law 173 = .ok (.aload_n 2, 1) := by decide +kernel
theorem dL_law_174 : decode cL_law 174 = .ok (.invokestatic 206, 3) := by decide +kernel
theorem dL_law_177 : decode cL_law 177 = .ok (.istore 12, 2) := by decide +kernel
theorem dL_law_179 : decode cL_law 179 = .ok (.iload 12, 2) := by decide +kernel
theorem dL_law_181 : decode cL_law 181 = .ok (.ifCond .ne 13, 3) := by decide +kernel
theorem dL_law_184 : decode cL_law 184 = .ok (.aload_n 1, 1) := by decide +kernel
theorem dL_law_185 : decode cL_law 185 = .ok (.invokestatic 202, 3) := by decide +kernel
theorem dL_law_188 : decode cL_law 188 = .ok (.lload 9, 2) := by decide +kernel
theorem dL_law_190 : decode cL_law 190 = .ok (.lcmp, 1) := by decide +kernel
theorem dL_law_191 : decode cL_law 191 = .ok (.ifCond .ne 65, 3) := by decide +kernel
theorem dL_law_194 : decode cL_law 194 = .ok (.aload_n 1, 1) := by decide +kernel
theorem dL_law_195 : decode cL_law 195 = .ok (.invokevirtual 134, 3) := by decide +kernel
theorem dL_law_198 : decode cL_law 198 = .ok (.iload 11, 2) := by decide +kernel
theorem dL_law_200 : decode cL_law 200 = .ok (.if_icmp .lt 56, 3) := by decide +kernel
theorem dL_law_203 : decode cL_law 203 = .ok (.aload_n 1, 1) := by decide +kernel
theorem dL_law_204 : decode cL_law 204 = .ok (.iconst 0, 1) := by decide +kernel
theorem dL_law_205 : decode cL_law 205 = .ok (.iconst 0, 1) := by decide +kernel
theorem dL_law_206 : decode cL_law 206 = .ok (.invokevirtual 156, 3) := by decide +kernel
theorem dL_law_209 : decode cL_law 209 = .ok (.aload_n 1, 1) := by decide +kernel
theorem dL_law_210 : decode cL_law 210 = .ok (.invokevirtual 134, 3) := by decide +kernel
theorem dL_law_213 : decode cL_law 213 = .ok (.if_icmp .gt 43, 3) := by decide +kernel
theorem dL_law_216 : decode cL_law 216 = .ok (.aload_n 1, 1) := by decide +kernel
theorem dL_law_217 : decode cL_law 217 = .ok (.iconst 1, 1) := by decide +kernel
theorem dL_law_218 : decode cL_law 218 = .ok (.iconst 0, 1) := by decide +kernel
theorem dL_law_219 : decode cL_law 219 = .ok (.invokevirtual 156, 3) := by decide +kernel
theorem dL_law_222 : decode cL_law 222 = .ok (.aload_n 1, 1) := by decide +kernel
theorem dL_law_223 : decode cL_law 223 = .ok (.invokevirtual 134, 3) := by decide +kernel
theorem dL_law_226 : decode cL_law 226 = .ok (.if_icmp .gt 30, 3) := by decide +kernel
theorem dL_law_229 : decode cL_law 229 = .ok (.aload_n 2, 1) := by decide +kernel
theorem dL_law_230 : decode cL_law 230 = .ok (.invokestatic 50, 3) := by decide +kernel
theorem dL_law_233 : decode cL_law 233 = .ok (.iconst 4, 1) := by decide +kernel
theorem dL_law_234 : decode cL_law 234 = .ok (.irem, 1) := by decide +kernel
theorem dL_law_235 : decode cL_law 235 = .ok (.ifCond .gt 17, 3) := by decide +kernel
theorem dL_law_238 : decode cL_law 238 = .ok (.aload_n 1, 1) := by decide +kernel
theorem dL_law_239 : decode cL_law 239 = .ok (.aload_n 2, 1) := by decide +kernel
theorem dL_law_240 : decode cL_law 240 = .ok (.invokestatic 50, 3) := by decide +kernel
theorem dL_law_243 : decode cL_law 243 = .ok (.iconst 3, 1) := by decide +kernel
theorem dL_law_244 : decode cL_law 244 = .ok (.irem, 1) := by decide +kernel
theorem dL_law_245 : decode cL_law 245 = .ok (.aload_n 2, 1) := by decide +kernel
theorem dL_law_246 : decode cL_law 246 = .ok (.invokestatic 198, 3) := by decide +kernel
theorem dL_law_249 : decode cL_law 249 = .ok (.ifCond .eq 7, 3) := by decide +kernel
theorem dL_law_252 : decode cL_law 252 = .ok (.iconst 1, 1) := by decide +kernel
theorem dL_law_253 : decode cL_law 253 = .ok (.goto 4, 3) := by decide +kernel
theorem dL_law_256 : decode cL_law 256 = .ok (.iconst 0, 1) := by decide +kernel
theorem dL_law_257 : decode cL_law 257 = .ok (.istore_n 3, 1) := by decide +kernel
theorem dL_law_258 : decode cL_law 258 = .ok (.iload_n 3, 1) := by decide +kernel
theorem dL_law_259 : decode cL_law 259 = .ok (.ifCond .eq 40, 3) := by decide +kernel
theorem dL_law_262 : decode cL_law 262 = .ok (.iload 12, 2) := by decide +kernel
theorem dL_law_264 : decode cL_law 264 = .ok (.ifCond .eq 35, 3) := by decide +kernel
theorem dL_law_267 : decode cL_law 267 = .ok (.aload_n 2, 1) := by decide +kernel
theorem dL_law_268 : decode cL_law 268 = .ok (.invokestatic 50, 3) := by decide +kernel
theorem dL_law_271 : decode cL_law 271 = .ok (.iconst 4, 1) := by decide +kernel
theorem dL_law_272 : decode cL_law 272 = .ok (.irem, 1) := by decide +kernel
theorem dL_law_273 : decode cL_law 273 = .ok (.ifCond .ne 26, 3) := by decide +kernel
theorem dL_law_276 : decode cL_law 276 = .ok (.aload_n 1, 1) := by decide +kernel
theorem dL_law_277 : decode cL_law 277 = .ok (.invokestatic 210, 3) := by decide +kernel
theorem dL_law_280 : decode cL_law 280 = .ok (.ifCond .lt 17, 3) := by decide +kernel
theorem dL_law_283 : decode cL_law 283 = .ok (.aload_n 1, 1) := by decide +kernel
theorem dL_law_284 : decode cL_law 284 = .ok (.invokestatic 202, 3) := by decide +kernel
theorem dL_law_287 : decode cL_law 287 = .ok (.lload 9, 2) := by decide +kernel
theorem dL_law_289 : decode cL_law 289 = .ok (.lcmp, 1) := by decide +kernel
theorem dL_law_290 : decode cL_law 290 = .ok (.ifCond .ne 7, 3) := by decide +kernel
theorem dL_law_293 : decode cL_law 293 = .ok (.iconst 1, 1) := by decide +kernel
theorem dL_law_294 : decode cL_law 294 = .ok (.goto 4, 3) := by decide +kernel
theorem dL_law_297 : decode cL_law 297 = .ok (.iconst 0, 1) := by decide +kernel
theorem dL_law_298 : decode cL_law 298 = .ok (.istore_n 3, 1) := by decide +kernel
theorem dL_law_299 : decode cL_law 299 = .ok (.iinc 8 1, 3) := by decide +kernel
theorem dL_law_302 : decode cL_law 302 = .ok (.goto (-153), 3) := by decide +kernel
theorem dL_law_305 : decode cL_law 305 = .ok (.iload_n 3, 1) := by decide +kernel
theorem dL_law_306 : decode cL_law 306 = .ok (.ifCond .eq 50, 3) := by decide +kernel
theorem dL_law_309 : decode cL_law 309 = .ok (.aload_n 1, 1) := by decide +kernel
theorem dL_law_310 : decode cL_law 310 = .ok (.iconst 0, 1) := by decide +kernel
theorem dL_law_311 : decode cL_law 311 = .ok (.invokestatic 214, 3) := by decide +kernel
theorem dL_law_314 : decode cL_law 314 = .ok (.ifCond .eq 42, 3) := by decide +kernel
theorem dL_law_317 : decode cL_law 317 = .ok (.aload_n 1, 1) := by decide +kernel
theorem dL_law_318 : decode cL_law 318 = .ok (.iconst 1, 1) := by decide +kernel
theorem dL_law_319 : decode cL_law 319 = .ok (.invokestatic 214, 3) := by decide +kernel
theorem dL_law_322 : decode cL_law 322 = .ok (.ifCond .eq 34, 3) := by decide +kernel
theorem dL_law_325 : decode cL_law 325 = .ok (.aload_n 1, 1) := by decide +kernel
theorem dL_law_326 : decode cL_law 326 = .ok (.iconst 0, 1) := by decide +kernel
theorem dL_law_327 : decode cL_law 327 = .ok (.invokevirtual 218, 3) := by decide +kernel
theorem dL_law_330 : decode cL_law 330 = .ok (.ifCond .ne 26, 3) := by decide +kernel
theorem dL_law_333 : decode cL_law 333 = .ok (.aload_n 1, 1) := by decide +kernel
theorem dL_law_334 : decode cL_law 334 = .ok (.invokestatic 202, 3) := by decide +kernel
theorem dL_law_337 : decode cL_law 337 = .ok (.lload 6, 2) := by decide +kernel
theorem dL_law_339 : decode cL_law 339 = .ok (.lcmp, 1) := by decide +kernel
theorem dL_law_340 : decode cL_law 340 = .ok (.ifCond .ne 16, 3) := by decide +kernel
theorem dL_law_343 : decode cL_law 343 = .ok (.aload_n 1, 1) := by decide +kernel
theorem dL_law_344 : decode cL_law 344 = .ok (.invokestatic 210, 3) := by decide +kernel
theorem dL_law_347 : decode cL_law 347 = .ok (.bipush (-2), 2) := by decide +kernel
theorem dL_law_349 : decode cL_law 349 = .ok (.if_icmp .ne 7, 3) := by decide +kernel
theorem dL_law_352 : decode cL_law 352 = .ok (.iconst 1, 1) := by decide +kernel
theorem dL_law_353 : decode cL_law 353 = .ok (.goto 4, 3) := by decide +kernel
theorem dL_law_356 : decode cL_law 356 = .ok (.iconst 0, 1) := by decide +kernel
theorem dL_law_357 : decode cL_law 357 = .ok (.istore_n 3, 1) := by decide +kernel
theorem dL_law_358 : decode cL_law 358 = .ok (.iinc 4 1, 3) := by decide +kernel
theorem dL_law_361 : decode cL_law 361 = .ok (.goto (-327), 3) := by decide +kernel
theorem dL_law_364 : decode cL_law 364 = .ok (.iload_n 3, 1) := by decide +kernel
theorem dL_law_365 : decode cL_law 365 = .ok (.ireturn, 1) := by decide +kernel
def pg_L_law (l : Launch) (g : EG) (L : Nat) (xs : Nat → Int32) : List (Nat × ES) := [(0, s_new sg_L_law 9 101), (3, s_dup), (4, s_callI l g sg_L_law sg_X10_init), (7, s_stP 1), (8, s_c (.inl 1)), (9, s_newaL sg_L_law 52 1), (11, s_dup), (12, s_c (.inl 0)), (13, s_ldP 0), (14, s_xlen L), (15, s_if_ne 24), (18, s_c (.inl 5809)), (21, s_goto 27), (24, s_ldP 0), (25, s_c (.inl 0)), (26, s_xald L xs), (27, s_iast), (28, s_stP 2), (29, s_c (.inl 1)), (30, s_stI 3), (31, s_c (.inl 0)), (32, s_stI 4), (34, s_ldI 4), (36, s_c (.inl 4)), (37, s_icmp_ge 364), (40, s_ldI 3), (41, s_if_eq 364), (44, s_ldP 2), (45, s_c (.inl 0)), (46, s_dup2), (47, s_iald), (48, s_ldI 4), (50, s_ldP 0), (51, s_xlen L), (52, s_icmp_ge 62), (55, s_ldP 0), (56, s_ldI 4), (58, s_xald L xs), (59, s_goto 63), (62, s_c (.inl 0)), (63, s_ii (fun x y => x ^^^ y)), (64, s_iast), (65, s_ldP 1), (66, s_ldP 2), (67, s_callSL l g sg_L_law sg_L_calendar), (70, s_callSL l g sg_L_law sg_L_load), (73, s_stI 5), (75, s_ldI 5), (77, s_if_lt 138), (80, s_ldP 1), (81, s_c (.inl 0)), (82, s_callVL l g sg_L_law sg_X10_events 9), (85, s_c (.inl 1)), (86, s_ldI 5), (88, s_ii (fun x y => x <<< (y &&& 31))), (89, s_c (.inl 1)), (90, s_ii (fun x y => x - y)), (91, s_icmp_ne 138), (94, s_ldP 1), (95, s_c (.inl 0)), (96, s_callVL l g sg_L_law sg_X10_isSame 9), (99, s_if_eq 138), (102, s_ldP 1), (103, s_c (.inl 1)), (104, s_callVL l g sg_L_law sg_X10_isSame 9), (107, s_if_eq 138), (110, s_ldP 1), (111, s_callVL l g sg_L_law sg_X10_clock 9), (114, s_if_ne 138), (117, s_ldP 1), (118, s_c (.inl 0)), (119, s_callVL l g sg_L_law sg_X10_keep 9), (122, s_if_ne 138), (125, s_ldP 1), (126, s_c (.inl 2)), (127, s_ldP 2), (128, s_callS0 l g sg_L_law sg_L_place), (131, s_if_eq 138), (134, s_c (.inl 1)), (135, s_goto 139), (138, s_c (.inl 0)), (139, s_stI 3), (140, s_ldP 1), (141, s_callS0 l g sg_L_law sg_L_sum), (144, s_stL 6), (146, s_c (.inl 0)), (147, s_stI 8), (149, s_ldI 8), (151, s_c (.inl 12)), (153, s_icmp_ge 305), (156, s_ldI 3), (157, s_if_eq 305), (160, s_ldP 1), (161, s_callS0 l g sg_L_law sg_L_sum), (164, s_stL 9), (166, s_ldP 1), (167, s_callVL l g sg_L_law sg_X10_clock 9), (170, s_stI 11), (172, s_ldP 1), (173, s_ldP 2), (174, s_callSL l g sg_L_law sg_L_act), (177, s_stI 12), (179, s_ldI 12), (181, s_if_ne 194), (184, s_ldP 1), (185, s_callS0 l g sg_L_law sg_L_sum), (188, s_ldL 9), (190, s_lc lg_cmp), (191, s_if_ne 256), (194, s_ldP 1), (195, s_callVL l g sg_L_law sg_X10_clock 9), (198, s_ldI 11), (200, s_icmp_lt 256), (203, s_ldP 1), (204, s_c (.inl 0)), (205, s_c (.inl 0)), (206, s_callVL l g sg_L_law sg_X10_side 9), (209, s_ldP 1), (210, s_callVL l g sg_L_law sg_X10_clock 9), (213, s_icmp_gt 256), (216, s_ldP 1), (217, s_c (.inl 1)), (218, s_c (.inl 0)), (219, s_callVL l g sg_L_law sg_X10_side 9), (222, s_ldP 1), (223, s_callVL l g sg_L_law sg_X10_clock 9), (226, s_icmp_gt 256), (229, s_ldP 2), (230, s_callS0 l g sg_L_law sg_L_next), (233, s_c (.inl 4)), (234, s_iid (fun x y => x - x / y * y) (fun _ y => ¬ y = 0)), (235, s_if_gt 252), (238, s_ldP 1), (239, s_ldP 2), (240, s_callS0 l g sg_L_law sg_L_next), (243, s_c (.inl 3)), (244, s_iid (fun x y => x - x / y * y) (fun _ y => ¬ y = 0)), (245, s_ldP 2), (246, s_callS0 l g sg_L_law sg_L_place), (249, s_if_eq 256), (252, s_c (.inl 1)), (253, s_goto 257), (256, s_c (.inl 0)), (257, s_stI 3), (258, s_ldI 3), (259, s_if_eq 299), (262, s_ldI 12), (264, s_if_eq 299), (267, s_ldP 2), (268, s_callS0 l g sg_L_law sg_L_next), (271, s_c (.inl 4)), (272, s_iid (fun x y => x - x / y * y) (fun _ y => ¬ y = 0)), (273, s_if_ne 299), (276, s_ldP 1), (277, s_callSL l g sg_L_law sg_L_undone), (280, s_if_lt 297), (283, s_ldP 1), (284, s_callS0 l g sg_L_law sg_L_sum), (287, s_ldL 9), (289, s_lc lg_cmp), (290, s_if_ne 297), (293, s_c (.inl 1)), (294, s_goto 298), (297, s_c (.inl 0)), (298, s_stI 3), (299, s_iinc 8 1), (302, s_goto 149), (305, s_ldI 3), (306, s_if_eq 356), (309, s_ldP 1), (310, s_c (.inl 0)), (311, s_callSL l g sg_L_law sg_L_exchanges), (314, s_if_eq 356), (317, s_ldP 1), (318, s_c (.inl 1)), (319, s_callSL l g sg_L_law sg_L_exchanges), (322, s_if_eq 356), (325, s_ldP 1), (326, s_c (.inl 0)), (327, s_callVL l g sg_L_law sg_X10_restore 9), (330, s_if_ne 356), (333, s_ldP 1), (334, s_callS0 l g sg_L_law sg_L_sum), (337, s_ldL 6), (339, s_lc lg_cmp), (340, s_if_ne 356), (343, s_ldP 1), (344, s_callSL l g sg_L_law sg_L_undone), (347, s_c (.inl (-2))), (349, s_icmp_ne 356), (352, s_c (.inl 1)), (353, s_goto 357), (356, s_c (.inl 0)), (357, s_stI 3), (358, s_iinc 4 1), (361, s_goto 34), (364, s_ldI 3), (365, s_iretz)]
def e_okpL (l : Launch) (g : EG) (b L : Nat) (xs : Nat → Int32) (prog : List (Nat × ES)) : Prop :=
  ∀ (p : Program) (e : Env) (R : Room) (s : State) (m : MethodId) (args : Array Value) (below : List Frame) (meth : Method) (c : Code) (ex : Option Nat) (M0 : EM) (Q : EO → EM → Prop),
    Cx p l g sg_L_law R s m args meth c "CalendarSyncLaw" → e_scr g b L xs s → e_each (fun pc np f => RowOk p l e g sg_L_law R s m args below meth c ex M0 Q pc np f) prog
set_option maxRecDepth 100000 in
theorem ok_L_law {l : Launch} {g : EG} {b L : Nat} {xs : Nat → Int32} : e_okpL l g b L xs (pg_L_law l g L xs) := fun p e R s m args below meth c ex M0 Q X hX =>
    e_each_cons (r_new X (index := 19) (ci := 9) (t := 101) dL_law_0 (by decide) rfl (fun _ => rfl) yw1_31 yw1_32 w1_1 uw_9 rfl)
    (e_each_cons (r_dup X dL_law_3 rfl)
    (e_each_cons (r_callI X rfl (τ := sg_X10_init) (index := 185) dL_law_4 yw1_33 yw1_34 cs_X10_init rfl rfl rfl rfl ⟨by decide, by decide⟩ rfl)
    (e_each_cons (r_astore_n X (k := 1) (i := 1) rfl dL_law_7 (by decide) rfl)
    (e_each_cons (r_iconst X (n := 1) (v := 1) dL_law_8 (by decide) rfl)
    (e_each_cons (r_newaL (r_newa X (ai := 0) (t := 52) (n := 1) dL_law_9 rfl (fun _ => rfl) rfl (Or.inl ⟨rfl, rfl⟩) w1_159 (by decide) (by decide) rfl))
    (e_each_cons (r_dup X dL_law_11 rfl)
    (e_each_cons (r_iconst X (n := 0) (v := 0) dL_law_12 (by decide) rfl)
    (e_each_cons (r_aload_n X (k := 0) (i := 0) rfl dL_law_13 rfl)
    (e_each_cons (r_xlen X hX dL_law_14 rfl)
    (e_each_cons (r_if_ne X (off := 9) (t := 24) dL_law_15 (by decide) rfl)
    (e_each_cons (r_sipush X (n := 5809) (v := 5809) dL_law_18 (by decide) rfl)
    (e_each_cons (r_goto X (off := 6) (t := 27) dL_law_21 (by decide))
    (e_each_cons (r_aload_n X (k := 0) (i := 0) rfl dL_law_24 rfl)
    (e_each_cons (r_iconst X (n := 0) (v := 0) dL_law_25 (by decide) rfl)
    (e_each_cons (r_xald X hX dL_law_26 rfl)
    (e_each_cons (r_iast X dL_law_27 rfl)
    (e_each_cons (r_astore_n X (k := 2) (i := 2) rfl dL_law_28 (by decide) rfl)
    (e_each_cons (r_iconst X (n := 1) (v := 1) dL_law_29 (by decide) rfl)
    (e_each_cons (r_istore_n X (k := 3) (i := 3) rfl dL_law_30 (by decide) rfl)
    (e_each_cons (r_iconst X (n := 0) (v := 0) dL_law_31 (by decide) rfl)
    (e_each_cons (r_istore X (i := 4) dL_law_32 (by decide) rfl)
    (e_each_cons (r_iload X (i := 4) dL_law_34 rfl)
    (e_each_cons (r_iconst X (n := 4) (v := 4) dL_law_36 (by decide) rfl)
    (e_each_cons (r_icmp_ge X (off := 327) (t := 364) dL_law_37 (by decide) rfl)
    (e_each_cons (r_iload_n X (k := 3) (i := 3) rfl dL_law_40 rfl)
    (e_each_cons (r_if_eq X (off := 323) (t := 364) dL_law_41 (by decide) rfl)
    (e_each_cons (r_aload_n X (k := 2) (i := 2) rfl dL_law_44 rfl)
    (e_each_cons (r_iconst X (n := 0) (v := 0) dL_law_45 (by decide) rfl)
    (e_each_cons (r_dup2 X dL_law_46 rfl)
    (e_each_cons (r_iald X dL_law_47 rfl)
    (e_each_cons (r_iload X (i := 4) dL_law_48 rfl)
    (e_each_cons (r_aload_n X (k := 0) (i := 0) rfl dL_law_50 rfl)
    (e_each_cons (r_xlen X hX dL_law_51 rfl)
    (e_each_cons (r_icmp_ge X (off := 10) (t := 62) dL_law_52 (by decide) rfl)
    (e_each_cons (r_aload_n X (k := 0) (i := 0) rfl dL_law_55 rfl)
    (e_each_cons (r_iload X (i := 4) dL_law_56 rfl)
    (e_each_cons (r_xald X hX dL_law_58 rfl)
    (e_each_cons (r_goto X (off := 4) (t := 63) dL_law_59 (by decide))
    (e_each_cons (r_iconst X (n := 0) (v := 0) dL_law_62 (by decide) rfl)
    (e_each_cons (r_ixor X dL_law_63 rfl)
    (e_each_cons (r_iast X dL_law_64 rfl)
    (e_each_cons (r_aload_n X (k := 1) (i := 1) rfl dL_law_65 rfl)
    (e_each_cons (r_aload_n X (k := 2) (i := 2) rfl dL_law_66 rfl)
    (e_each_cons (r_callSL X (τ := sg_L_calendar) (index := 186) dL_law_67 yw4_128 yw4_129 cs_L_calendar rfl ⟨by decide, by decide⟩ rfl)
    (e_each_cons (r_callSHL X (τ := sg_L_load) (index := 189) dL_law_70 yw3_104 yw3_105 cs_L_load rfl ⟨by decide, by decide⟩ rfl)
    (e_each_cons (r_istore X (i := 5) dL_law_73 (by decide) rfl)
    (e_each_cons (r_iload X (i := 5) dL_law_75 rfl)
    (e_each_cons (r_if_lt X (off := 61) (t := 138) dL_law_77 (by decide) rfl)
    (e_each_cons (r_aload_n X (k := 1) (i := 1) rfl dL_law_80 rfl)
    (e_each_cons (r_iconst X (n := 0) (v := 0) dL_law_81 (by decide) rfl)
    (e_each_cons (r_callVL X rfl (τ := sg_X10_events) (index := 142) (ci := 9) dL_law_82 (by decide) rfl yw2_118 yw2_119 yw2_120 cs_X10_events rfl ⟨by decide, by decide⟩ rfl)
    (e_each_cons (r_iconst X (n := 1) (v := 1) dL_law_85 (by decide) rfl)
    (e_each_cons (r_iload X (i := 5) dL_law_86 rfl)
    (e_each_cons (r_ishl X dL_law_88 rfl)
    (e_each_cons (r_iconst X (n := 1) (v := 1) dL_law_89 (by decide) rfl)
    (e_each_cons (r_isub X dL_law_90 rfl)
    (e_each_cons (r_icmp_ne X (off := 47) (t := 138) dL_law_91 (by decide) rfl)
    (e_each_cons (r_aload_n X (k := 1) (i := 1) rfl dL_law_94 rfl)
    (e_each_cons (r_iconst X (n := 0) (v := 0) dL_law_95 (by decide) rfl)
    (e_each_cons (r_callVL X rfl (τ := sg_X10_isSame) (index := 191) (ci := 9) dL_law_96 (by decide) rfl yw2_204 yw2_205 yw2_206 cs_X10_isSame rfl ⟨by decide, by decide⟩ rfl)
    (e_each_cons (r_if_eq X (off := 39) (t := 138) dL_law_99 (by decide) rfl)
    (e_each_cons (r_aload_n X (k := 1) (i := 1) rfl dL_law_102 rfl)
    (e_each_cons (r_iconst X (n := 1) (v := 1) dL_law_103 (by decide) rfl)
    (e_each_cons (r_callVL X rfl (τ := sg_X10_isSame) (index := 191) (ci := 9) dL_law_104 (by decide) rfl yw2_204 yw2_205 yw2_206 cs_X10_isSame rfl ⟨by decide, by decide⟩ rfl)
    (e_each_cons (r_if_eq X (off := 31) (t := 138) dL_law_107 (by decide) rfl)
    (e_each_cons (r_aload_n X (k := 1) (i := 1) rfl dL_law_110 rfl)
    (e_each_cons (r_callVL X rfl (τ := sg_X10_clock) (index := 134) (ci := 9) dL_law_111 (by decide) rfl yw3_20 yw3_21 yw3_22 cs_X10_clock rfl ⟨by decide, by decide⟩ rfl)
    (e_each_cons (r_if_ne X (off := 24) (t := 138) dL_law_114 (by decide) rfl)
    (e_each_cons (r_aload_n X (k := 1) (i := 1) rfl dL_law_117 rfl)
    (e_each_cons (r_iconst X (n := 0) (v := 0) dL_law_118 (by decide) rfl)
    (e_each_cons (r_callVL X rfl (τ := sg_X10_keep) (index := 195) (ci := 9) dL_law_119 (by decide) rfl yw3_39 yw3_40 yw3_41 cs_X10_keep rfl ⟨by decide, by decide⟩ rfl)
    (e_each_cons (r_if_ne X (off := 16) (t := 138) dL_law_122 (by decide) rfl)
    (e_each_cons (r_aload_n X (k := 1) (i := 1) rfl dL_law_125 rfl)
    (e_each_cons (r_iconst X (n := 2) (v := 2) dL_law_126 (by decide) rfl)
    (e_each_cons (r_aload_n X (k := 2) (i := 2) rfl dL_law_127 rfl)
    (e_each_cons (r_callS0 X (τ := sg_L_place) (index := 198) dL_law_128 yw5_234 yw5_235 cs_L_place rfl ⟨by decide, by decide⟩ rfl)
    (e_each_cons (r_if_eq X (off := 7) (t := 138) dL_law_131 (by decide) rfl)
    (e_each_cons (r_iconst X (n := 1) (v := 1) dL_law_134 (by decide) rfl)
    (e_each_cons (r_goto X (off := 4) (t := 139) dL_law_135 (by decide))
    (e_each_cons (r_iconst X (n := 0) (v := 0) dL_law_138 (by decide) rfl)
    (e_each_cons (r_istore_n X (k := 3) (i := 3) rfl dL_law_139 (by decide) rfl)
    (e_each_cons (r_aload_n X (k := 1) (i := 1) rfl dL_law_140 rfl)
    (e_each_cons (r_callS0 X (τ := sg_L_sum) (index := 202) dL_law_141 yw5_160 yw5_161 cs_L_sum rfl ⟨by decide, by decide⟩ rfl)
    (e_each_cons (r_lstore X (i := 6) dL_law_144 (by decide) rfl)
    (e_each_cons (r_iconst X (n := 0) (v := 0) dL_law_146 (by decide) rfl)
    (e_each_cons (r_istore X (i := 8) dL_law_147 (by decide) rfl)
    (e_each_cons (r_iload X (i := 8) dL_law_149 rfl)
    (e_each_cons (r_bipush X (n := 12) (v := 12) dL_law_151 (by decide) rfl)
    (e_each_cons (r_icmp_ge X (off := 152) (t := 305) dL_law_153 (by decide) rfl)
    (e_each_cons (r_iload_n X (k := 3) (i := 3) rfl dL_law_156 rfl)
    (e_each_cons (r_if_eq X (off := 148) (t := 305) dL_law_157 (by decide) rfl)
    (e_each_cons (r_aload_n X (k := 1) (i := 1) rfl dL_law_160 rfl)
    (e_each_cons (r_callS0 X (τ := sg_L_sum) (index := 202) dL_law_161 yw5_160 yw5_161 cs_L_sum rfl ⟨by decide, by decide⟩ rfl)
    (e_each_cons (r_lstore X (i := 9) dL_law_164 (by decide) rfl)
    (e_each_cons (r_aload_n X (k := 1) (i := 1) rfl dL_law_166 rfl)
    (e_each_cons (r_callVL X rfl (τ := sg_X10_clock) (index := 134) (ci := 9) dL_law_167 (by decide) rfl yw3_20 yw3_21 yw3_22 cs_X10_clock rfl ⟨by decide, by decide⟩ rfl)
    (e_each_cons (r_istore X (i := 11) dL_law_170 (by decide) rfl)
    (e_each_cons (r_aload_n X (k := 1) (i := 1) rfl dL_law_172 rfl)
    (e_each_cons (r_aload_n X (k := 2) (i := 2) rfl dL_law_173 rfl)
    (e_each_cons (r_callSL X (τ := sg_L_act) (index := 206) dL_law_174 yw6_140 yw6_141 cs_L_act rfl ⟨by decide, by decide⟩ rfl)
    (e_each_cons (r_istore X (i := 12) dL_law_177 (by decide) rfl)
    (e_each_cons (r_iload X (i := 12) dL_law_179 rfl)
    (e_each_cons (r_if_ne X (off := 13) (t := 194) dL_law_181 (by decide) rfl)
    (e_each_cons (r_aload_n X (k := 1) (i := 1) rfl dL_law_184 rfl)
    (e_each_cons (r_callS0 X (τ := sg_L_sum) (index := 202) dL_law_185 yw5_160 yw5_161 cs_L_sum rfl ⟨by decide, by decide⟩ rfl)
    (e_each_cons (r_lload X (i := 9) dL_law_188 rfl)
    (e_each_cons (r_lcmp X dL_law_190 rfl)
    (e_each_cons (r_if_ne X (off := 65) (t := 256) dL_law_191 (by decide) rfl)
    (e_each_cons (r_aload_n X (k := 1) (i := 1) rfl dL_law_194 rfl)
    (e_each_cons (r_callVL X rfl (τ := sg_X10_clock) (index := 134) (ci := 9) dL_law_195 (by decide) rfl yw3_20 yw3_21 yw3_22 cs_X10_clock rfl ⟨by decide, by decide⟩ rfl)
    (e_each_cons (r_iload X (i := 11) dL_law_198 rfl)
    (e_each_cons (r_icmp_lt X (off := 56) (t := 256) dL_law_200 (by decide) rfl)
    (e_each_cons (r_aload_n X (k := 1) (i := 1) rfl dL_law_203 rfl)
    (e_each_cons (r_iconst X (n := 0) (v := 0) dL_law_204 (by decide) rfl)
    (e_each_cons (r_iconst X (n := 0) (v := 0) dL_law_205 (by decide) rfl)
    (e_each_cons (r_callVL X rfl (τ := sg_X10_side) (index := 156) (ci := 9) dL_law_206 (by decide) rfl yw3_24 yw3_25 yw3_26 cs_X10_side rfl ⟨by decide, by decide⟩ rfl)
    (e_each_cons (r_aload_n X (k := 1) (i := 1) rfl dL_law_209 rfl)
    (e_each_cons (r_callVL X rfl (τ := sg_X10_clock) (index := 134) (ci := 9) dL_law_210 (by decide) rfl yw3_20 yw3_21 yw3_22 cs_X10_clock rfl ⟨by decide, by decide⟩ rfl)
    (e_each_cons (r_icmp_gt X (off := 43) (t := 256) dL_law_213 (by decide) rfl)
    (e_each_cons (r_aload_n X (k := 1) (i := 1) rfl dL_law_216 rfl)
    (e_each_cons (r_iconst X (n := 1) (v := 1) dL_law_217 (by decide) rfl)
    (e_each_cons (r_iconst X (n := 0) (v := 0) dL_law_218 (by decide) rfl)
    (e_each_cons (r_callVL X rfl (τ := sg_X10_side) (index := 156) (ci := 9) dL_law_219 (by decide) rfl yw3_24 yw3_25 yw3_26 cs_X10_side rfl ⟨by decide, by decide⟩ rfl)
    (e_each_cons (r_aload_n X (k := 1) (i := 1) rfl dL_law_222 rfl)
    (e_each_cons (r_callVL X rfl (τ := sg_X10_clock) (index := 134) (ci := 9) dL_law_223 (by decide) rfl yw3_20 yw3_21 yw3_22 cs_X10_clock rfl ⟨by decide, by decide⟩ rfl)
    (e_each_cons (r_icmp_gt X (off := 30) (t := 256) dL_law_226 (by decide) rfl)
    (e_each_cons (r_aload_n X (k := 2) (i := 2) rfl dL_law_229 rfl)
    (e_each_cons (r_callS0 X (τ := sg_L_next) (index := 50) dL_law_230 yw3_100 yw3_101 cs_L_next rfl ⟨by decide, by decide⟩ rfl)
    (e_each_cons (r_iconst X (n := 4) (v := 4) dL_law_233 (by decide) rfl)
    (e_each_cons (r_irem X dL_law_234 rfl)
    (e_each_cons (r_if_gt X (off := 17) (t := 252) dL_law_235 (by decide) rfl)
    (e_each_cons (r_aload_n X (k := 1) (i := 1) rfl dL_law_238 rfl)
    (e_each_cons (r_aload_n X (k := 2) (i := 2) rfl dL_law_239 rfl)
    (e_each_cons (r_callS0 X (τ := sg_L_next) (index := 50) dL_law_240 yw3_100 yw3_101 cs_L_next rfl ⟨by decide, by decide⟩ rfl)
    (e_each_cons (r_iconst X (n := 3) (v := 3) dL_law_243 (by decide) rfl)
    (e_each_cons (r_irem X dL_law_244 rfl)
    (e_each_cons (r_aload_n X (k := 2) (i := 2) rfl dL_law_245 rfl)
    (e_each_cons (r_callS0 X (τ := sg_L_place) (index := 198) dL_law_246 yw5_234 yw5_235 cs_L_place rfl ⟨by decide, by decide⟩ rfl)
    (e_each_cons (r_if_eq X (off := 7) (t := 256) dL_law_249 (by decide) rfl)
    (e_each_cons (r_iconst X (n := 1) (v := 1) dL_law_252 (by decide) rfl)
    (e_each_cons (r_goto X (off := 4) (t := 257) dL_law_253 (by decide))
    (e_each_cons (r_iconst X (n := 0) (v := 0) dL_law_256 (by decide) rfl)
    (e_each_cons (r_istore_n X (k := 3) (i := 3) rfl dL_law_257 (by decide) rfl)
    (e_each_cons (r_iload_n X (k := 3) (i := 3) rfl dL_law_258 rfl)
    (e_each_cons (r_if_eq X (off := 40) (t := 299) dL_law_259 (by decide) rfl)
    (e_each_cons (r_iload X (i := 12) dL_law_262 rfl)
    (e_each_cons (r_if_eq X (off := 35) (t := 299) dL_law_264 (by decide) rfl)
    (e_each_cons (r_aload_n X (k := 2) (i := 2) rfl dL_law_267 rfl)
    (e_each_cons (r_callS0 X (τ := sg_L_next) (index := 50) dL_law_268 yw3_100 yw3_101 cs_L_next rfl ⟨by decide, by decide⟩ rfl)
    (e_each_cons (r_iconst X (n := 4) (v := 4) dL_law_271 (by decide) rfl)
    (e_each_cons (r_irem X dL_law_272 rfl)
    (e_each_cons (r_if_ne X (off := 26) (t := 299) dL_law_273 (by decide) rfl)
    (e_each_cons (r_aload_n X (k := 1) (i := 1) rfl dL_law_276 rfl)
    (e_each_cons (r_callSHL X (τ := sg_L_undone) (index := 210) dL_law_277 yw5_148 yw5_149 cs_L_undone rfl ⟨by decide, by decide⟩ rfl)
    (e_each_cons (r_if_lt X (off := 17) (t := 297) dL_law_280 (by decide) rfl)
    (e_each_cons (r_aload_n X (k := 1) (i := 1) rfl dL_law_283 rfl)
    (e_each_cons (r_callS0 X (τ := sg_L_sum) (index := 202) dL_law_284 yw5_160 yw5_161 cs_L_sum rfl ⟨by decide, by decide⟩ rfl)
    (e_each_cons (r_lload X (i := 9) dL_law_287 rfl)
    (e_each_cons (r_lcmp X dL_law_289 rfl)
    (e_each_cons (r_if_ne X (off := 7) (t := 297) dL_law_290 (by decide) rfl)
    (e_each_cons (r_iconst X (n := 1) (v := 1) dL_law_293 (by decide) rfl)
    (e_each_cons (r_goto X (off := 4) (t := 298) dL_law_294 (by decide))
    (e_each_cons (r_iconst X (n := 0) (v := 0) dL_law_297 (by decide) rfl)
    (e_each_cons (r_istore_n X (k := 3) (i := 3) rfl dL_law_298 (by decide) rfl)
    (e_each_cons (r_iinc X (i := 8) (n := 1) (d := 1) dL_law_299 (by decide) (by decide) rfl)
    (e_each_cons (r_goto X (off := (-153)) (t := 149) dL_law_302 (by decide))
    (e_each_cons (r_iload_n X (k := 3) (i := 3) rfl dL_law_305 rfl)
    (e_each_cons (r_if_eq X (off := 50) (t := 356) dL_law_306 (by decide) rfl)
    (e_each_cons (r_aload_n X (k := 1) (i := 1) rfl dL_law_309 rfl)
    (e_each_cons (r_iconst X (n := 0) (v := 0) dL_law_310 (by decide) rfl)
    (e_each_cons (r_callSL X (τ := sg_L_exchanges) (index := 214) dL_law_311 yw6_85 yw6_86 cs_L_exchanges rfl ⟨by decide, by decide⟩ rfl)
    (e_each_cons (r_if_eq X (off := 42) (t := 356) dL_law_314 (by decide) rfl)
    (e_each_cons (r_aload_n X (k := 1) (i := 1) rfl dL_law_317 rfl)
    (e_each_cons (r_iconst X (n := 1) (v := 1) dL_law_318 (by decide) rfl)
    (e_each_cons (r_callSL X (τ := sg_L_exchanges) (index := 214) dL_law_319 yw6_85 yw6_86 cs_L_exchanges rfl ⟨by decide, by decide⟩ rfl)
    (e_each_cons (r_if_eq X (off := 34) (t := 356) dL_law_322 (by decide) rfl)
    (e_each_cons (r_aload_n X (k := 1) (i := 1) rfl dL_law_325 rfl)
    (e_each_cons (r_iconst X (n := 0) (v := 0) dL_law_326 (by decide) rfl)
    (e_each_cons (r_callVL X rfl (τ := sg_X10_restore) (index := 218) (ci := 9) dL_law_327 (by decide) rfl yw3_73 yw3_74 yw3_75 cs_X10_restore rfl ⟨by decide, by decide⟩ rfl)
    (e_each_cons (r_if_ne X (off := 26) (t := 356) dL_law_330 (by decide) rfl)
    (e_each_cons (r_aload_n X (k := 1) (i := 1) rfl dL_law_333 rfl)
    (e_each_cons (r_callS0 X (τ := sg_L_sum) (index := 202) dL_law_334 yw5_160 yw5_161 cs_L_sum rfl ⟨by decide, by decide⟩ rfl)
    (e_each_cons (r_lload X (i := 6) dL_law_337 rfl)
    (e_each_cons (r_lcmp X dL_law_339 rfl)
    (e_each_cons (r_if_ne X (off := 16) (t := 356) dL_law_340 (by decide) rfl)
    (e_each_cons (r_aload_n X (k := 1) (i := 1) rfl dL_law_343 rfl)
    (e_each_cons (r_callSHL X (τ := sg_L_undone) (index := 210) dL_law_344 yw5_148 yw5_149 cs_L_undone rfl ⟨by decide, by decide⟩ rfl)
    (e_each_cons (r_bipush X (n := (-2)) (v := (-2)) dL_law_347 (by decide) rfl)
    (e_each_cons (r_icmp_ne X (off := 7) (t := 356) dL_law_349 (by decide) rfl)
    (e_each_cons (r_iconst X (n := 1) (v := 1) dL_law_352 (by decide) rfl)
    (e_each_cons (r_goto X (off := 4) (t := 357) dL_law_353 (by decide))
    (e_each_cons (r_iconst X (n := 0) (v := 0) dL_law_356 (by decide) rfl)
    (e_each_cons (r_istore_n X (k := 3) (i := 3) rfl dL_law_357 (by decide) rfl)
    (e_each_cons (r_iinc X (i := 4) (n := 1) (d := 1) dL_law_358 (by decide) (by decide) rfl)
    (e_each_cons (r_goto X (off := (-327)) (t := 34) dL_law_361 (by decide))
    (e_each_cons (r_iload_n X (k := 3) (i := 3) rfl dL_law_364 rfl)
    (e_each_cons (r_iretz X dL_law_365 rfl)
    (e_each_nil))))))))))))))))))))))))))))))))))))))))))))))))))))))))))))))))))))))))))))))))))))))))))))))))))))))))))))))))))))))))))))))))))))))))))))))))))))))))))))))))))))))))))))))))))))))))))))))))))))))
