/-! TABLES (by program): the law's wrappers. -/
def e_passP (own E : String) : List ExceptionTableEntry → List String → Prop
  | z :: zs, n :: ns => ((z.catchType ≠ 0) ∧ Cond.classLink own z.catchType n ∈ e_good ∧ (E, n) ∈ e_nc) ∧ e_passP own E zs ns
  | [], _ => True
  | _ :: _, [] => False
theorem e_pass {own E : String} {pc : Nat} : ∀ {L : List ExceptionTableEntry} {ns : List String}, e_passP own E L ns → ∀ z ∈ L, covers z pc = false ∨ (z.catchType ≠ 0 ∧ ∃ nm : String, Cond.classLink own z.catchType nm ∈ e_good ∧ (E, nm) ∈ e_nc)
  | [], _, _, _, hz => nomatch hz
  | z :: zs, n :: ns, h, y, hy => by
    rcases List.mem_cons.mp hy with rfl | hy
    · exact Or.inr ⟨h.1.1, n, h.1.2.1, h.1.2.2⟩
    · exact e_pass h.2 y hy
theorem w1_0 : (Jvm.Cond.initialized "CalendarSyncLaw") ∈ e_good := List.mem_filter.mpr ⟨tm_1 _ (List.mem_of_getElem? (i := 0) rfl), rfl⟩
theorem w2_132 : (Jvm.Cond.codeWith ({ cls := "CalendarSyncLaw", name := "feed", desc := "(LCalendarSync;IIIII[J)I" } : Jvm.MethodName) method_3_code (8 : Nat) (Option.some Jvm.ClassFile.FieldType.int) [((0 : Nat), (16 : Nat), (19 : Nat), (13 : Nat))]) ∈ e_good := List.mem_filter.mpr ⟨tm_2 _ (List.mem_of_getElem? (i := 132) rfl), rfl⟩
theorem w2_133 : (Jvm.Cond.classLink "CalendarSyncLaw" (13 : Nat) "java/lang/IllegalStateException") ∈ e_good := List.mem_filter.mpr ⟨tm_2 _ (List.mem_of_getElem? (i := 133) rfl), rfl⟩
theorem w2_134 : (Jvm.Cond.methodLink "CalendarSyncLaw" (7 : Nat) ({ cls := "CalendarSync", name := "feed", desc := "(IIIII)I" } : Jvm.MethodName)) ∈ e_good := List.mem_filter.mpr ⟨tm_2 _ (List.mem_of_getElem? (i := 134) rfl), rfl⟩
theorem w2_135 : (Jvm.Cond.instanceMethod ({ cls := "CalendarSync", name := "feed", desc := "(IIIII)I" } : Jvm.MethodName)) ∈ e_good := List.mem_filter.mpr ⟨tm_2 _ (List.mem_of_getElem? (i := 135) rfl), rfl⟩
theorem w2_136 : (Jvm.Cond.selects "CalendarSync" ({ cls := "CalendarSync", name := "feed", desc := "(IIIII)I" } : Jvm.MethodName) ({ cls := "CalendarSync", name := "feed", desc := "(IIIII)I" } : Jvm.MethodName)) ∈ e_good := List.mem_filter.mpr ⟨tm_2 _ (List.mem_of_getElem? (i := 136) rfl), rfl⟩
theorem w2_215 : (Jvm.Cond.codeWith ({ cls := "CalendarSyncLaw", name := "load", desc := "(LCalendarSync;I[J)I" } : Jvm.MethodName) method_4_code (4 : Nat) (Option.some Jvm.ClassFile.FieldType.int) [((0 : Nat), (9 : Nat), (12 : Nat), (19 : Nat)), ((0 : Nat), (9 : Nat), (15 : Nat), (13 : Nat))]) ∈ e_good := List.mem_filter.mpr ⟨tm_2 _ (List.mem_of_getElem? (i := 215) rfl), rfl⟩
theorem w2_216 : (Jvm.Cond.classLink "CalendarSyncLaw" (19 : Nat) "java/lang/IllegalArgumentException") ∈ e_good := List.mem_filter.mpr ⟨tm_2 _ (List.mem_of_getElem? (i := 216) rfl), rfl⟩
theorem w2_217 : (Jvm.Cond.methodLink "CalendarSyncLaw" (15 : Nat) ({ cls := "CalendarSync", name := "load", desc := "(I)I" } : Jvm.MethodName)) ∈ e_good := List.mem_filter.mpr ⟨tm_2 _ (List.mem_of_getElem? (i := 217) rfl), rfl⟩
theorem w2_218 : (Jvm.Cond.instanceMethod ({ cls := "CalendarSync", name := "load", desc := "(I)I" } : Jvm.MethodName)) ∈ e_good := List.mem_filter.mpr ⟨tm_2 _ (List.mem_of_getElem? (i := 218) rfl), rfl⟩
theorem w2_219 : (Jvm.Cond.selects "CalendarSync" ({ cls := "CalendarSync", name := "load", desc := "(I)I" } : Jvm.MethodName) ({ cls := "CalendarSync", name := "load", desc := "(I)I" } : Jvm.MethodName)) ∈ e_good := List.mem_filter.mpr ⟨tm_2 _ (List.mem_of_getElem? (i := 219) rfl), rfl⟩
theorem w4_106 : (Jvm.Cond.codeWith ({ cls := "CalendarSyncLaw", name := "events", desc := "(LCalendarSync;I[J)I" } : Jvm.MethodName) method_8_code (4 : Nat) (Option.some Jvm.ClassFile.FieldType.int) [((0 : Nat), (9 : Nat), (12 : Nat), (19 : Nat))]) ∈ e_good := List.mem_filter.mpr ⟨tm_4 _ (List.mem_of_getElem? (i := 106) rfl), rfl⟩
theorem w4_107 : (Jvm.Cond.methodLink "CalendarSyncLaw" (37 : Nat) ({ cls := "CalendarSync", name := "events", desc := "(I)I" } : Jvm.MethodName)) ∈ e_good := List.mem_filter.mpr ⟨tm_4 _ (List.mem_of_getElem? (i := 107) rfl), rfl⟩
theorem w4_108 : (Jvm.Cond.instanceMethod ({ cls := "CalendarSync", name := "events", desc := "(I)I" } : Jvm.MethodName)) ∈ e_good := List.mem_filter.mpr ⟨tm_4 _ (List.mem_of_getElem? (i := 108) rfl), rfl⟩
theorem w4_109 : (Jvm.Cond.selects "CalendarSync" ({ cls := "CalendarSync", name := "events", desc := "(I)I" } : Jvm.MethodName) ({ cls := "CalendarSync", name := "events", desc := "(I)I" } : Jvm.MethodName)) ∈ e_good := List.mem_filter.mpr ⟨tm_4 _ (List.mem_of_getElem? (i := 109) rfl), rfl⟩
theorem w4_117 : (Jvm.Cond.codeWith ({ cls := "CalendarSyncLaw", name := "event", desc := "(LCalendarSync;III[J)I" } : Jvm.MethodName) method_9_code (6 : Nat) (Option.some Jvm.ClassFile.FieldType.int) [((0 : Nat), (12 : Nat), (15 : Nat), (19 : Nat)), ((0 : Nat), (12 : Nat), (19 : Nat), (29 : Nat)), ((0 : Nat), (12 : Nat), (23 : Nat), (31 : Nat))]) ∈ e_good := List.mem_filter.mpr ⟨tm_4 _ (List.mem_of_getElem? (i := 117) rfl), rfl⟩
theorem w4_118 : (Jvm.Cond.methodLink "CalendarSyncLaw" (40 : Nat) ({ cls := "CalendarSync", name := "event", desc := "(III)I" } : Jvm.MethodName)) ∈ e_good := List.mem_filter.mpr ⟨tm_4 _ (List.mem_of_getElem? (i := 118) rfl), rfl⟩
theorem w4_119 : (Jvm.Cond.instanceMethod ({ cls := "CalendarSync", name := "event", desc := "(III)I" } : Jvm.MethodName)) ∈ e_good := List.mem_filter.mpr ⟨tm_4 _ (List.mem_of_getElem? (i := 119) rfl), rfl⟩
theorem w4_120 : (Jvm.Cond.selects "CalendarSync" ({ cls := "CalendarSync", name := "event", desc := "(III)I" } : Jvm.MethodName) ({ cls := "CalendarSync", name := "event", desc := "(III)I" } : Jvm.MethodName)) ∈ e_good := List.mem_filter.mpr ⟨tm_4 _ (List.mem_of_getElem? (i := 120) rfl), rfl⟩
theorem w4_131 : (Jvm.Cond.codeWith ({ cls := "CalendarSyncLaw", name := "date", desc := "(LCalendarSync;IIII[J)I" } : Jvm.MethodName) method_10_code (7 : Nat) (Option.some Jvm.ClassFile.FieldType.int) [((0 : Nat), (14 : Nat), (17 : Nat), (19 : Nat)), ((0 : Nat), (14 : Nat), (21 : Nat), (29 : Nat)), ((0 : Nat), (14 : Nat), (25 : Nat), (31 : Nat))]) ∈ e_good := List.mem_filter.mpr ⟨tm_4 _ (List.mem_of_getElem? (i := 131) rfl), rfl⟩
theorem w4_132 : (Jvm.Cond.methodLink "CalendarSyncLaw" (43 : Nat) ({ cls := "CalendarSync", name := "date", desc := "(IIII)I" } : Jvm.MethodName)) ∈ e_good := List.mem_filter.mpr ⟨tm_4 _ (List.mem_of_getElem? (i := 132) rfl), rfl⟩
theorem w4_133 : (Jvm.Cond.instanceMethod ({ cls := "CalendarSync", name := "date", desc := "(IIII)I" } : Jvm.MethodName)) ∈ e_good := List.mem_filter.mpr ⟨tm_4 _ (List.mem_of_getElem? (i := 133) rfl), rfl⟩
theorem w4_134 : (Jvm.Cond.selects "CalendarSync" ({ cls := "CalendarSync", name := "date", desc := "(IIII)I" } : Jvm.MethodName) ({ cls := "CalendarSync", name := "date", desc := "(IIII)I" } : Jvm.MethodName)) ∈ e_good := List.mem_filter.mpr ⟨tm_4 _ (List.mem_of_getElem? (i := 134) rfl), rfl⟩
theorem w4_16 : (Jvm.Cond.codeWith ({ cls := "CalendarSyncLaw", name := "day", desc := "(LCalendarSync;II[J)I" } : Jvm.MethodName) method_5_code (5 : Nat) (Option.some Jvm.ClassFile.FieldType.int) [((0 : Nat), (10 : Nat), (13 : Nat), (19 : Nat))]) ∈ e_good := List.mem_filter.mpr ⟨tm_4 _ (List.mem_of_getElem? (i := 16) rfl), rfl⟩
theorem w4_17 : (Jvm.Cond.methodLink "CalendarSyncLaw" (21 : Nat) ({ cls := "CalendarSync", name := "day", desc := "(II)I" } : Jvm.MethodName)) ∈ e_good := List.mem_filter.mpr ⟨tm_4 _ (List.mem_of_getElem? (i := 17) rfl), rfl⟩
theorem w4_178 : (Jvm.Cond.codeWith ({ cls := "CalendarSyncLaw", name := "answer", desc := "(LCalendarSync;III[J)I" } : Jvm.MethodName) method_11_code (6 : Nat) (Option.some Jvm.ClassFile.FieldType.int) [((0 : Nat), (12 : Nat), (15 : Nat), (19 : Nat)), ((0 : Nat), (12 : Nat), (19 : Nat), (29 : Nat))]) ∈ e_good := List.mem_filter.mpr ⟨tm_4 _ (List.mem_of_getElem? (i := 178) rfl), rfl⟩
theorem w4_179 : (Jvm.Cond.methodLink "CalendarSyncLaw" (46 : Nat) ({ cls := "CalendarSync", name := "answer", desc := "(III)I" } : Jvm.MethodName)) ∈ e_good := List.mem_filter.mpr ⟨tm_4 _ (List.mem_of_getElem? (i := 179) rfl), rfl⟩
theorem w4_18 : (Jvm.Cond.instanceMethod ({ cls := "CalendarSync", name := "day", desc := "(II)I" } : Jvm.MethodName)) ∈ e_good := List.mem_filter.mpr ⟨tm_4 _ (List.mem_of_getElem? (i := 18) rfl), rfl⟩
theorem w4_180 : (Jvm.Cond.instanceMethod ({ cls := "CalendarSync", name := "answer", desc := "(III)I" } : Jvm.MethodName)) ∈ e_good := List.mem_filter.mpr ⟨tm_4 _ (List.mem_of_getElem? (i := 180) rfl), rfl⟩
theorem w4_181 : (Jvm.Cond.selects "CalendarSync" ({ cls := "CalendarSync", name := "answer", desc := "(III)I" } : Jvm.MethodName) ({ cls := "CalendarSync", name := "answer", desc := "(III)I" } : Jvm.MethodName)) ∈ e_good := List.mem_filter.mpr ⟨tm_4 _ (List.mem_of_getElem? (i := 181) rfl), rfl⟩
theorem w4_188 : (Jvm.Cond.codeWith ({ cls := "CalendarSyncLaw", name := "agenda", desc := "(LCalendarSync;III[J)I" } : Jvm.MethodName) method_12_code (6 : Nat) (Option.some Jvm.ClassFile.FieldType.int) [((0 : Nat), (12 : Nat), (15 : Nat), (19 : Nat))]) ∈ e_good := List.mem_filter.mpr ⟨tm_4 _ (List.mem_of_getElem? (i := 188) rfl), rfl⟩
theorem w4_189 : (Jvm.Cond.methodLink "CalendarSyncLaw" (49 : Nat) ({ cls := "CalendarSync", name := "agenda", desc := "(III)I" } : Jvm.MethodName)) ∈ e_good := List.mem_filter.mpr ⟨tm_4 _ (List.mem_of_getElem? (i := 189) rfl), rfl⟩
theorem w4_19 : (Jvm.Cond.selects "CalendarSync" ({ cls := "CalendarSync", name := "day", desc := "(II)I" } : Jvm.MethodName) ({ cls := "CalendarSync", name := "day", desc := "(II)I" } : Jvm.MethodName)) ∈ e_good := List.mem_filter.mpr ⟨tm_4 _ (List.mem_of_getElem? (i := 19) rfl), rfl⟩
theorem w4_190 : (Jvm.Cond.instanceMethod ({ cls := "CalendarSync", name := "agenda", desc := "(III)I" } : Jvm.MethodName)) ∈ e_good := List.mem_filter.mpr ⟨tm_4 _ (List.mem_of_getElem? (i := 190) rfl), rfl⟩
theorem w4_191 : (Jvm.Cond.selects "CalendarSync" ({ cls := "CalendarSync", name := "agenda", desc := "(III)I" } : Jvm.MethodName) ({ cls := "CalendarSync", name := "agenda", desc := "(III)I" } : Jvm.MethodName)) ∈ e_good := List.mem_filter.mpr ⟨tm_4 _ (List.mem_of_getElem? (i := 191) rfl), rfl⟩
theorem w4_215 : (Jvm.Cond.codeWith ({ cls := "CalendarSyncLaw", name := "agendaAt", desc := "(LCalendarSync;IIII[J)I" } : Jvm.MethodName) method_13_code (7 : Nat) (Option.some Jvm.ClassFile.FieldType.int) [((0 : Nat), (14 : Nat), (17 : Nat), (19 : Nat)), ((0 : Nat), (14 : Nat), (21 : Nat), (29 : Nat)), ((0 : Nat), (14 : Nat), (25 : Nat), (31 : Nat))]) ∈ e_good := List.mem_filter.mpr ⟨tm_4 _ (List.mem_of_getElem? (i := 215) rfl), rfl⟩
theorem w4_216 : (Jvm.Cond.methodLink "CalendarSyncLaw" (52 : Nat) ({ cls := "CalendarSync", name := "agendaAt", desc := "(IIII)I" } : Jvm.MethodName)) ∈ e_good := List.mem_filter.mpr ⟨tm_4 _ (List.mem_of_getElem? (i := 216) rfl), rfl⟩
theorem w4_217 : (Jvm.Cond.instanceMethod ({ cls := "CalendarSync", name := "agendaAt", desc := "(IIII)I" } : Jvm.MethodName)) ∈ e_good := List.mem_filter.mpr ⟨tm_4 _ (List.mem_of_getElem? (i := 217) rfl), rfl⟩
theorem w4_218 : (Jvm.Cond.selects "CalendarSync" ({ cls := "CalendarSync", name := "agendaAt", desc := "(IIII)I" } : Jvm.MethodName) ({ cls := "CalendarSync", name := "agendaAt", desc := "(IIII)I" } : Jvm.MethodName)) ∈ e_good := List.mem_filter.mpr ⟨tm_4 _ (List.mem_of_getElem? (i := 218) rfl), rfl⟩
theorem w4_231 : (Jvm.Cond.codeWith ({ cls := "CalendarSyncLaw", name := "clashes", desc := "(LCalendarSync;I[J)I" } : Jvm.MethodName) method_14_code (4 : Nat) (Option.some Jvm.ClassFile.FieldType.int) [((0 : Nat), (9 : Nat), (12 : Nat), (19 : Nat))]) ∈ e_good := List.mem_filter.mpr ⟨tm_4 _ (List.mem_of_getElem? (i := 231) rfl), rfl⟩
theorem w4_232 : (Jvm.Cond.methodLink "CalendarSyncLaw" (55 : Nat) ({ cls := "CalendarSync", name := "clashes", desc := "(I)I" } : Jvm.MethodName)) ∈ e_good := List.mem_filter.mpr ⟨tm_4 _ (List.mem_of_getElem? (i := 232) rfl), rfl⟩
theorem w4_233 : (Jvm.Cond.instanceMethod ({ cls := "CalendarSync", name := "clashes", desc := "(I)I" } : Jvm.MethodName)) ∈ e_good := List.mem_filter.mpr ⟨tm_4 _ (List.mem_of_getElem? (i := 233) rfl), rfl⟩
theorem w4_234 : (Jvm.Cond.selects "CalendarSync" ({ cls := "CalendarSync", name := "clashes", desc := "(I)I" } : Jvm.MethodName) ({ cls := "CalendarSync", name := "clashes", desc := "(I)I" } : Jvm.MethodName)) ∈ e_good := List.mem_filter.mpr ⟨tm_4 _ (List.mem_of_getElem? (i := 234) rfl), rfl⟩
theorem w4_32 : (Jvm.Cond.codeWith ({ cls := "CalendarSyncLaw", name := "zone", desc := "(LCalendarSync;III[J)I" } : Jvm.MethodName) method_6_code (6 : Nat) (Option.some Jvm.ClassFile.FieldType.int) [((0 : Nat), (12 : Nat), (15 : Nat), (19 : Nat)), ((0 : Nat), (12 : Nat), (19 : Nat), (29 : Nat)), ((0 : Nat), (12 : Nat), (23 : Nat), (31 : Nat))]) ∈ e_good := List.mem_filter.mpr ⟨tm_4 _ (List.mem_of_getElem? (i := 32) rfl), rfl⟩
theorem w4_33 : (Jvm.Cond.classLink "CalendarSyncLaw" (29 : Nat) "java/util/NoSuchElementException") ∈ e_good := List.mem_filter.mpr ⟨tm_4 _ (List.mem_of_getElem? (i := 33) rfl), rfl⟩
theorem w4_34 : (Jvm.Cond.classLink "CalendarSyncLaw" (31 : Nat) "java/lang/IndexOutOfBoundsException") ∈ e_good := List.mem_filter.mpr ⟨tm_4 _ (List.mem_of_getElem? (i := 34) rfl), rfl⟩
theorem w4_35 : (Jvm.Cond.methodLink "CalendarSyncLaw" (25 : Nat) ({ cls := "CalendarSync", name := "zone", desc := "(III)I" } : Jvm.MethodName)) ∈ e_good := List.mem_filter.mpr ⟨tm_4 _ (List.mem_of_getElem? (i := 35) rfl), rfl⟩
theorem w4_36 : (Jvm.Cond.instanceMethod ({ cls := "CalendarSync", name := "zone", desc := "(III)I" } : Jvm.MethodName)) ∈ e_good := List.mem_filter.mpr ⟨tm_4 _ (List.mem_of_getElem? (i := 36) rfl), rfl⟩
theorem w4_37 : (Jvm.Cond.selects "CalendarSync" ({ cls := "CalendarSync", name := "zone", desc := "(III)I" } : Jvm.MethodName) ({ cls := "CalendarSync", name := "zone", desc := "(III)I" } : Jvm.MethodName)) ∈ e_good := List.mem_filter.mpr ⟨tm_4 _ (List.mem_of_getElem? (i := 37) rfl), rfl⟩
theorem w4_87 : (Jvm.Cond.codeWith ({ cls := "CalendarSyncLaw", name := "moment", desc := "(LCalendarSync;IIII[J)I" } : Jvm.MethodName) method_7_code (7 : Nat) (Option.some Jvm.ClassFile.FieldType.int) [((0 : Nat), (14 : Nat), (17 : Nat), (19 : Nat)), ((0 : Nat), (14 : Nat), (21 : Nat), (29 : Nat))]) ∈ e_good := List.mem_filter.mpr ⟨tm_4 _ (List.mem_of_getElem? (i := 87) rfl), rfl⟩
theorem w4_88 : (Jvm.Cond.methodLink "CalendarSyncLaw" (33 : Nat) ({ cls := "CalendarSync", name := "moment", desc := "(IIII)I" } : Jvm.MethodName)) ∈ e_good := List.mem_filter.mpr ⟨tm_4 _ (List.mem_of_getElem? (i := 88) rfl), rfl⟩
theorem w4_89 : (Jvm.Cond.instanceMethod ({ cls := "CalendarSync", name := "moment", desc := "(IIII)I" } : Jvm.MethodName)) ∈ e_good := List.mem_filter.mpr ⟨tm_4 _ (List.mem_of_getElem? (i := 89) rfl), rfl⟩
theorem w4_90 : (Jvm.Cond.selects "CalendarSync" ({ cls := "CalendarSync", name := "moment", desc := "(IIII)I" } : Jvm.MethodName) ({ cls := "CalendarSync", name := "moment", desc := "(IIII)I" } : Jvm.MethodName)) ∈ e_good := List.mem_filter.mpr ⟨tm_4 _ (List.mem_of_getElem? (i := 90) rfl), rfl⟩
theorem w5_10 : (Jvm.Cond.selects "CalendarSync" ({ cls := "CalendarSync", name := "busy", desc := "(III)F" } : Jvm.MethodName) ({ cls := "CalendarSync", name := "busy", desc := "(III)F" } : Jvm.MethodName)) ∈ e_good := List.mem_filter.mpr ⟨tm_5 _ (List.mem_of_getElem? (i := 10) rfl), rfl⟩
theorem w5_116 : (Jvm.Cond.codeWith ({ cls := "CalendarSyncLaw", name := "repeat", desc := "(LCalendarSync;IIIIII[J)I" } : Jvm.MethodName) method_21_code (9 : Nat) (Option.some Jvm.ClassFile.FieldType.int) [((0 : Nat), (18 : Nat), (21 : Nat), (19 : Nat)), ((0 : Nat), (18 : Nat), (25 : Nat), (29 : Nat))]) ∈ e_good := List.mem_filter.mpr ⟨tm_5 _ (List.mem_of_getElem? (i := 116) rfl), rfl⟩
theorem w5_117 : (Jvm.Cond.methodLink "CalendarSyncLaw" (79 : Nat) ({ cls := "CalendarSync", name := "repeat", desc := "(IIIIII)I" } : Jvm.MethodName)) ∈ e_good := List.mem_filter.mpr ⟨tm_5 _ (List.mem_of_getElem? (i := 117) rfl), rfl⟩
theorem w5_118 : (Jvm.Cond.instanceMethod ({ cls := "CalendarSync", name := "repeat", desc := "(IIIIII)I" } : Jvm.MethodName)) ∈ e_good := List.mem_filter.mpr ⟨tm_5 _ (List.mem_of_getElem? (i := 118) rfl), rfl⟩
theorem w5_119 : (Jvm.Cond.selects "CalendarSync" ({ cls := "CalendarSync", name := "repeat", desc := "(IIIIII)I" } : Jvm.MethodName) ({ cls := "CalendarSync", name := "repeat", desc := "(IIIIII)I" } : Jvm.MethodName)) ∈ e_good := List.mem_filter.mpr ⟨tm_5 _ (List.mem_of_getElem? (i := 119) rfl), rfl⟩
theorem w5_124 : (Jvm.Cond.codeWith ({ cls := "CalendarSyncLaw", name := "cancel", desc := "(LCalendarSync;III[J)I" } : Jvm.MethodName) method_22_code (6 : Nat) (Option.some Jvm.ClassFile.FieldType.int) [((0 : Nat), (12 : Nat), (15 : Nat), (19 : Nat)), ((0 : Nat), (12 : Nat), (19 : Nat), (29 : Nat)), ((0 : Nat), (12 : Nat), (23 : Nat), (31 : Nat))]) ∈ e_good := List.mem_filter.mpr ⟨tm_5 _ (List.mem_of_getElem? (i := 124) rfl), rfl⟩
theorem w5_125 : (Jvm.Cond.methodLink "CalendarSyncLaw" (82 : Nat) ({ cls := "CalendarSync", name := "cancel", desc := "(III)I" } : Jvm.MethodName)) ∈ e_good := List.mem_filter.mpr ⟨tm_5 _ (List.mem_of_getElem? (i := 125) rfl), rfl⟩
theorem w5_126 : (Jvm.Cond.instanceMethod ({ cls := "CalendarSync", name := "cancel", desc := "(III)I" } : Jvm.MethodName)) ∈ e_good := List.mem_filter.mpr ⟨tm_5 _ (List.mem_of_getElem? (i := 126) rfl), rfl⟩
theorem w5_127 : (Jvm.Cond.selects "CalendarSync" ({ cls := "CalendarSync", name := "cancel", desc := "(III)I" } : Jvm.MethodName) ({ cls := "CalendarSync", name := "cancel", desc := "(III)I" } : Jvm.MethodName)) ∈ e_good := List.mem_filter.mpr ⟨tm_5 _ (List.mem_of_getElem? (i := 127) rfl), rfl⟩
theorem w5_132 : (Jvm.Cond.codeWith ({ cls := "CalendarSyncLaw", name := "move", desc := "(LCalendarSync;IIIII[J)I" } : Jvm.MethodName) method_23_code (8 : Nat) (Option.some Jvm.ClassFile.FieldType.int) [((0 : Nat), (16 : Nat), (19 : Nat), (19 : Nat)), ((0 : Nat), (16 : Nat), (23 : Nat), (29 : Nat)), ((0 : Nat), (16 : Nat), (27 : Nat), (31 : Nat))]) ∈ e_good := List.mem_filter.mpr ⟨tm_5 _ (List.mem_of_getElem? (i := 132) rfl), rfl⟩
theorem w5_133 : (Jvm.Cond.methodLink "CalendarSyncLaw" (85 : Nat) ({ cls := "CalendarSync", name := "move", desc := "(IIIII)I" } : Jvm.MethodName)) ∈ e_good := List.mem_filter.mpr ⟨tm_5 _ (List.mem_of_getElem? (i := 133) rfl), rfl⟩
theorem w5_134 : (Jvm.Cond.instanceMethod ({ cls := "CalendarSync", name := "move", desc := "(IIIII)I" } : Jvm.MethodName)) ∈ e_good := List.mem_filter.mpr ⟨tm_5 _ (List.mem_of_getElem? (i := 134) rfl), rfl⟩
theorem w5_135 : (Jvm.Cond.selects "CalendarSync" ({ cls := "CalendarSync", name := "move", desc := "(IIIII)I" } : Jvm.MethodName) ({ cls := "CalendarSync", name := "move", desc := "(IIIII)I" } : Jvm.MethodName)) ∈ e_good := List.mem_filter.mpr ⟨tm_5 _ (List.mem_of_getElem? (i := 135) rfl), rfl⟩
theorem w5_140 : (Jvm.Cond.codeWith ({ cls := "CalendarSyncLaw", name := "reply", desc := "(LCalendarSync;IIII[J)I" } : Jvm.MethodName) method_24_code (7 : Nat) (Option.some Jvm.ClassFile.FieldType.int) [((0 : Nat), (14 : Nat), (17 : Nat), (19 : Nat)), ((0 : Nat), (14 : Nat), (21 : Nat), (29 : Nat)), ((0 : Nat), (14 : Nat), (25 : Nat), (31 : Nat))]) ∈ e_good := List.mem_filter.mpr ⟨tm_5 _ (List.mem_of_getElem? (i := 140) rfl), rfl⟩
theorem w5_141 : (Jvm.Cond.methodLink "CalendarSyncLaw" (88 : Nat) ({ cls := "CalendarSync", name := "reply", desc := "(IIII)I" } : Jvm.MethodName)) ∈ e_good := List.mem_filter.mpr ⟨tm_5 _ (List.mem_of_getElem? (i := 141) rfl), rfl⟩
theorem w5_142 : (Jvm.Cond.instanceMethod ({ cls := "CalendarSync", name := "reply", desc := "(IIII)I" } : Jvm.MethodName)) ∈ e_good := List.mem_filter.mpr ⟨tm_5 _ (List.mem_of_getElem? (i := 142) rfl), rfl⟩
theorem w5_143 : (Jvm.Cond.selects "CalendarSync" ({ cls := "CalendarSync", name := "reply", desc := "(IIII)I" } : Jvm.MethodName) ({ cls := "CalendarSync", name := "reply", desc := "(IIII)I" } : Jvm.MethodName)) ∈ e_good := List.mem_filter.mpr ⟨tm_5 _ (List.mem_of_getElem? (i := 143) rfl), rfl⟩
theorem w5_158 : (Jvm.Cond.codeWith ({ cls := "CalendarSyncLaw", name := "remove", desc := "(LCalendarSync;II[J)I" } : Jvm.MethodName) method_25_code (5 : Nat) (Option.some Jvm.ClassFile.FieldType.int) [((0 : Nat), (10 : Nat), (13 : Nat), (19 : Nat)), ((0 : Nat), (10 : Nat), (17 : Nat), (29 : Nat))]) ∈ e_good := List.mem_filter.mpr ⟨tm_5 _ (List.mem_of_getElem? (i := 158) rfl), rfl⟩
theorem w5_159 : (Jvm.Cond.methodLink "CalendarSyncLaw" (91 : Nat) ({ cls := "CalendarSync", name := "remove", desc := "(II)I" } : Jvm.MethodName)) ∈ e_good := List.mem_filter.mpr ⟨tm_5 _ (List.mem_of_getElem? (i := 159) rfl), rfl⟩
theorem w5_160 : (Jvm.Cond.instanceMethod ({ cls := "CalendarSync", name := "remove", desc := "(II)I" } : Jvm.MethodName)) ∈ e_good := List.mem_filter.mpr ⟨tm_5 _ (List.mem_of_getElem? (i := 160) rfl), rfl⟩
theorem w5_161 : (Jvm.Cond.selects "CalendarSync" ({ cls := "CalendarSync", name := "remove", desc := "(II)I" } : Jvm.MethodName) ({ cls := "CalendarSync", name := "remove", desc := "(II)I" } : Jvm.MethodName)) ∈ e_good := List.mem_filter.mpr ⟨tm_5 _ (List.mem_of_getElem? (i := 161) rfl), rfl⟩
theorem w5_165 : (Jvm.Cond.codeWith ({ cls := "CalendarSyncLaw", name := "setZone", desc := "(LCalendarSync;IIII[J)I" } : Jvm.MethodName) method_26_code (7 : Nat) (Option.some Jvm.ClassFile.FieldType.int) [((0 : Nat), (14 : Nat), (17 : Nat), (29 : Nat)), ((0 : Nat), (14 : Nat), (21 : Nat), (19 : Nat))]) ∈ e_good := List.mem_filter.mpr ⟨tm_5 _ (List.mem_of_getElem? (i := 165) rfl), rfl⟩
theorem w5_166 : (Jvm.Cond.methodLink "CalendarSyncLaw" (94 : Nat) ({ cls := "CalendarSync", name := "setZone", desc := "(IIII)I" } : Jvm.MethodName)) ∈ e_good := List.mem_filter.mpr ⟨tm_5 _ (List.mem_of_getElem? (i := 166) rfl), rfl⟩
theorem w5_167 : (Jvm.Cond.instanceMethod ({ cls := "CalendarSync", name := "setZone", desc := "(IIII)I" } : Jvm.MethodName)) ∈ e_good := List.mem_filter.mpr ⟨tm_5 _ (List.mem_of_getElem? (i := 167) rfl), rfl⟩
theorem w5_168 : (Jvm.Cond.selects "CalendarSync" ({ cls := "CalendarSync", name := "setZone", desc := "(IIII)I" } : Jvm.MethodName) ({ cls := "CalendarSync", name := "setZone", desc := "(IIII)I" } : Jvm.MethodName)) ∈ e_good := List.mem_filter.mpr ⟨tm_5 _ (List.mem_of_getElem? (i := 168) rfl), rfl⟩
theorem w5_180 : (Jvm.Cond.codeWith ({ cls := "CalendarSyncLaw", name := "push", desc := "(LCalendarSync;I[J)I" } : Jvm.MethodName) method_27_code (4 : Nat) (Option.some Jvm.ClassFile.FieldType.int) [((0 : Nat), (9 : Nat), (12 : Nat), (19 : Nat))]) ∈ e_good := List.mem_filter.mpr ⟨tm_5 _ (List.mem_of_getElem? (i := 180) rfl), rfl⟩
theorem w5_181 : (Jvm.Cond.methodLink "CalendarSyncLaw" (97 : Nat) ({ cls := "CalendarSync", name := "push", desc := "(I)I" } : Jvm.MethodName)) ∈ e_good := List.mem_filter.mpr ⟨tm_5 _ (List.mem_of_getElem? (i := 181) rfl), rfl⟩
theorem w5_182 : (Jvm.Cond.instanceMethod ({ cls := "CalendarSync", name := "push", desc := "(I)I" } : Jvm.MethodName)) ∈ e_good := List.mem_filter.mpr ⟨tm_5 _ (List.mem_of_getElem? (i := 182) rfl), rfl⟩
theorem w5_183 : (Jvm.Cond.selects "CalendarSync" ({ cls := "CalendarSync", name := "push", desc := "(I)I" } : Jvm.MethodName) ({ cls := "CalendarSync", name := "push", desc := "(I)I" } : Jvm.MethodName)) ∈ e_good := List.mem_filter.mpr ⟨tm_5 _ (List.mem_of_getElem? (i := 183) rfl), rfl⟩
theorem w5_206 : (Jvm.Cond.codeWith ({ cls := "CalendarSyncLaw", name := "pull", desc := "(LCalendarSync;I[J)I" } : Jvm.MethodName) method_28_code (4 : Nat) (Option.some Jvm.ClassFile.FieldType.int) [((0 : Nat), (9 : Nat), (12 : Nat), (19 : Nat))]) ∈ e_good := List.mem_filter.mpr ⟨tm_5 _ (List.mem_of_getElem? (i := 206) rfl), rfl⟩
theorem w5_207 : (Jvm.Cond.methodLink "CalendarSyncLaw" (100 : Nat) ({ cls := "CalendarSync", name := "pull", desc := "(I)I" } : Jvm.MethodName)) ∈ e_good := List.mem_filter.mpr ⟨tm_5 _ (List.mem_of_getElem? (i := 207) rfl), rfl⟩
theorem w5_208 : (Jvm.Cond.instanceMethod ({ cls := "CalendarSync", name := "pull", desc := "(I)I" } : Jvm.MethodName)) ∈ e_good := List.mem_filter.mpr ⟨tm_5 _ (List.mem_of_getElem? (i := 208) rfl), rfl⟩
theorem w5_209 : (Jvm.Cond.selects "CalendarSync" ({ cls := "CalendarSync", name := "pull", desc := "(I)I" } : Jvm.MethodName) ({ cls := "CalendarSync", name := "pull", desc := "(I)I" } : Jvm.MethodName)) ∈ e_good := List.mem_filter.mpr ⟨tm_5 _ (List.mem_of_getElem? (i := 209) rfl), rfl⟩
theorem w5_220 : (Jvm.Cond.codeWith ({ cls := "CalendarSyncLaw", name := "sync", desc := "(LCalendarSync;I[J)I" } : Jvm.MethodName) method_29_code (4 : Nat) (Option.some Jvm.ClassFile.FieldType.int) [((0 : Nat), (9 : Nat), (12 : Nat), (19 : Nat))]) ∈ e_good := List.mem_filter.mpr ⟨tm_5 _ (List.mem_of_getElem? (i := 220) rfl), rfl⟩
theorem w5_221 : (Jvm.Cond.methodLink "CalendarSyncLaw" (103 : Nat) ({ cls := "CalendarSync", name := "sync", desc := "(I)I" } : Jvm.MethodName)) ∈ e_good := List.mem_filter.mpr ⟨tm_5 _ (List.mem_of_getElem? (i := 221) rfl), rfl⟩
theorem w5_222 : (Jvm.Cond.instanceMethod ({ cls := "CalendarSync", name := "sync", desc := "(I)I" } : Jvm.MethodName)) ∈ e_good := List.mem_filter.mpr ⟨tm_5 _ (List.mem_of_getElem? (i := 222) rfl), rfl⟩
theorem w5_223 : (Jvm.Cond.selects "CalendarSync" ({ cls := "CalendarSync", name := "sync", desc := "(I)I" } : Jvm.MethodName) ({ cls := "CalendarSync", name := "sync", desc := "(I)I" } : Jvm.MethodName)) ∈ e_good := List.mem_filter.mpr ⟨tm_5 _ (List.mem_of_getElem? (i := 223) rfl), rfl⟩
theorem w5_227 : (Jvm.Cond.codeWith ({ cls := "CalendarSyncLaw", name := "undo", desc := "(LCalendarSync;[J)I" } : Jvm.MethodName) method_30_code (3 : Nat) (Option.some Jvm.ClassFile.FieldType.int) [((0 : Nat), (8 : Nat), (11 : Nat), (13 : Nat))]) ∈ e_good := List.mem_filter.mpr ⟨tm_5 _ (List.mem_of_getElem? (i := 227) rfl), rfl⟩
theorem w5_228 : (Jvm.Cond.methodLink "CalendarSyncLaw" (106 : Nat) ({ cls := "CalendarSync", name := "undo", desc := "()I" } : Jvm.MethodName)) ∈ e_good := List.mem_filter.mpr ⟨tm_5 _ (List.mem_of_getElem? (i := 228) rfl), rfl⟩
theorem w5_229 : (Jvm.Cond.instanceMethod ({ cls := "CalendarSync", name := "undo", desc := "()I" } : Jvm.MethodName)) ∈ e_good := List.mem_filter.mpr ⟨tm_5 _ (List.mem_of_getElem? (i := 229) rfl), rfl⟩
theorem w5_230 : (Jvm.Cond.selects "CalendarSync" ({ cls := "CalendarSync", name := "undo", desc := "()I" } : Jvm.MethodName) ({ cls := "CalendarSync", name := "undo", desc := "()I" } : Jvm.MethodName)) ∈ e_good := List.mem_filter.mpr ⟨tm_5 _ (List.mem_of_getElem? (i := 230) rfl), rfl⟩
theorem w5_238 : (Jvm.Cond.codeWith ({ cls := "CalendarSyncLaw", name := "keep", desc := "(LCalendarSync;I[J)I" } : Jvm.MethodName) method_31_code (4 : Nat) (Option.some Jvm.ClassFile.FieldType.int) [((0 : Nat), (9 : Nat), (12 : Nat), (19 : Nat))]) ∈ e_good := List.mem_filter.mpr ⟨tm_5 _ (List.mem_of_getElem? (i := 238) rfl), rfl⟩
theorem w5_239 : (Jvm.Cond.methodLink "CalendarSyncLaw" (110 : Nat) ({ cls := "CalendarSync", name := "keep", desc := "(I)I" } : Jvm.MethodName)) ∈ e_good := List.mem_filter.mpr ⟨tm_5 _ (List.mem_of_getElem? (i := 239) rfl), rfl⟩
theorem w5_25 : (Jvm.Cond.codeWith ({ cls := "CalendarSyncLaw", name := "busyBits", desc := "(LCalendarSync;III[J)I" } : Jvm.MethodName) method_16_code (6 : Nat) (Option.some Jvm.ClassFile.FieldType.int) [((0 : Nat), (12 : Nat), (15 : Nat), (19 : Nat))]) ∈ e_good := List.mem_filter.mpr ⟨tm_5 _ (List.mem_of_getElem? (i := 25) rfl), rfl⟩
theorem w5_26 : (Jvm.Cond.methodLink "CalendarSyncLaw" (62 : Nat) ({ cls := "CalendarSync", name := "busyBits", desc := "(III)I" } : Jvm.MethodName)) ∈ e_good := List.mem_filter.mpr ⟨tm_5 _ (List.mem_of_getElem? (i := 26) rfl), rfl⟩
theorem w5_27 : (Jvm.Cond.instanceMethod ({ cls := "CalendarSync", name := "busyBits", desc := "(III)I" } : Jvm.MethodName)) ∈ e_good := List.mem_filter.mpr ⟨tm_5 _ (List.mem_of_getElem? (i := 27) rfl), rfl⟩
theorem w5_28 : (Jvm.Cond.selects "CalendarSync" ({ cls := "CalendarSync", name := "busyBits", desc := "(III)I" } : Jvm.MethodName) ({ cls := "CalendarSync", name := "busyBits", desc := "(III)I" } : Jvm.MethodName)) ∈ e_good := List.mem_filter.mpr ⟨tm_5 _ (List.mem_of_getElem? (i := 28) rfl), rfl⟩
theorem w5_36 : (Jvm.Cond.codeWith ({ cls := "CalendarSyncLaw", name := "isSame", desc := "(LCalendarSync;I[J)I" } : Jvm.MethodName) method_17_code (4 : Nat) (Option.some Jvm.ClassFile.FieldType.int) [((0 : Nat), (16 : Nat), (19 : Nat), (19 : Nat))]) ∈ e_good := List.mem_filter.mpr ⟨tm_5 _ (List.mem_of_getElem? (i := 36) rfl), rfl⟩
theorem w5_37 : (Jvm.Cond.methodLink "CalendarSyncLaw" (65 : Nat) ({ cls := "CalendarSync", name := "isSame", desc := "(I)Z" } : Jvm.MethodName)) ∈ e_good := List.mem_filter.mpr ⟨tm_5 _ (List.mem_of_getElem? (i := 37) rfl), rfl⟩
theorem w5_38 : (Jvm.Cond.instanceMethod ({ cls := "CalendarSync", name := "isSame", desc := "(I)Z" } : Jvm.MethodName)) ∈ e_good := List.mem_filter.mpr ⟨tm_5 _ (List.mem_of_getElem? (i := 38) rfl), rfl⟩
theorem w5_39 : (Jvm.Cond.selects "CalendarSync" ({ cls := "CalendarSync", name := "isSame", desc := "(I)Z" } : Jvm.MethodName) ({ cls := "CalendarSync", name := "isSame", desc := "(I)Z" } : Jvm.MethodName)) ∈ e_good := List.mem_filter.mpr ⟨tm_5 _ (List.mem_of_getElem? (i := 39) rfl), rfl⟩
theorem w5_59 : (Jvm.Cond.codeWith ({ cls := "CalendarSyncLaw", name := "side", desc := "(LCalendarSync;II[J)I" } : Jvm.MethodName) method_18_code (5 : Nat) (Option.some Jvm.ClassFile.FieldType.int) [((0 : Nat), (10 : Nat), (13 : Nat), (19 : Nat))]) ∈ e_good := List.mem_filter.mpr ⟨tm_5 _ (List.mem_of_getElem? (i := 59) rfl), rfl⟩
theorem w5_60 : (Jvm.Cond.methodLink "CalendarSyncLaw" (69 : Nat) ({ cls := "CalendarSync", name := "side", desc := "(II)I" } : Jvm.MethodName)) ∈ e_good := List.mem_filter.mpr ⟨tm_5 _ (List.mem_of_getElem? (i := 60) rfl), rfl⟩
theorem w5_61 : (Jvm.Cond.instanceMethod ({ cls := "CalendarSync", name := "side", desc := "(II)I" } : Jvm.MethodName)) ∈ e_good := List.mem_filter.mpr ⟨tm_5 _ (List.mem_of_getElem? (i := 61) rfl), rfl⟩
theorem w5_62 : (Jvm.Cond.selects "CalendarSync" ({ cls := "CalendarSync", name := "side", desc := "(II)I" } : Jvm.MethodName) ({ cls := "CalendarSync", name := "side", desc := "(II)I" } : Jvm.MethodName)) ∈ e_good := List.mem_filter.mpr ⟨tm_5 _ (List.mem_of_getElem? (i := 62) rfl), rfl⟩
theorem w5_7 : (Jvm.Cond.codeWith ({ cls := "CalendarSyncLaw", name := "busy", desc := "(LCalendarSync;III[D)I" } : Jvm.MethodName) method_15_code (6 : Nat) (Option.some Jvm.ClassFile.FieldType.int) [((0 : Nat), (12 : Nat), (15 : Nat), (19 : Nat))]) ∈ e_good := List.mem_filter.mpr ⟨tm_5 _ (List.mem_of_getElem? (i := 7) rfl), rfl⟩
theorem w5_76 : (Jvm.Cond.codeWith ({ cls := "CalendarSyncLaw", name := "account", desc := "(LCalendarSync;II[J)I" } : Jvm.MethodName) method_19_code (5 : Nat) (Option.some Jvm.ClassFile.FieldType.int) [((0 : Nat), (10 : Nat), (13 : Nat), (19 : Nat))]) ∈ e_good := List.mem_filter.mpr ⟨tm_5 _ (List.mem_of_getElem? (i := 76) rfl), rfl⟩
theorem w5_77 : (Jvm.Cond.methodLink "CalendarSyncLaw" (72 : Nat) ({ cls := "CalendarSync", name := "account", desc := "(II)I" } : Jvm.MethodName)) ∈ e_good := List.mem_filter.mpr ⟨tm_5 _ (List.mem_of_getElem? (i := 77) rfl), rfl⟩
theorem w5_78 : (Jvm.Cond.instanceMethod ({ cls := "CalendarSync", name := "account", desc := "(II)I" } : Jvm.MethodName)) ∈ e_good := List.mem_filter.mpr ⟨tm_5 _ (List.mem_of_getElem? (i := 78) rfl), rfl⟩
theorem w5_79 : (Jvm.Cond.selects "CalendarSync" ({ cls := "CalendarSync", name := "account", desc := "(II)I" } : Jvm.MethodName) ({ cls := "CalendarSync", name := "account", desc := "(II)I" } : Jvm.MethodName)) ∈ e_good := List.mem_filter.mpr ⟨tm_5 _ (List.mem_of_getElem? (i := 79) rfl), rfl⟩
theorem w5_8 : (Jvm.Cond.methodLink "CalendarSyncLaw" (58 : Nat) ({ cls := "CalendarSync", name := "busy", desc := "(III)F" } : Jvm.MethodName)) ∈ e_good := List.mem_filter.mpr ⟨tm_5 _ (List.mem_of_getElem? (i := 8) rfl), rfl⟩
theorem w5_83 : (Jvm.Cond.codeWith ({ cls := "CalendarSyncLaw", name := "create", desc := "(LCalendarSync;IIIIII[J)I" } : Jvm.MethodName) method_20_code (9 : Nat) (Option.some Jvm.ClassFile.FieldType.int) [((0 : Nat), (18 : Nat), (21 : Nat), (19 : Nat)), ((0 : Nat), (18 : Nat), (25 : Nat), (29 : Nat)), ((0 : Nat), (18 : Nat), (29 : Nat), (13 : Nat))]) ∈ e_good := List.mem_filter.mpr ⟨tm_5 _ (List.mem_of_getElem? (i := 83) rfl), rfl⟩
theorem w5_84 : (Jvm.Cond.methodLink "CalendarSyncLaw" (75 : Nat) ({ cls := "CalendarSync", name := "create", desc := "(IIIIII)I" } : Jvm.MethodName)) ∈ e_good := List.mem_filter.mpr ⟨tm_5 _ (List.mem_of_getElem? (i := 84) rfl), rfl⟩
theorem w5_85 : (Jvm.Cond.instanceMethod ({ cls := "CalendarSync", name := "create", desc := "(IIIIII)I" } : Jvm.MethodName)) ∈ e_good := List.mem_filter.mpr ⟨tm_5 _ (List.mem_of_getElem? (i := 85) rfl), rfl⟩
theorem w5_86 : (Jvm.Cond.selects "CalendarSync" ({ cls := "CalendarSync", name := "create", desc := "(IIIIII)I" } : Jvm.MethodName) ({ cls := "CalendarSync", name := "create", desc := "(IIIIII)I" } : Jvm.MethodName)) ∈ e_good := List.mem_filter.mpr ⟨tm_5 _ (List.mem_of_getElem? (i := 86) rfl), rfl⟩
theorem w5_9 : (Jvm.Cond.instanceMethod ({ cls := "CalendarSync", name := "busy", desc := "(III)F" } : Jvm.MethodName)) ∈ e_good := List.mem_filter.mpr ⟨tm_5 _ (List.mem_of_getElem? (i := 9) rfl), rfl⟩
theorem w6_0 : (Jvm.Cond.instanceMethod ({ cls := "CalendarSync", name := "keep", desc := "(I)I" } : Jvm.MethodName)) ∈ e_good := List.mem_filter.mpr ⟨tm_6 _ (List.mem_of_getElem? (i := 0) rfl), rfl⟩
theorem w6_1 : (Jvm.Cond.selects "CalendarSync" ({ cls := "CalendarSync", name := "keep", desc := "(I)I" } : Jvm.MethodName) ({ cls := "CalendarSync", name := "keep", desc := "(I)I" } : Jvm.MethodName)) ∈ e_good := List.mem_filter.mpr ⟨tm_6 _ (List.mem_of_getElem? (i := 1) rfl), rfl⟩
theorem w6_6 : (Jvm.Cond.codeWith ({ cls := "CalendarSyncLaw", name := "restore", desc := "(LCalendarSync;I[J)I" } : Jvm.MethodName) method_32_code (4 : Nat) (Option.some Jvm.ClassFile.FieldType.int) [((0 : Nat), (9 : Nat), (12 : Nat), (19 : Nat)), ((0 : Nat), (9 : Nat), (15 : Nat), (29 : Nat))]) ∈ e_good := List.mem_filter.mpr ⟨tm_6 _ (List.mem_of_getElem? (i := 6) rfl), rfl⟩
theorem w6_7 : (Jvm.Cond.methodLink "CalendarSyncLaw" (113 : Nat) ({ cls := "CalendarSync", name := "restore", desc := "(I)I" } : Jvm.MethodName)) ∈ e_good := List.mem_filter.mpr ⟨tm_6 _ (List.mem_of_getElem? (i := 7) rfl), rfl⟩
theorem w6_8 : (Jvm.Cond.instanceMethod ({ cls := "CalendarSync", name := "restore", desc := "(I)I" } : Jvm.MethodName)) ∈ e_good := List.mem_filter.mpr ⟨tm_6 _ (List.mem_of_getElem? (i := 8) rfl), rfl⟩
theorem w6_9 : (Jvm.Cond.selects "CalendarSync" ({ cls := "CalendarSync", name := "restore", desc := "(I)I" } : Jvm.MethodName) ({ cls := "CalendarSync", name := "restore", desc := "(I)I" } : Jvm.MethodName)) ∈ e_good := List.mem_filter.mpr ⟨tm_6 _ (List.mem_of_getElem? (i := 9) rfl), rfl⟩
theorem wqA : (Jvm.Cond.castable "java/lang/IllegalArgumentException" "java/lang/IllegalArgumentException") ∈ e_cast := List.mem_filter.mpr ⟨tm_2 _ (List.mem_of_getElem? (i := 229) rfl), rfl⟩
theorem wqN : (Jvm.Cond.castable "java/util/NoSuchElementException" "java/util/NoSuchElementException") ∈ e_cast := List.mem_filter.mpr ⟨tm_4 _ (List.mem_of_getElem? (i := 56) rfl), rfl⟩
theorem wqI : (Jvm.Cond.castable "java/lang/IndexOutOfBoundsException" "java/lang/IndexOutOfBoundsException") ∈ e_cast := List.mem_filter.mpr ⟨tm_4 _ (List.mem_of_getElem? (i := 72) rfl), rfl⟩
theorem wqS : (Jvm.Cond.castable "java/lang/IllegalStateException" "java/lang/IllegalStateException") ∈ e_cast := List.mem_filter.mpr ⟨tm_2 _ (List.mem_of_getElem? (i := 143) rfl), rfl⟩
def sg_L_feed : SG := (yL_feed, cL_feed, 8, (some .int), 8, 136, 1, 6, 7, false, [(0, 16, 19, 13)])
theorem cs_L_feed : e_csH sg_L_feed := ⟨w2_132, w1_0, ⟨by decide, by decide⟩, by decide +kernel, rfl⟩
def hd_L_feed : String → Option Nat := fun E => if E = "java/lang/IllegalStateException" then some 19 else none
theorem hk_L_feed : e_hdOk "CalendarSyncLaw" (ghh sg_L_feed) 11 hd_L_feed := by
  intro E h hE
  unfold hd_L_feed at hE
  by_cases e0 : E = "java/lang/IllegalStateException"
  · subst e0
    rw [if_pos rfl] at hE
    obtain rfl := Option.some.inj hE
    refine ⟨wqS, (tableOf (ghh sg_L_feed)).take 0, (tableOf (ghh sg_L_feed))[0]'(by decide), (tableOf (ghh sg_L_feed)).drop 1, rfl, ?_, by decide +kernel, by decide +kernel, w2_133, rfl⟩
    exact fun z hz => nomatch hz
  rw [if_neg e0] at hE
  cases hE
theorem dL_feed_0 : decode cL_feed 0 = .ok (.aload 6, 2) := by decide +kernel
theorem dL_feed_2 : decode cL_feed 2 = .ok (.iconst 0, 1) := by decide +kernel
theorem dL_feed_3 : decode cL_feed 3 = .ok (.aload_n 0, 1) := by decide +kernel
theorem dL_feed_4 : decode cL_feed 4 = .ok (.iload_n 1, 1) := by decide +kernel
theorem dL_feed_5 : decode cL_feed 5 = .ok (.iload_n 2, 1) := by decide +kernel
theorem dL_feed_6 : decode cL_feed 6 = .ok (.iload_n 3, 1) := by decide +kernel
theorem dL_feed_7 : decode cL_feed 7 = .ok (.iload 4, 2) := by decide +kernel
theorem dL_feed_9 : decode cL_feed 9 = .ok (.iload 5, 2) := by decide +kernel
theorem dL_feed_11 : decode cL_feed 11 = .ok (.invokevirtual 7, 3) := by decide +kernel
theorem dL_feed_14 : decode cL_feed 14 = .ok (.i2l, 1) := by decide +kernel
theorem dL_feed_15 : decode cL_feed 15 = .ok (.lastore, 1) := by decide +kernel
theorem dL_feed_16 : decode cL_feed 16 = .ok (.goto 7, 3) := by decide +kernel
theorem dL_feed_19 : decode cL_feed 19 = .ok (.astore 7, 2) := by decide +kernel
theorem dL_feed_21 : decode cL_feed 21 = .ok (.iconst 1, 1) := by decide +kernel
theorem dL_feed_22 : decode cL_feed 22 = .ok (.ireturn, 1) := by decide +kernel
theorem dL_feed_23 : decode cL_feed 23 = .ok (.iconst 0, 1) := by decide +kernel
theorem dL_feed_24 : decode cL_feed 24 = .ok (.ireturn, 1) := by decide +kernel
def pg_L_feed (l : Launch) (g : EG) : List (Nat × ES) := [(0, s_ldP 6), (2, s_c (.inl 0)), (3, s_ldP 0), (4, s_ldI 1), (5, s_ldI 2), (6, s_ldI 3), (7, s_ldI 4), (9, s_ldI 5), (11, s_callVH l g sg_L_feed sg_X10_feed 9 hd_L_feed), (14, s_il (fun x => x.toInt64)), (15, s_last), (16, s_goto 23), (19, s_stP 7), (21, s_c (.inl 1)), (22, s_ireti), (23, s_c (.inl 0)), (24, s_ireti)]
theorem ok_L_feed {l : Launch} {g : EG} : e_okpH l g sg_L_feed "CalendarSyncLaw" (pg_L_feed l g) := fun p e R s m args below meth c ex M0 Q X hN =>
    e_each_cons (r_aload X (i := 6) dL_feed_0 rfl)
    (e_each_cons (r_iconst X (n := 0) (v := 0) dL_feed_2 (by decide) rfl)
    (e_each_cons (r_aload_n X (k := 0) (i := 0) rfl dL_feed_3 rfl)
    (e_each_cons (r_iload_n X (k := 1) (i := 1) rfl dL_feed_4 rfl)
    (e_each_cons (r_iload_n X (k := 2) (i := 2) rfl dL_feed_5 rfl)
    (e_each_cons (r_iload_n X (k := 3) (i := 3) rfl dL_feed_6 rfl)
    (e_each_cons (r_iload X (i := 4) dL_feed_7 rfl)
    (e_each_cons (r_iload X (i := 5) dL_feed_9 rfl)
    (e_each_cons (r_callVH X hN (τ := sg_X10_feed) (hdl := hk_L_feed) (index := 7) (ci := 9) dL_feed_11 (by decide) rfl w2_134 w2_135 w2_136 cs_X10_feed rfl ⟨by decide, by decide⟩ rfl)
    (e_each_cons (r_i2l X dL_feed_14 rfl)
    (e_each_cons (r_last X dL_feed_15 rfl)
    (e_each_cons (r_goto X (off := 7) (t := 23) dL_feed_16 (by decide))
    (e_each_cons (r_astore X (i := 7) dL_feed_19 (by decide) rfl)
    (e_each_cons (r_iconst X (n := 1) (v := 1) dL_feed_21 (by decide) rfl)
    (e_each_cons (r_ireti X dL_feed_22 rfl)
    (e_each_cons (r_iconst X (n := 0) (v := 0) dL_feed_23 (by decide) rfl)
    (e_each_cons (r_ireti X dL_feed_24 rfl)
    (e_each_nil)))))))))))))))))
def sg_L_load : SG := (yL_load, cL_load, 4, (some .int), 11, 232, 2, 12, 3, false, [(0, 9, 12, 19), (0, 9, 15, 13)])
theorem cs_L_load : e_csH sg_L_load := ⟨w2_215, w1_0, ⟨by decide, by decide⟩, by decide +kernel, rfl⟩
def hd_L_load : String → Option Nat := fun E => if E = "java/lang/IllegalArgumentException" then some 12 else if E = "java/lang/IllegalStateException" then some 15 else none
theorem hk_L_load : e_hdOk "CalendarSyncLaw" (ghh sg_L_load) 4 hd_L_load := by
  intro E h hE
  unfold hd_L_load at hE
  by_cases e0 : E = "java/lang/IllegalArgumentException"
  · subst e0
    rw [if_pos rfl] at hE
    obtain rfl := Option.some.inj hE
    refine ⟨wqA, (tableOf (ghh sg_L_load)).take 0, (tableOf (ghh sg_L_load))[0]'(by decide), (tableOf (ghh sg_L_load)).drop 1, rfl, ?_, by decide +kernel, by decide +kernel, w2_216, rfl⟩
    exact fun z hz => nomatch hz
  rw [if_neg e0] at hE
  by_cases e1 : E = "java/lang/IllegalStateException"
  · subst e1
    rw [if_pos rfl] at hE
    obtain rfl := Option.some.inj hE
    refine ⟨wqS, (tableOf (ghh sg_L_load)).take 1, (tableOf (ghh sg_L_load))[1]'(by decide), (tableOf (ghh sg_L_load)).drop 2, rfl, ?_, by decide +kernel, by decide +kernel, w2_133, rfl⟩
    refine e_pass (ns := ["java/lang/IllegalArgumentException"]) ?_
    exact ⟨⟨by decide +kernel, w2_216, by decide +kernel⟩, trivial⟩
  rw [if_neg e1] at hE
  cases hE
theorem dL_load_0 : decode cL_load 0 = .ok (.aload_n 2, 1) := by decide +kernel
theorem dL_load_1 : decode cL_load 1 = .ok (.iconst 0, 1) := by decide +kernel
theorem dL_load_2 : decode cL_load 2 = .ok (.aload_n 0, 1) := by decide +kernel
theorem dL_load_3 : decode cL_load 3 = .ok (.iload_n 1, 1) := by decide +kernel
theorem dL_load_4 : decode cL_load 4 = .ok (.invokevirtual 15, 3) := by decide +kernel
theorem dL_load_7 : decode cL_load 7 = .ok (.i2l, 1) := by decide +kernel
theorem dL_load_8 : decode cL_load 8 = .ok (.lastore, 1) := by decide +kernel
theorem dL_load_9 : decode cL_load 9 = .ok (.goto 9, 3) := by decide +kernel
theorem dL_load_12 : decode cL_load 12 = .ok (.astore_n 3, 1) := by decide +kernel
theorem dL_load_13 : decode cL_load 13 = .ok (.iconst 1, 1) := by decide +kernel
theorem dL_load_14 : decode cL_load 14 = .ok (.ireturn, 1) := by decide +kernel
theorem dL_load_15 : decode cL_load 15 = .ok (.astore_n 3, 1) := by decide +kernel
theorem dL_load_16 : decode cL_load 16 = .ok (.iconst 2, 1) := by decide +kernel
theorem dL_load_17 : decode cL_load 17 = .ok (.ireturn, 1) := by decide +kernel
theorem dL_load_18 : decode cL_load 18 = .ok (.iconst 0, 1) := by decide +kernel
theorem dL_load_19 : decode cL_load 19 = .ok (.ireturn, 1) := by decide +kernel
def pg_L_load (l : Launch) (g : EG) : List (Nat × ES) := [(0, s_ldP 2), (1, s_c (.inl 0)), (2, s_ldP 0), (3, s_ldI 1), (4, s_callVH l g sg_L_load sg_X10_load 9 hd_L_load), (7, s_il (fun x => x.toInt64)), (8, s_last), (9, s_goto 18), (12, s_stP 3), (13, s_c (.inl 1)), (14, s_ireti), (15, s_stP 3), (16, s_c (.inl 2)), (17, s_ireti), (18, s_c (.inl 0)), (19, s_ireti)]
theorem ok_L_load {l : Launch} {g : EG} : e_okpH l g sg_L_load "CalendarSyncLaw" (pg_L_load l g) := fun p e R s m args below meth c ex M0 Q X hN =>
    e_each_cons (r_aload_n X (k := 2) (i := 2) rfl dL_load_0 rfl)
    (e_each_cons (r_iconst X (n := 0) (v := 0) dL_load_1 (by decide) rfl)
    (e_each_cons (r_aload_n X (k := 0) (i := 0) rfl dL_load_2 rfl)
    (e_each_cons (r_iload_n X (k := 1) (i := 1) rfl dL_load_3 rfl)
    (e_each_cons (r_callVH X hN (τ := sg_X10_load) (hdl := hk_L_load) (index := 15) (ci := 9) dL_load_4 (by decide) rfl w2_217 w2_218 w2_219 cs_X10_load rfl ⟨by decide, by decide⟩ rfl)
    (e_each_cons (r_i2l X dL_load_7 rfl)
    (e_each_cons (r_last X dL_load_8 rfl)
    (e_each_cons (r_goto X (off := 9) (t := 18) dL_load_9 (by decide))
    (e_each_cons (r_astore_n X (k := 3) (i := 3) rfl dL_load_12 (by decide) rfl)
    (e_each_cons (r_iconst X (n := 1) (v := 1) dL_load_13 (by decide) rfl)
    (e_each_cons (r_ireti X dL_load_14 rfl)
    (e_each_cons (r_astore_n X (k := 3) (i := 3) rfl dL_load_15 (by decide) rfl)
    (e_each_cons (r_iconst X (n := 2) (v := 2) dL_load_16 (by decide) rfl)
    (e_each_cons (r_ireti X dL_load_17 rfl)
    (e_each_cons (r_iconst X (n := 0) (v := 0) dL_load_18 (by decide) rfl)
    (e_each_cons (r_ireti X dL_load_19 rfl)
    (e_each_nil))))))))))))))))
def sg_L_day : SG := (yL_day, cL_day, 5, (some .int), 8, 132, 2, 12, 4, false, [(0, 10, 13, 19)])
theorem cs_L_day : e_csH sg_L_day := ⟨w4_16, w1_0, ⟨by decide, by decide⟩, by decide +kernel, rfl⟩
def hd_L_day : String → Option Nat := fun E => if E = "java/lang/IllegalArgumentException" then some 13 else none
theorem hk_L_day : e_hdOk "CalendarSyncLaw" (ghh sg_L_day) 5 hd_L_day := by
  intro E h hE
  unfold hd_L_day at hE
  by_cases e0 : E = "java/lang/IllegalArgumentException"
  · subst e0
    rw [if_pos rfl] at hE
    obtain rfl := Option.some.inj hE
    refine ⟨wqA, (tableOf (ghh sg_L_day)).take 0, (tableOf (ghh sg_L_day))[0]'(by decide), (tableOf (ghh sg_L_day)).drop 1, rfl, ?_, by decide +kernel, by decide +kernel, w2_216, rfl⟩
    exact fun z hz => nomatch hz
  rw [if_neg e0] at hE
  cases hE
theorem dL_day_0 : decode cL_day 0 = .ok (.aload_n 3, 1) := by decide +kernel
theorem dL_day_1 : decode cL_day 1 = .ok (.iconst 0, 1) := by decide +kernel
theorem dL_day_2 : decode cL_day 2 = .ok (.aload_n 0, 1) := by decide +kernel
theorem dL_day_3 : decode cL_day 3 = .ok (.iload_n 1, 1) := by decide +kernel
theorem dL_day_4 : decode cL_day 4 = .ok (.iload_n 2, 1) := by decide +kernel
theorem dL_day_5 : decode cL_day 5 = .ok (.invokevirtual 21, 3) := by decide +kernel
theorem dL_day_8 : decode cL_day 8 = .ok (.i2l, 1) := by decide +kernel
theorem dL_day_9 : decode cL_day 9 = .ok (.lastore, 1) := by decide +kernel
theorem dL_day_10 : decode cL_day 10 = .ok (.goto 7, 3) := by decide +kernel
theorem dL_day_13 : decode cL_day 13 = .ok (.astore 4, 2) := by decide +kernel
theorem dL_day_15 : decode cL_day 15 = .ok (.iconst 1, 1) := by decide +kernel
theorem dL_day_16 : decode cL_day 16 = .ok (.ireturn, 1) := by decide +kernel
theorem dL_day_17 : decode cL_day 17 = .ok (.iconst 0, 1) := by decide +kernel
theorem dL_day_18 : decode cL_day 18 = .ok (.ireturn, 1) := by decide +kernel
def pg_L_day (l : Launch) (g : EG) : List (Nat × ES) := [(0, s_ldP 3), (1, s_c (.inl 0)), (2, s_ldP 0), (3, s_ldI 1), (4, s_ldI 2), (5, s_callVH l g sg_L_day sg_X10_day 9 hd_L_day), (8, s_il (fun x => x.toInt64)), (9, s_last), (10, s_goto 17), (13, s_stP 4), (15, s_c (.inl 1)), (16, s_ireti), (17, s_c (.inl 0)), (18, s_ireti)]
theorem ok_L_day {l : Launch} {g : EG} : e_okpH l g sg_L_day "CalendarSyncLaw" (pg_L_day l g) := fun p e R s m args below meth c ex M0 Q X hN =>
    e_each_cons (r_aload_n X (k := 3) (i := 3) rfl dL_day_0 rfl)
    (e_each_cons (r_iconst X (n := 0) (v := 0) dL_day_1 (by decide) rfl)
    (e_each_cons (r_aload_n X (k := 0) (i := 0) rfl dL_day_2 rfl)
    (e_each_cons (r_iload_n X (k := 1) (i := 1) rfl dL_day_3 rfl)
    (e_each_cons (r_iload_n X (k := 2) (i := 2) rfl dL_day_4 rfl)
    (e_each_cons (r_callVH X hN (τ := sg_X10_day) (hdl := hk_L_day) (index := 21) (ci := 9) dL_day_5 (by decide) rfl w4_17 w4_18 w4_19 cs_X10_day rfl ⟨by decide, by decide⟩ rfl)
    (e_each_cons (r_i2l X dL_day_8 rfl)
    (e_each_cons (r_last X dL_day_9 rfl)
    (e_each_cons (r_goto X (off := 7) (t := 17) dL_day_10 (by decide))
    (e_each_cons (r_astore X (i := 4) dL_day_13 (by decide) rfl)
    (e_each_cons (r_iconst X (n := 1) (v := 1) dL_day_15 (by decide) rfl)
    (e_each_cons (r_ireti X dL_day_16 rfl)
    (e_each_cons (r_iconst X (n := 0) (v := 0) dL_day_17 (by decide) rfl)
    (e_each_cons (r_ireti X dL_day_18 rfl)
    (e_each_nil))))))))))))))
def sg_L_zone : SG := (yL_zone, cL_zone, 6, (some .int), 9, 155, 3, 18, 5, false, [(0, 12, 15, 19), (0, 12, 19, 29), (0, 12, 23, 31)])
theorem cs_L_zone : e_csH sg_L_zone := ⟨w4_32, w1_0, ⟨by decide, by decide⟩, by decide +kernel, rfl⟩
def hd_L_zone : String → Option Nat := fun E => if E = "java/lang/IllegalArgumentException" then some 15 else if E = "java/util/NoSuchElementException" then some 19 else if E = "java/lang/IndexOutOfBoundsException" then some 23 else none
theorem hk_L_zone : e_hdOk "CalendarSyncLaw" (ghh sg_L_zone) 7 hd_L_zone := by
  intro E h hE
  unfold hd_L_zone at hE
  by_cases e0 : E = "java/lang/IllegalArgumentException"
  · subst e0
    rw [if_pos rfl] at hE
    obtain rfl := Option.some.inj hE
    refine ⟨wqA, (tableOf (ghh sg_L_zone)).take 0, (tableOf (ghh sg_L_zone))[0]'(by decide), (tableOf (ghh sg_L_zone)).drop 1, rfl, ?_, by decide +kernel, by decide +kernel, w2_216, rfl⟩
    exact fun z hz => nomatch hz
  rw [if_neg e0] at hE
  by_cases e1 : E = "java/util/NoSuchElementException"
  · subst e1
    rw [if_pos rfl] at hE
    obtain rfl := Option.some.inj hE
    refine ⟨wqN, (tableOf (ghh sg_L_zone)).take 1, (tableOf (ghh sg_L_zone))[1]'(by decide), (tableOf (ghh sg_L_zone)).drop 2, rfl, ?_, by decide +kernel, by decide +kernel, w4_33, rfl⟩
    refine e_pass (ns := ["java/lang/IllegalArgumentException"]) ?_
    exact ⟨⟨by decide +kernel, w2_216, by decide +kernel⟩, trivial⟩
  rw [if_neg e1] at hE
  by_cases e2 : E = "java/lang/IndexOutOfBoundsException"
  · subst e2
    rw [if_pos rfl] at hE
    obtain rfl := Option.some.inj hE
    refine ⟨wqI, (tableOf (ghh sg_L_zone)).take 2, (tableOf (ghh sg_L_zone))[2]'(by decide), (tableOf (ghh sg_L_zone)).drop 3, rfl, ?_, by decide +kernel, by decide +kernel, w4_34, rfl⟩
    refine e_pass (ns := ["java/lang/IllegalArgumentException", "java/util/NoSuchElementException"]) ?_
    exact ⟨⟨by decide +kernel, w2_216, by decide +kernel⟩, ⟨by decide +kernel, w4_33, by decide +kernel⟩, trivial⟩
  rw [if_neg e2] at hE
  cases hE
theorem dL_zone_0 : decode cL_zone 0 = .ok (.aload 4, 2) := by decide +kernel
theorem dL_zone_2 : decode cL_zone 2 = .ok (.iconst 0, 1) := by decide +kernel
theorem dL_zone_3 : decode cL_zone 3 = .ok (.aload_n 0, 1) := by decide +kernel
theorem dL_zone_4 : decode cL_zone 4 = .ok (.iload_n 1, 1) := by decide +kernel
theorem dL_zone_5 : decode cL_zone 5 = .ok (.iload_n 2, 1) := by decide +kernel
theorem dL_zone_6 : decode cL_zone 6 = .ok (.iload_n 3, 1) := by decide +kernel
theorem dL_zone_7 : decode cL_zone 7 = .ok (.invokevirtual 25, 3) := by decide +kernel
theorem dL_zone_10 : decode cL_zone 10 = .ok (.i2l, 1) := by decide +kernel
theorem dL_zone_11 : decode cL_zone 11 = .ok (.lastore, 1) := by decide +kernel
theorem dL_zone_12 : decode cL_zone 12 = .ok (.goto 15, 3) := by decide +kernel
theorem dL_zone_15 : decode cL_zone 15 = .ok (.astore 5, 2) := by decide +kernel
theorem dL_zone_17 : decode cL_zone 17 = .ok (.iconst 1, 1) := by decide +kernel
theorem dL_zone_18 : decode cL_zone 18 = .ok (.ireturn, 1) := by decide +kernel
theorem dL_zone_19 : decode cL_zone 19 = .ok (.astore 5, 2) := by decide +kernel
theorem dL_zone_21 : decode cL_zone 21 = .ok (.iconst 2, 1) := by decide +kernel
theorem dL_zone_22 : decode cL_zone 22 = .ok (.ireturn, 1) := by decide +kernel
theorem dL_zone_23 : decode cL_zone 23 = .ok (.astore 5, 2) := by decide +kernel
theorem dL_zone_25 : decode cL_zone 25 = .ok (.iconst 3, 1) := by decide +kernel
theorem dL_zone_26 : decode cL_zone 26 = .ok (.ireturn, 1) := by decide +kernel
theorem dL_zone_27 : decode cL_zone 27 = .ok (.iconst 0, 1) := by decide +kernel
theorem dL_zone_28 : decode cL_zone 28 = .ok (.ireturn, 1) := by decide +kernel
def pg_L_zone (l : Launch) (g : EG) : List (Nat × ES) := [(0, s_ldP 4), (2, s_c (.inl 0)), (3, s_ldP 0), (4, s_ldI 1), (5, s_ldI 2), (6, s_ldI 3), (7, s_callVH l g sg_L_zone sg_X10_zone 9 hd_L_zone), (10, s_il (fun x => x.toInt64)), (11, s_last), (12, s_goto 27), (15, s_stP 5), (17, s_c (.inl 1)), (18, s_ireti), (19, s_stP 5), (21, s_c (.inl 2)), (22, s_ireti), (23, s_stP 5), (25, s_c (.inl 3)), (26, s_ireti), (27, s_c (.inl 0)), (28, s_ireti)]
theorem ok_L_zone {l : Launch} {g : EG} : e_okpH l g sg_L_zone "CalendarSyncLaw" (pg_L_zone l g) := fun p e R s m args below meth c ex M0 Q X hN =>
    e_each_cons (r_aload X (i := 4) dL_zone_0 rfl)
    (e_each_cons (r_iconst X (n := 0) (v := 0) dL_zone_2 (by decide) rfl)
    (e_each_cons (r_aload_n X (k := 0) (i := 0) rfl dL_zone_3 rfl)
    (e_each_cons (r_iload_n X (k := 1) (i := 1) rfl dL_zone_4 rfl)
    (e_each_cons (r_iload_n X (k := 2) (i := 2) rfl dL_zone_5 rfl)
    (e_each_cons (r_iload_n X (k := 3) (i := 3) rfl dL_zone_6 rfl)
    (e_each_cons (r_callVH X hN (τ := sg_X10_zone) (hdl := hk_L_zone) (index := 25) (ci := 9) dL_zone_7 (by decide) rfl w4_35 w4_36 w4_37 cs_X10_zone rfl ⟨by decide, by decide⟩ rfl)
    (e_each_cons (r_i2l X dL_zone_10 rfl)
    (e_each_cons (r_last X dL_zone_11 rfl)
    (e_each_cons (r_goto X (off := 15) (t := 27) dL_zone_12 (by decide))
    (e_each_cons (r_astore X (i := 5) dL_zone_15 (by decide) rfl)
    (e_each_cons (r_iconst X (n := 1) (v := 1) dL_zone_17 (by decide) rfl)
    (e_each_cons (r_ireti X dL_zone_18 rfl)
    (e_each_cons (r_astore X (i := 5) dL_zone_19 (by decide) rfl)
    (e_each_cons (r_iconst X (n := 2) (v := 2) dL_zone_21 (by decide) rfl)
    (e_each_cons (r_ireti X dL_zone_22 rfl)
    (e_each_cons (r_astore X (i := 5) dL_zone_23 (by decide) rfl)
    (e_each_cons (r_iconst X (n := 3) (v := 3) dL_zone_25 (by decide) rfl)
    (e_each_cons (r_ireti X dL_zone_26 rfl)
    (e_each_cons (r_iconst X (n := 0) (v := 0) dL_zone_27 (by decide) rfl)
    (e_each_cons (r_ireti X dL_zone_28 rfl)
    (e_each_nil)))))))))))))))))))))
def sg_L_moment : SG := (yL_moment, cL_moment, 7, (some .int), 9, 156, 3, 18, 6, false, [(0, 14, 17, 19), (0, 14, 21, 29)])
theorem cs_L_moment : e_csH sg_L_moment := ⟨w4_87, w1_0, ⟨by decide, by decide⟩, by decide +kernel, rfl⟩
def hd_L_moment : String → Option Nat := fun E => if E = "java/lang/IllegalArgumentException" then some 17 else if E = "java/util/NoSuchElementException" then some 21 else none
theorem hk_L_moment : e_hdOk "CalendarSyncLaw" (ghh sg_L_moment) 9 hd_L_moment := by
  intro E h hE
  unfold hd_L_moment at hE
  by_cases e0 : E = "java/lang/IllegalArgumentException"
  · subst e0
    rw [if_pos rfl] at hE
    obtain rfl := Option.some.inj hE
    refine ⟨wqA, (tableOf (ghh sg_L_moment)).take 0, (tableOf (ghh sg_L_moment))[0]'(by decide), (tableOf (ghh sg_L_moment)).drop 1, rfl, ?_, by decide +kernel, by decide +kernel, w2_216, rfl⟩
    exact fun z hz => nomatch hz
  rw [if_neg e0] at hE
  by_cases e1 : E = "java/util/NoSuchElementException"
  · subst e1
    rw [if_pos rfl] at hE
    obtain rfl := Option.some.inj hE
    refine ⟨wqN, (tableOf (ghh sg_L_moment)).take 1, (tableOf (ghh sg_L_moment))[1]'(by decide), (tableOf (ghh sg_L_moment)).drop 2, rfl, ?_, by decide +kernel, by decide +kernel, w4_33, rfl⟩
    refine e_pass (ns := ["java/lang/IllegalArgumentException"]) ?_
    exact ⟨⟨by decide +kernel, w2_216, by decide +kernel⟩, trivial⟩
  rw [if_neg e1] at hE
  cases hE
theorem dL_moment_0 : decode cL_moment 0 = .ok (.aload 5, 2) := by decide +kernel
theorem dL_moment_2 : decode cL_moment 2 = .ok (.iconst 0, 1) := by decide +kernel
theorem dL_moment_3 : decode cL_moment 3 = .ok (.aload_n 0, 1) := by decide +kernel
theorem dL_moment_4 : decode cL_moment 4 = .ok (.iload_n 1, 1) := by decide +kernel
theorem dL_moment_5 : decode cL_moment 5 = .ok (.iload_n 2, 1) := by decide +kernel
theorem dL_moment_6 : decode cL_moment 6 = .ok (.iload_n 3, 1) := by decide +kernel
theorem dL_moment_7 : decode cL_moment 7 = .ok (.iload 4, 2) := by decide +kernel
theorem dL_moment_9 : decode cL_moment 9 = .ok (.invokevirtual 33, 3) := by decide +kernel
theorem dL_moment_12 : decode cL_moment 12 = .ok (.i2l, 1) := by decide +kernel
theorem dL_moment_13 : decode cL_moment 13 = .ok (.lastore, 1) := by decide +kernel
theorem dL_moment_14 : decode cL_moment 14 = .ok (.goto 11, 3) := by decide +kernel
theorem dL_moment_17 : decode cL_moment 17 = .ok (.astore 6, 2) := by decide +kernel
theorem dL_moment_19 : decode cL_moment 19 = .ok (.iconst 1, 1) := by decide +kernel
theorem dL_moment_20 : decode cL_moment 20 = .ok (.ireturn, 1) := by decide +kernel
theorem dL_moment_21 : decode cL_moment 21 = .ok (.astore 6, 2) := by decide +kernel
theorem dL_moment_23 : decode cL_moment 23 = .ok (.iconst 2, 1) := by decide +kernel
theorem dL_moment_24 : decode cL_moment 24 = .ok (.ireturn, 1) := by decide +kernel
theorem dL_moment_25 : decode cL_moment 25 = .ok (.iconst 0, 1) := by decide +kernel
theorem dL_moment_26 : decode cL_moment 26 = .ok (.ireturn, 1) := by decide +kernel
def pg_L_moment (l : Launch) (g : EG) : List (Nat × ES) := [(0, s_ldP 5), (2, s_c (.inl 0)), (3, s_ldP 0), (4, s_ldI 1), (5, s_ldI 2), (6, s_ldI 3), (7, s_ldI 4), (9, s_callVH l g sg_L_moment sg_X10_moment 9 hd_L_moment), (12, s_il (fun x => x.toInt64)), (13, s_last), (14, s_goto 25), (17, s_stP 6), (19, s_c (.inl 1)), (20, s_ireti), (21, s_stP 6), (23, s_c (.inl 2)), (24, s_ireti), (25, s_c (.inl 0)), (26, s_ireti)]
theorem ok_L_moment {l : Launch} {g : EG} : e_okpH l g sg_L_moment "CalendarSyncLaw" (pg_L_moment l g) := fun p e R s m args below meth c ex M0 Q X hN =>
    e_each_cons (r_aload X (i := 5) dL_moment_0 rfl)
    (e_each_cons (r_iconst X (n := 0) (v := 0) dL_moment_2 (by decide) rfl)
    (e_each_cons (r_aload_n X (k := 0) (i := 0) rfl dL_moment_3 rfl)
    (e_each_cons (r_iload_n X (k := 1) (i := 1) rfl dL_moment_4 rfl)
    (e_each_cons (r_iload_n X (k := 2) (i := 2) rfl dL_moment_5 rfl)
    (e_each_cons (r_iload_n X (k := 3) (i := 3) rfl dL_moment_6 rfl)
    (e_each_cons (r_iload X (i := 4) dL_moment_7 rfl)
    (e_each_cons (r_callVH X hN (τ := sg_X10_moment) (hdl := hk_L_moment) (index := 33) (ci := 9) dL_moment_9 (by decide) rfl w4_88 w4_89 w4_90 cs_X10_moment rfl ⟨by decide, by decide⟩ rfl)
    (e_each_cons (r_i2l X dL_moment_12 rfl)
    (e_each_cons (r_last X dL_moment_13 rfl)
    (e_each_cons (r_goto X (off := 11) (t := 25) dL_moment_14 (by decide))
    (e_each_cons (r_astore X (i := 6) dL_moment_17 (by decide) rfl)
    (e_each_cons (r_iconst X (n := 1) (v := 1) dL_moment_19 (by decide) rfl)
    (e_each_cons (r_ireti X dL_moment_20 rfl)
    (e_each_cons (r_astore X (i := 6) dL_moment_21 (by decide) rfl)
    (e_each_cons (r_iconst X (n := 2) (v := 2) dL_moment_23 (by decide) rfl)
    (e_each_cons (r_ireti X dL_moment_24 rfl)
    (e_each_cons (r_iconst X (n := 0) (v := 0) dL_moment_25 (by decide) rfl)
    (e_each_cons (r_ireti X dL_moment_26 rfl)
    (e_each_nil)))))))))))))))))))
def sg_L_events : SG := (yL_events, cL_events, 4, (some .int), 9, 152, 1, 6, 3, false, [(0, 9, 12, 19)])
theorem cs_L_events : e_csH sg_L_events := ⟨w4_106, w1_0, ⟨by decide, by decide⟩, by decide +kernel, rfl⟩
def hd_L_events : String → Option Nat := fun E => if E = "java/lang/IllegalArgumentException" then some 12 else none
theorem hk_L_events : e_hdOk "CalendarSyncLaw" (ghh sg_L_events) 4 hd_L_events := by
  intro E h hE
  unfold hd_L_events at hE
  by_cases e0 : E = "java/lang/IllegalArgumentException"
  · subst e0
    rw [if_pos rfl] at hE
    obtain rfl := Option.some.inj hE
    refine ⟨wqA, (tableOf (ghh sg_L_events)).take 0, (tableOf (ghh sg_L_events))[0]'(by decide), (tableOf (ghh sg_L_events)).drop 1, rfl, ?_, by decide +kernel, by decide +kernel, w2_216, rfl⟩
    exact fun z hz => nomatch hz
  rw [if_neg e0] at hE
  cases hE
theorem dL_events_0 : decode cL_events 0 = .ok (.aload_n 2, 1) := by decide +kernel
theorem dL_events_1 : decode cL_events 1 = .ok (.iconst 0, 1) := by decide +kernel
theorem dL_events_2 : decode cL_events 2 = .ok (.aload_n 0, 1) := by decide +kernel
theorem dL_events_3 : decode cL_events 3 = .ok (.iload_n 1, 1) := by decide +kernel
theorem dL_events_4 : decode cL_events 4 = .ok (.invokevirtual 37, 3) := by decide +kernel
theorem dL_events_7 : decode cL_events 7 = .ok (.i2l, 1) := by decide +kernel
theorem dL_events_8 : decode cL_events 8 = .ok (.lastore, 1) := by decide +kernel
theorem dL_events_9 : decode cL_events 9 = .ok (.goto 6, 3) := by decide +kernel
theorem dL_events_12 : decode cL_events 12 = .ok (.astore_n 3, 1) := by decide +kernel
theorem dL_events_13 : decode cL_events 13 = .ok (.iconst 1, 1) := by decide +kernel
theorem dL_events_14 : decode cL_events 14 = .ok (.ireturn, 1) := by decide +kernel
theorem dL_events_15 : decode cL_events 15 = .ok (.iconst 0, 1) := by decide +kernel
theorem dL_events_16 : decode cL_events 16 = .ok (.ireturn, 1) := by decide +kernel
def pg_L_events (l : Launch) (g : EG) : List (Nat × ES) := [(0, s_ldP 2), (1, s_c (.inl 0)), (2, s_ldP 0), (3, s_ldI 1), (4, s_callVH l g sg_L_events sg_X10_events 9 hd_L_events), (7, s_il (fun x => x.toInt64)), (8, s_last), (9, s_goto 15), (12, s_stP 3), (13, s_c (.inl 1)), (14, s_ireti), (15, s_c (.inl 0)), (16, s_ireti)]
theorem ok_L_events {l : Launch} {g : EG} : e_okpH l g sg_L_events "CalendarSyncLaw" (pg_L_events l g) := fun p e R s m args below meth c ex M0 Q X hN =>
    e_each_cons (r_aload_n X (k := 2) (i := 2) rfl dL_events_0 rfl)
    (e_each_cons (r_iconst X (n := 0) (v := 0) dL_events_1 (by decide) rfl)
    (e_each_cons (r_aload_n X (k := 0) (i := 0) rfl dL_events_2 rfl)
    (e_each_cons (r_iload_n X (k := 1) (i := 1) rfl dL_events_3 rfl)
    (e_each_cons (r_callVH X hN (τ := sg_X10_events) (hdl := hk_L_events) (index := 37) (ci := 9) dL_events_4 (by decide) rfl w4_107 w4_108 w4_109 cs_X10_events rfl ⟨by decide, by decide⟩ rfl)
    (e_each_cons (r_i2l X dL_events_7 rfl)
    (e_each_cons (r_last X dL_events_8 rfl)
    (e_each_cons (r_goto X (off := 6) (t := 15) dL_events_9 (by decide))
    (e_each_cons (r_astore_n X (k := 3) (i := 3) rfl dL_events_12 (by decide) rfl)
    (e_each_cons (r_iconst X (n := 1) (v := 1) dL_events_13 (by decide) rfl)
    (e_each_cons (r_ireti X dL_events_14 rfl)
    (e_each_cons (r_iconst X (n := 0) (v := 0) dL_events_15 (by decide) rfl)
    (e_each_cons (r_ireti X dL_events_16 rfl)
    (e_each_nil)))))))))))))
def sg_L_event : SG := (yL_event, cL_event, 6, (some .int), 9, 155, 3, 18, 5, false, [(0, 12, 15, 19), (0, 12, 19, 29), (0, 12, 23, 31)])
theorem cs_L_event : e_csH sg_L_event := ⟨w4_117, w1_0, ⟨by decide, by decide⟩, by decide +kernel, rfl⟩
def hd_L_event : String → Option Nat := fun E => if E = "java/lang/IllegalArgumentException" then some 15 else if E = "java/util/NoSuchElementException" then some 19 else if E = "java/lang/IndexOutOfBoundsException" then some 23 else none
theorem hk_L_event : e_hdOk "CalendarSyncLaw" (ghh sg_L_event) 7 hd_L_event := by
  intro E h hE
  unfold hd_L_event at hE
  by_cases e0 : E = "java/lang/IllegalArgumentException"
  · subst e0
    rw [if_pos rfl] at hE
    obtain rfl := Option.some.inj hE
    refine ⟨wqA, (tableOf (ghh sg_L_event)).take 0, (tableOf (ghh sg_L_event))[0]'(by decide), (tableOf (ghh sg_L_event)).drop 1, rfl, ?_, by decide +kernel, by decide +kernel, w2_216, rfl⟩
    exact fun z hz => nomatch hz
  rw [if_neg e0] at hE
  by_cases e1 : E = "java/util/NoSuchElementException"
  · subst e1
    rw [if_pos rfl] at hE
    obtain rfl := Option.some.inj hE
    refine ⟨wqN, (tableOf (ghh sg_L_event)).take 1, (tableOf (ghh sg_L_event))[1]'(by decide), (tableOf (ghh sg_L_event)).drop 2, rfl, ?_, by decide +kernel, by decide +kernel, w4_33, rfl⟩
    refine e_pass (ns := ["java/lang/IllegalArgumentException"]) ?_
    exact ⟨⟨by decide +kernel, w2_216, by decide +kernel⟩, trivial⟩
  rw [if_neg e1] at hE
  by_cases e2 : E = "java/lang/IndexOutOfBoundsException"
  · subst e2
    rw [if_pos rfl] at hE
    obtain rfl := Option.some.inj hE
    refine ⟨wqI, (tableOf (ghh sg_L_event)).take 2, (tableOf (ghh sg_L_event))[2]'(by decide), (tableOf (ghh sg_L_event)).drop 3, rfl, ?_, by decide +kernel, by decide +kernel, w4_34, rfl⟩
    refine e_pass (ns := ["java/lang/IllegalArgumentException", "java/util/NoSuchElementException"]) ?_
    exact ⟨⟨by decide +kernel, w2_216, by decide +kernel⟩, ⟨by decide +kernel, w4_33, by decide +kernel⟩, trivial⟩
  rw [if_neg e2] at hE
  cases hE
theorem dL_event_0 : decode cL_event 0 = .ok (.aload 4, 2) := by decide +kernel
theorem dL_event_2 : decode cL_event 2 = .ok (.iconst 0, 1) := by decide +kernel
theorem dL_event_3 : decode cL_event 3 = .ok (.aload_n 0, 1) := by decide +kernel
theorem dL_event_4 : decode cL_event 4 = .ok (.iload_n 1, 1) := by decide +kernel
theorem dL_event_5 : decode cL_event 5 = .ok (.iload_n 2, 1) := by decide +kernel
theorem dL_event_6 : decode cL_event 6 = .ok (.iload_n 3, 1) := by decide +kernel
theorem dL_event_7 : decode cL_event 7 = .ok (.invokevirtual 40, 3) := by decide +kernel
theorem dL_event_10 : decode cL_event 10 = .ok (.i2l, 1) := by decide +kernel
theorem dL_event_11 : decode cL_event 11 = .ok (.lastore, 1) := by decide +kernel
theorem dL_event_12 : decode cL_event 12 = .ok (.goto 15, 3) := by decide +kernel
theorem dL_event_15 : decode cL_event 15 = .ok (.astore 5, 2) := by decide +kernel
theorem dL_event_17 : decode cL_event 17 = .ok (.iconst 1, 1) := by decide +kernel
theorem dL_event_18 : decode cL_event 18 = .ok (.ireturn, 1) := by decide +kernel
theorem dL_event_19 : decode cL_event 19 = .ok (.astore 5, 2) := by decide +kernel
theorem dL_event_21 : decode cL_event 21 = .ok (.iconst 2, 1) := by decide +kernel
theorem dL_event_22 : decode cL_event 22 = .ok (.ireturn, 1) := by decide +kernel
theorem dL_event_23 : decode cL_event 23 = .ok (.astore 5, 2) := by decide +kernel
theorem dL_event_25 : decode cL_event 25 = .ok (.iconst 3, 1) := by decide +kernel
theorem dL_event_26 : decode cL_event 26 = .ok (.ireturn, 1) := by decide +kernel
theorem dL_event_27 : decode cL_event 27 = .ok (.iconst 0, 1) := by decide +kernel
theorem dL_event_28 : decode cL_event 28 = .ok (.ireturn, 1) := by decide +kernel
def pg_L_event (l : Launch) (g : EG) : List (Nat × ES) := [(0, s_ldP 4), (2, s_c (.inl 0)), (3, s_ldP 0), (4, s_ldI 1), (5, s_ldI 2), (6, s_ldI 3), (7, s_callVH l g sg_L_event sg_X10_event 9 hd_L_event), (10, s_il (fun x => x.toInt64)), (11, s_last), (12, s_goto 27), (15, s_stP 5), (17, s_c (.inl 1)), (18, s_ireti), (19, s_stP 5), (21, s_c (.inl 2)), (22, s_ireti), (23, s_stP 5), (25, s_c (.inl 3)), (26, s_ireti), (27, s_c (.inl 0)), (28, s_ireti)]
theorem ok_L_event {l : Launch} {g : EG} : e_okpH l g sg_L_event "CalendarSyncLaw" (pg_L_event l g) := fun p e R s m args below meth c ex M0 Q X hN =>
    e_each_cons (r_aload X (i := 4) dL_event_0 rfl)
    (e_each_cons (r_iconst X (n := 0) (v := 0) dL_event_2 (by decide) rfl)
    (e_each_cons (r_aload_n X (k := 0) (i := 0) rfl dL_event_3 rfl)
    (e_each_cons (r_iload_n X (k := 1) (i := 1) rfl dL_event_4 rfl)
    (e_each_cons (r_iload_n X (k := 2) (i := 2) rfl dL_event_5 rfl)
    (e_each_cons (r_iload_n X (k := 3) (i := 3) rfl dL_event_6 rfl)
    (e_each_cons (r_callVH X hN (τ := sg_X10_event) (hdl := hk_L_event) (index := 40) (ci := 9) dL_event_7 (by decide) rfl w4_118 w4_119 w4_120 cs_X10_event rfl ⟨by decide, by decide⟩ rfl)
    (e_each_cons (r_i2l X dL_event_10 rfl)
    (e_each_cons (r_last X dL_event_11 rfl)
    (e_each_cons (r_goto X (off := 15) (t := 27) dL_event_12 (by decide))
    (e_each_cons (r_astore X (i := 5) dL_event_15 (by decide) rfl)
    (e_each_cons (r_iconst X (n := 1) (v := 1) dL_event_17 (by decide) rfl)
    (e_each_cons (r_ireti X dL_event_18 rfl)
    (e_each_cons (r_astore X (i := 5) dL_event_19 (by decide) rfl)
    (e_each_cons (r_iconst X (n := 2) (v := 2) dL_event_21 (by decide) rfl)
    (e_each_cons (r_ireti X dL_event_22 rfl)
    (e_each_cons (r_astore X (i := 5) dL_event_23 (by decide) rfl)
    (e_each_cons (r_iconst X (n := 3) (v := 3) dL_event_25 (by decide) rfl)
    (e_each_cons (r_ireti X dL_event_26 rfl)
    (e_each_cons (r_iconst X (n := 0) (v := 0) dL_event_27 (by decide) rfl)
    (e_each_cons (r_ireti X dL_event_28 rfl)
    (e_each_nil)))))))))))))))))))))
def sg_L_date : SG := (yL_date, cL_date, 7, (some .int), 9, 157, 4, 24, 6, false, [(0, 14, 17, 19), (0, 14, 21, 29), (0, 14, 25, 31)])
theorem cs_L_date : e_csH sg_L_date := ⟨w4_131, w1_0, ⟨by decide, by decide⟩, by decide +kernel, rfl⟩
def hd_L_date : String → Option Nat := fun E => if E = "java/lang/IllegalArgumentException" then some 17 else if E = "java/util/NoSuchElementException" then some 21 else if E = "java/lang/IndexOutOfBoundsException" then some 25 else none
theorem hk_L_date : e_hdOk "CalendarSyncLaw" (ghh sg_L_date) 9 hd_L_date := by
  intro E h hE
  unfold hd_L_date at hE
  by_cases e0 : E = "java/lang/IllegalArgumentException"
  · subst e0
    rw [if_pos rfl] at hE
    obtain rfl := Option.some.inj hE
    refine ⟨wqA, (tableOf (ghh sg_L_date)).take 0, (tableOf (ghh sg_L_date))[0]'(by decide), (tableOf (ghh sg_L_date)).drop 1, rfl, ?_, by decide +kernel, by decide +kernel, w2_216, rfl⟩
    exact fun z hz => nomatch hz
  rw [if_neg e0] at hE
  by_cases e1 : E = "java/util/NoSuchElementException"
  · subst e1
    rw [if_pos rfl] at hE
    obtain rfl := Option.some.inj hE
    refine ⟨wqN, (tableOf (ghh sg_L_date)).take 1, (tableOf (ghh sg_L_date))[1]'(by decide), (tableOf (ghh sg_L_date)).drop 2, rfl, ?_, by decide +kernel, by decide +kernel, w4_33, rfl⟩
    refine e_pass (ns := ["java/lang/IllegalArgumentException"]) ?_
    exact ⟨⟨by decide +kernel, w2_216, by decide +kernel⟩, trivial⟩
  rw [if_neg e1] at hE
  by_cases e2 : E = "java/lang/IndexOutOfBoundsException"
  · subst e2
    rw [if_pos rfl] at hE
    obtain rfl := Option.some.inj hE
    refine ⟨wqI, (tableOf (ghh sg_L_date)).take 2, (tableOf (ghh sg_L_date))[2]'(by decide), (tableOf (ghh sg_L_date)).drop 3, rfl, ?_, by decide +kernel, by decide +kernel, w4_34, rfl⟩
    refine e_pass (ns := ["java/lang/IllegalArgumentException", "java/util/NoSuchElementException"]) ?_
    exact ⟨⟨by decide +kernel, w2_216, by decide +kernel⟩, ⟨by decide +kernel, w4_33, by decide +kernel⟩, trivial⟩
  rw [if_neg e2] at hE
  cases hE
theorem dL_date_0 : decode cL_date 0 = .ok (.aload 5, 2) := by decide +kernel
theorem dL_date_2 : decode cL_date 2 = .ok (.iconst 0, 1) := by decide +kernel
theorem dL_date_3 : decode cL_date 3 = .ok (.aload_n 0, 1) := by decide +kernel
theorem dL_date_4 : decode cL_date 4 = .ok (.iload_n 1, 1) := by decide +kernel
theorem dL_date_5 : decode cL_date 5 = .ok (.iload_n 2, 1) := by decide +kernel
theorem dL_date_6 : decode cL_date 6 = .ok (.iload_n 3, 1) := by decide +kernel
theorem dL_date_7 : decode cL_date 7 = .ok (.iload 4, 2) := by decide +kernel
theorem dL_date_9 : decode cL_date 9 = .ok (.invokevirtual 43, 3) := by decide +kernel
theorem dL_date_12 : decode cL_date 12 = .ok (.i2l, 1) := by decide +kernel
theorem dL_date_13 : decode cL_date 13 = .ok (.lastore, 1) := by decide +kernel
theorem dL_date_14 : decode cL_date 14 = .ok (.goto 15, 3) := by decide +kernel
theorem dL_date_17 : decode cL_date 17 = .ok (.astore 6, 2) := by decide +kernel
theorem dL_date_19 : decode cL_date 19 = .ok (.iconst 1, 1) := by decide +kernel
theorem dL_date_20 : decode cL_date 20 = .ok (.ireturn, 1) := by decide +kernel
theorem dL_date_21 : decode cL_date 21 = .ok (.astore 6, 2) := by decide +kernel
theorem dL_date_23 : decode cL_date 23 = .ok (.iconst 2, 1) := by decide +kernel
theorem dL_date_24 : decode cL_date 24 = .ok (.ireturn, 1) := by decide +kernel
theorem dL_date_25 : decode cL_date 25 = .ok (.astore 6, 2) := by decide +kernel
theorem dL_date_27 : decode cL_date 27 = .ok (.iconst 3, 1) := by decide +kernel
theorem dL_date_28 : decode cL_date 28 = .ok (.ireturn, 1) := by decide +kernel
theorem dL_date_29 : decode cL_date 29 = .ok (.iconst 0, 1) := by decide +kernel
theorem dL_date_30 : decode cL_date 30 = .ok (.ireturn, 1) := by decide +kernel
def pg_L_date (l : Launch) (g : EG) : List (Nat × ES) := [(0, s_ldP 5), (2, s_c (.inl 0)), (3, s_ldP 0), (4, s_ldI 1), (5, s_ldI 2), (6, s_ldI 3), (7, s_ldI 4), (9, s_callVH l g sg_L_date sg_X10_date 9 hd_L_date), (12, s_il (fun x => x.toInt64)), (13, s_last), (14, s_goto 29), (17, s_stP 6), (19, s_c (.inl 1)), (20, s_ireti), (21, s_stP 6), (23, s_c (.inl 2)), (24, s_ireti), (25, s_stP 6), (27, s_c (.inl 3)), (28, s_ireti), (29, s_c (.inl 0)), (30, s_ireti)]
theorem ok_L_date {l : Launch} {g : EG} : e_okpH l g sg_L_date "CalendarSyncLaw" (pg_L_date l g) := fun p e R s m args below meth c ex M0 Q X hN =>
    e_each_cons (r_aload X (i := 5) dL_date_0 rfl)
    (e_each_cons (r_iconst X (n := 0) (v := 0) dL_date_2 (by decide) rfl)
    (e_each_cons (r_aload_n X (k := 0) (i := 0) rfl dL_date_3 rfl)
    (e_each_cons (r_iload_n X (k := 1) (i := 1) rfl dL_date_4 rfl)
    (e_each_cons (r_iload_n X (k := 2) (i := 2) rfl dL_date_5 rfl)
    (e_each_cons (r_iload_n X (k := 3) (i := 3) rfl dL_date_6 rfl)
    (e_each_cons (r_iload X (i := 4) dL_date_7 rfl)
    (e_each_cons (r_callVH X hN (τ := sg_X10_date) (hdl := hk_L_date) (index := 43) (ci := 9) dL_date_9 (by decide) rfl w4_132 w4_133 w4_134 cs_X10_date rfl ⟨by decide, by decide⟩ rfl)
    (e_each_cons (r_i2l X dL_date_12 rfl)
    (e_each_cons (r_last X dL_date_13 rfl)
    (e_each_cons (r_goto X (off := 15) (t := 29) dL_date_14 (by decide))
    (e_each_cons (r_astore X (i := 6) dL_date_17 (by decide) rfl)
    (e_each_cons (r_iconst X (n := 1) (v := 1) dL_date_19 (by decide) rfl)
    (e_each_cons (r_ireti X dL_date_20 rfl)
    (e_each_cons (r_astore X (i := 6) dL_date_21 (by decide) rfl)
    (e_each_cons (r_iconst X (n := 2) (v := 2) dL_date_23 (by decide) rfl)
    (e_each_cons (r_ireti X dL_date_24 rfl)
    (e_each_cons (r_astore X (i := 6) dL_date_25 (by decide) rfl)
    (e_each_cons (r_iconst X (n := 3) (v := 3) dL_date_27 (by decide) rfl)
    (e_each_cons (r_ireti X dL_date_28 rfl)
    (e_each_cons (r_iconst X (n := 0) (v := 0) dL_date_29 (by decide) rfl)
    (e_each_cons (r_ireti X dL_date_30 rfl)
    (e_each_nil))))))))))))))))))))))
def sg_L_answer : SG := (yL_answer, cL_answer, 6, (some .int), 9, 155, 3, 18, 5, false, [(0, 12, 15, 19), (0, 12, 19, 29)])
theorem cs_L_answer : e_csH sg_L_answer := ⟨w4_178, w1_0, ⟨by decide, by decide⟩, by decide +kernel, rfl⟩
def hd_L_answer : String → Option Nat := fun E => if E = "java/lang/IllegalArgumentException" then some 15 else if E = "java/util/NoSuchElementException" then some 19 else none
theorem hk_L_answer : e_hdOk "CalendarSyncLaw" (ghh sg_L_answer) 7 hd_L_answer := by
  intro E h hE
  unfold hd_L_answer at hE
  by_cases e0 : E = "java/lang/IllegalArgumentException"
  · subst e0
    rw [if_pos rfl] at hE
    obtain rfl := Option.some.inj hE
    refine ⟨wqA, (tableOf (ghh sg_L_answer)).take 0, (tableOf (ghh sg_L_answer))[0]'(by decide), (tableOf (ghh sg_L_answer)).drop 1, rfl, ?_, by decide +kernel, by decide +kernel, w2_216, rfl⟩
    exact fun z hz => nomatch hz
  rw [if_neg e0] at hE
  by_cases e1 : E = "java/util/NoSuchElementException"
  · subst e1
    rw [if_pos rfl] at hE
    obtain rfl := Option.some.inj hE
    refine ⟨wqN, (tableOf (ghh sg_L_answer)).take 1, (tableOf (ghh sg_L_answer))[1]'(by decide), (tableOf (ghh sg_L_answer)).drop 2, rfl, ?_, by decide +kernel, by decide +kernel, w4_33, rfl⟩
    refine e_pass (ns := ["java/lang/IllegalArgumentException"]) ?_
    exact ⟨⟨by decide +kernel, w2_216, by decide +kernel⟩, trivial⟩
  rw [if_neg e1] at hE
  cases hE
theorem dL_answer_0 : decode cL_answer 0 = .ok (.aload 4, 2) := by decide +kernel
theorem dL_answer_2 : decode cL_answer 2 = .ok (.iconst 0, 1) := by decide +kernel
theorem dL_answer_3 : decode cL_answer 3 = .ok (.aload_n 0, 1) := by decide +kernel
theorem dL_answer_4 : decode cL_answer 4 = .ok (.iload_n 1, 1) := by decide +kernel
theorem dL_answer_5 : decode cL_answer 5 = .ok (.iload_n 2, 1) := by decide +kernel
theorem dL_answer_6 : decode cL_answer 6 = .ok (.iload_n 3, 1) := by decide +kernel
theorem dL_answer_7 : decode cL_answer 7 = .ok (.invokevirtual 46, 3) := by decide +kernel
theorem dL_answer_10 : decode cL_answer 10 = .ok (.i2l, 1) := by decide +kernel
theorem dL_answer_11 : decode cL_answer 11 = .ok (.lastore, 1) := by decide +kernel
theorem dL_answer_12 : decode cL_answer 12 = .ok (.goto 11, 3) := by decide +kernel
theorem dL_answer_15 : decode cL_answer 15 = .ok (.astore 5, 2) := by decide +kernel
theorem dL_answer_17 : decode cL_answer 17 = .ok (.iconst 1, 1) := by decide +kernel
theorem dL_answer_18 : decode cL_answer 18 = .ok (.ireturn, 1) := by decide +kernel
theorem dL_answer_19 : decode cL_answer 19 = .ok (.astore 5, 2) := by decide +kernel
theorem dL_answer_21 : decode cL_answer 21 = .ok (.iconst 2, 1) := by decide +kernel
theorem dL_answer_22 : decode cL_answer 22 = .ok (.ireturn, 1) := by decide +kernel
theorem dL_answer_23 : decode cL_answer 23 = .ok (.iconst 0, 1) := by decide +kernel
theorem dL_answer_24 : decode cL_answer 24 = .ok (.ireturn, 1) := by decide +kernel
def pg_L_answer (l : Launch) (g : EG) : List (Nat × ES) := [(0, s_ldP 4), (2, s_c (.inl 0)), (3, s_ldP 0), (4, s_ldI 1), (5, s_ldI 2), (6, s_ldI 3), (7, s_callVH l g sg_L_answer sg_X10_answer 9 hd_L_answer), (10, s_il (fun x => x.toInt64)), (11, s_last), (12, s_goto 23), (15, s_stP 5), (17, s_c (.inl 1)), (18, s_ireti), (19, s_stP 5), (21, s_c (.inl 2)), (22, s_ireti), (23, s_c (.inl 0)), (24, s_ireti)]
theorem ok_L_answer {l : Launch} {g : EG} : e_okpH l g sg_L_answer "CalendarSyncLaw" (pg_L_answer l g) := fun p e R s m args below meth c ex M0 Q X hN =>
    e_each_cons (r_aload X (i := 4) dL_answer_0 rfl)
    (e_each_cons (r_iconst X (n := 0) (v := 0) dL_answer_2 (by decide) rfl)
    (e_each_cons (r_aload_n X (k := 0) (i := 0) rfl dL_answer_3 rfl)
    (e_each_cons (r_iload_n X (k := 1) (i := 1) rfl dL_answer_4 rfl)
    (e_each_cons (r_iload_n X (k := 2) (i := 2) rfl dL_answer_5 rfl)
    (e_each_cons (r_iload_n X (k := 3) (i := 3) rfl dL_answer_6 rfl)
    (e_each_cons (r_callVH X hN (τ := sg_X10_answer) (hdl := hk_L_answer) (index := 46) (ci := 9) dL_answer_7 (by decide) rfl w4_179 w4_180 w4_181 cs_X10_answer rfl ⟨by decide, by decide⟩ rfl)
    (e_each_cons (r_i2l X dL_answer_10 rfl)
    (e_each_cons (r_last X dL_answer_11 rfl)
    (e_each_cons (r_goto X (off := 11) (t := 23) dL_answer_12 (by decide))
    (e_each_cons (r_astore X (i := 5) dL_answer_15 (by decide) rfl)
    (e_each_cons (r_iconst X (n := 1) (v := 1) dL_answer_17 (by decide) rfl)
    (e_each_cons (r_ireti X dL_answer_18 rfl)
    (e_each_cons (r_astore X (i := 5) dL_answer_19 (by decide) rfl)
    (e_each_cons (r_iconst X (n := 2) (v := 2) dL_answer_21 (by decide) rfl)
    (e_each_cons (r_ireti X dL_answer_22 rfl)
    (e_each_cons (r_iconst X (n := 0) (v := 0) dL_answer_23 (by decide) rfl)
    (e_each_cons (r_ireti X dL_answer_24 rfl)
    (e_each_nil))))))))))))))))))
def sg_L_agenda : SG := (yL_agenda, cL_agenda, 6, (some .int), 9, 155, 1, 6, 5, false, [(0, 12, 15, 19)])
theorem cs_L_agenda : e_csH sg_L_agenda := ⟨w4_188, w1_0, ⟨by decide, by decide⟩, by decide +kernel, rfl⟩
def hd_L_agenda : String → Option Nat := fun E => if E = "java/lang/IllegalArgumentException" then some 15 else none
theorem hk_L_agenda : e_hdOk "CalendarSyncLaw" (ghh sg_L_agenda) 7 hd_L_agenda := by
  intro E h hE
  unfold hd_L_agenda at hE
  by_cases e0 : E = "java/lang/IllegalArgumentException"
  · subst e0
    rw [if_pos rfl] at hE
    obtain rfl := Option.some.inj hE
    refine ⟨wqA, (tableOf (ghh sg_L_agenda)).take 0, (tableOf (ghh sg_L_agenda))[0]'(by decide), (tableOf (ghh sg_L_agenda)).drop 1, rfl, ?_, by decide +kernel, by decide +kernel, w2_216, rfl⟩
    exact fun z hz => nomatch hz
  rw [if_neg e0] at hE
  cases hE
theorem dL_agenda_0 : decode cL_agenda 0 = .ok (.aload 4, 2) := by decide +kernel
theorem dL_agenda_2 : decode cL_agenda 2 = .ok (.iconst 0, 1) := by decide +kernel
theorem dL_agenda_3 : decode cL_agenda 3 = .ok (.aload_n 0, 1) := by decide +kernel
theorem dL_agenda_4 : decode cL_agenda 4 = .ok (.iload_n 1, 1) := by decide +kernel
theorem dL_agenda_5 : decode cL_agenda 5 = .ok (.iload_n 2, 1) := by decide +kernel
theorem dL_agenda_6 : decode cL_agenda 6 = .ok (.iload_n 3, 1) := by decide +kernel
theorem dL_agenda_7 : decode cL_agenda 7 = .ok (.invokevirtual 49, 3) := by decide +kernel
theorem dL_agenda_10 : decode cL_agenda 10 = .ok (.i2l, 1) := by decide +kernel
theorem dL_agenda_11 : decode cL_agenda 11 = .ok (.lastore, 1) := by decide +kernel
theorem dL_agenda_12 : decode cL_agenda 12 = .ok (.goto 7, 3) := by decide +kernel
theorem dL_agenda_15 : decode cL_agenda 15 = .ok (.astore 5, 2) := by decide +kernel
theorem dL_agenda_17 : decode cL_agenda 17 = .ok (.iconst 1, 1) := by decide +kernel
theorem dL_agenda_18 : decode cL_agenda 18 = .ok (.ireturn, 1) := by decide +kernel
theorem dL_agenda_19 : decode cL_agenda 19 = .ok (.iconst 0, 1) := by decide +kernel
theorem dL_agenda_20 : decode cL_agenda 20 = .ok (.ireturn, 1) := by decide +kernel
def pg_L_agenda (l : Launch) (g : EG) : List (Nat × ES) := [(0, s_ldP 4), (2, s_c (.inl 0)), (3, s_ldP 0), (4, s_ldI 1), (5, s_ldI 2), (6, s_ldI 3), (7, s_callVH l g sg_L_agenda sg_X10_agenda 9 hd_L_agenda), (10, s_il (fun x => x.toInt64)), (11, s_last), (12, s_goto 19), (15, s_stP 5), (17, s_c (.inl 1)), (18, s_ireti), (19, s_c (.inl 0)), (20, s_ireti)]
theorem ok_L_agenda {l : Launch} {g : EG} : e_okpH l g sg_L_agenda "CalendarSyncLaw" (pg_L_agenda l g) := fun p e R s m args below meth c ex M0 Q X hN =>
    e_each_cons (r_aload X (i := 4) dL_agenda_0 rfl)
    (e_each_cons (r_iconst X (n := 0) (v := 0) dL_agenda_2 (by decide) rfl)
    (e_each_cons (r_aload_n X (k := 0) (i := 0) rfl dL_agenda_3 rfl)
    (e_each_cons (r_iload_n X (k := 1) (i := 1) rfl dL_agenda_4 rfl)
    (e_each_cons (r_iload_n X (k := 2) (i := 2) rfl dL_agenda_5 rfl)
    (e_each_cons (r_iload_n X (k := 3) (i := 3) rfl dL_agenda_6 rfl)
    (e_each_cons (r_callVH X hN (τ := sg_X10_agenda) (hdl := hk_L_agenda) (index := 49) (ci := 9) dL_agenda_7 (by decide) rfl w4_189 w4_190 w4_191 cs_X10_agenda rfl ⟨by decide, by decide⟩ rfl)
    (e_each_cons (r_i2l X dL_agenda_10 rfl)
    (e_each_cons (r_last X dL_agenda_11 rfl)
    (e_each_cons (r_goto X (off := 7) (t := 19) dL_agenda_12 (by decide))
    (e_each_cons (r_astore X (i := 5) dL_agenda_15 (by decide) rfl)
    (e_each_cons (r_iconst X (n := 1) (v := 1) dL_agenda_17 (by decide) rfl)
    (e_each_cons (r_ireti X dL_agenda_18 rfl)
    (e_each_cons (r_iconst X (n := 0) (v := 0) dL_agenda_19 (by decide) rfl)
    (e_each_cons (r_ireti X dL_agenda_20 rfl)
    (e_each_nil)))))))))))))))
def sg_L_agendaAt : SG := (yL_agendaAt, cL_agendaAt, 7, (some .int), 9, 156, 3, 18, 6, false, [(0, 14, 17, 19), (0, 14, 21, 29), (0, 14, 25, 31)])
theorem cs_L_agendaAt : e_csH sg_L_agendaAt := ⟨w4_215, w1_0, ⟨by decide, by decide⟩, by decide +kernel, rfl⟩
def hd_L_agendaAt : String → Option Nat := fun E => if E = "java/lang/IllegalArgumentException" then some 17 else if E = "java/util/NoSuchElementException" then some 21 else if E = "java/lang/IndexOutOfBoundsException" then some 25 else none
theorem hk_L_agendaAt : e_hdOk "CalendarSyncLaw" (ghh sg_L_agendaAt) 9 hd_L_agendaAt := by
  intro E h hE
  unfold hd_L_agendaAt at hE
  by_cases e0 : E = "java/lang/IllegalArgumentException"
  · subst e0
    rw [if_pos rfl] at hE
    obtain rfl := Option.some.inj hE
    refine ⟨wqA, (tableOf (ghh sg_L_agendaAt)).take 0, (tableOf (ghh sg_L_agendaAt))[0]'(by decide), (tableOf (ghh sg_L_agendaAt)).drop 1, rfl, ?_, by decide +kernel, by decide +kernel, w2_216, rfl⟩
    exact fun z hz => nomatch hz
  rw [if_neg e0] at hE
  by_cases e1 : E = "java/util/NoSuchElementException"
  · subst e1
    rw [if_pos rfl] at hE
    obtain rfl := Option.some.inj hE
    refine ⟨wqN, (tableOf (ghh sg_L_agendaAt)).take 1, (tableOf (ghh sg_L_agendaAt))[1]'(by decide), (tableOf (ghh sg_L_agendaAt)).drop 2, rfl, ?_, by decide +kernel, by decide +kernel, w4_33, rfl⟩
    refine e_pass (ns := ["java/lang/IllegalArgumentException"]) ?_
    exact ⟨⟨by decide +kernel, w2_216, by decide +kernel⟩, trivial⟩
  rw [if_neg e1] at hE
  by_cases e2 : E = "java/lang/IndexOutOfBoundsException"
  · subst e2
    rw [if_pos rfl] at hE
    obtain rfl := Option.some.inj hE
    refine ⟨wqI, (tableOf (ghh sg_L_agendaAt)).take 2, (tableOf (ghh sg_L_agendaAt))[2]'(by decide), (tableOf (ghh sg_L_agendaAt)).drop 3, rfl, ?_, by decide +kernel, by decide +kernel, w4_34, rfl⟩
    refine e_pass (ns := ["java/lang/IllegalArgumentException", "java/util/NoSuchElementException"]) ?_
    exact ⟨⟨by decide +kernel, w2_216, by decide +kernel⟩, ⟨by decide +kernel, w4_33, by decide +kernel⟩, trivial⟩
  rw [if_neg e2] at hE
  cases hE
theorem dL_agendaAt_0 : decode cL_agendaAt 0 = .ok (.aload 5, 2) := by decide +kernel
theorem dL_agendaAt_2 : decode cL_agendaAt 2 = .ok (.iconst 0, 1) := by decide +kernel
theorem dL_agendaAt_3 : decode cL_agendaAt 3 = .ok (.aload_n 0, 1) := by decide +kernel
theorem dL_agendaAt_4 : decode cL_agendaAt 4 = .ok (.iload_n 1, 1) := by decide +kernel
theorem dL_agendaAt_5 : decode cL_agendaAt 5 = .ok (.iload_n 2, 1) := by decide +kernel
theorem dL_agendaAt_6 : decode cL_agendaAt 6 = .ok (.iload_n 3, 1) := by decide +kernel
theorem dL_agendaAt_7 : decode cL_agendaAt 7 = .ok (.iload 4, 2) := by decide +kernel
theorem dL_agendaAt_9 : decode cL_agendaAt 9 = .ok (.invokevirtual 52, 3) := by decide +kernel
theorem dL_agendaAt_12 : decode cL_agendaAt 12 = .ok (.i2l, 1) := by decide +kernel
theorem dL_agendaAt_13 : decode cL_agendaAt 13 = .ok (.lastore, 1) := by decide +kernel
theorem dL_agendaAt_14 : decode cL_agendaAt 14 = .ok (.goto 15, 3) := by decide +kernel
theorem dL_agendaAt_17 : decode cL_agendaAt 17 = .ok (.astore 6, 2) := by decide +kernel
theorem dL_agendaAt_19 : decode cL_agendaAt 19 = .ok (.iconst 1, 1) := by decide +kernel
theorem dL_agendaAt_20 : decode cL_agendaAt 20 = .ok (.ireturn, 1) := by decide +kernel
theorem dL_agendaAt_21 : decode cL_agendaAt 21 = .ok (.astore 6, 2) := by decide +kernel
theorem dL_agendaAt_23 : decode cL_agendaAt 23 = .ok (.iconst 2, 1) := by decide +kernel
theorem dL_agendaAt_24 : decode cL_agendaAt 24 = .ok (.ireturn, 1) := by decide +kernel
theorem dL_agendaAt_25 : decode cL_agendaAt 25 = .ok (.astore 6, 2) := by decide +kernel
theorem dL_agendaAt_27 : decode cL_agendaAt 27 = .ok (.iconst 3, 1) := by decide +kernel
theorem dL_agendaAt_28 : decode cL_agendaAt 28 = .ok (.ireturn, 1) := by decide +kernel
theorem dL_agendaAt_29 : decode cL_agendaAt 29 = .ok (.iconst 0, 1) := by decide +kernel
theorem dL_agendaAt_30 : decode cL_agendaAt 30 = .ok (.ireturn, 1) := by decide +kernel
def pg_L_agendaAt (l : Launch) (g : EG) : List (Nat × ES) := [(0, s_ldP 5), (2, s_c (.inl 0)), (3, s_ldP 0), (4, s_ldI 1), (5, s_ldI 2), (6, s_ldI 3), (7, s_ldI 4), (9, s_callVH l g sg_L_agendaAt sg_X10_agendaAt 9 hd_L_agendaAt), (12, s_il (fun x => x.toInt64)), (13, s_last), (14, s_goto 29), (17, s_stP 6), (19, s_c (.inl 1)), (20, s_ireti), (21, s_stP 6), (23, s_c (.inl 2)), (24, s_ireti), (25, s_stP 6), (27, s_c (.inl 3)), (28, s_ireti), (29, s_c (.inl 0)), (30, s_ireti)]
theorem ok_L_agendaAt {l : Launch} {g : EG} : e_okpH l g sg_L_agendaAt "CalendarSyncLaw" (pg_L_agendaAt l g) := fun p e R s m args below meth c ex M0 Q X hN =>
    e_each_cons (r_aload X (i := 5) dL_agendaAt_0 rfl)
    (e_each_cons (r_iconst X (n := 0) (v := 0) dL_agendaAt_2 (by decide) rfl)
    (e_each_cons (r_aload_n X (k := 0) (i := 0) rfl dL_agendaAt_3 rfl)
    (e_each_cons (r_iload_n X (k := 1) (i := 1) rfl dL_agendaAt_4 rfl)
    (e_each_cons (r_iload_n X (k := 2) (i := 2) rfl dL_agendaAt_5 rfl)
    (e_each_cons (r_iload_n X (k := 3) (i := 3) rfl dL_agendaAt_6 rfl)
    (e_each_cons (r_iload X (i := 4) dL_agendaAt_7 rfl)
    (e_each_cons (r_callVH X hN (τ := sg_X10_agendaAt) (hdl := hk_L_agendaAt) (index := 52) (ci := 9) dL_agendaAt_9 (by decide) rfl w4_216 w4_217 w4_218 cs_X10_agendaAt rfl ⟨by decide, by decide⟩ rfl)
    (e_each_cons (r_i2l X dL_agendaAt_12 rfl)
    (e_each_cons (r_last X dL_agendaAt_13 rfl)
    (e_each_cons (r_goto X (off := 15) (t := 29) dL_agendaAt_14 (by decide))
    (e_each_cons (r_astore X (i := 6) dL_agendaAt_17 (by decide) rfl)
    (e_each_cons (r_iconst X (n := 1) (v := 1) dL_agendaAt_19 (by decide) rfl)
    (e_each_cons (r_ireti X dL_agendaAt_20 rfl)
    (e_each_cons (r_astore X (i := 6) dL_agendaAt_21 (by decide) rfl)
    (e_each_cons (r_iconst X (n := 2) (v := 2) dL_agendaAt_23 (by decide) rfl)
    (e_each_cons (r_ireti X dL_agendaAt_24 rfl)
    (e_each_cons (r_astore X (i := 6) dL_agendaAt_25 (by decide) rfl)
    (e_each_cons (r_iconst X (n := 3) (v := 3) dL_agendaAt_27 (by decide) rfl)
    (e_each_cons (r_ireti X dL_agendaAt_28 rfl)
    (e_each_cons (r_iconst X (n := 0) (v := 0) dL_agendaAt_29 (by decide) rfl)
    (e_each_cons (r_ireti X dL_agendaAt_30 rfl)
    (e_each_nil))))))))))))))))))))))
def sg_L_clashes : SG := (yL_clashes, cL_clashes, 4, (some .int), 9, 152, 1, 6, 3, false, [(0, 9, 12, 19)])
theorem cs_L_clashes : e_csH sg_L_clashes := ⟨w4_231, w1_0, ⟨by decide, by decide⟩, by decide +kernel, rfl⟩
def hd_L_clashes : String → Option Nat := fun E => if E = "java/lang/IllegalArgumentException" then some 12 else none
theorem hk_L_clashes : e_hdOk "CalendarSyncLaw" (ghh sg_L_clashes) 4 hd_L_clashes := by
  intro E h hE
  unfold hd_L_clashes at hE
  by_cases e0 : E = "java/lang/IllegalArgumentException"
  · subst e0
    rw [if_pos rfl] at hE
    obtain rfl := Option.some.inj hE
    refine ⟨wqA, (tableOf (ghh sg_L_clashes)).take 0, (tableOf (ghh sg_L_clashes))[0]'(by decide), (tableOf (ghh sg_L_clashes)).drop 1, rfl, ?_, by decide +kernel, by decide +kernel, w2_216, rfl⟩
    exact fun z hz => nomatch hz
  rw [if_neg e0] at hE
  cases hE
theorem dL_clashes_0 : decode cL_clashes 0 = .ok (.aload_n 2, 1) := by decide +kernel
theorem dL_clashes_1 : decode cL_clashes 1 = .ok (.iconst 0, 1) := by decide +kernel
theorem dL_clashes_2 : decode cL_clashes 2 = .ok (.aload_n 0, 1) := by decide +kernel
theorem dL_clashes_3 : decode cL_clashes 3 = .ok (.iload_n 1, 1) := by decide +kernel
theorem dL_clashes_4 : decode cL_clashes 4 = .ok (.invokevirtual 55, 3) := by decide +kernel
theorem dL_clashes_7 : decode cL_clashes 7 = .ok (.i2l, 1) := by decide +kernel
theorem dL_clashes_8 : decode cL_clashes 8 = .ok (.lastore, 1) := by decide +kernel
theorem dL_clashes_9 : decode cL_clashes 9 = .ok (.goto 6, 3) := by decide +kernel
theorem dL_clashes_12 : decode cL_clashes 12 = .ok (.astore_n 3, 1) := by decide +kernel
theorem dL_clashes_13 : decode cL_clashes 13 = .ok (.iconst 1, 1) := by decide +kernel
theorem dL_clashes_14 : decode cL_clashes 14 = .ok (.ireturn, 1) := by decide +kernel
theorem dL_clashes_15 : decode cL_clashes 15 = .ok (.iconst 0, 1) := by decide +kernel
theorem dL_clashes_16 : decode cL_clashes 16 = .ok (.ireturn, 1) := by decide +kernel
def pg_L_clashes (l : Launch) (g : EG) : List (Nat × ES) := [(0, s_ldP 2), (1, s_c (.inl 0)), (2, s_ldP 0), (3, s_ldI 1), (4, s_callVH l g sg_L_clashes sg_X10_clashes 9 hd_L_clashes), (7, s_il (fun x => x.toInt64)), (8, s_last), (9, s_goto 15), (12, s_stP 3), (13, s_c (.inl 1)), (14, s_ireti), (15, s_c (.inl 0)), (16, s_ireti)]
theorem ok_L_clashes {l : Launch} {g : EG} : e_okpH l g sg_L_clashes "CalendarSyncLaw" (pg_L_clashes l g) := fun p e R s m args below meth c ex M0 Q X hN =>
    e_each_cons (r_aload_n X (k := 2) (i := 2) rfl dL_clashes_0 rfl)
    (e_each_cons (r_iconst X (n := 0) (v := 0) dL_clashes_1 (by decide) rfl)
    (e_each_cons (r_aload_n X (k := 0) (i := 0) rfl dL_clashes_2 rfl)
    (e_each_cons (r_iload_n X (k := 1) (i := 1) rfl dL_clashes_3 rfl)
    (e_each_cons (r_callVH X hN (τ := sg_X10_clashes) (hdl := hk_L_clashes) (index := 55) (ci := 9) dL_clashes_4 (by decide) rfl w4_232 w4_233 w4_234 cs_X10_clashes rfl ⟨by decide, by decide⟩ rfl)
    (e_each_cons (r_i2l X dL_clashes_7 rfl)
    (e_each_cons (r_last X dL_clashes_8 rfl)
    (e_each_cons (r_goto X (off := 6) (t := 15) dL_clashes_9 (by decide))
    (e_each_cons (r_astore_n X (k := 3) (i := 3) rfl dL_clashes_12 (by decide) rfl)
    (e_each_cons (r_iconst X (n := 1) (v := 1) dL_clashes_13 (by decide) rfl)
    (e_each_cons (r_ireti X dL_clashes_14 rfl)
    (e_each_cons (r_iconst X (n := 0) (v := 0) dL_clashes_15 (by decide) rfl)
    (e_each_cons (r_ireti X dL_clashes_16 rfl)
    (e_each_nil)))))))))))))
def sg_L_busy : SG := (yL_busy, cL_busy, 6, (some .int), 10, 180, 2, 12, 5, false, [(0, 12, 15, 19)])
theorem cs_L_busy : e_csH sg_L_busy := ⟨w5_7, w1_0, ⟨by decide, by decide⟩, by decide +kernel, rfl⟩
def hd_L_busy : String → Option Nat := fun E => if E = "java/lang/IllegalArgumentException" then some 15 else none
theorem hk_L_busy : e_hdOk "CalendarSyncLaw" (ghh sg_L_busy) 7 hd_L_busy := by
  intro E h hE
  unfold hd_L_busy at hE
  by_cases e0 : E = "java/lang/IllegalArgumentException"
  · subst e0
    rw [if_pos rfl] at hE
    obtain rfl := Option.some.inj hE
    refine ⟨wqA, (tableOf (ghh sg_L_busy)).take 0, (tableOf (ghh sg_L_busy))[0]'(by decide), (tableOf (ghh sg_L_busy)).drop 1, rfl, ?_, by decide +kernel, by decide +kernel, w2_216, rfl⟩
    exact fun z hz => nomatch hz
  rw [if_neg e0] at hE
  cases hE
theorem dL_busy_0 : decode cL_busy 0 = .ok (.aload 4, 2) := by decide +kernel
theorem dL_busy_2 : decode cL_busy 2 = .ok (.iconst 0, 1) := by decide +kernel
theorem dL_busy_3 : decode cL_busy 3 = .ok (.aload_n 0, 1) := by decide +kernel
theorem dL_busy_4 : decode cL_busy 4 = .ok (.iload_n 1, 1) := by decide +kernel
theorem dL_busy_5 : decode cL_busy 5 = .ok (.iload_n 2, 1) := by decide +kernel
theorem dL_busy_6 : decode cL_busy 6 = .ok (.iload_n 3, 1) := by decide +kernel
theorem dL_busy_7 : decode cL_busy 7 = .ok (.invokevirtual 58, 3) := by decide +kernel
theorem dL_busy_10 : decode cL_busy 10 = .ok (.f2d, 1) := by decide +kernel
theorem dL_busy_11 : decode cL_busy 11 = .ok (.dastore, 1) := by decide +kernel
theorem dL_busy_12 : decode cL_busy 12 = .ok (.goto 7, 3) := by decide +kernel
theorem dL_busy_15 : decode cL_busy 15 = .ok (.astore 5, 2) := by decide +kernel
theorem dL_busy_17 : decode cL_busy 17 = .ok (.iconst 1, 1) := by decide +kernel
theorem dL_busy_18 : decode cL_busy 18 = .ok (.ireturn, 1) := by decide +kernel
theorem dL_busy_19 : decode cL_busy 19 = .ok (.iconst 0, 1) := by decide +kernel
theorem dL_busy_20 : decode cL_busy 20 = .ok (.ireturn, 1) := by decide +kernel
def pg_L_busy (l : Launch) (g : EG) : List (Nat × ES) := [(0, s_ldP 4), (2, s_c (.inl 0)), (3, s_ldP 0), (4, s_ldI 1), (5, s_ldI 2), (6, s_ldI 3), (7, s_callVH l g sg_L_busy sg_X10_busy 9 hd_L_busy), (10, s_fd FP.f2d (fun x => vf_n64 (FP.f2d x))), (11, s_dast), (12, s_goto 19), (15, s_stP 5), (17, s_c (.inl 1)), (18, s_ireti), (19, s_c (.inl 0)), (20, s_ireti)]
theorem ok_L_busy {l : Launch} {g : EG} : e_okpH l g sg_L_busy "CalendarSyncLaw" (pg_L_busy l g) := fun p e R s m args below meth c ex M0 Q X hN =>
    e_each_cons (r_aload X (i := 4) dL_busy_0 rfl)
    (e_each_cons (r_iconst X (n := 0) (v := 0) dL_busy_2 (by decide) rfl)
    (e_each_cons (r_aload_n X (k := 0) (i := 0) rfl dL_busy_3 rfl)
    (e_each_cons (r_iload_n X (k := 1) (i := 1) rfl dL_busy_4 rfl)
    (e_each_cons (r_iload_n X (k := 2) (i := 2) rfl dL_busy_5 rfl)
    (e_each_cons (r_iload_n X (k := 3) (i := 3) rfl dL_busy_6 rfl)
    (e_each_cons (r_callVH X hN (τ := sg_X10_busy) (hdl := hk_L_busy) (index := 58) (ci := 9) dL_busy_7 (by decide) rfl w5_8 w5_9 w5_10 cs_X10_busy rfl ⟨by decide, by decide⟩ rfl)
    (e_each_cons (r_f2d X dL_busy_10 rfl)
    (e_each_cons (r_dast X dL_busy_11 rfl)
    (e_each_cons (r_goto X (off := 7) (t := 19) dL_busy_12 (by decide))
    (e_each_cons (r_astore X (i := 5) dL_busy_15 (by decide) rfl)
    (e_each_cons (r_iconst X (n := 1) (v := 1) dL_busy_17 (by decide) rfl)
    (e_each_cons (r_ireti X dL_busy_18 rfl)
    (e_each_cons (r_iconst X (n := 0) (v := 0) dL_busy_19 (by decide) rfl)
    (e_each_cons (r_ireti X dL_busy_20 rfl)
    (e_each_nil)))))))))))))))
def sg_L_busyBits : SG := (yL_busyBits, cL_busyBits, 6, (some .int), 10, 180, 2, 12, 5, false, [(0, 12, 15, 19)])
theorem cs_L_busyBits : e_csH sg_L_busyBits := ⟨w5_25, w1_0, ⟨by decide, by decide⟩, by decide +kernel, rfl⟩
def hd_L_busyBits : String → Option Nat := fun E => if E = "java/lang/IllegalArgumentException" then some 15 else none
theorem hk_L_busyBits : e_hdOk "CalendarSyncLaw" (ghh sg_L_busyBits) 7 hd_L_busyBits := by
  intro E h hE
  unfold hd_L_busyBits at hE
  by_cases e0 : E = "java/lang/IllegalArgumentException"
  · subst e0
    rw [if_pos rfl] at hE
    obtain rfl := Option.some.inj hE
    refine ⟨wqA, (tableOf (ghh sg_L_busyBits)).take 0, (tableOf (ghh sg_L_busyBits))[0]'(by decide), (tableOf (ghh sg_L_busyBits)).drop 1, rfl, ?_, by decide +kernel, by decide +kernel, w2_216, rfl⟩
    exact fun z hz => nomatch hz
  rw [if_neg e0] at hE
  cases hE
theorem dL_busyBits_0 : decode cL_busyBits 0 = .ok (.aload 4, 2) := by decide +kernel
theorem dL_busyBits_2 : decode cL_busyBits 2 = .ok (.iconst 0, 1) := by decide +kernel
theorem dL_busyBits_3 : decode cL_busyBits 3 = .ok (.aload_n 0, 1) := by decide +kernel
theorem dL_busyBits_4 : decode cL_busyBits 4 = .ok (.iload_n 1, 1) := by decide +kernel
theorem dL_busyBits_5 : decode cL_busyBits 5 = .ok (.iload_n 2, 1) := by decide +kernel
theorem dL_busyBits_6 : decode cL_busyBits 6 = .ok (.iload_n 3, 1) := by decide +kernel
theorem dL_busyBits_7 : decode cL_busyBits 7 = .ok (.invokevirtual 62, 3) := by decide +kernel
theorem dL_busyBits_10 : decode cL_busyBits 10 = .ok (.i2l, 1) := by decide +kernel
theorem dL_busyBits_11 : decode cL_busyBits 11 = .ok (.lastore, 1) := by decide +kernel
theorem dL_busyBits_12 : decode cL_busyBits 12 = .ok (.goto 7, 3) := by decide +kernel
theorem dL_busyBits_15 : decode cL_busyBits 15 = .ok (.astore 5, 2) := by decide +kernel
theorem dL_busyBits_17 : decode cL_busyBits 17 = .ok (.iconst 1, 1) := by decide +kernel
theorem dL_busyBits_18 : decode cL_busyBits 18 = .ok (.ireturn, 1) := by decide +kernel
theorem dL_busyBits_19 : decode cL_busyBits 19 = .ok (.iconst 0, 1) := by decide +kernel
theorem dL_busyBits_20 : decode cL_busyBits 20 = .ok (.ireturn, 1) := by decide +kernel
def pg_L_busyBits (l : Launch) (g : EG) : List (Nat × ES) := [(0, s_ldP 4), (2, s_c (.inl 0)), (3, s_ldP 0), (4, s_ldI 1), (5, s_ldI 2), (6, s_ldI 3), (7, s_callVH l g sg_L_busyBits sg_X10_busyBits 9 hd_L_busyBits), (10, s_il (fun x => x.toInt64)), (11, s_last), (12, s_goto 19), (15, s_stP 5), (17, s_c (.inl 1)), (18, s_ireti), (19, s_c (.inl 0)), (20, s_ireti)]
theorem ok_L_busyBits {l : Launch} {g : EG} : e_okpH l g sg_L_busyBits "CalendarSyncLaw" (pg_L_busyBits l g) := fun p e R s m args below meth c ex M0 Q X hN =>
    e_each_cons (r_aload X (i := 4) dL_busyBits_0 rfl)
    (e_each_cons (r_iconst X (n := 0) (v := 0) dL_busyBits_2 (by decide) rfl)
    (e_each_cons (r_aload_n X (k := 0) (i := 0) rfl dL_busyBits_3 rfl)
    (e_each_cons (r_iload_n X (k := 1) (i := 1) rfl dL_busyBits_4 rfl)
    (e_each_cons (r_iload_n X (k := 2) (i := 2) rfl dL_busyBits_5 rfl)
    (e_each_cons (r_iload_n X (k := 3) (i := 3) rfl dL_busyBits_6 rfl)
    (e_each_cons (r_callVH X hN (τ := sg_X10_busyBits) (hdl := hk_L_busyBits) (index := 62) (ci := 9) dL_busyBits_7 (by decide) rfl w5_26 w5_27 w5_28 cs_X10_busyBits rfl ⟨by decide, by decide⟩ rfl)
    (e_each_cons (r_i2l X dL_busyBits_10 rfl)
    (e_each_cons (r_last X dL_busyBits_11 rfl)
    (e_each_cons (r_goto X (off := 7) (t := 19) dL_busyBits_12 (by decide))
    (e_each_cons (r_astore X (i := 5) dL_busyBits_15 (by decide) rfl)
    (e_each_cons (r_iconst X (n := 1) (v := 1) dL_busyBits_17 (by decide) rfl)
    (e_each_cons (r_ireti X dL_busyBits_18 rfl)
    (e_each_cons (r_iconst X (n := 0) (v := 0) dL_busyBits_19 (by decide) rfl)
    (e_each_cons (r_ireti X dL_busyBits_20 rfl)
    (e_each_nil)))))))))))))))
def sg_L_isSame : SG := (yL_isSame, cL_isSame, 4, (some .int), 9, 163, 1, 6, 3, false, [(0, 16, 19, 19)])
theorem cs_L_isSame : e_csH sg_L_isSame := ⟨w5_36, w1_0, ⟨by decide, by decide⟩, by decide +kernel, rfl⟩
def hd_L_isSame : String → Option Nat := fun E => if E = "java/lang/IllegalArgumentException" then some 19 else none
theorem hk_L_isSame : e_hdOk "CalendarSyncLaw" (ghh sg_L_isSame) 4 hd_L_isSame := by
  intro E h hE
  unfold hd_L_isSame at hE
  by_cases e0 : E = "java/lang/IllegalArgumentException"
  · subst e0
    rw [if_pos rfl] at hE
    obtain rfl := Option.some.inj hE
    refine ⟨wqA, (tableOf (ghh sg_L_isSame)).take 0, (tableOf (ghh sg_L_isSame))[0]'(by decide), (tableOf (ghh sg_L_isSame)).drop 1, rfl, ?_, by decide +kernel, by decide +kernel, w2_216, rfl⟩
    exact fun z hz => nomatch hz
  rw [if_neg e0] at hE
  cases hE
theorem dL_isSame_0 : decode cL_isSame 0 = .ok (.aload_n 2, 1) := by decide +kernel
theorem dL_isSame_1 : decode cL_isSame 1 = .ok (.iconst 0, 1) := by decide +kernel
theorem dL_isSame_2 : decode cL_isSame 2 = .ok (.aload_n 0, 1) := by decide +kernel
theorem dL_isSame_3 : decode cL_isSame 3 = .ok (.iload_n 1, 1) := by decide +kernel
theorem dL_isSame_4 : decode cL_isSame 4 = .ok (.invokevirtual 65, 3) := by decide +kernel
theorem dL_isSame_7 : decode cL_isSame 7 = .ok (.ifCond .eq 7, 3) := by decide +kernel
theorem dL_isSame_10 : decode cL_isSame 10 = .ok (.lconst 1, 1) := by decide +kernel
theorem dL_isSame_11 : decode cL_isSame 11 = .ok (.goto 4, 3) := by decide +kernel
theorem dL_isSame_14 : decode cL_isSame 14 = .ok (.lconst 0, 1) := by decide +kernel
theorem dL_isSame_15 : decode cL_isSame 15 = .ok (.lastore, 1) := by decide +kernel
theorem dL_isSame_16 : decode cL_isSame 16 = .ok (.goto 6, 3) := by decide +kernel
theorem dL_isSame_19 : decode cL_isSame 19 = .ok (.astore_n 3, 1) := by decide +kernel
theorem dL_isSame_20 : decode cL_isSame 20 = .ok (.iconst 1, 1) := by decide +kernel
theorem dL_isSame_21 : decode cL_isSame 21 = .ok (.ireturn, 1) := by decide +kernel
theorem dL_isSame_22 : decode cL_isSame 22 = .ok (.iconst 0, 1) := by decide +kernel
theorem dL_isSame_23 : decode cL_isSame 23 = .ok (.ireturn, 1) := by decide +kernel
def pg_L_isSame (l : Launch) (g : EG) : List (Nat × ES) := [(0, s_ldP 2), (1, s_c (.inl 0)), (2, s_ldP 0), (3, s_ldI 1), (4, s_callVH l g sg_L_isSame sg_X10_isSame 9 hd_L_isSame), (7, s_if_eq 14), (10, s_c (.inr (.inl 1))), (11, s_goto 15), (14, s_c (.inr (.inl 0))), (15, s_last), (16, s_goto 22), (19, s_stP 3), (20, s_c (.inl 1)), (21, s_ireti), (22, s_c (.inl 0)), (23, s_ireti)]
theorem ok_L_isSame {l : Launch} {g : EG} : e_okpH l g sg_L_isSame "CalendarSyncLaw" (pg_L_isSame l g) := fun p e R s m args below meth c ex M0 Q X hN =>
    e_each_cons (r_aload_n X (k := 2) (i := 2) rfl dL_isSame_0 rfl)
    (e_each_cons (r_iconst X (n := 0) (v := 0) dL_isSame_1 (by decide) rfl)
    (e_each_cons (r_aload_n X (k := 0) (i := 0) rfl dL_isSame_2 rfl)
    (e_each_cons (r_iload_n X (k := 1) (i := 1) rfl dL_isSame_3 rfl)
    (e_each_cons (r_callVH X hN (τ := sg_X10_isSame) (hdl := hk_L_isSame) (index := 65) (ci := 9) dL_isSame_4 (by decide) rfl w5_37 w5_38 w5_39 cs_X10_isSame rfl ⟨by decide, by decide⟩ rfl)
    (e_each_cons (r_if_eq X (off := 7) (t := 14) dL_isSame_7 (by decide) rfl)
    (e_each_cons (r_lconst X (n := 1) (v := 1) dL_isSame_10 (by decide) rfl)
    (e_each_cons (r_goto X (off := 4) (t := 15) dL_isSame_11 (by decide))
    (e_each_cons (r_lconst X (n := 0) (v := 0) dL_isSame_14 (by decide) rfl)
    (e_each_cons (r_last X dL_isSame_15 rfl)
    (e_each_cons (r_goto X (off := 6) (t := 22) dL_isSame_16 (by decide))
    (e_each_cons (r_astore_n X (k := 3) (i := 3) rfl dL_isSame_19 (by decide) rfl)
    (e_each_cons (r_iconst X (n := 1) (v := 1) dL_isSame_20 (by decide) rfl)
    (e_each_cons (r_ireti X dL_isSame_21 rfl)
    (e_each_cons (r_iconst X (n := 0) (v := 0) dL_isSame_22 (by decide) rfl)
    (e_each_cons (r_ireti X dL_isSame_23 rfl)
    (e_each_nil))))))))))))))))
def sg_L_side : SG := (yL_side, cL_side, 5, (some .int), 9, 154, 2, 12, 4, false, [(0, 10, 13, 19)])
theorem cs_L_side : e_csH sg_L_side := ⟨w5_59, w1_0, ⟨by decide, by decide⟩, by decide +kernel, rfl⟩
def hd_L_side : String → Option Nat := fun E => if E = "java/lang/IllegalArgumentException" then some 13 else none
theorem hk_L_side : e_hdOk "CalendarSyncLaw" (ghh sg_L_side) 5 hd_L_side := by
  intro E h hE
  unfold hd_L_side at hE
  by_cases e0 : E = "java/lang/IllegalArgumentException"
  · subst e0
    rw [if_pos rfl] at hE
    obtain rfl := Option.some.inj hE
    refine ⟨wqA, (tableOf (ghh sg_L_side)).take 0, (tableOf (ghh sg_L_side))[0]'(by decide), (tableOf (ghh sg_L_side)).drop 1, rfl, ?_, by decide +kernel, by decide +kernel, w2_216, rfl⟩
    exact fun z hz => nomatch hz
  rw [if_neg e0] at hE
  cases hE
theorem dL_side_0 : decode cL_side 0 = .ok (.aload_n 3, 1) := by decide +kernel
theorem dL_side_1 : decode cL_side 1 = .ok (.iconst 0, 1) := by decide +kernel
theorem dL_side_2 : decode cL_side 2 = .ok (.aload_n 0, 1) := by decide +kernel
theorem dL_side_3 : decode cL_side 3 = .ok (.iload_n 1, 1) := by decide +kernel
theorem dL_side_4 : decode cL_side 4 = .ok (.iload_n 2, 1) := by decide +kernel
theorem dL_side_5 : decode cL_side 5 = .ok (.invokevirtual 69, 3) := by decide +kernel
theorem dL_side_8 : decode cL_side 8 = .ok (.i2l, 1) := by decide +kernel
theorem dL_side_9 : decode cL_side 9 = .ok (.lastore, 1) := by decide +kernel
theorem dL_side_10 : decode cL_side 10 = .ok (.goto 7, 3) := by decide +kernel
theorem dL_side_13 : decode cL_side 13 = .ok (.astore 4, 2) := by decide +kernel
theorem dL_side_15 : decode cL_side 15 = .ok (.iconst 1, 1) := by decide +kernel
theorem dL_side_16 : decode cL_side 16 = .ok (.ireturn, 1) := by decide +kernel
theorem dL_side_17 : decode cL_side 17 = .ok (.iconst 0, 1) := by decide +kernel
theorem dL_side_18 : decode cL_side 18 = .ok (.ireturn, 1) := by decide +kernel
def pg_L_side (l : Launch) (g : EG) : List (Nat × ES) := [(0, s_ldP 3), (1, s_c (.inl 0)), (2, s_ldP 0), (3, s_ldI 1), (4, s_ldI 2), (5, s_callVH l g sg_L_side sg_X10_side 9 hd_L_side), (8, s_il (fun x => x.toInt64)), (9, s_last), (10, s_goto 17), (13, s_stP 4), (15, s_c (.inl 1)), (16, s_ireti), (17, s_c (.inl 0)), (18, s_ireti)]
theorem ok_L_side {l : Launch} {g : EG} : e_okpH l g sg_L_side "CalendarSyncLaw" (pg_L_side l g) := fun p e R s m args below meth c ex M0 Q X hN =>
    e_each_cons (r_aload_n X (k := 3) (i := 3) rfl dL_side_0 rfl)
    (e_each_cons (r_iconst X (n := 0) (v := 0) dL_side_1 (by decide) rfl)
    (e_each_cons (r_aload_n X (k := 0) (i := 0) rfl dL_side_2 rfl)
    (e_each_cons (r_iload_n X (k := 1) (i := 1) rfl dL_side_3 rfl)
    (e_each_cons (r_iload_n X (k := 2) (i := 2) rfl dL_side_4 rfl)
    (e_each_cons (r_callVH X hN (τ := sg_X10_side) (hdl := hk_L_side) (index := 69) (ci := 9) dL_side_5 (by decide) rfl w5_60 w5_61 w5_62 cs_X10_side rfl ⟨by decide, by decide⟩ rfl)
    (e_each_cons (r_i2l X dL_side_8 rfl)
    (e_each_cons (r_last X dL_side_9 rfl)
    (e_each_cons (r_goto X (off := 7) (t := 17) dL_side_10 (by decide))
    (e_each_cons (r_astore X (i := 4) dL_side_13 (by decide) rfl)
    (e_each_cons (r_iconst X (n := 1) (v := 1) dL_side_15 (by decide) rfl)
    (e_each_cons (r_ireti X dL_side_16 rfl)
    (e_each_cons (r_iconst X (n := 0) (v := 0) dL_side_17 (by decide) rfl)
    (e_each_cons (r_ireti X dL_side_18 rfl)
    (e_each_nil))))))))))))))
def sg_L_account : SG := (yL_account, cL_account, 5, (some .int), 9, 154, 2, 12, 4, false, [(0, 10, 13, 19)])
theorem cs_L_account : e_csH sg_L_account := ⟨w5_76, w1_0, ⟨by decide, by decide⟩, by decide +kernel, rfl⟩
def hd_L_account : String → Option Nat := fun E => if E = "java/lang/IllegalArgumentException" then some 13 else none
theorem hk_L_account : e_hdOk "CalendarSyncLaw" (ghh sg_L_account) 5 hd_L_account := by
  intro E h hE
  unfold hd_L_account at hE
  by_cases e0 : E = "java/lang/IllegalArgumentException"
  · subst e0
    rw [if_pos rfl] at hE
    obtain rfl := Option.some.inj hE
    refine ⟨wqA, (tableOf (ghh sg_L_account)).take 0, (tableOf (ghh sg_L_account))[0]'(by decide), (tableOf (ghh sg_L_account)).drop 1, rfl, ?_, by decide +kernel, by decide +kernel, w2_216, rfl⟩
    exact fun z hz => nomatch hz
  rw [if_neg e0] at hE
  cases hE
theorem dL_account_0 : decode cL_account 0 = .ok (.aload_n 3, 1) := by decide +kernel
theorem dL_account_1 : decode cL_account 1 = .ok (.iconst 0, 1) := by decide +kernel
theorem dL_account_2 : decode cL_account 2 = .ok (.aload_n 0, 1) := by decide +kernel
theorem dL_account_3 : decode cL_account 3 = .ok (.iload_n 1, 1) := by decide +kernel
theorem dL_account_4 : decode cL_account 4 = .ok (.iload_n 2, 1) := by decide +kernel
theorem dL_account_5 : decode cL_account 5 = .ok (.invokevirtual 72, 3) := by decide +kernel
theorem dL_account_8 : decode cL_account 8 = .ok (.i2l, 1) := by decide +kernel
theorem dL_account_9 : decode cL_account 9 = .ok (.lastore, 1) := by decide +kernel
theorem dL_account_10 : decode cL_account 10 = .ok (.goto 7, 3) := by decide +kernel
theorem dL_account_13 : decode cL_account 13 = .ok (.astore 4, 2) := by decide +kernel
theorem dL_account_15 : decode cL_account 15 = .ok (.iconst 1, 1) := by decide +kernel
theorem dL_account_16 : decode cL_account 16 = .ok (.ireturn, 1) := by decide +kernel
theorem dL_account_17 : decode cL_account 17 = .ok (.iconst 0, 1) := by decide +kernel
theorem dL_account_18 : decode cL_account 18 = .ok (.ireturn, 1) := by decide +kernel
def pg_L_account (l : Launch) (g : EG) : List (Nat × ES) := [(0, s_ldP 3), (1, s_c (.inl 0)), (2, s_ldP 0), (3, s_ldI 1), (4, s_ldI 2), (5, s_callVH l g sg_L_account sg_X10_account 9 hd_L_account), (8, s_il (fun x => x.toInt64)), (9, s_last), (10, s_goto 17), (13, s_stP 4), (15, s_c (.inl 1)), (16, s_ireti), (17, s_c (.inl 0)), (18, s_ireti)]
theorem ok_L_account {l : Launch} {g : EG} : e_okpH l g sg_L_account "CalendarSyncLaw" (pg_L_account l g) := fun p e R s m args below meth c ex M0 Q X hN =>
    e_each_cons (r_aload_n X (k := 3) (i := 3) rfl dL_account_0 rfl)
    (e_each_cons (r_iconst X (n := 0) (v := 0) dL_account_1 (by decide) rfl)
    (e_each_cons (r_aload_n X (k := 0) (i := 0) rfl dL_account_2 rfl)
    (e_each_cons (r_iload_n X (k := 1) (i := 1) rfl dL_account_3 rfl)
    (e_each_cons (r_iload_n X (k := 2) (i := 2) rfl dL_account_4 rfl)
    (e_each_cons (r_callVH X hN (τ := sg_X10_account) (hdl := hk_L_account) (index := 72) (ci := 9) dL_account_5 (by decide) rfl w5_77 w5_78 w5_79 cs_X10_account rfl ⟨by decide, by decide⟩ rfl)
    (e_each_cons (r_i2l X dL_account_8 rfl)
    (e_each_cons (r_last X dL_account_9 rfl)
    (e_each_cons (r_goto X (off := 7) (t := 17) dL_account_10 (by decide))
    (e_each_cons (r_astore X (i := 4) dL_account_13 (by decide) rfl)
    (e_each_cons (r_iconst X (n := 1) (v := 1) dL_account_15 (by decide) rfl)
    (e_each_cons (r_ireti X dL_account_16 rfl)
    (e_each_cons (r_iconst X (n := 0) (v := 0) dL_account_17 (by decide) rfl)
    (e_each_cons (r_ireti X dL_account_18 rfl)
    (e_each_nil))))))))))))))
def sg_L_create : SG := (yL_create, cL_create, 9, (some .int), 9, 174, 6, 36, 8, false, [(0, 18, 21, 19), (0, 18, 25, 29), (0, 18, 29, 13)])
theorem cs_L_create : e_csH sg_L_create := ⟨w5_83, w1_0, ⟨by decide, by decide⟩, by decide +kernel, rfl⟩
def hd_L_create : String → Option Nat := fun E => if E = "java/lang/IllegalArgumentException" then some 21 else if E = "java/util/NoSuchElementException" then some 25 else if E = "java/lang/IllegalStateException" then some 29 else none
theorem hk_L_create : e_hdOk "CalendarSyncLaw" (ghh sg_L_create) 13 hd_L_create := by
  intro E h hE
  unfold hd_L_create at hE
  by_cases e0 : E = "java/lang/IllegalArgumentException"
  · subst e0
    rw [if_pos rfl] at hE
    obtain rfl := Option.some.inj hE
    refine ⟨wqA, (tableOf (ghh sg_L_create)).take 0, (tableOf (ghh sg_L_create))[0]'(by decide), (tableOf (ghh sg_L_create)).drop 1, rfl, ?_, by decide +kernel, by decide +kernel, w2_216, rfl⟩
    exact fun z hz => nomatch hz
  rw [if_neg e0] at hE
  by_cases e1 : E = "java/util/NoSuchElementException"
  · subst e1
    rw [if_pos rfl] at hE
    obtain rfl := Option.some.inj hE
    refine ⟨wqN, (tableOf (ghh sg_L_create)).take 1, (tableOf (ghh sg_L_create))[1]'(by decide), (tableOf (ghh sg_L_create)).drop 2, rfl, ?_, by decide +kernel, by decide +kernel, w4_33, rfl⟩
    refine e_pass (ns := ["java/lang/IllegalArgumentException"]) ?_
    exact ⟨⟨by decide +kernel, w2_216, by decide +kernel⟩, trivial⟩
  rw [if_neg e1] at hE
  by_cases e2 : E = "java/lang/IllegalStateException"
  · subst e2
    rw [if_pos rfl] at hE
    obtain rfl := Option.some.inj hE
    refine ⟨wqS, (tableOf (ghh sg_L_create)).take 2, (tableOf (ghh sg_L_create))[2]'(by decide), (tableOf (ghh sg_L_create)).drop 3, rfl, ?_, by decide +kernel, by decide +kernel, w2_133, rfl⟩
    refine e_pass (ns := ["java/lang/IllegalArgumentException", "java/util/NoSuchElementException"]) ?_
    exact ⟨⟨by decide +kernel, w2_216, by decide +kernel⟩, ⟨by decide +kernel, w4_33, by decide +kernel⟩, trivial⟩
  rw [if_neg e2] at hE
  cases hE
theorem dL_create_0 : decode cL_create 0 = .ok (.aload 7, 2) := by decide +kernel
theorem dL_create_2 : decode cL_create 2 = .ok (.iconst 0, 1) := by decide +kernel
theorem dL_create_3 : decode cL_create 3 = .ok (.aload_n 0, 1) := by decide +kernel
theorem dL_create_4 : decode cL_create 4 = .ok (.iload_n 1, 1) := by decide +kernel
theorem dL_create_5 : decode cL_create 5 = .ok (.iload_n 2, 1) := by decide +kernel
theorem dL_create_6 : decode cL_create 6 = .ok (.iload_n 3, 1) := by decide +kernel
theorem dL_create_7 : decode cL_create 7 = .ok (.iload 4, 2) := by decide +kernel
theorem dL_create_9 : decode cL_create 9 = .ok (.iload 5, 2) := by decide +kernel
theorem dL_create_11 : decode cL_create 11 = .ok (.iload 6, 2) := by decide +kernel
theorem dL_create_13 : decode cL_create 13 = .ok (.invokevirtual 75, 3) := by decide +kernel
theorem dL_create_16 : decode cL_create 16 = .ok (.i2l, 1) := by decide +kernel
theorem dL_create_17 : decode cL_create 17 = .ok (.lastore, 1) := by decide +kernel
theorem dL_create_18 : decode cL_create 18 = .ok (.goto 15, 3) := by decide +kernel
theorem dL_create_21 : decode cL_create 21 = .ok (.astore 8, 2) := by decide +kernel
theorem dL_create_23 : decode cL_create 23 = .ok (.iconst 1, 1) := by decide +kernel
theorem dL_create_24 : decode cL_create 24 = .ok (.ireturn, 1) := by decide +kernel
theorem dL_create_25 : decode cL_create 25 = .ok (.astore 8, 2) := by decide +kernel
theorem dL_create_27 : decode cL_create 27 = .ok (.iconst 2, 1) := by decide +kernel
theorem dL_create_28 : decode cL_create 28 = .ok (.ireturn, 1) := by decide +kernel
theorem dL_create_29 : decode cL_create 29 = .ok (.astore 8, 2) := by decide +kernel
theorem dL_create_31 : decode cL_create 31 = .ok (.iconst 3, 1) := by decide +kernel
theorem dL_create_32 : decode cL_create 32 = .ok (.ireturn, 1) := by decide +kernel
theorem dL_create_33 : decode cL_create 33 = .ok (.iconst 0, 1) := by decide +kernel
theorem dL_create_34 : decode cL_create 34 = .ok (.ireturn, 1) := by decide +kernel
def pg_L_create (l : Launch) (g : EG) : List (Nat × ES) := [(0, s_ldP 7), (2, s_c (.inl 0)), (3, s_ldP 0), (4, s_ldI 1), (5, s_ldI 2), (6, s_ldI 3), (7, s_ldI 4), (9, s_ldI 5), (11, s_ldI 6), (13, s_callVH l g sg_L_create sg_X10_create 9 hd_L_create), (16, s_il (fun x => x.toInt64)), (17, s_last), (18, s_goto 33), (21, s_stP 8), (23, s_c (.inl 1)), (24, s_ireti), (25, s_stP 8), (27, s_c (.inl 2)), (28, s_ireti), (29, s_stP 8), (31, s_c (.inl 3)), (32, s_ireti), (33, s_c (.inl 0)), (34, s_ireti)]
theorem ok_L_create {l : Launch} {g : EG} : e_okpH l g sg_L_create "CalendarSyncLaw" (pg_L_create l g) := fun p e R s m args below meth c ex M0 Q X hN =>
    e_each_cons (r_aload X (i := 7) dL_create_0 rfl)
    (e_each_cons (r_iconst X (n := 0) (v := 0) dL_create_2 (by decide) rfl)
    (e_each_cons (r_aload_n X (k := 0) (i := 0) rfl dL_create_3 rfl)
    (e_each_cons (r_iload_n X (k := 1) (i := 1) rfl dL_create_4 rfl)
    (e_each_cons (r_iload_n X (k := 2) (i := 2) rfl dL_create_5 rfl)
    (e_each_cons (r_iload_n X (k := 3) (i := 3) rfl dL_create_6 rfl)
    (e_each_cons (r_iload X (i := 4) dL_create_7 rfl)
    (e_each_cons (r_iload X (i := 5) dL_create_9 rfl)
    (e_each_cons (r_iload X (i := 6) dL_create_11 rfl)
    (e_each_cons (r_callVH X hN (τ := sg_X10_create) (hdl := hk_L_create) (index := 75) (ci := 9) dL_create_13 (by decide) rfl w5_84 w5_85 w5_86 cs_X10_create rfl ⟨by decide, by decide⟩ rfl)
    (e_each_cons (r_i2l X dL_create_16 rfl)
    (e_each_cons (r_last X dL_create_17 rfl)
    (e_each_cons (r_goto X (off := 15) (t := 33) dL_create_18 (by decide))
    (e_each_cons (r_astore X (i := 8) dL_create_21 (by decide) rfl)
    (e_each_cons (r_iconst X (n := 1) (v := 1) dL_create_23 (by decide) rfl)
    (e_each_cons (r_ireti X dL_create_24 rfl)
    (e_each_cons (r_astore X (i := 8) dL_create_25 (by decide) rfl)
    (e_each_cons (r_iconst X (n := 2) (v := 2) dL_create_27 (by decide) rfl)
    (e_each_cons (r_ireti X dL_create_28 rfl)
    (e_each_cons (r_astore X (i := 8) dL_create_29 (by decide) rfl)
    (e_each_cons (r_iconst X (n := 3) (v := 3) dL_create_31 (by decide) rfl)
    (e_each_cons (r_ireti X dL_create_32 rfl)
    (e_each_cons (r_iconst X (n := 0) (v := 0) dL_create_33 (by decide) rfl)
    (e_each_cons (r_ireti X dL_create_34 rfl)
    (e_each_nil))))))))))))))))))))))))
def sg_L_repeat : SG := (yL_repeat, cL_repeat, 9, (some .int), 9, 175, 6, 36, 8, false, [(0, 18, 21, 19), (0, 18, 25, 29)])
theorem cs_L_repeat : e_csH sg_L_repeat := ⟨w5_116, w1_0, ⟨by decide, by decide⟩, by decide +kernel, rfl⟩
def hd_L_repeat : String → Option Nat := fun E => if E = "java/lang/IllegalArgumentException" then some 21 else if E = "java/util/NoSuchElementException" then some 25 else none
theorem hk_L_repeat : e_hdOk "CalendarSyncLaw" (ghh sg_L_repeat) 13 hd_L_repeat := by
  intro E h hE
  unfold hd_L_repeat at hE
  by_cases e0 : E = "java/lang/IllegalArgumentException"
  · subst e0
    rw [if_pos rfl] at hE
    obtain rfl := Option.some.inj hE
    refine ⟨wqA, (tableOf (ghh sg_L_repeat)).take 0, (tableOf (ghh sg_L_repeat))[0]'(by decide), (tableOf (ghh sg_L_repeat)).drop 1, rfl, ?_, by decide +kernel, by decide +kernel, w2_216, rfl⟩
    exact fun z hz => nomatch hz
  rw [if_neg e0] at hE
  by_cases e1 : E = "java/util/NoSuchElementException"
  · subst e1
    rw [if_pos rfl] at hE
    obtain rfl := Option.some.inj hE
    refine ⟨wqN, (tableOf (ghh sg_L_repeat)).take 1, (tableOf (ghh sg_L_repeat))[1]'(by decide), (tableOf (ghh sg_L_repeat)).drop 2, rfl, ?_, by decide +kernel, by decide +kernel, w4_33, rfl⟩
    refine e_pass (ns := ["java/lang/IllegalArgumentException"]) ?_
    exact ⟨⟨by decide +kernel, w2_216, by decide +kernel⟩, trivial⟩
  rw [if_neg e1] at hE
  cases hE
theorem dL_repeat_0 : decode cL_repeat 0 = .ok (.aload 7, 2) := by decide +kernel
theorem dL_repeat_2 : decode cL_repeat 2 = .ok (.iconst 0, 1) := by decide +kernel
theorem dL_repeat_3 : decode cL_repeat 3 = .ok (.aload_n 0, 1) := by decide +kernel
theorem dL_repeat_4 : decode cL_repeat 4 = .ok (.iload_n 1, 1) := by decide +kernel
theorem dL_repeat_5 : decode cL_repeat 5 = .ok (.iload_n 2, 1) := by decide +kernel
theorem dL_repeat_6 : decode cL_repeat 6 = .ok (.iload_n 3, 1) := by decide +kernel
theorem dL_repeat_7 : decode cL_repeat 7 = .ok (.iload 4, 2) := by decide +kernel
theorem dL_repeat_9 : decode cL_repeat 9 = .ok (.iload 5, 2) := by decide +kernel
theorem dL_repeat_11 : decode cL_repeat 11 = .ok (.iload 6, 2) := by decide +kernel
theorem dL_repeat_13 : decode cL_repeat 13 = .ok (.invokevirtual 79, 3) := by decide +kernel
theorem dL_repeat_16 : decode cL_repeat 16 = .ok (.i2l, 1) := by decide +kernel
theorem dL_repeat_17 : decode cL_repeat 17 = .ok (.lastore, 1) := by decide +kernel
theorem dL_repeat_18 : decode cL_repeat 18 = .ok (.goto 11, 3) := by decide +kernel
theorem dL_repeat_21 : decode cL_repeat 21 = .ok (.astore 8, 2) := by decide +kernel
theorem dL_repeat_23 : decode cL_repeat 23 = .ok (.iconst 1, 1) := by decide +kernel
theorem dL_repeat_24 : decode cL_repeat 24 = .ok (.ireturn, 1) := by decide +kernel
theorem dL_repeat_25 : decode cL_repeat 25 = .ok (.astore 8, 2) := by decide +kernel
theorem dL_repeat_27 : decode cL_repeat 27 = .ok (.iconst 2, 1) := by decide +kernel
theorem dL_repeat_28 : decode cL_repeat 28 = .ok (.ireturn, 1) := by decide +kernel
theorem dL_repeat_29 : decode cL_repeat 29 = .ok (.iconst 0, 1) := by decide +kernel
theorem dL_repeat_30 : decode cL_repeat 30 = .ok (.ireturn, 1) := by decide +kernel
def pg_L_repeat (l : Launch) (g : EG) : List (Nat × ES) := [(0, s_ldP 7), (2, s_c (.inl 0)), (3, s_ldP 0), (4, s_ldI 1), (5, s_ldI 2), (6, s_ldI 3), (7, s_ldI 4), (9, s_ldI 5), (11, s_ldI 6), (13, s_callVH l g sg_L_repeat sg_X10_repeat 9 hd_L_repeat), (16, s_il (fun x => x.toInt64)), (17, s_last), (18, s_goto 29), (21, s_stP 8), (23, s_c (.inl 1)), (24, s_ireti), (25, s_stP 8), (27, s_c (.inl 2)), (28, s_ireti), (29, s_c (.inl 0)), (30, s_ireti)]
theorem ok_L_repeat {l : Launch} {g : EG} : e_okpH l g sg_L_repeat "CalendarSyncLaw" (pg_L_repeat l g) := fun p e R s m args below meth c ex M0 Q X hN =>
    e_each_cons (r_aload X (i := 7) dL_repeat_0 rfl)
    (e_each_cons (r_iconst X (n := 0) (v := 0) dL_repeat_2 (by decide) rfl)
    (e_each_cons (r_aload_n X (k := 0) (i := 0) rfl dL_repeat_3 rfl)
    (e_each_cons (r_iload_n X (k := 1) (i := 1) rfl dL_repeat_4 rfl)
    (e_each_cons (r_iload_n X (k := 2) (i := 2) rfl dL_repeat_5 rfl)
    (e_each_cons (r_iload_n X (k := 3) (i := 3) rfl dL_repeat_6 rfl)
    (e_each_cons (r_iload X (i := 4) dL_repeat_7 rfl)
    (e_each_cons (r_iload X (i := 5) dL_repeat_9 rfl)
    (e_each_cons (r_iload X (i := 6) dL_repeat_11 rfl)
    (e_each_cons (r_callVH X hN (τ := sg_X10_repeat) (hdl := hk_L_repeat) (index := 79) (ci := 9) dL_repeat_13 (by decide) rfl w5_117 w5_118 w5_119 cs_X10_repeat rfl ⟨by decide, by decide⟩ rfl)
    (e_each_cons (r_i2l X dL_repeat_16 rfl)
    (e_each_cons (r_last X dL_repeat_17 rfl)
    (e_each_cons (r_goto X (off := 11) (t := 29) dL_repeat_18 (by decide))
    (e_each_cons (r_astore X (i := 8) dL_repeat_21 (by decide) rfl)
    (e_each_cons (r_iconst X (n := 1) (v := 1) dL_repeat_23 (by decide) rfl)
    (e_each_cons (r_ireti X dL_repeat_24 rfl)
    (e_each_cons (r_astore X (i := 8) dL_repeat_25 (by decide) rfl)
    (e_each_cons (r_iconst X (n := 2) (v := 2) dL_repeat_27 (by decide) rfl)
    (e_each_cons (r_ireti X dL_repeat_28 rfl)
    (e_each_cons (r_iconst X (n := 0) (v := 0) dL_repeat_29 (by decide) rfl)
    (e_each_cons (r_ireti X dL_repeat_30 rfl)
    (e_each_nil)))))))))))))))))))))
def sg_L_cancel : SG := (yL_cancel, cL_cancel, 6, (some .int), 9, 172, 3, 18, 5, false, [(0, 12, 15, 19), (0, 12, 19, 29), (0, 12, 23, 31)])
theorem cs_L_cancel : e_csH sg_L_cancel := ⟨w5_124, w1_0, ⟨by decide, by decide⟩, by decide +kernel, rfl⟩
def hd_L_cancel : String → Option Nat := fun E => if E = "java/lang/IllegalArgumentException" then some 15 else if E = "java/util/NoSuchElementException" then some 19 else if E = "java/lang/IndexOutOfBoundsException" then some 23 else none
theorem hk_L_cancel : e_hdOk "CalendarSyncLaw" (ghh sg_L_cancel) 7 hd_L_cancel := by
  intro E h hE
  unfold hd_L_cancel at hE
  by_cases e0 : E = "java/lang/IllegalArgumentException"
  · subst e0
    rw [if_pos rfl] at hE
    obtain rfl := Option.some.inj hE
    refine ⟨wqA, (tableOf (ghh sg_L_cancel)).take 0, (tableOf (ghh sg_L_cancel))[0]'(by decide), (tableOf (ghh sg_L_cancel)).drop 1, rfl, ?_, by decide +kernel, by decide +kernel, w2_216, rfl⟩
    exact fun z hz => nomatch hz
  rw [if_neg e0] at hE
  by_cases e1 : E = "java/util/NoSuchElementException"
  · subst e1
    rw [if_pos rfl] at hE
    obtain rfl := Option.some.inj hE
    refine ⟨wqN, (tableOf (ghh sg_L_cancel)).take 1, (tableOf (ghh sg_L_cancel))[1]'(by decide), (tableOf (ghh sg_L_cancel)).drop 2, rfl, ?_, by decide +kernel, by decide +kernel, w4_33, rfl⟩
    refine e_pass (ns := ["java/lang/IllegalArgumentException"]) ?_
    exact ⟨⟨by decide +kernel, w2_216, by decide +kernel⟩, trivial⟩
  rw [if_neg e1] at hE
  by_cases e2 : E = "java/lang/IndexOutOfBoundsException"
  · subst e2
    rw [if_pos rfl] at hE
    obtain rfl := Option.some.inj hE
    refine ⟨wqI, (tableOf (ghh sg_L_cancel)).take 2, (tableOf (ghh sg_L_cancel))[2]'(by decide), (tableOf (ghh sg_L_cancel)).drop 3, rfl, ?_, by decide +kernel, by decide +kernel, w4_34, rfl⟩
    refine e_pass (ns := ["java/lang/IllegalArgumentException", "java/util/NoSuchElementException"]) ?_
    exact ⟨⟨by decide +kernel, w2_216, by decide +kernel⟩, ⟨by decide +kernel, w4_33, by decide +kernel⟩, trivial⟩
  rw [if_neg e2] at hE
  cases hE
theorem dL_cancel_0 : decode cL_cancel 0 = .ok (.aload 4, 2) := by decide +kernel
theorem dL_cancel_2 : decode cL_cancel 2 = .ok (.iconst 0, 1) := by decide +kernel
theorem dL_cancel_3 : decode cL_cancel 3 = .ok (.aload_n 0, 1) := by decide +kernel
theorem dL_cancel_4 : decode cL_cancel 4 = .ok (.iload_n 1, 1) := by decide +kernel
theorem dL_cancel_5 : decode cL_cancel 5 = .ok (.iload_n 2, 1) := by decide +kernel
theorem dL_cancel_6 : decode cL_cancel 6 = .ok (.iload_n 3, 1) := by decide +kernel
theorem dL_cancel_7 : decode cL_cancel 7 = .ok (.invokevirtual 82, 3) := by decide +kernel
theorem dL_cancel_10 : decode cL_cancel 10 = .ok (.i2l, 1) := by decide +kernel
theorem dL_cancel_11 : decode cL_cancel 11 = .ok (.lastore, 1) := by decide +kernel
theorem dL_cancel_12 : decode cL_cancel 12 = .ok (.goto 15, 3) := by decide +kernel
theorem dL_cancel_15 : decode cL_cancel 15 = .ok (.astore 5, 2) := by decide +kernel
theorem dL_cancel_17 : decode cL_cancel 17 = .ok (.iconst 1, 1) := by decide +kernel
theorem dL_cancel_18 : decode cL_cancel 18 = .ok (.ireturn, 1) := by decide +kernel
theorem dL_cancel_19 : decode cL_cancel 19 = .ok (.astore 5, 2) := by decide +kernel
theorem dL_cancel_21 : decode cL_cancel 21 = .ok (.iconst 2, 1) := by decide +kernel
theorem dL_cancel_22 : decode cL_cancel 22 = .ok (.ireturn, 1) := by decide +kernel
theorem dL_cancel_23 : decode cL_cancel 23 = .ok (.astore 5, 2) := by decide +kernel
theorem dL_cancel_25 : decode cL_cancel 25 = .ok (.iconst 3, 1) := by decide +kernel
theorem dL_cancel_26 : decode cL_cancel 26 = .ok (.ireturn, 1) := by decide +kernel
theorem dL_cancel_27 : decode cL_cancel 27 = .ok (.iconst 0, 1) := by decide +kernel
theorem dL_cancel_28 : decode cL_cancel 28 = .ok (.ireturn, 1) := by decide +kernel
def pg_L_cancel (l : Launch) (g : EG) : List (Nat × ES) := [(0, s_ldP 4), (2, s_c (.inl 0)), (3, s_ldP 0), (4, s_ldI 1), (5, s_ldI 2), (6, s_ldI 3), (7, s_callVH l g sg_L_cancel sg_X10_cancel 9 hd_L_cancel), (10, s_il (fun x => x.toInt64)), (11, s_last), (12, s_goto 27), (15, s_stP 5), (17, s_c (.inl 1)), (18, s_ireti), (19, s_stP 5), (21, s_c (.inl 2)), (22, s_ireti), (23, s_stP 5), (25, s_c (.inl 3)), (26, s_ireti), (27, s_c (.inl 0)), (28, s_ireti)]
theorem ok_L_cancel {l : Launch} {g : EG} : e_okpH l g sg_L_cancel "CalendarSyncLaw" (pg_L_cancel l g) := fun p e R s m args below meth c ex M0 Q X hN =>
    e_each_cons (r_aload X (i := 4) dL_cancel_0 rfl)
    (e_each_cons (r_iconst X (n := 0) (v := 0) dL_cancel_2 (by decide) rfl)
    (e_each_cons (r_aload_n X (k := 0) (i := 0) rfl dL_cancel_3 rfl)
    (e_each_cons (r_iload_n X (k := 1) (i := 1) rfl dL_cancel_4 rfl)
    (e_each_cons (r_iload_n X (k := 2) (i := 2) rfl dL_cancel_5 rfl)
    (e_each_cons (r_iload_n X (k := 3) (i := 3) rfl dL_cancel_6 rfl)
    (e_each_cons (r_callVH X hN (τ := sg_X10_cancel) (hdl := hk_L_cancel) (index := 82) (ci := 9) dL_cancel_7 (by decide) rfl w5_125 w5_126 w5_127 cs_X10_cancel rfl ⟨by decide, by decide⟩ rfl)
    (e_each_cons (r_i2l X dL_cancel_10 rfl)
    (e_each_cons (r_last X dL_cancel_11 rfl)
    (e_each_cons (r_goto X (off := 15) (t := 27) dL_cancel_12 (by decide))
    (e_each_cons (r_astore X (i := 5) dL_cancel_15 (by decide) rfl)
    (e_each_cons (r_iconst X (n := 1) (v := 1) dL_cancel_17 (by decide) rfl)
    (e_each_cons (r_ireti X dL_cancel_18 rfl)
    (e_each_cons (r_astore X (i := 5) dL_cancel_19 (by decide) rfl)
    (e_each_cons (r_iconst X (n := 2) (v := 2) dL_cancel_21 (by decide) rfl)
    (e_each_cons (r_ireti X dL_cancel_22 rfl)
    (e_each_cons (r_astore X (i := 5) dL_cancel_23 (by decide) rfl)
    (e_each_cons (r_iconst X (n := 3) (v := 3) dL_cancel_25 (by decide) rfl)
    (e_each_cons (r_ireti X dL_cancel_26 rfl)
    (e_each_cons (r_iconst X (n := 0) (v := 0) dL_cancel_27 (by decide) rfl)
    (e_each_cons (r_ireti X dL_cancel_28 rfl)
    (e_each_nil)))))))))))))))))))))
def sg_L_move : SG := (yL_move, cL_move, 8, (some .int), 9, 174, 4, 24, 7, false, [(0, 16, 19, 19), (0, 16, 23, 29), (0, 16, 27, 31)])
theorem cs_L_move : e_csH sg_L_move := ⟨w5_132, w1_0, ⟨by decide, by decide⟩, by decide +kernel, rfl⟩
def hd_L_move : String → Option Nat := fun E => if E = "java/lang/IllegalArgumentException" then some 19 else if E = "java/util/NoSuchElementException" then some 23 else if E = "java/lang/IndexOutOfBoundsException" then some 27 else none
theorem hk_L_move : e_hdOk "CalendarSyncLaw" (ghh sg_L_move) 11 hd_L_move := by
  intro E h hE
  unfold hd_L_move at hE
  by_cases e0 : E = "java/lang/IllegalArgumentException"
  · subst e0
    rw [if_pos rfl] at hE
    obtain rfl := Option.some.inj hE
    refine ⟨wqA, (tableOf (ghh sg_L_move)).take 0, (tableOf (ghh sg_L_move))[0]'(by decide), (tableOf (ghh sg_L_move)).drop 1, rfl, ?_, by decide +kernel, by decide +kernel, w2_216, rfl⟩
    exact fun z hz => nomatch hz
  rw [if_neg e0] at hE
  by_cases e1 : E = "java/util/NoSuchElementException"
  · subst e1
    rw [if_pos rfl] at hE
    obtain rfl := Option.some.inj hE
    refine ⟨wqN, (tableOf (ghh sg_L_move)).take 1, (tableOf (ghh sg_L_move))[1]'(by decide), (tableOf (ghh sg_L_move)).drop 2, rfl, ?_, by decide +kernel, by decide +kernel, w4_33, rfl⟩
    refine e_pass (ns := ["java/lang/IllegalArgumentException"]) ?_
    exact ⟨⟨by decide +kernel, w2_216, by decide +kernel⟩, trivial⟩
  rw [if_neg e1] at hE
  by_cases e2 : E = "java/lang/IndexOutOfBoundsException"
  · subst e2
    rw [if_pos rfl] at hE
    obtain rfl := Option.some.inj hE
    refine ⟨wqI, (tableOf (ghh sg_L_move)).take 2, (tableOf (ghh sg_L_move))[2]'(by decide), (tableOf (ghh sg_L_move)).drop 3, rfl, ?_, by decide +kernel, by decide +kernel, w4_34, rfl⟩
    refine e_pass (ns := ["java/lang/IllegalArgumentException", "java/util/NoSuchElementException"]) ?_
    exact ⟨⟨by decide +kernel, w2_216, by decide +kernel⟩, ⟨by decide +kernel, w4_33, by decide +kernel⟩, trivial⟩
  rw [if_neg e2] at hE
  cases hE
theorem dL_move_0 : decode cL_move 0 = .ok (.aload 6, 2) := by decide +kernel
theorem dL_move_2 : decode cL_move 2 = .ok (.iconst 0, 1) := by decide +kernel
theorem dL_move_3 : decode cL_move 3 = .ok (.aload_n 0, 1) := by decide +kernel
theorem dL_move_4 : decode cL_move 4 = .ok (.iload_n 1, 1) := by decide +kernel
theorem dL_move_5 : decode cL_move 5 = .ok (.iload_n 2, 1) := by decide +kernel
theorem dL_move_6 : decode cL_move 6 = .ok (.iload_n 3, 1) := by decide +kernel
theorem dL_move_7 : decode cL_move 7 = .ok (.iload 4, 2) := by decide +kernel
theorem dL_move_9 : decode cL_move 9 = .ok (.iload 5, 2) := by decide +kernel
theorem dL_move_11 : decode cL_move 11 = .ok (.invokevirtual 85, 3) := by decide +kernel
theorem dL_move_14 : decode cL_move 14 = .ok (.i2l, 1) := by decide +kernel
theorem dL_move_15 : decode cL_move 15 = .ok (.lastore, 1) := by decide +kernel
theorem dL_move_16 : decode cL_move 16 = .ok (.goto 15, 3) := by decide +kernel
theorem dL_move_19 : decode cL_move 19 = .ok (.astore 7, 2) := by decide +kernel
theorem dL_move_21 : decode cL_move 21 = .ok (.iconst 1, 1) := by decide +kernel
theorem dL_move_22 : decode cL_move 22 = .ok (.ireturn, 1) := by decide +kernel
theorem dL_move_23 : decode cL_move 23 = .ok (.astore 7, 2) := by decide +kernel
theorem dL_move_25 : decode cL_move 25 = .ok (.iconst 2, 1) := by decide +kernel
theorem dL_move_26 : decode cL_move 26 = .ok (.ireturn, 1) := by decide +kernel
theorem dL_move_27 : decode cL_move 27 = .ok (.astore 7, 2) := by decide +kernel
theorem dL_move_29 : decode cL_move 29 = .ok (.iconst 3, 1) := by decide +kernel
theorem dL_move_30 : decode cL_move 30 = .ok (.ireturn, 1) := by decide +kernel
theorem dL_move_31 : decode cL_move 31 = .ok (.iconst 0, 1) := by decide +kernel
theorem dL_move_32 : decode cL_move 32 = .ok (.ireturn, 1) := by decide +kernel
def pg_L_move (l : Launch) (g : EG) : List (Nat × ES) := [(0, s_ldP 6), (2, s_c (.inl 0)), (3, s_ldP 0), (4, s_ldI 1), (5, s_ldI 2), (6, s_ldI 3), (7, s_ldI 4), (9, s_ldI 5), (11, s_callVH l g sg_L_move sg_X10_move 9 hd_L_move), (14, s_il (fun x => x.toInt64)), (15, s_last), (16, s_goto 31), (19, s_stP 7), (21, s_c (.inl 1)), (22, s_ireti), (23, s_stP 7), (25, s_c (.inl 2)), (26, s_ireti), (27, s_stP 7), (29, s_c (.inl 3)), (30, s_ireti), (31, s_c (.inl 0)), (32, s_ireti)]
theorem ok_L_move {l : Launch} {g : EG} : e_okpH l g sg_L_move "CalendarSyncLaw" (pg_L_move l g) := fun p e R s m args below meth c ex M0 Q X hN =>
    e_each_cons (r_aload X (i := 6) dL_move_0 rfl)
    (e_each_cons (r_iconst X (n := 0) (v := 0) dL_move_2 (by decide) rfl)
    (e_each_cons (r_aload_n X (k := 0) (i := 0) rfl dL_move_3 rfl)
    (e_each_cons (r_iload_n X (k := 1) (i := 1) rfl dL_move_4 rfl)
    (e_each_cons (r_iload_n X (k := 2) (i := 2) rfl dL_move_5 rfl)
    (e_each_cons (r_iload_n X (k := 3) (i := 3) rfl dL_move_6 rfl)
    (e_each_cons (r_iload X (i := 4) dL_move_7 rfl)
    (e_each_cons (r_iload X (i := 5) dL_move_9 rfl)
    (e_each_cons (r_callVH X hN (τ := sg_X10_move) (hdl := hk_L_move) (index := 85) (ci := 9) dL_move_11 (by decide) rfl w5_133 w5_134 w5_135 cs_X10_move rfl ⟨by decide, by decide⟩ rfl)
    (e_each_cons (r_i2l X dL_move_14 rfl)
    (e_each_cons (r_last X dL_move_15 rfl)
    (e_each_cons (r_goto X (off := 15) (t := 31) dL_move_16 (by decide))
    (e_each_cons (r_astore X (i := 7) dL_move_19 (by decide) rfl)
    (e_each_cons (r_iconst X (n := 1) (v := 1) dL_move_21 (by decide) rfl)
    (e_each_cons (r_ireti X dL_move_22 rfl)
    (e_each_cons (r_astore X (i := 7) dL_move_23 (by decide) rfl)
    (e_each_cons (r_iconst X (n := 2) (v := 2) dL_move_25 (by decide) rfl)
    (e_each_cons (r_ireti X dL_move_26 rfl)
    (e_each_cons (r_astore X (i := 7) dL_move_27 (by decide) rfl)
    (e_each_cons (r_iconst X (n := 3) (v := 3) dL_move_29 (by decide) rfl)
    (e_each_cons (r_ireti X dL_move_30 rfl)
    (e_each_cons (r_iconst X (n := 0) (v := 0) dL_move_31 (by decide) rfl)
    (e_each_cons (r_ireti X dL_move_32 rfl)
    (e_each_nil)))))))))))))))))))))))
def sg_L_reply : SG := (yL_reply, cL_reply, 7, (some .int), 9, 174, 4, 24, 6, false, [(0, 14, 17, 19), (0, 14, 21, 29), (0, 14, 25, 31)])
theorem cs_L_reply : e_csH sg_L_reply := ⟨w5_140, w1_0, ⟨by decide, by decide⟩, by decide +kernel, rfl⟩
def hd_L_reply : String → Option Nat := fun E => if E = "java/lang/IllegalArgumentException" then some 17 else if E = "java/util/NoSuchElementException" then some 21 else if E = "java/lang/IndexOutOfBoundsException" then some 25 else none
theorem hk_L_reply : e_hdOk "CalendarSyncLaw" (ghh sg_L_reply) 9 hd_L_reply := by
  intro E h hE
  unfold hd_L_reply at hE
  by_cases e0 : E = "java/lang/IllegalArgumentException"
  · subst e0
    rw [if_pos rfl] at hE
    obtain rfl := Option.some.inj hE
    refine ⟨wqA, (tableOf (ghh sg_L_reply)).take 0, (tableOf (ghh sg_L_reply))[0]'(by decide), (tableOf (ghh sg_L_reply)).drop 1, rfl, ?_, by decide +kernel, by decide +kernel, w2_216, rfl⟩
    exact fun z hz => nomatch hz
  rw [if_neg e0] at hE
  by_cases e1 : E = "java/util/NoSuchElementException"
  · subst e1
    rw [if_pos rfl] at hE
    obtain rfl := Option.some.inj hE
    refine ⟨wqN, (tableOf (ghh sg_L_reply)).take 1, (tableOf (ghh sg_L_reply))[1]'(by decide), (tableOf (ghh sg_L_reply)).drop 2, rfl, ?_, by decide +kernel, by decide +kernel, w4_33, rfl⟩
    refine e_pass (ns := ["java/lang/IllegalArgumentException"]) ?_
    exact ⟨⟨by decide +kernel, w2_216, by decide +kernel⟩, trivial⟩
  rw [if_neg e1] at hE
  by_cases e2 : E = "java/lang/IndexOutOfBoundsException"
  · subst e2
    rw [if_pos rfl] at hE
    obtain rfl := Option.some.inj hE
    refine ⟨wqI, (tableOf (ghh sg_L_reply)).take 2, (tableOf (ghh sg_L_reply))[2]'(by decide), (tableOf (ghh sg_L_reply)).drop 3, rfl, ?_, by decide +kernel, by decide +kernel, w4_34, rfl⟩
    refine e_pass (ns := ["java/lang/IllegalArgumentException", "java/util/NoSuchElementException"]) ?_
    exact ⟨⟨by decide +kernel, w2_216, by decide +kernel⟩, ⟨by decide +kernel, w4_33, by decide +kernel⟩, trivial⟩
  rw [if_neg e2] at hE
  cases hE
theorem dL_reply_0 : decode cL_reply 0 = .ok (.aload 5, 2) := by decide +kernel
theorem dL_reply_2 : decode cL_reply 2 = .ok (.iconst 0, 1) := by decide +kernel
theorem dL_reply_3 : decode cL_reply 3 = .ok (.aload_n 0, 1) := by decide +kernel
theorem dL_reply_4 : decode cL_reply 4 = .ok (.iload_n 1, 1) := by decide +kernel
theorem dL_reply_5 : decode cL_reply 5 = .ok (.iload_n 2, 1) := by decide +kernel
theorem dL_reply_6 : decode cL_reply 6 = .ok (.iload_n 3, 1) := by decide +kernel
theorem dL_reply_7 : decode cL_reply 7 = .ok (.iload 4, 2) := by decide +kernel
theorem dL_reply_9 : decode cL_reply 9 = .ok (.invokevirtual 88, 3) := by decide +kernel
theorem dL_reply_12 : decode cL_reply 12 = .ok (.i2l, 1) := by decide +kernel
theorem dL_reply_13 : decode cL_reply 13 = .ok (.lastore, 1) := by decide +kernel
theorem dL_reply_14 : decode cL_reply 14 = .ok (.goto 15, 3) := by decide +kernel
theorem dL_reply_17 : decode cL_reply 17 = .ok (.astore 6, 2) := by decide +kernel
theorem dL_reply_19 : decode cL_reply 19 = .ok (.iconst 1, 1) := by decide +kernel
theorem dL_reply_20 : decode cL_reply 20 = .ok (.ireturn, 1) := by decide +kernel
theorem dL_reply_21 : decode cL_reply 21 = .ok (.astore 6, 2) := by decide +kernel
theorem dL_reply_23 : decode cL_reply 23 = .ok (.iconst 2, 1) := by decide +kernel
theorem dL_reply_24 : decode cL_reply 24 = .ok (.ireturn, 1) := by decide +kernel
theorem dL_reply_25 : decode cL_reply 25 = .ok (.astore 6, 2) := by decide +kernel
theorem dL_reply_27 : decode cL_reply 27 = .ok (.iconst 3, 1) := by decide +kernel
theorem dL_reply_28 : decode cL_reply 28 = .ok (.ireturn, 1) := by decide +kernel
theorem dL_reply_29 : decode cL_reply 29 = .ok (.iconst 0, 1) := by decide +kernel
theorem dL_reply_30 : decode cL_reply 30 = .ok (.ireturn, 1) := by decide +kernel
def pg_L_reply (l : Launch) (g : EG) : List (Nat × ES) := [(0, s_ldP 5), (2, s_c (.inl 0)), (3, s_ldP 0), (4, s_ldI 1), (5, s_ldI 2), (6, s_ldI 3), (7, s_ldI 4), (9, s_callVH l g sg_L_reply sg_X10_reply 9 hd_L_reply), (12, s_il (fun x => x.toInt64)), (13, s_last), (14, s_goto 29), (17, s_stP 6), (19, s_c (.inl 1)), (20, s_ireti), (21, s_stP 6), (23, s_c (.inl 2)), (24, s_ireti), (25, s_stP 6), (27, s_c (.inl 3)), (28, s_ireti), (29, s_c (.inl 0)), (30, s_ireti)]
theorem ok_L_reply {l : Launch} {g : EG} : e_okpH l g sg_L_reply "CalendarSyncLaw" (pg_L_reply l g) := fun p e R s m args below meth c ex M0 Q X hN =>
    e_each_cons (r_aload X (i := 5) dL_reply_0 rfl)
    (e_each_cons (r_iconst X (n := 0) (v := 0) dL_reply_2 (by decide) rfl)
    (e_each_cons (r_aload_n X (k := 0) (i := 0) rfl dL_reply_3 rfl)
    (e_each_cons (r_iload_n X (k := 1) (i := 1) rfl dL_reply_4 rfl)
    (e_each_cons (r_iload_n X (k := 2) (i := 2) rfl dL_reply_5 rfl)
    (e_each_cons (r_iload_n X (k := 3) (i := 3) rfl dL_reply_6 rfl)
    (e_each_cons (r_iload X (i := 4) dL_reply_7 rfl)
    (e_each_cons (r_callVH X hN (τ := sg_X10_reply) (hdl := hk_L_reply) (index := 88) (ci := 9) dL_reply_9 (by decide) rfl w5_141 w5_142 w5_143 cs_X10_reply rfl ⟨by decide, by decide⟩ rfl)
    (e_each_cons (r_i2l X dL_reply_12 rfl)
    (e_each_cons (r_last X dL_reply_13 rfl)
    (e_each_cons (r_goto X (off := 15) (t := 29) dL_reply_14 (by decide))
    (e_each_cons (r_astore X (i := 6) dL_reply_17 (by decide) rfl)
    (e_each_cons (r_iconst X (n := 1) (v := 1) dL_reply_19 (by decide) rfl)
    (e_each_cons (r_ireti X dL_reply_20 rfl)
    (e_each_cons (r_astore X (i := 6) dL_reply_21 (by decide) rfl)
    (e_each_cons (r_iconst X (n := 2) (v := 2) dL_reply_23 (by decide) rfl)
    (e_each_cons (r_ireti X dL_reply_24 rfl)
    (e_each_cons (r_astore X (i := 6) dL_reply_25 (by decide) rfl)
    (e_each_cons (r_iconst X (n := 3) (v := 3) dL_reply_27 (by decide) rfl)
    (e_each_cons (r_ireti X dL_reply_28 rfl)
    (e_each_cons (r_iconst X (n := 0) (v := 0) dL_reply_29 (by decide) rfl)
    (e_each_cons (r_ireti X dL_reply_30 rfl)
    (e_each_nil))))))))))))))))))))))
def sg_L_remove : SG := (yL_remove, cL_remove, 5, (some .int), 9, 171, 2, 12, 4, false, [(0, 10, 13, 19), (0, 10, 17, 29)])
theorem cs_L_remove : e_csH sg_L_remove := ⟨w5_158, w1_0, ⟨by decide, by decide⟩, by decide +kernel, rfl⟩
def hd_L_remove : String → Option Nat := fun E => if E = "java/lang/IllegalArgumentException" then some 13 else if E = "java/util/NoSuchElementException" then some 17 else none
theorem hk_L_remove : e_hdOk "CalendarSyncLaw" (ghh sg_L_remove) 5 hd_L_remove := by
  intro E h hE
  unfold hd_L_remove at hE
  by_cases e0 : E = "java/lang/IllegalArgumentException"
  · subst e0
    rw [if_pos rfl] at hE
    obtain rfl := Option.some.inj hE
    refine ⟨wqA, (tableOf (ghh sg_L_remove)).take 0, (tableOf (ghh sg_L_remove))[0]'(by decide), (tableOf (ghh sg_L_remove)).drop 1, rfl, ?_, by decide +kernel, by decide +kernel, w2_216, rfl⟩
    exact fun z hz => nomatch hz
  rw [if_neg e0] at hE
  by_cases e1 : E = "java/util/NoSuchElementException"
  · subst e1
    rw [if_pos rfl] at hE
    obtain rfl := Option.some.inj hE
    refine ⟨wqN, (tableOf (ghh sg_L_remove)).take 1, (tableOf (ghh sg_L_remove))[1]'(by decide), (tableOf (ghh sg_L_remove)).drop 2, rfl, ?_, by decide +kernel, by decide +kernel, w4_33, rfl⟩
    refine e_pass (ns := ["java/lang/IllegalArgumentException"]) ?_
    exact ⟨⟨by decide +kernel, w2_216, by decide +kernel⟩, trivial⟩
  rw [if_neg e1] at hE
  cases hE
theorem dL_remove_0 : decode cL_remove 0 = .ok (.aload_n 3, 1) := by decide +kernel
theorem dL_remove_1 : decode cL_remove 1 = .ok (.iconst 0, 1) := by decide +kernel
theorem dL_remove_2 : decode cL_remove 2 = .ok (.aload_n 0, 1) := by decide +kernel
theorem dL_remove_3 : decode cL_remove 3 = .ok (.iload_n 1, 1) := by decide +kernel
theorem dL_remove_4 : decode cL_remove 4 = .ok (.iload_n 2, 1) := by decide +kernel
theorem dL_remove_5 : decode cL_remove 5 = .ok (.invokevirtual 91, 3) := by decide +kernel
theorem dL_remove_8 : decode cL_remove 8 = .ok (.i2l, 1) := by decide +kernel
theorem dL_remove_9 : decode cL_remove 9 = .ok (.lastore, 1) := by decide +kernel
theorem dL_remove_10 : decode cL_remove 10 = .ok (.goto 11, 3) := by decide +kernel
theorem dL_remove_13 : decode cL_remove 13 = .ok (.astore 4, 2) := by decide +kernel
theorem dL_remove_15 : decode cL_remove 15 = .ok (.iconst 1, 1) := by decide +kernel
theorem dL_remove_16 : decode cL_remove 16 = .ok (.ireturn, 1) := by decide +kernel
theorem dL_remove_17 : decode cL_remove 17 = .ok (.astore 4, 2) := by decide +kernel
theorem dL_remove_19 : decode cL_remove 19 = .ok (.iconst 2, 1) := by decide +kernel
theorem dL_remove_20 : decode cL_remove 20 = .ok (.ireturn, 1) := by decide +kernel
theorem dL_remove_21 : decode cL_remove 21 = .ok (.iconst 0, 1) := by decide +kernel
theorem dL_remove_22 : decode cL_remove 22 = .ok (.ireturn, 1) := by decide +kernel
def pg_L_remove (l : Launch) (g : EG) : List (Nat × ES) := [(0, s_ldP 3), (1, s_c (.inl 0)), (2, s_ldP 0), (3, s_ldI 1), (4, s_ldI 2), (5, s_callVH l g sg_L_remove sg_X10_remove 9 hd_L_remove), (8, s_il (fun x => x.toInt64)), (9, s_last), (10, s_goto 21), (13, s_stP 4), (15, s_c (.inl 1)), (16, s_ireti), (17, s_stP 4), (19, s_c (.inl 2)), (20, s_ireti), (21, s_c (.inl 0)), (22, s_ireti)]
theorem ok_L_remove {l : Launch} {g : EG} : e_okpH l g sg_L_remove "CalendarSyncLaw" (pg_L_remove l g) := fun p e R s m args below meth c ex M0 Q X hN =>
    e_each_cons (r_aload_n X (k := 3) (i := 3) rfl dL_remove_0 rfl)
    (e_each_cons (r_iconst X (n := 0) (v := 0) dL_remove_1 (by decide) rfl)
    (e_each_cons (r_aload_n X (k := 0) (i := 0) rfl dL_remove_2 rfl)
    (e_each_cons (r_iload_n X (k := 1) (i := 1) rfl dL_remove_3 rfl)
    (e_each_cons (r_iload_n X (k := 2) (i := 2) rfl dL_remove_4 rfl)
    (e_each_cons (r_callVH X hN (τ := sg_X10_remove) (hdl := hk_L_remove) (index := 91) (ci := 9) dL_remove_5 (by decide) rfl w5_159 w5_160 w5_161 cs_X10_remove rfl ⟨by decide, by decide⟩ rfl)
    (e_each_cons (r_i2l X dL_remove_8 rfl)
    (e_each_cons (r_last X dL_remove_9 rfl)
    (e_each_cons (r_goto X (off := 11) (t := 21) dL_remove_10 (by decide))
    (e_each_cons (r_astore X (i := 4) dL_remove_13 (by decide) rfl)
    (e_each_cons (r_iconst X (n := 1) (v := 1) dL_remove_15 (by decide) rfl)
    (e_each_cons (r_ireti X dL_remove_16 rfl)
    (e_each_cons (r_astore X (i := 4) dL_remove_17 (by decide) rfl)
    (e_each_cons (r_iconst X (n := 2) (v := 2) dL_remove_19 (by decide) rfl)
    (e_each_cons (r_ireti X dL_remove_20 rfl)
    (e_each_cons (r_iconst X (n := 0) (v := 0) dL_remove_21 (by decide) rfl)
    (e_each_cons (r_ireti X dL_remove_22 rfl)
    (e_each_nil)))))))))))))))))
def sg_L_setZone : SG := (yL_setZone, cL_setZone, 7, (some .int), 9, 172, 4, 24, 6, false, [(0, 14, 17, 29), (0, 14, 21, 19)])
theorem cs_L_setZone : e_csH sg_L_setZone := ⟨w5_165, w1_0, ⟨by decide, by decide⟩, by decide +kernel, rfl⟩
def hd_L_setZone : String → Option Nat := fun E => if E = "java/util/NoSuchElementException" then some 17 else if E = "java/lang/IllegalArgumentException" then some 21 else none
theorem hk_L_setZone : e_hdOk "CalendarSyncLaw" (ghh sg_L_setZone) 9 hd_L_setZone := by
  intro E h hE
  unfold hd_L_setZone at hE
  by_cases e0 : E = "java/util/NoSuchElementException"
  · subst e0
    rw [if_pos rfl] at hE
    obtain rfl := Option.some.inj hE
    refine ⟨wqN, (tableOf (ghh sg_L_setZone)).take 0, (tableOf (ghh sg_L_setZone))[0]'(by decide), (tableOf (ghh sg_L_setZone)).drop 1, rfl, ?_, by decide +kernel, by decide +kernel, w4_33, rfl⟩
    exact fun z hz => nomatch hz
  rw [if_neg e0] at hE
  by_cases e1 : E = "java/lang/IllegalArgumentException"
  · subst e1
    rw [if_pos rfl] at hE
    obtain rfl := Option.some.inj hE
    refine ⟨wqA, (tableOf (ghh sg_L_setZone)).take 1, (tableOf (ghh sg_L_setZone))[1]'(by decide), (tableOf (ghh sg_L_setZone)).drop 2, rfl, ?_, by decide +kernel, by decide +kernel, w2_216, rfl⟩
    refine e_pass (ns := ["java/util/NoSuchElementException"]) ?_
    exact ⟨⟨by decide +kernel, w4_33, by decide +kernel⟩, trivial⟩
  rw [if_neg e1] at hE
  cases hE
theorem dL_setZone_0 : decode cL_setZone 0 = .ok (.aload 5, 2) := by decide +kernel
theorem dL_setZone_2 : decode cL_setZone 2 = .ok (.iconst 0, 1) := by decide +kernel
theorem dL_setZone_3 : decode cL_setZone 3 = .ok (.aload_n 0, 1) := by decide +kernel
theorem dL_setZone_4 : decode cL_setZone 4 = .ok (.iload_n 1, 1) := by decide +kernel
theorem dL_setZone_5 : decode cL_setZone 5 = .ok (.iload_n 2, 1) := by decide +kernel
theorem dL_setZone_6 : decode cL_setZone 6 = .ok (.iload_n 3, 1) := by decide +kernel
theorem dL_setZone_7 : decode cL_setZone 7 = .ok (.iload 4, 2) := by decide +kernel
theorem dL_setZone_9 : decode cL_setZone 9 = .ok (.invokevirtual 94, 3) := by decide +kernel
theorem dL_setZone_12 : decode cL_setZone 12 = .ok (.i2l, 1) := by decide +kernel
theorem dL_setZone_13 : decode cL_setZone 13 = .ok (.lastore, 1) := by decide +kernel
theorem dL_setZone_14 : decode cL_setZone 14 = .ok (.goto 11, 3) := by decide +kernel
theorem dL_setZone_17 : decode cL_setZone 17 = .ok (.astore 6, 2) := by decide +kernel
theorem dL_setZone_19 : decode cL_setZone 19 = .ok (.iconst 1, 1) := by decide +kernel
theorem dL_setZone_20 : decode cL_setZone 20 = .ok (.ireturn, 1) := by decide +kernel
theorem dL_setZone_21 : decode cL_setZone 21 = .ok (.astore 6, 2) := by decide +kernel
theorem dL_setZone_23 : decode cL_setZone 23 = .ok (.iconst 2, 1) := by decide +kernel
theorem dL_setZone_24 : decode cL_setZone 24 = .ok (.ireturn, 1) := by decide +kernel
theorem dL_setZone_25 : decode cL_setZone 25 = .ok (.iconst 0, 1) := by decide +kernel
theorem dL_setZone_26 : decode cL_setZone 26 = .ok (.ireturn, 1) := by decide +kernel
def pg_L_setZone (l : Launch) (g : EG) : List (Nat × ES) := [(0, s_ldP 5), (2, s_c (.inl 0)), (3, s_ldP 0), (4, s_ldI 1), (5, s_ldI 2), (6, s_ldI 3), (7, s_ldI 4), (9, s_callVH l g sg_L_setZone sg_X10_setZone 9 hd_L_setZone), (12, s_il (fun x => x.toInt64)), (13, s_last), (14, s_goto 25), (17, s_stP 6), (19, s_c (.inl 1)), (20, s_ireti), (21, s_stP 6), (23, s_c (.inl 2)), (24, s_ireti), (25, s_c (.inl 0)), (26, s_ireti)]
theorem ok_L_setZone {l : Launch} {g : EG} : e_okpH l g sg_L_setZone "CalendarSyncLaw" (pg_L_setZone l g) := fun p e R s m args below meth c ex M0 Q X hN =>
    e_each_cons (r_aload X (i := 5) dL_setZone_0 rfl)
    (e_each_cons (r_iconst X (n := 0) (v := 0) dL_setZone_2 (by decide) rfl)
    (e_each_cons (r_aload_n X (k := 0) (i := 0) rfl dL_setZone_3 rfl)
    (e_each_cons (r_iload_n X (k := 1) (i := 1) rfl dL_setZone_4 rfl)
    (e_each_cons (r_iload_n X (k := 2) (i := 2) rfl dL_setZone_5 rfl)
    (e_each_cons (r_iload_n X (k := 3) (i := 3) rfl dL_setZone_6 rfl)
    (e_each_cons (r_iload X (i := 4) dL_setZone_7 rfl)
    (e_each_cons (r_callVH X hN (τ := sg_X10_setZone) (hdl := hk_L_setZone) (index := 94) (ci := 9) dL_setZone_9 (by decide) rfl w5_166 w5_167 w5_168 cs_X10_setZone rfl ⟨by decide, by decide⟩ rfl)
    (e_each_cons (r_i2l X dL_setZone_12 rfl)
    (e_each_cons (r_last X dL_setZone_13 rfl)
    (e_each_cons (r_goto X (off := 11) (t := 25) dL_setZone_14 (by decide))
    (e_each_cons (r_astore X (i := 6) dL_setZone_17 (by decide) rfl)
    (e_each_cons (r_iconst X (n := 1) (v := 1) dL_setZone_19 (by decide) rfl)
    (e_each_cons (r_ireti X dL_setZone_20 rfl)
    (e_each_cons (r_astore X (i := 6) dL_setZone_21 (by decide) rfl)
    (e_each_cons (r_iconst X (n := 2) (v := 2) dL_setZone_23 (by decide) rfl)
    (e_each_cons (r_ireti X dL_setZone_24 rfl)
    (e_each_cons (r_iconst X (n := 0) (v := 0) dL_setZone_25 (by decide) rfl)
    (e_each_cons (r_ireti X dL_setZone_26 rfl)
    (e_each_nil)))))))))))))))))))
def sg_L_push : SG := (yL_push, cL_push, 4, (some .int), 8, 168, 1, 6, 3, false, [(0, 9, 12, 19)])
theorem cs_L_push : e_csH sg_L_push := ⟨w5_180, w1_0, ⟨by decide, by decide⟩, by decide +kernel, rfl⟩
def hd_L_push : String → Option Nat := fun E => if E = "java/lang/IllegalArgumentException" then some 12 else none
theorem hk_L_push : e_hdOk "CalendarSyncLaw" (ghh sg_L_push) 4 hd_L_push := by
  intro E h hE
  unfold hd_L_push at hE
  by_cases e0 : E = "java/lang/IllegalArgumentException"
  · subst e0
    rw [if_pos rfl] at hE
    obtain rfl := Option.some.inj hE
    refine ⟨wqA, (tableOf (ghh sg_L_push)).take 0, (tableOf (ghh sg_L_push))[0]'(by decide), (tableOf (ghh sg_L_push)).drop 1, rfl, ?_, by decide +kernel, by decide +kernel, w2_216, rfl⟩
    exact fun z hz => nomatch hz
  rw [if_neg e0] at hE
  cases hE
theorem dL_push_0 : decode cL_push 0 = .ok (.aload_n 2, 1) := by decide +kernel
theorem dL_push_1 : decode cL_push 1 = .ok (.iconst 0, 1) := by decide +kernel
theorem dL_push_2 : decode cL_push 2 = .ok (.aload_n 0, 1) := by decide +kernel
theorem dL_push_3 : decode cL_push 3 = .ok (.iload_n 1, 1) := by decide +kernel
theorem dL_push_4 : decode cL_push 4 = .ok (.invokevirtual 97, 3) := by decide +kernel
theorem dL_push_7 : decode cL_push 7 = .ok (.i2l, 1) := by decide +kernel
theorem dL_push_8 : decode cL_push 8 = .ok (.lastore, 1) := by decide +kernel
theorem dL_push_9 : decode cL_push 9 = .ok (.goto 6, 3) := by decide +kernel
theorem dL_push_12 : decode cL_push 12 = .ok (.astore_n 3, 1) := by decide +kernel
theorem dL_push_13 : decode cL_push 13 = .ok (.iconst 1, 1) := by decide +kernel
theorem dL_push_14 : decode cL_push 14 = .ok (.ireturn, 1) := by decide +kernel
theorem dL_push_15 : decode cL_push 15 = .ok (.iconst 0, 1) := by decide +kernel
theorem dL_push_16 : decode cL_push 16 = .ok (.ireturn, 1) := by decide +kernel
def pg_L_push (l : Launch) (g : EG) : List (Nat × ES) := [(0, s_ldP 2), (1, s_c (.inl 0)), (2, s_ldP 0), (3, s_ldI 1), (4, s_callVH l g sg_L_push sg_X10_push 9 hd_L_push), (7, s_il (fun x => x.toInt64)), (8, s_last), (9, s_goto 15), (12, s_stP 3), (13, s_c (.inl 1)), (14, s_ireti), (15, s_c (.inl 0)), (16, s_ireti)]
theorem ok_L_push {l : Launch} {g : EG} : e_okpH l g sg_L_push "CalendarSyncLaw" (pg_L_push l g) := fun p e R s m args below meth c ex M0 Q X hN =>
    e_each_cons (r_aload_n X (k := 2) (i := 2) rfl dL_push_0 rfl)
    (e_each_cons (r_iconst X (n := 0) (v := 0) dL_push_1 (by decide) rfl)
    (e_each_cons (r_aload_n X (k := 0) (i := 0) rfl dL_push_2 rfl)
    (e_each_cons (r_iload_n X (k := 1) (i := 1) rfl dL_push_3 rfl)
    (e_each_cons (r_callVH X hN (τ := sg_X10_push) (hdl := hk_L_push) (index := 97) (ci := 9) dL_push_4 (by decide) rfl w5_181 w5_182 w5_183 cs_X10_push rfl ⟨by decide, by decide⟩ rfl)
    (e_each_cons (r_i2l X dL_push_7 rfl)
    (e_each_cons (r_last X dL_push_8 rfl)
    (e_each_cons (r_goto X (off := 6) (t := 15) dL_push_9 (by decide))
    (e_each_cons (r_astore_n X (k := 3) (i := 3) rfl dL_push_12 (by decide) rfl)
    (e_each_cons (r_iconst X (n := 1) (v := 1) dL_push_13 (by decide) rfl)
    (e_each_cons (r_ireti X dL_push_14 rfl)
    (e_each_cons (r_iconst X (n := 0) (v := 0) dL_push_15 (by decide) rfl)
    (e_each_cons (r_ireti X dL_push_16 rfl)
    (e_each_nil)))))))))))))
def sg_L_pull : SG := (yL_pull, cL_pull, 4, (some .int), 8, 168, 1, 6, 3, false, [(0, 9, 12, 19)])
theorem cs_L_pull : e_csH sg_L_pull := ⟨w5_206, w1_0, ⟨by decide, by decide⟩, by decide +kernel, rfl⟩
def hd_L_pull : String → Option Nat := fun E => if E = "java/lang/IllegalArgumentException" then some 12 else none
theorem hk_L_pull : e_hdOk "CalendarSyncLaw" (ghh sg_L_pull) 4 hd_L_pull := by
  intro E h hE
  unfold hd_L_pull at hE
  by_cases e0 : E = "java/lang/IllegalArgumentException"
  · subst e0
    rw [if_pos rfl] at hE
    obtain rfl := Option.some.inj hE
    refine ⟨wqA, (tableOf (ghh sg_L_pull)).take 0, (tableOf (ghh sg_L_pull))[0]'(by decide), (tableOf (ghh sg_L_pull)).drop 1, rfl, ?_, by decide +kernel, by decide +kernel, w2_216, rfl⟩
    exact fun z hz => nomatch hz
  rw [if_neg e0] at hE
  cases hE
theorem dL_pull_0 : decode cL_pull 0 = .ok (.aload_n 2, 1) := by decide +kernel
theorem dL_pull_1 : decode cL_pull 1 = .ok (.iconst 0, 1) := by decide +kernel
theorem dL_pull_2 : decode cL_pull 2 = .ok (.aload_n 0, 1) := by decide +kernel
theorem dL_pull_3 : decode cL_pull 3 = .ok (.iload_n 1, 1) := by decide +kernel
theorem dL_pull_4 : decode cL_pull 4 = .ok (.invokevirtual 100, 3) := by decide +kernel
theorem dL_pull_7 : decode cL_pull 7 = .ok (.i2l, 1) := by decide +kernel
theorem dL_pull_8 : decode cL_pull 8 = .ok (.lastore, 1) := by decide +kernel
theorem dL_pull_9 : decode cL_pull 9 = .ok (.goto 6, 3) := by decide +kernel
theorem dL_pull_12 : decode cL_pull 12 = .ok (.astore_n 3, 1) := by decide +kernel
theorem dL_pull_13 : decode cL_pull 13 = .ok (.iconst 1, 1) := by decide +kernel
theorem dL_pull_14 : decode cL_pull 14 = .ok (.ireturn, 1) := by decide +kernel
theorem dL_pull_15 : decode cL_pull 15 = .ok (.iconst 0, 1) := by decide +kernel
theorem dL_pull_16 : decode cL_pull 16 = .ok (.ireturn, 1) := by decide +kernel
def pg_L_pull (l : Launch) (g : EG) : List (Nat × ES) := [(0, s_ldP 2), (1, s_c (.inl 0)), (2, s_ldP 0), (3, s_ldI 1), (4, s_callVH l g sg_L_pull sg_X10_pull 9 hd_L_pull), (7, s_il (fun x => x.toInt64)), (8, s_last), (9, s_goto 15), (12, s_stP 3), (13, s_c (.inl 1)), (14, s_ireti), (15, s_c (.inl 0)), (16, s_ireti)]
theorem ok_L_pull {l : Launch} {g : EG} : e_okpH l g sg_L_pull "CalendarSyncLaw" (pg_L_pull l g) := fun p e R s m args below meth c ex M0 Q X hN =>
    e_each_cons (r_aload_n X (k := 2) (i := 2) rfl dL_pull_0 rfl)
    (e_each_cons (r_iconst X (n := 0) (v := 0) dL_pull_1 (by decide) rfl)
    (e_each_cons (r_aload_n X (k := 0) (i := 0) rfl dL_pull_2 rfl)
    (e_each_cons (r_iload_n X (k := 1) (i := 1) rfl dL_pull_3 rfl)
    (e_each_cons (r_callVH X hN (τ := sg_X10_pull) (hdl := hk_L_pull) (index := 100) (ci := 9) dL_pull_4 (by decide) rfl w5_207 w5_208 w5_209 cs_X10_pull rfl ⟨by decide, by decide⟩ rfl)
    (e_each_cons (r_i2l X dL_pull_7 rfl)
    (e_each_cons (r_last X dL_pull_8 rfl)
    (e_each_cons (r_goto X (off := 6) (t := 15) dL_pull_9 (by decide))
    (e_each_cons (r_astore_n X (k := 3) (i := 3) rfl dL_pull_12 (by decide) rfl)
    (e_each_cons (r_iconst X (n := 1) (v := 1) dL_pull_13 (by decide) rfl)
    (e_each_cons (r_ireti X dL_pull_14 rfl)
    (e_each_cons (r_iconst X (n := 0) (v := 0) dL_pull_15 (by decide) rfl)
    (e_each_cons (r_ireti X dL_pull_16 rfl)
    (e_each_nil)))))))))))))
def sg_L_sync : SG := (yL_sync, cL_sync, 4, (some .int), 8, 168, 1, 6, 3, false, [(0, 9, 12, 19)])
theorem cs_L_sync : e_csH sg_L_sync := ⟨w5_220, w1_0, ⟨by decide, by decide⟩, by decide +kernel, rfl⟩
def hd_L_sync : String → Option Nat := fun E => if E = "java/lang/IllegalArgumentException" then some 12 else none
theorem hk_L_sync : e_hdOk "CalendarSyncLaw" (ghh sg_L_sync) 4 hd_L_sync := by
  intro E h hE
  unfold hd_L_sync at hE
  by_cases e0 : E = "java/lang/IllegalArgumentException"
  · subst e0
    rw [if_pos rfl] at hE
    obtain rfl := Option.some.inj hE
    refine ⟨wqA, (tableOf (ghh sg_L_sync)).take 0, (tableOf (ghh sg_L_sync))[0]'(by decide), (tableOf (ghh sg_L_sync)).drop 1, rfl, ?_, by decide +kernel, by decide +kernel, w2_216, rfl⟩
    exact fun z hz => nomatch hz
  rw [if_neg e0] at hE
  cases hE
theorem dL_sync_0 : decode cL_sync 0 = .ok (.aload_n 2, 1) := by decide +kernel
theorem dL_sync_1 : decode cL_sync 1 = .ok (.iconst 0, 1) := by decide +kernel
theorem dL_sync_2 : decode cL_sync 2 = .ok (.aload_n 0, 1) := by decide +kernel
theorem dL_sync_3 : decode cL_sync 3 = .ok (.iload_n 1, 1) := by decide +kernel
theorem dL_sync_4 : decode cL_sync 4 = .ok (.invokevirtual 103, 3) := by decide +kernel
theorem dL_sync_7 : decode cL_sync 7 = .ok (.i2l, 1) := by decide +kernel
theorem dL_sync_8 : decode cL_sync 8 = .ok (.lastore, 1) := by decide +kernel
theorem dL_sync_9 : decode cL_sync 9 = .ok (.goto 6, 3) := by decide +kernel
theorem dL_sync_12 : decode cL_sync 12 = .ok (.astore_n 3, 1) := by decide +kernel
theorem dL_sync_13 : decode cL_sync 13 = .ok (.iconst 1, 1) := by decide +kernel
theorem dL_sync_14 : decode cL_sync 14 = .ok (.ireturn, 1) := by decide +kernel
theorem dL_sync_15 : decode cL_sync 15 = .ok (.iconst 0, 1) := by decide +kernel
theorem dL_sync_16 : decode cL_sync 16 = .ok (.ireturn, 1) := by decide +kernel
def pg_L_sync (l : Launch) (g : EG) : List (Nat × ES) := [(0, s_ldP 2), (1, s_c (.inl 0)), (2, s_ldP 0), (3, s_ldI 1), (4, s_callVH l g sg_L_sync sg_X10_sync 9 hd_L_sync), (7, s_il (fun x => x.toInt64)), (8, s_last), (9, s_goto 15), (12, s_stP 3), (13, s_c (.inl 1)), (14, s_ireti), (15, s_c (.inl 0)), (16, s_ireti)]
theorem ok_L_sync {l : Launch} {g : EG} : e_okpH l g sg_L_sync "CalendarSyncLaw" (pg_L_sync l g) := fun p e R s m args below meth c ex M0 Q X hN =>
    e_each_cons (r_aload_n X (k := 2) (i := 2) rfl dL_sync_0 rfl)
    (e_each_cons (r_iconst X (n := 0) (v := 0) dL_sync_1 (by decide) rfl)
    (e_each_cons (r_aload_n X (k := 0) (i := 0) rfl dL_sync_2 rfl)
    (e_each_cons (r_iload_n X (k := 1) (i := 1) rfl dL_sync_3 rfl)
    (e_each_cons (r_callVH X hN (τ := sg_X10_sync) (hdl := hk_L_sync) (index := 103) (ci := 9) dL_sync_4 (by decide) rfl w5_221 w5_222 w5_223 cs_X10_sync rfl ⟨by decide, by decide⟩ rfl)
    (e_each_cons (r_i2l X dL_sync_7 rfl)
    (e_each_cons (r_last X dL_sync_8 rfl)
    (e_each_cons (r_goto X (off := 6) (t := 15) dL_sync_9 (by decide))
    (e_each_cons (r_astore_n X (k := 3) (i := 3) rfl dL_sync_12 (by decide) rfl)
    (e_each_cons (r_iconst X (n := 1) (v := 1) dL_sync_13 (by decide) rfl)
    (e_each_cons (r_ireti X dL_sync_14 rfl)
    (e_each_cons (r_iconst X (n := 0) (v := 0) dL_sync_15 (by decide) rfl)
    (e_each_cons (r_ireti X dL_sync_16 rfl)
    (e_each_nil)))))))))))))
def sg_L_undo : SG := (yL_undo, cL_undo, 3, (some .int), 8, 167, 1, 6, 2, false, [(0, 8, 11, 13)])
theorem cs_L_undo : e_csH sg_L_undo := ⟨w5_227, w1_0, ⟨by decide, by decide⟩, by decide +kernel, rfl⟩
def hd_L_undo : String → Option Nat := fun E => if E = "java/lang/IllegalStateException" then some 11 else none
theorem hk_L_undo : e_hdOk "CalendarSyncLaw" (ghh sg_L_undo) 3 hd_L_undo := by
  intro E h hE
  unfold hd_L_undo at hE
  by_cases e0 : E = "java/lang/IllegalStateException"
  · subst e0
    rw [if_pos rfl] at hE
    obtain rfl := Option.some.inj hE
    refine ⟨wqS, (tableOf (ghh sg_L_undo)).take 0, (tableOf (ghh sg_L_undo))[0]'(by decide), (tableOf (ghh sg_L_undo)).drop 1, rfl, ?_, by decide +kernel, by decide +kernel, w2_133, rfl⟩
    exact fun z hz => nomatch hz
  rw [if_neg e0] at hE
  cases hE
theorem dL_undo_0 : decode cL_undo 0 = .ok (.aload_n 1, 1) := by decide +kernel
theorem dL_undo_1 : decode cL_undo 1 = .ok (.iconst 0, 1) := by decide +kernel
theorem dL_undo_2 : decode cL_undo 2 = .ok (.aload_n 0, 1) := by decide +kernel
theorem dL_undo_3 : decode cL_undo 3 = .ok (.invokevirtual 106, 3) := by decide +kernel
theorem dL_undo_6 : decode cL_undo 6 = .ok (.i2l, 1) := by decide +kernel
theorem dL_undo_7 : decode cL_undo 7 = .ok (.lastore, 1) := by decide +kernel
theorem dL_undo_8 : decode cL_undo 8 = .ok (.goto 6, 3) := by decide +kernel
theorem dL_undo_11 : decode cL_undo 11 = .ok (.astore_n 2, 1) := by decide +kernel
theorem dL_undo_12 : decode cL_undo 12 = .ok (.iconst 1, 1) := by decide +kernel
theorem dL_undo_13 : decode cL_undo 13 = .ok (.ireturn, 1) := by decide +kernel
theorem dL_undo_14 : decode cL_undo 14 = .ok (.iconst 0, 1) := by decide +kernel
theorem dL_undo_15 : decode cL_undo 15 = .ok (.ireturn, 1) := by decide +kernel
def pg_L_undo (l : Launch) (g : EG) : List (Nat × ES) := [(0, s_ldP 1), (1, s_c (.inl 0)), (2, s_ldP 0), (3, s_callVH l g sg_L_undo sg_X10_undo 9 hd_L_undo), (6, s_il (fun x => x.toInt64)), (7, s_last), (8, s_goto 14), (11, s_stP 2), (12, s_c (.inl 1)), (13, s_ireti), (14, s_c (.inl 0)), (15, s_ireti)]
theorem ok_L_undo {l : Launch} {g : EG} : e_okpH l g sg_L_undo "CalendarSyncLaw" (pg_L_undo l g) := fun p e R s m args below meth c ex M0 Q X hN =>
    e_each_cons (r_aload_n X (k := 1) (i := 1) rfl dL_undo_0 rfl)
    (e_each_cons (r_iconst X (n := 0) (v := 0) dL_undo_1 (by decide) rfl)
    (e_each_cons (r_aload_n X (k := 0) (i := 0) rfl dL_undo_2 rfl)
    (e_each_cons (r_callVH X hN (τ := sg_X10_undo) (hdl := hk_L_undo) (index := 106) (ci := 9) dL_undo_3 (by decide) rfl w5_228 w5_229 w5_230 cs_X10_undo rfl ⟨by decide, by decide⟩ rfl)
    (e_each_cons (r_i2l X dL_undo_6 rfl)
    (e_each_cons (r_last X dL_undo_7 rfl)
    (e_each_cons (r_goto X (off := 6) (t := 14) dL_undo_8 (by decide))
    (e_each_cons (r_astore_n X (k := 2) (i := 2) rfl dL_undo_11 (by decide) rfl)
    (e_each_cons (r_iconst X (n := 1) (v := 1) dL_undo_12 (by decide) rfl)
    (e_each_cons (r_ireti X dL_undo_13 rfl)
    (e_each_cons (r_iconst X (n := 0) (v := 0) dL_undo_14 (by decide) rfl)
    (e_each_cons (r_ireti X dL_undo_15 rfl)
    (e_each_nil))))))))))))
def sg_L_keep : SG := (yL_keep, cL_keep, 4, (some .int), 8, 147, 1, 6, 3, false, [(0, 9, 12, 19)])
theorem cs_L_keep : e_csH sg_L_keep := ⟨w5_238, w1_0, ⟨by decide, by decide⟩, by decide +kernel, rfl⟩
def hd_L_keep : String → Option Nat := fun E => if E = "java/lang/IllegalArgumentException" then some 12 else none
theorem hk_L_keep : e_hdOk "CalendarSyncLaw" (ghh sg_L_keep) 4 hd_L_keep := by
  intro E h hE
  unfold hd_L_keep at hE
  by_cases e0 : E = "java/lang/IllegalArgumentException"
  · subst e0
    rw [if_pos rfl] at hE
    obtain rfl := Option.some.inj hE
    refine ⟨wqA, (tableOf (ghh sg_L_keep)).take 0, (tableOf (ghh sg_L_keep))[0]'(by decide), (tableOf (ghh sg_L_keep)).drop 1, rfl, ?_, by decide +kernel, by decide +kernel, w2_216, rfl⟩
    exact fun z hz => nomatch hz
  rw [if_neg e0] at hE
  cases hE
theorem dL_keep_0 : decode cL_keep 0 = .ok (.aload_n 2, 1) := by decide +kernel
theorem dL_keep_1 : decode cL_keep 1 = .ok (.iconst 0, 1) := by decide +kernel
theorem dL_keep_2 : decode cL_keep 2 = .ok (.aload_n 0, 1) := by decide +kernel
theorem dL_keep_3 : decode cL_keep 3 = .ok (.iload_n 1, 1) := by decide +kernel
theorem dL_keep_4 : decode cL_keep 4 = .ok (.invokevirtual 110, 3) := by decide +kernel
theorem dL_keep_7 : decode cL_keep 7 = .ok (.i2l, 1) := by decide +kernel
theorem dL_keep_8 : decode cL_keep 8 = .ok (.lastore, 1) := by decide +kernel
theorem dL_keep_9 : decode cL_keep 9 = .ok (.goto 6, 3) := by decide +kernel
theorem dL_keep_12 : decode cL_keep 12 = .ok (.astore_n 3, 1) := by decide +kernel
theorem dL_keep_13 : decode cL_keep 13 = .ok (.iconst 1, 1) := by decide +kernel
theorem dL_keep_14 : decode cL_keep 14 = .ok (.ireturn, 1) := by decide +kernel
theorem dL_keep_15 : decode cL_keep 15 = .ok (.iconst 0, 1) := by decide +kernel
theorem dL_keep_16 : decode cL_keep 16 = .ok (.ireturn, 1) := by decide +kernel
def pg_L_keep (l : Launch) (g : EG) : List (Nat × ES) := [(0, s_ldP 2), (1, s_c (.inl 0)), (2, s_ldP 0), (3, s_ldI 1), (4, s_callVH l g sg_L_keep sg_X10_keep 9 hd_L_keep), (7, s_il (fun x => x.toInt64)), (8, s_last), (9, s_goto 15), (12, s_stP 3), (13, s_c (.inl 1)), (14, s_ireti), (15, s_c (.inl 0)), (16, s_ireti)]
theorem ok_L_keep {l : Launch} {g : EG} : e_okpH l g sg_L_keep "CalendarSyncLaw" (pg_L_keep l g) := fun p e R s m args below meth c ex M0 Q X hN =>
    e_each_cons (r_aload_n X (k := 2) (i := 2) rfl dL_keep_0 rfl)
    (e_each_cons (r_iconst X (n := 0) (v := 0) dL_keep_1 (by decide) rfl)
    (e_each_cons (r_aload_n X (k := 0) (i := 0) rfl dL_keep_2 rfl)
    (e_each_cons (r_iload_n X (k := 1) (i := 1) rfl dL_keep_3 rfl)
    (e_each_cons (r_callVH X hN (τ := sg_X10_keep) (hdl := hk_L_keep) (index := 110) (ci := 9) dL_keep_4 (by decide) rfl w5_239 w6_0 w6_1 cs_X10_keep rfl ⟨by decide, by decide⟩ rfl)
    (e_each_cons (r_i2l X dL_keep_7 rfl)
    (e_each_cons (r_last X dL_keep_8 rfl)
    (e_each_cons (r_goto X (off := 6) (t := 15) dL_keep_9 (by decide))
    (e_each_cons (r_astore_n X (k := 3) (i := 3) rfl dL_keep_12 (by decide) rfl)
    (e_each_cons (r_iconst X (n := 1) (v := 1) dL_keep_13 (by decide) rfl)
    (e_each_cons (r_ireti X dL_keep_14 rfl)
    (e_each_cons (r_iconst X (n := 0) (v := 0) dL_keep_15 (by decide) rfl)
    (e_each_cons (r_ireti X dL_keep_16 rfl)
    (e_each_nil)))))))))))))
def sg_L_restore : SG := (yL_restore, cL_restore, 4, (some .int), 8, 147, 2, 12, 3, false, [(0, 9, 12, 19), (0, 9, 15, 29)])
theorem cs_L_restore : e_csH sg_L_restore := ⟨w6_6, w1_0, ⟨by decide, by decide⟩, by decide +kernel, rfl⟩
def hd_L_restore : String → Option Nat := fun E => if E = "java/lang/IllegalArgumentException" then some 12 else if E = "java/util/NoSuchElementException" then some 15 else none
theorem hk_L_restore : e_hdOk "CalendarSyncLaw" (ghh sg_L_restore) 4 hd_L_restore := by
  intro E h hE
  unfold hd_L_restore at hE
  by_cases e0 : E = "java/lang/IllegalArgumentException"
  · subst e0
    rw [if_pos rfl] at hE
    obtain rfl := Option.some.inj hE
    refine ⟨wqA, (tableOf (ghh sg_L_restore)).take 0, (tableOf (ghh sg_L_restore))[0]'(by decide), (tableOf (ghh sg_L_restore)).drop 1, rfl, ?_, by decide +kernel, by decide +kernel, w2_216, rfl⟩
    exact fun z hz => nomatch hz
  rw [if_neg e0] at hE
  by_cases e1 : E = "java/util/NoSuchElementException"
  · subst e1
    rw [if_pos rfl] at hE
    obtain rfl := Option.some.inj hE
    refine ⟨wqN, (tableOf (ghh sg_L_restore)).take 1, (tableOf (ghh sg_L_restore))[1]'(by decide), (tableOf (ghh sg_L_restore)).drop 2, rfl, ?_, by decide +kernel, by decide +kernel, w4_33, rfl⟩
    refine e_pass (ns := ["java/lang/IllegalArgumentException"]) ?_
    exact ⟨⟨by decide +kernel, w2_216, by decide +kernel⟩, trivial⟩
  rw [if_neg e1] at hE
  cases hE
theorem dL_restore_0 : decode cL_restore 0 = .ok (.aload_n 2, 1) := by decide +kernel
theorem dL_restore_1 : decode cL_restore 1 = .ok (.iconst 0, 1) := by decide +kernel
theorem dL_restore_2 : decode cL_restore 2 = .ok (.aload_n 0, 1) := by decide +kernel
theorem dL_restore_3 : decode cL_restore 3 = .ok (.iload_n 1, 1) := by decide +kernel
theorem dL_restore_4 : decode cL_restore 4 = .ok (.invokevirtual 113, 3) := by decide +kernel
theorem dL_restore_7 : decode cL_restore 7 = .ok (.i2l, 1) := by decide +kernel
theorem dL_restore_8 : decode cL_restore 8 = .ok (.lastore, 1) := by decide +kernel
theorem dL_restore_9 : decode cL_restore 9 = .ok (.goto 9, 3) := by decide +kernel
theorem dL_restore_12 : decode cL_restore 12 = .ok (.astore_n 3, 1) := by decide +kernel
theorem dL_restore_13 : decode cL_restore 13 = .ok (.iconst 1, 1) := by decide +kernel
theorem dL_restore_14 : decode cL_restore 14 = .ok (.ireturn, 1) := by decide +kernel
theorem dL_restore_15 : decode cL_restore 15 = .ok (.astore_n 3, 1) := by decide +kernel
theorem dL_restore_16 : decode cL_restore 16 = .ok (.iconst 2, 1) := by decide +kernel
theorem dL_restore_17 : decode cL_restore 17 = .ok (.ireturn, 1) := by decide +kernel
theorem dL_restore_18 : decode cL_restore 18 = .ok (.iconst 0, 1) := by decide +kernel
theorem dL_restore_19 : decode cL_restore 19 = .ok (.ireturn, 1) := by decide +kernel
def pg_L_restore (l : Launch) (g : EG) : List (Nat × ES) := [(0, s_ldP 2), (1, s_c (.inl 0)), (2, s_ldP 0), (3, s_ldI 1), (4, s_callVH l g sg_L_restore sg_X10_restore 9 hd_L_restore), (7, s_il (fun x => x.toInt64)), (8, s_last), (9, s_goto 18), (12, s_stP 3), (13, s_c (.inl 1)), (14, s_ireti), (15, s_stP 3), (16, s_c (.inl 2)), (17, s_ireti), (18, s_c (.inl 0)), (19, s_ireti)]
theorem ok_L_restore {l : Launch} {g : EG} : e_okpH l g sg_L_restore "CalendarSyncLaw" (pg_L_restore l g) := fun p e R s m args below meth c ex M0 Q X hN =>
    e_each_cons (r_aload_n X (k := 2) (i := 2) rfl dL_restore_0 rfl)
    (e_each_cons (r_iconst X (n := 0) (v := 0) dL_restore_1 (by decide) rfl)
    (e_each_cons (r_aload_n X (k := 0) (i := 0) rfl dL_restore_2 rfl)
    (e_each_cons (r_iload_n X (k := 1) (i := 1) rfl dL_restore_3 rfl)
    (e_each_cons (r_callVH X hN (τ := sg_X10_restore) (hdl := hk_L_restore) (index := 113) (ci := 9) dL_restore_4 (by decide) rfl w6_7 w6_8 w6_9 cs_X10_restore rfl ⟨by decide, by decide⟩ rfl)
    (e_each_cons (r_i2l X dL_restore_7 rfl)
    (e_each_cons (r_last X dL_restore_8 rfl)
    (e_each_cons (r_goto X (off := 9) (t := 18) dL_restore_9 (by decide))
    (e_each_cons (r_astore_n X (k := 3) (i := 3) rfl dL_restore_12 (by decide) rfl)
    (e_each_cons (r_iconst X (n := 1) (v := 1) dL_restore_13 (by decide) rfl)
    (e_each_cons (r_ireti X dL_restore_14 rfl)
    (e_each_cons (r_astore_n X (k := 3) (i := 3) rfl dL_restore_15 (by decide) rfl)
    (e_each_cons (r_iconst X (n := 2) (v := 2) dL_restore_16 (by decide) rfl)
    (e_each_cons (r_ireti X dL_restore_17 rfl)
    (e_each_cons (r_iconst X (n := 0) (v := 0) dL_restore_18 (by decide) rfl)
    (e_each_cons (r_ireti X dL_restore_19 rfl)
    (e_each_nil))))))))))))))))
