/-! TABLES (by program): the rows of the JDK's methods of texts. -/
theorem wj1_13 : (Jvm.Cond.initialized "java/lang/String") ∈ e_good := List.mem_filter.mpr ⟨tm_1 _ (List.mem_of_getElem? (i := 13) rfl), rfl⟩
theorem wj1_19 : (Jvm.Cond.initialized "jdk/internal/util/Preconditions") ∈ e_good := List.mem_filter.mpr ⟨tm_1 _ (List.mem_of_getElem? (i := 19) rfl), rfl⟩
theorem wj1_20 : (Jvm.Cond.initialized "java/lang/StringLatin1") ∈ e_good := List.mem_filter.mpr ⟨tm_1 _ (List.mem_of_getElem? (i := 20) rfl), rfl⟩
theorem wj3_112 : (Jvm.Cond.instanceMethod ({ cls := "java/lang/String", name := "length", desc := "()I" } : Jvm.MethodName)) ∈ e_good := List.mem_filter.mpr ⟨tm_3 _ (List.mem_of_getElem? (i := 112) rfl), rfl⟩
theorem wj3_113 : (Jvm.Cond.selects "java/lang/String" ({ cls := "java/lang/String", name := "length", desc := "()I" } : Jvm.MethodName) ({ cls := "java/lang/String", name := "length", desc := "()I" } : Jvm.MethodName)) ∈ e_good := List.mem_filter.mpr ⟨tm_3 _ (List.mem_of_getElem? (i := 113) rfl), rfl⟩
theorem wj3_114 : (Jvm.Cond.code ({ cls := "java/lang/String", name := "length", desc := "()I" } : Jvm.MethodName) prog_28_method_54_code (1 : Nat) (Option.some Jvm.ClassFile.FieldType.int)) ∈ e_good := List.mem_filter.mpr ⟨tm_3 _ (List.mem_of_getElem? (i := 114) rfl), rfl⟩
theorem wj3_115 : (Jvm.Cond.methodLink "java/lang/String" (335 : Nat) ({ cls := "java/lang/String", name := "coder", desc := "()B" } : Jvm.MethodName)) ∈ e_good := List.mem_filter.mpr ⟨tm_3 _ (List.mem_of_getElem? (i := 115) rfl), rfl⟩
theorem wj3_116 : (Jvm.Cond.instanceMethod ({ cls := "java/lang/String", name := "coder", desc := "()B" } : Jvm.MethodName)) ∈ e_good := List.mem_filter.mpr ⟨tm_3 _ (List.mem_of_getElem? (i := 116) rfl), rfl⟩
theorem wj3_117 : (Jvm.Cond.selects "java/lang/String" ({ cls := "java/lang/String", name := "coder", desc := "()B" } : Jvm.MethodName) ({ cls := "java/lang/String", name := "coder", desc := "()B" } : Jvm.MethodName)) ∈ e_good := List.mem_filter.mpr ⟨tm_3 _ (List.mem_of_getElem? (i := 117) rfl), rfl⟩
theorem wj3_118 : (Jvm.Cond.code ({ cls := "java/lang/String", name := "coder", desc := "()B" } : Jvm.MethodName) prog_28_method_152_code (1 : Nat) (Option.some Jvm.ClassFile.FieldType.byte)) ∈ e_good := List.mem_filter.mpr ⟨tm_3 _ (List.mem_of_getElem? (i := 118) rfl), rfl⟩
theorem wj3_119 : (Jvm.Cond.fieldLink "java/lang/String" (38 : Nat) "java/lang/String" "COMPACT_STRINGS" "Z") ∈ e_good := List.mem_filter.mpr ⟨tm_3 _ (List.mem_of_getElem? (i := 119) rfl), rfl⟩
theorem wj3_122 : (Jvm.Cond.instanceMethod ({ cls := "java/lang/String", name := "charAt", desc := "(I)C" } : Jvm.MethodName)) ∈ e_good := List.mem_filter.mpr ⟨tm_3 _ (List.mem_of_getElem? (i := 122) rfl), rfl⟩
theorem wj3_123 : (Jvm.Cond.selects "java/lang/String" ({ cls := "java/lang/String", name := "charAt", desc := "(I)C" } : Jvm.MethodName) ({ cls := "java/lang/String", name := "charAt", desc := "(I)C" } : Jvm.MethodName)) ∈ e_good := List.mem_filter.mpr ⟨tm_3 _ (List.mem_of_getElem? (i := 123) rfl), rfl⟩
theorem wj3_124 : (Jvm.Cond.code ({ cls := "java/lang/String", name := "charAt", desc := "(I)C" } : Jvm.MethodName) prog_28_method_56_code (2 : Nat) (Option.some Jvm.ClassFile.FieldType.char)) ∈ e_good := List.mem_filter.mpr ⟨tm_3 _ (List.mem_of_getElem? (i := 124) rfl), rfl⟩
theorem wj3_125 : (Jvm.Cond.methodLink "java/lang/String" (492 : Nat) ({ cls := "java/lang/String", name := "isLatin1", desc := "()Z" } : Jvm.MethodName)) ∈ e_good := List.mem_filter.mpr ⟨tm_3 _ (List.mem_of_getElem? (i := 125) rfl), rfl⟩
theorem wj3_126 : (Jvm.Cond.instanceMethod ({ cls := "java/lang/String", name := "isLatin1", desc := "()Z" } : Jvm.MethodName)) ∈ e_good := List.mem_filter.mpr ⟨tm_3 _ (List.mem_of_getElem? (i := 126) rfl), rfl⟩
theorem wj3_127 : (Jvm.Cond.selects "java/lang/String" ({ cls := "java/lang/String", name := "isLatin1", desc := "()Z" } : Jvm.MethodName) ({ cls := "java/lang/String", name := "isLatin1", desc := "()Z" } : Jvm.MethodName)) ∈ e_good := List.mem_filter.mpr ⟨tm_3 _ (List.mem_of_getElem? (i := 127) rfl), rfl⟩
theorem wj3_128 : (Jvm.Cond.code ({ cls := "java/lang/String", name := "isLatin1", desc := "()Z" } : Jvm.MethodName) prog_28_method_154_code (1 : Nat) (Option.some Jvm.ClassFile.FieldType.boolean)) ∈ e_good := List.mem_filter.mpr ⟨tm_3 _ (List.mem_of_getElem? (i := 128) rfl), rfl⟩
theorem wj3_129 : (Jvm.Cond.methodLink "java/lang/String" (495 : Nat) ({ cls := "java/lang/StringLatin1", name := "charAt", desc := "([BI)C" } : Jvm.MethodName)) ∈ e_good := List.mem_filter.mpr ⟨tm_3 _ (List.mem_of_getElem? (i := 129) rfl), rfl⟩
theorem wj3_130 : (Jvm.Cond.static ({ cls := "java/lang/StringLatin1", name := "charAt", desc := "([BI)C" } : Jvm.MethodName)) ∈ e_good := List.mem_filter.mpr ⟨tm_3 _ (List.mem_of_getElem? (i := 130) rfl), rfl⟩
theorem wj3_131 : (Jvm.Cond.code ({ cls := "java/lang/StringLatin1", name := "charAt", desc := "([BI)C" } : Jvm.MethodName) prog_30_method_2_code (2 : Nat) (Option.some Jvm.ClassFile.FieldType.char)) ∈ e_good := List.mem_filter.mpr ⟨tm_3 _ (List.mem_of_getElem? (i := 131) rfl), rfl⟩
theorem wj3_132 : (Jvm.Cond.methodLink "java/lang/StringLatin1" (9 : Nat) ({ cls := "java/lang/String", name := "checkIndex", desc := "(II)V" } : Jvm.MethodName)) ∈ e_good := List.mem_filter.mpr ⟨tm_3 _ (List.mem_of_getElem? (i := 132) rfl), rfl⟩
theorem wj3_133 : (Jvm.Cond.static ({ cls := "java/lang/String", name := "checkIndex", desc := "(II)V" } : Jvm.MethodName)) ∈ e_good := List.mem_filter.mpr ⟨tm_3 _ (List.mem_of_getElem? (i := 133) rfl), rfl⟩
theorem wj3_134 : (Jvm.Cond.code ({ cls := "java/lang/String", name := "checkIndex", desc := "(II)V" } : Jvm.MethodName) prog_28_method_155_code (2 : Nat) (Option.none : Option Jvm.ClassFile.FieldType)) ∈ e_good := List.mem_filter.mpr ⟨tm_3 _ (List.mem_of_getElem? (i := 134) rfl), rfl⟩
theorem wj3_135 : (Jvm.Cond.fieldLink "java/lang/String" (1053 : Nat) "jdk/internal/util/Preconditions" "SIOOBE_FORMATTER" "Ljava/util/function/BiFunction;") ∈ e_good := List.mem_filter.mpr ⟨tm_3 _ (List.mem_of_getElem? (i := 135) rfl), rfl⟩
theorem wj3_137 : (Jvm.Cond.methodLink "java/lang/String" (1059 : Nat) ({ cls := "jdk/internal/util/Preconditions", name := "checkIndex", desc := "(IILjava/util/function/BiFunction;)I" } : Jvm.MethodName)) ∈ e_good := List.mem_filter.mpr ⟨tm_3 _ (List.mem_of_getElem? (i := 137) rfl), rfl⟩
theorem wj3_138 : (Jvm.Cond.static ({ cls := "jdk/internal/util/Preconditions", name := "checkIndex", desc := "(IILjava/util/function/BiFunction;)I" } : Jvm.MethodName)) ∈ e_good := List.mem_filter.mpr ⟨tm_3 _ (List.mem_of_getElem? (i := 138) rfl), rfl⟩
theorem wj3_139 : (Jvm.Cond.code ({ cls := "jdk/internal/util/Preconditions", name := "checkIndex", desc := "(IILjava/util/function/BiFunction;)I" } : Jvm.MethodName) prog_39_method_11_code (3 : Nat) (Option.some Jvm.ClassFile.FieldType.int)) ∈ e_good := List.mem_filter.mpr ⟨tm_3 _ (List.mem_of_getElem? (i := 139) rfl), rfl⟩
theorem wj5_104 : (Jvm.Cond.fieldLink "java/lang/String" (9 : Nat) "java/lang/String" "value" "[B") ∈ e_good := List.mem_filter.mpr ⟨tm_5 _ (List.mem_of_getElem? (i := 104) rfl), rfl⟩
theorem wj5_105 : (Jvm.Cond.fieldLink "java/lang/String" (15 : Nat) "java/lang/String" "coder" "B") ∈ e_good := List.mem_filter.mpr ⟨tm_5 _ (List.mem_of_getElem? (i := 105) rfl), rfl⟩
def sg_J0_coder_7d493 : SG := (yJ0_coder_7d493, cJ0_coder_7d493, 1, (some .byte), 0, 0, 0, 0, 0, false, [])
theorem cs_J0_coder_7d493 : e_cs sg_J0_coder_7d493 := ⟨wj3_118, wj1_13, ⟨by decide, by decide⟩, by decide +kernel, rfl⟩
theorem mt_J0_coder_7d493 : e_mtF sg_J0_coder_7d493 "java/lang/String" := ⟨rfl, by decide +kernel, rfl⟩
theorem dJ0_coder_7d493_0 : decode cJ0_coder_7d493 0 = .ok (.getstatic 38, 3) := by decide +kernel
theorem dJ0_coder_7d493_3 : decode cJ0_coder_7d493 3 = .ok (.ifCond .eq 10, 3) := by decide +kernel
theorem dJ0_coder_7d493_6 : decode cJ0_coder_7d493 6 = .ok (.aload_n 0, 1) := by decide +kernel
theorem dJ0_coder_7d493_7 : decode cJ0_coder_7d493 7 = .ok (.getfield 15, 3) := by decide +kernel
theorem dJ0_coder_7d493_10 : decode cJ0_coder_7d493 10 = .ok (.goto 4, 3) := by decide +kernel
theorem dJ0_coder_7d493_13 : decode cJ0_coder_7d493 13 = .ok (.iconst 1, 1) := by decide +kernel
theorem dJ0_coder_7d493_14 : decode cJ0_coder_7d493 14 = .ok (.ireturn, 1) := by decide +kernel
def pg_J0_coder_7d493 (l : Launch) (g : EG) : List (Nat × ES) := [(0, s_gcs), (3, s_if_eq 13), (6, s_ldP 0), (7, s_tcod), (10, s_goto 14), (13, s_c (.inl 1)), (14, s_iretn .byte)]
theorem ok_J0_coder_7d493 {l : Launch} {g : EG} : e_okp l g sg_J0_coder_7d493 "java/lang/String" (pg_J0_coder_7d493 l g) := fun p e R s m args below meth c ex M0 Q X =>
    e_each_cons (r_gcs X (index := 38) dJ0_coder_7d493_0 wj3_119 rfl)
    (e_each_cons (r_if_eq X (off := 10) (t := 13) dJ0_coder_7d493_3 (by decide) rfl)
    (e_each_cons (r_aload_n X (k := 0) (i := 0) rfl dJ0_coder_7d493_6 rfl)
    (e_each_cons (r_tcod X (index := 15) dJ0_coder_7d493_7 wj5_105 rfl)
    (e_each_cons (r_goto X (off := 4) (t := 14) dJ0_coder_7d493_10 (by decide))
    (e_each_cons (r_iconst X (n := 1) (v := 1) dJ0_coder_7d493_13 (by decide) rfl)
    (e_each_cons (r_iretn X (ty := .byte) dJ0_coder_7d493_14 rfl)
    (e_each_nil)))))))
def sg_J0_isLatin1_aae02 : SG := (yJ0_isLatin1_aae02, cJ0_isLatin1_aae02, 1, (some .boolean), 0, 0, 0, 0, 0, false, [])
theorem cs_J0_isLatin1_aae02 : e_cs sg_J0_isLatin1_aae02 := ⟨wj3_128, wj1_13, ⟨by decide, by decide⟩, by decide +kernel, rfl⟩
theorem mt_J0_isLatin1_aae02 : e_mtF sg_J0_isLatin1_aae02 "java/lang/String" := ⟨rfl, by decide +kernel, rfl⟩
theorem dJ0_isLatin1_aae02_0 : decode cJ0_isLatin1_aae02 0 = .ok (.getstatic 38, 3) := by decide +kernel
theorem dJ0_isLatin1_aae02_3 : decode cJ0_isLatin1_aae02 3 = .ok (.ifCond .eq 14, 3) := by decide +kernel
theorem dJ0_isLatin1_aae02_6 : decode cJ0_isLatin1_aae02 6 = .ok (.aload_n 0, 1) := by decide +kernel
theorem dJ0_isLatin1_aae02_7 : decode cJ0_isLatin1_aae02 7 = .ok (.getfield 15, 3) := by decide +kernel
theorem dJ0_isLatin1_aae02_10 : decode cJ0_isLatin1_aae02 10 = .ok (.ifCond .ne 7, 3) := by decide +kernel
theorem dJ0_isLatin1_aae02_13 : decode cJ0_isLatin1_aae02 13 = .ok (.iconst 1, 1) := by decide +kernel
theorem dJ0_isLatin1_aae02_14 : decode cJ0_isLatin1_aae02 14 = .ok (.goto 4, 3) := by decide +kernel
theorem dJ0_isLatin1_aae02_17 : decode cJ0_isLatin1_aae02 17 = .ok (.iconst 0, 1) := by decide +kernel
theorem dJ0_isLatin1_aae02_18 : decode cJ0_isLatin1_aae02 18 = .ok (.ireturn, 1) := by decide +kernel
def pg_J0_isLatin1_aae02 (l : Launch) (g : EG) : List (Nat × ES) := [(0, s_gcs), (3, s_if_eq 17), (6, s_ldP 0), (7, s_tcod), (10, s_if_ne 17), (13, s_c (.inl 1)), (14, s_goto 18), (17, s_c (.inl 0)), (18, s_iretz)]
theorem ok_J0_isLatin1_aae02 {l : Launch} {g : EG} : e_okp l g sg_J0_isLatin1_aae02 "java/lang/String" (pg_J0_isLatin1_aae02 l g) := fun p e R s m args below meth c ex M0 Q X =>
    e_each_cons (r_gcs X (index := 38) dJ0_isLatin1_aae02_0 wj3_119 rfl)
    (e_each_cons (r_if_eq X (off := 14) (t := 17) dJ0_isLatin1_aae02_3 (by decide) rfl)
    (e_each_cons (r_aload_n X (k := 0) (i := 0) rfl dJ0_isLatin1_aae02_6 rfl)
    (e_each_cons (r_tcod X (index := 15) dJ0_isLatin1_aae02_7 wj5_105 rfl)
    (e_each_cons (r_if_ne X (off := 7) (t := 17) dJ0_isLatin1_aae02_10 (by decide) rfl)
    (e_each_cons (r_iconst X (n := 1) (v := 1) dJ0_isLatin1_aae02_13 (by decide) rfl)
    (e_each_cons (r_goto X (off := 4) (t := 18) dJ0_isLatin1_aae02_14 (by decide))
    (e_each_cons (r_iconst X (n := 0) (v := 0) dJ0_isLatin1_aae02_17 (by decide) rfl)
    (e_each_cons (r_iretz X dJ0_isLatin1_aae02_18 rfl)
    (e_each_nil)))))))))
def sg_J3_checkIndex_8e157 : SG := (yJ3_checkIndex_8e157, cJ3_checkIndex_8e157, 3, (some .int), 0, 0, 0, 0, 3, false, [])
theorem cs_J3_checkIndex_8e157 : e_cs sg_J3_checkIndex_8e157 := ⟨wj3_139, wj1_19, ⟨by decide, by decide⟩, by decide +kernel, rfl⟩
theorem mt_J3_checkIndex_8e157 : e_mtF sg_J3_checkIndex_8e157 "jdk/internal/util/Preconditions" := ⟨rfl, by decide +kernel, rfl⟩
theorem dJ3_checkIndex_8e157_0 : decode cJ3_checkIndex_8e157 0 = .ok (.iload_n 0, 1) := by decide +kernel
theorem dJ3_checkIndex_8e157_1 : decode cJ3_checkIndex_8e157 1 = .ok (.ifCond .lt 8, 3) := by decide +kernel
theorem dJ3_checkIndex_8e157_4 : decode cJ3_checkIndex_8e157 4 = .ok (.iload_n 0, 1) := by decide +kernel
theorem dJ3_checkIndex_8e157_5 : decode cJ3_checkIndex_8e157 5 = .ok (.iload_n 1, 1) := by decide +kernel
theorem dJ3_checkIndex_8e157_6 : decode cJ3_checkIndex_8e157 6 = .ok (.if_icmp .lt 10, 3) := by decide +kernel
theorem dJ3_checkIndex_8e157_9 : decode cJ3_checkIndex_8e157 9 = .ok (.aload_n 2, 1) := by decide +kernel
theorem dJ3_checkIndex_8e157_10 : decode cJ3_checkIndex_8e157 10 = .ok (.iload_n 0, 1) := by decide +kernel
theorem dJ3_checkIndex_8e157_11 : decode cJ3_checkIndex_8e157 11 = .ok (.iload_n 1, 1) := by decide +kernel
theorem dJ3_checkIndex_8e157_16 : decode cJ3_checkIndex_8e157 16 = .ok (.iload_n 0, 1) := by decide +kernel
theorem dJ3_checkIndex_8e157_17 : decode cJ3_checkIndex_8e157 17 = .ok (.ireturn, 1) := by decide +kernel
def pg_J3_checkIndex_8e157 (l : Launch) (g : EG) : List (Nat × ES) := [(0, s_ldI 0), (1, s_if_lt 9), (4, s_ldI 0), (5, s_ldI 1), (6, s_icmp_lt 16), (9, s_ldP 2), (10, s_ldI 0), (11, s_ldI 1), (12, s_no), (15, s_no), (16, s_ldI 0), (17, s_ireti)]
theorem ok_J3_checkIndex_8e157 {l : Launch} {g : EG} : e_okp l g sg_J3_checkIndex_8e157 "jdk/internal/util/Preconditions" (pg_J3_checkIndex_8e157 l g) := fun p e R s m args below meth c ex M0 Q X =>
    e_each_cons (r_iload_n X (k := 0) (i := 0) rfl dJ3_checkIndex_8e157_0 rfl)
    (e_each_cons (r_if_lt X (off := 8) (t := 9) dJ3_checkIndex_8e157_1 (by decide) rfl)
    (e_each_cons (r_iload_n X (k := 0) (i := 0) rfl dJ3_checkIndex_8e157_4 rfl)
    (e_each_cons (r_iload_n X (k := 1) (i := 1) rfl dJ3_checkIndex_8e157_5 rfl)
    (e_each_cons (r_icmp_lt X (off := 10) (t := 16) dJ3_checkIndex_8e157_6 (by decide) rfl)
    (e_each_cons (r_aload_n X (k := 2) (i := 2) rfl dJ3_checkIndex_8e157_9 rfl)
    (e_each_cons (r_iload_n X (k := 0) (i := 0) rfl dJ3_checkIndex_8e157_10 rfl)
    (e_each_cons (r_iload_n X (k := 1) (i := 1) rfl dJ3_checkIndex_8e157_11 rfl)
    (e_each_cons (r_no X)
    (e_each_cons (r_no X)
    (e_each_cons (r_iload_n X (k := 0) (i := 0) rfl dJ3_checkIndex_8e157_16 rfl)
    (e_each_cons (r_ireti X dJ3_checkIndex_8e157_17 rfl)
    (e_each_nil))))))))))))

section RP
theorem cj_preV {l : Launch} {g : EG} (hl0 : l.stackTraces = false) {i n : Int32} {v : Value} (hi : ¬ i < 0 ∧ i < n) {M : EM} (ok : e_ok M) (hv : v = .null ∨ ∃ t, v = .ref t) : vx_Met l (gy sg_J3_checkIndex_8e157) (gws sg_J3_checkIndex_8e157) (grm sg_J3_checkIndex_8e157) (e_Pc g [.int i, .int n, v] M) (e_Qc g none M (fun o M' => M' = M ∧ o = .inl (some (.inl i)))) (e_XC g none M (fun o M' => M' = M ∧ o = .inl (some (.inl i)))) (gmc sg_J3_checkIndex_8e157) (gms sg_J3_checkIndex_8e157) (eA g) := by
  refine vx_ofWF (cc := gcc sg_J3_checkIndex_8e157) (maxL := gml sg_J3_checkIndex_8e157) (ret := grt sg_J3_checkIndex_8e157) (ws' := []) mt_J3_checkIndex_8e157.2.1 rfl ?_
  intro p e s m args below meth c s₁ B hml hex hPc
  obtain ⟨rfl, hG, hS⟩ := hPc
  have X : Cx p l g sg_J3_checkIndex_8e157 (headSpec (gws sg_J3_checkIndex_8e157) (grm sg_J3_checkIndex_8e157)).room s m ([Value.int i, Value.int n, v].toArray) meth c "jdk/internal/util/Preconditions" := by
    refine ⟨B.exec, B.bytes, B.returns, hml, ?_, B.notSynchronized, hG, rfl, hl0, (name_of_methodNamed B.named B.method).1, ?_⟩
    · exact findClass_of_methodNamed B.named
    · cases ht : c.exceptionTable.toList with
      | nil => rfl
      | cons x r => exact (hex x (by rw [ht]; exact List.mem_cons_self)).elim
  have hc : e_clo (pg_J3_checkIndex_8e157 l g) (e_ret sg_J3_checkIndex_8e157 (fun o M' => M' = M ∧ o = .inl (some (.inl i)))) (fun t ls st M' nc ns => Run p l e g sg_J3_checkIndex_8e157 (headSpec (gws sg_J3_checkIndex_8e157) (grm sg_J3_checkIndex_8e157)).room s m ([Value.int i, Value.int n, v].toArray) below meth c none M (fun o M' => M' = M ∧ o = .inl (some (.inl i))) t ls st M' nc ns) := e_each_mono (fun pc np f h => h) (ok_J3_checkIndex_8e157 p e _ s m _ below meth c none M _ X)
  have hb : Run p l e g sg_J3_checkIndex_8e157 (headSpec (gws sg_J3_checkIndex_8e157) (grm sg_J3_checkIndex_8e157)).room s m ([Value.int i, Value.int n, v].toArray) below meth c none M (fun o M' => M' = M ∧ o = .inl (some (.inl i))) 0 [some (.inl i), some (.inl n), none] [] M 0 0 := by
    refine e_step (K := fun t ls st M' nc ns => Run p l e g sg_J3_checkIndex_8e157 (headSpec (gws sg_J3_checkIndex_8e157) (grm sg_J3_checkIndex_8e157)).room s m ([Value.int i, Value.int n, v].toArray) below meth c none M (fun o M' => M' = M ∧ o = .inl (some (.inl i))) t ls st M' nc ns) rfl hc 20 [] ?_
    exact ⟨fun h => absurd h hi.1, fun _ => ⟨fun _ => ⟨Nat.zero_le _, Nat.zero_le _, rfl, rfl⟩, fun h => absurd hi.2 h⟩⟩
  have hlen : (lg_sl [Value.int i, Value.int n, v]).length ≤ gml sg_J3_checkIndex_8e157 := by
    rcases hv with rfl | ⟨t, rfl⟩ <;> exact Nat.le_of_ble_eq_true rfl
  have hl := lv_entry [Value.int i, Value.int n, v] (n := gml sg_J3_checkIndex_8e157) hlen
  rw [lg_entry_eq]
  refine hb s.heap [] _ (e_has_sub hl (fun q hq => ?_)) ok e_le.rf ⟨trivial, trivial, trivial⟩ trivial hS va_S.rf
  have hq' : q ∈ [(0, Value.int i), (1, Value.int n)] := hq
  rcases List.mem_cons.mp hq' with rfl | hq'
  · exact List.mem_cons_self
  · rcases List.mem_cons.mp hq' with rfl | hq'
    · exact List.mem_cons_of_mem _ List.mem_cons_self
    · nomatch hq'
variable {p : Program} {l : Launch} {e : Env} {g : EG} {σ : SG} {R : Room} {s : State} {m : MethodId} {args : Array Value} {below : List Frame} {meth : Method} {c : Code} {ex : Option Nat} {M0 : EM} {Q : EO → EM → Prop} {own : String} {pc np : Nat}
/-- the formatter (null or not) is loaded and the index is checked with it -/
def s_gsfc (σ : SG) : ES := fun _ _ nx ls st M nc ns => match st with
  | .inl n :: .inl i :: r => match Nat.ble (e_wt r) 8 && (Nat.ble nc (gmc σ) && Nat.ble ns (gms σ)) with
    | true => (¬ i < 0 ∧ i < n) ∧ nx ls (.inl i :: r) M nc ns
    | false => False
  | _ => False
theorem r_gsfc (X : Cx p l g σ R s m args meth c own) {ig ic : Nat} (hd1 : decode (gcc σ) pc = .ok (.getstatic ig, 3)) (hd2 : decode (gcc σ) (pc + 3) = .ok (.invokestatic ic, 3)) (hlf : Cond.fieldLink own ig "jdk/internal/util/Preconditions" "SIOOBE_FORMATTER" "Ljava/util/function/BiFunction;" ∈ e_good) (hlk : Cond.methodLink own ic (gy sg_J3_checkIndex_8e157) ∈ e_good) (hst : Cond.static (gy sg_J3_checkIndex_8e157) ∈ e_good) (hR : e_fits sg_J3_checkIndex_8e157 σ) (hn : pc + 6 = np) : RowOk p l e g σ R s m args below meth c ex M0 Q pc np (s_gsfc σ) := by
  intro J hJ ls st M nc ns h
  subst hn
  unfold s_gsfc at h
  split at h
  · rename_i n i r
    split at h
    · rename_i hb
      simp only [Bool.and_eq_true] at hb
      obtain ⟨hi, h⟩ := h
      intro H locs lsM hl ok le vl vs hS hF
      have hG := X.2.2.2.2.2.2.1
      have hR' := X.2.2.2.2.2.2.2.1
      have key : ∀ v, (v = Value.null ∨ ∃ t, v = Value.ref t) → va_Z "jdk/internal/util/Preconditions" "SIOOBE_FORMATTER" "Ljava/util/function/BiFunction;" v (eA g) s s.heap → W p l e R s m args below meth c H locs nc ns (vx_MQ below (e_Qc g ex M0 Q) (e_XC g ex M0 Q) args s (gmc σ) (gms σ) (eA g)) (F0 m pc lsM ((Sum.inl n :: Sum.inl i :: r).map e_tv)) := by
        intro v hv hZ
        refine va_gets X.1 X.2.1 hZ hF X.2.2.2.2.1 (e_wd0 hG hlf) (fun _ h9 => h9) hd1 ?_
        have hr := vx_runS (e := e) (below := below) (meth := meth) (locs := locs) (As := [Value.int i, Value.int n, v]) (e_fix X) (cj_preV X.2.2.2.2.2.2.2.2.1 hi ok hv) ⟨e_callB X cs_J3_checkIndex_8e157 hlk hR, e_wd0 hG hst⟩ (e_pre X hS hF [Value.int i, Value.int n, v]) (rest := r.map e_tv) (g := F0 m (pc + 3) lsM (v :: Value.int n :: Value.int i :: r.map e_tv)) rfl rfl (by rw [← X.2.2.2.1]; exact hl.1.trans X.2.2.2.1.symm) rfl (lv_room (Nat.le_trans e_wt_le (Nat.le_of_ble_eq_true hb.1))) hd2 ⟨by rw [hR']; exact Nat.le_of_ble_eq_true hb.2.1, by rw [hR']; exact Nat.le_of_ble_eq_true hb.2.2⟩
        refine e_run X hF hr (fun v M' H1 locs1 hq ok' le' hS' hF' hv' => ?_) (fun E M' H1 locs1 q ce hq ok' le' hS' hF' h1 h2 h3 => absurd hq.2 (by simp))
        obtain ⟨rfl, e9⟩ := hq
        cases Sum.inl.inj e9
        exact hJ _ _ _ _ _ _ h H1 locs1 lsM hl ok' (le.tr le') vl ⟨trivial, vs.2.2⟩ hS' hF'
      rcases hG.2.2.2.2.2.2.2.2.2.2.2.2.2.2.1 with hz | ⟨t, hz⟩
      · exact key _ (Or.inl rfl) hz
      · exact key _ (Or.inr ⟨t, rfl⟩) hz
    · exact h.elim
  · exact h.elim
end RP
def sg_J0_checkIndex_df160 : SG := (yJ0_checkIndex_df160, cJ0_checkIndex_df160, 2, none, 1, 22, 0, 0, 2, false, [])
theorem cs_J0_checkIndex_df160 : e_cs sg_J0_checkIndex_df160 := ⟨wj3_134, wj1_13, ⟨by decide, by decide⟩, by decide +kernel, rfl⟩
theorem mt_J0_checkIndex_df160 : e_mtF sg_J0_checkIndex_df160 "java/lang/String" := ⟨rfl, by decide +kernel, rfl⟩
theorem dJ0_checkIndex_df160_0 : decode cJ0_checkIndex_df160 0 = .ok (.iload_n 0, 1) := by decide +kernel
theorem dJ0_checkIndex_df160_1 : decode cJ0_checkIndex_df160 1 = .ok (.iload_n 1, 1) := by decide +kernel
theorem dJ0_checkIndex_df160_2 : decode cJ0_checkIndex_df160 2 = .ok (.getstatic 1053, 3) := by decide +kernel
theorem dJ0_checkIndex_df160_5 : decode cJ0_checkIndex_df160 5 = .ok (.invokestatic 1059, 3) := by decide +kernel
theorem dJ0_checkIndex_df160_8 : decode cJ0_checkIndex_df160 8 = .ok (.pop, 1) := by decide +kernel
theorem dJ0_checkIndex_df160_9 : decode cJ0_checkIndex_df160 9 = .ok (.return_, 1) := by decide +kernel
def pg_J0_checkIndex_df160 (l : Launch) (g : EG) : List (Nat × ES) := [(0, s_ldI 0), (1, s_ldI 1), (2, s_gsfc sg_J0_checkIndex_df160), (8, s_pop), (9, s_vret)]
theorem ok_J0_checkIndex_df160 {l : Launch} {g : EG} : e_okp l g sg_J0_checkIndex_df160 "java/lang/String" (pg_J0_checkIndex_df160 l g) := fun p e R s m args below meth c ex M0 Q X =>
    e_each_cons (r_iload_n X (k := 0) (i := 0) rfl dJ0_checkIndex_df160_0 rfl)
    (e_each_cons (r_iload_n X (k := 1) (i := 1) rfl dJ0_checkIndex_df160_1 rfl)
    (e_each_cons (r_gsfc X (ig := 1053) (ic := 1059) dJ0_checkIndex_df160_2 dJ0_checkIndex_df160_5 wj3_135 wj3_137 wj3_138 ⟨by decide, by decide⟩ rfl)
    (e_each_cons (r_pop X dJ0_checkIndex_df160_8 rfl)
    (e_each_cons (r_vret X dJ0_checkIndex_df160_9 rfl)
    (e_each_nil)))))
def sg_J1_charAt_3b067 : SG := (yJ1_charAt_3b067, cJ1_charAt_3b067, 2, (some .char), 2, 43, 0, 0, 2, false, [])
theorem cs_J1_charAt_3b067 : e_cs sg_J1_charAt_3b067 := ⟨wj3_131, wj1_20, ⟨by decide, by decide⟩, by decide +kernel, rfl⟩
theorem mt_J1_charAt_3b067 : e_mtF sg_J1_charAt_3b067 "java/lang/StringLatin1" := ⟨rfl, by decide +kernel, rfl⟩
theorem dJ1_charAt_3b067_0 : decode cJ1_charAt_3b067 0 = .ok (.iload_n 1, 1) := by decide +kernel
theorem dJ1_charAt_3b067_1 : decode cJ1_charAt_3b067 1 = .ok (.aload_n 0, 1) := by decide +kernel
theorem dJ1_charAt_3b067_2 : decode cJ1_charAt_3b067 2 = .ok (.arraylength, 1) := by decide +kernel
theorem dJ1_charAt_3b067_3 : decode cJ1_charAt_3b067 3 = .ok (.invokestatic 9, 3) := by decide +kernel
theorem dJ1_charAt_3b067_6 : decode cJ1_charAt_3b067 6 = .ok (.aload_n 0, 1) := by decide +kernel
theorem dJ1_charAt_3b067_7 : decode cJ1_charAt_3b067 7 = .ok (.iload_n 1, 1) := by decide +kernel
theorem dJ1_charAt_3b067_8 : decode cJ1_charAt_3b067 8 = .ok (.baload, 1) := by decide +kernel
theorem dJ1_charAt_3b067_9 : decode cJ1_charAt_3b067 9 = .ok (.sipush 255, 3) := by decide +kernel
theorem dJ1_charAt_3b067_12 : decode cJ1_charAt_3b067 12 = .ok (.iand, 1) := by decide +kernel
theorem dJ1_charAt_3b067_13 : decode cJ1_charAt_3b067 13 = .ok (.i2c, 1) := by decide +kernel
theorem dJ1_charAt_3b067_14 : decode cJ1_charAt_3b067 14 = .ok (.ireturn, 1) := by decide +kernel
def pg_J1_charAt_3b067 (l : Launch) (g : EG) : List (Nat × ES) := [(0, s_ldI 1), (1, s_ldP 0), (2, s_tlen), (3, s_callS l g sg_J1_charAt_3b067 sg_J0_checkIndex_df160), (6, s_ldP 0), (7, s_ldI 1), (8, s_tbald), (9, s_c (.inl 255)), (12, s_ii (fun x y => x &&& y)), (13, s_i1 (fun x => (x.toUInt32 % 65536).toInt32)), (14, s_iretn .char)]
theorem ok_J1_charAt_3b067 {l : Launch} {g : EG} : e_okp l g sg_J1_charAt_3b067 "java/lang/StringLatin1" (pg_J1_charAt_3b067 l g) := fun p e R s m args below meth c ex M0 Q X =>
    e_each_cons (r_iload_n X (k := 1) (i := 1) rfl dJ1_charAt_3b067_0 rfl)
    (e_each_cons (r_aload_n X (k := 0) (i := 0) rfl dJ1_charAt_3b067_1 rfl)
    (e_each_cons (r_tlen X dJ1_charAt_3b067_2 rfl)
    (e_each_cons (r_callS X rfl (τ := sg_J0_checkIndex_df160) (index := 9) dJ1_charAt_3b067_3 wj3_132 wj3_133 cs_J0_checkIndex_df160 rfl ⟨by decide, by decide⟩ rfl)
    (e_each_cons (r_aload_n X (k := 0) (i := 0) rfl dJ1_charAt_3b067_6 rfl)
    (e_each_cons (r_iload_n X (k := 1) (i := 1) rfl dJ1_charAt_3b067_7 rfl)
    (e_each_cons (r_tbald X dJ1_charAt_3b067_8 rfl)
    (e_each_cons (r_sipush X (n := 255) (v := 255) dJ1_charAt_3b067_9 (by decide) rfl)
    (e_each_cons (r_iand X dJ1_charAt_3b067_12 rfl)
    (e_each_cons (r_i2c X dJ1_charAt_3b067_13 rfl)
    (e_each_cons (r_iretn X (ty := .char) dJ1_charAt_3b067_14 rfl)
    (e_each_nil)))))))))))
def sg_J0_length_8abf5 : SG := (yJ0_length_8abf5, cJ0_length_8abf5, 1, (some .int), 1, 20, 0, 0, 0, false, [])
theorem cs_J0_length_8abf5 : e_cs sg_J0_length_8abf5 := ⟨wj3_114, wj1_13, ⟨by decide, by decide⟩, by decide +kernel, rfl⟩
theorem mt_J0_length_8abf5 : e_mtF sg_J0_length_8abf5 "java/lang/String" := ⟨rfl, by decide +kernel, rfl⟩
theorem dJ0_length_8abf5_0 : decode cJ0_length_8abf5 0 = .ok (.aload_n 0, 1) := by decide +kernel
theorem dJ0_length_8abf5_1 : decode cJ0_length_8abf5 1 = .ok (.getfield 9, 3) := by decide +kernel
theorem dJ0_length_8abf5_4 : decode cJ0_length_8abf5 4 = .ok (.arraylength, 1) := by decide +kernel
theorem dJ0_length_8abf5_5 : decode cJ0_length_8abf5 5 = .ok (.aload_n 0, 1) := by decide +kernel
theorem dJ0_length_8abf5_6 : decode cJ0_length_8abf5 6 = .ok (.invokevirtual 335, 3) := by decide +kernel
theorem dJ0_length_8abf5_9 : decode cJ0_length_8abf5 9 = .ok (.ishr, 1) := by decide +kernel
theorem dJ0_length_8abf5_10 : decode cJ0_length_8abf5 10 = .ok (.ireturn, 1) := by decide +kernel
def pg_J0_length_8abf5 (l : Launch) (g : EG) : List (Nat × ES) := [(0, s_ldP 0), (1, s_tval), (4, s_tlen), (5, s_ldP 0), (6, s_callT l g sg_J0_length_8abf5 sg_J0_coder_7d493), (9, s_ii (fun x y => x >>> (y &&& 31))), (10, s_ireti)]
theorem ok_J0_length_8abf5 {l : Launch} {g : EG} : e_okp l g sg_J0_length_8abf5 "java/lang/String" (pg_J0_length_8abf5 l g) := fun p e R s m args below meth c ex M0 Q X =>
    e_each_cons (r_aload_n X (k := 0) (i := 0) rfl dJ0_length_8abf5_0 rfl)
    (e_each_cons (r_tval X (index := 9) dJ0_length_8abf5_1 wj5_104 rfl)
    (e_each_cons (r_tlen X dJ0_length_8abf5_4 rfl)
    (e_each_cons (r_aload_n X (k := 0) (i := 0) rfl dJ0_length_8abf5_5 rfl)
    (e_each_cons (r_callT X rfl (τ := sg_J0_coder_7d493) (index := 335) dJ0_length_8abf5_6 rfl wj3_115 wj3_116 wj3_117 cs_J0_coder_7d493 rfl ⟨by decide, by decide⟩ rfl)
    (e_each_cons (r_ishr X dJ0_length_8abf5_9 rfl)
    (e_each_cons (r_ireti X dJ0_length_8abf5_10 rfl)
    (e_each_nil)))))))
def sg_J0_charAt_5068e : SG := (yJ0_charAt_5068e, cJ0_charAt_5068e, 2, (some .char), 3, 64, 0, 0, 1, false, [])
theorem cs_J0_charAt_5068e : e_cs sg_J0_charAt_5068e := ⟨wj3_124, wj1_13, ⟨by decide, by decide⟩, by decide +kernel, rfl⟩
theorem mt_J0_charAt_5068e : e_mtF sg_J0_charAt_5068e "java/lang/String" := ⟨rfl, by decide +kernel, rfl⟩
theorem dJ0_charAt_5068e_0 : decode cJ0_charAt_5068e 0 = .ok (.aload_n 0, 1) := by decide +kernel
theorem dJ0_charAt_5068e_1 : decode cJ0_charAt_5068e 1 = .ok (.invokevirtual 492, 3) := by decide +kernel
theorem dJ0_charAt_5068e_4 : decode cJ0_charAt_5068e 4 = .ok (.ifCond .eq 12, 3) := by decide +kernel
theorem dJ0_charAt_5068e_7 : decode cJ0_charAt_5068e 7 = .ok (.aload_n 0, 1) := by decide +kernel
theorem dJ0_charAt_5068e_8 : decode cJ0_charAt_5068e 8 = .ok (.getfield 9, 3) := by decide +kernel
theorem dJ0_charAt_5068e_11 : decode cJ0_charAt_5068e 11 = .ok (.iload_n 1, 1) := by decide +kernel
theorem dJ0_charAt_5068e_12 : decode cJ0_charAt_5068e 12 = .ok (.invokestatic 495, 3) := by decide +kernel
theorem dJ0_charAt_5068e_15 : decode cJ0_charAt_5068e 15 = .ok (.ireturn, 1) := by decide +kernel
theorem dJ0_charAt_5068e_16 : decode cJ0_charAt_5068e 16 = .ok (.aload_n 0, 1) := by decide +kernel
theorem dJ0_charAt_5068e_20 : decode cJ0_charAt_5068e 20 = .ok (.iload_n 1, 1) := by decide +kernel
theorem dJ0_charAt_5068e_24 : decode cJ0_charAt_5068e 24 = .ok (.ireturn, 1) := by decide +kernel
def pg_J0_charAt_5068e (l : Launch) (g : EG) : List (Nat × ES) := [(0, s_ldP 0), (1, s_callT l g sg_J0_charAt_5068e sg_J0_isLatin1_aae02), (4, s_if_eq 16), (7, s_ldP 0), (8, s_tval), (11, s_ldI 1), (12, s_callS l g sg_J0_charAt_5068e sg_J1_charAt_3b067), (15, s_iretn .char), (16, s_ldP 0), (17, s_no), (20, s_ldI 1), (21, s_no), (24, s_iretn .char)]
theorem ok_J0_charAt_5068e {l : Launch} {g : EG} : e_okp l g sg_J0_charAt_5068e "java/lang/String" (pg_J0_charAt_5068e l g) := fun p e R s m args below meth c ex M0 Q X =>
    e_each_cons (r_aload_n X (k := 0) (i := 0) rfl dJ0_charAt_5068e_0 rfl)
    (e_each_cons (r_callT X rfl (τ := sg_J0_isLatin1_aae02) (index := 492) dJ0_charAt_5068e_1 rfl wj3_125 wj3_126 wj3_127 cs_J0_isLatin1_aae02 rfl ⟨by decide, by decide⟩ rfl)
    (e_each_cons (r_if_eq X (off := 12) (t := 16) dJ0_charAt_5068e_4 (by decide) rfl)
    (e_each_cons (r_aload_n X (k := 0) (i := 0) rfl dJ0_charAt_5068e_7 rfl)
    (e_each_cons (r_tval X (index := 9) dJ0_charAt_5068e_8 wj5_104 rfl)
    (e_each_cons (r_iload_n X (k := 1) (i := 1) rfl dJ0_charAt_5068e_11 rfl)
    (e_each_cons (r_callS X rfl (τ := sg_J1_charAt_3b067) (index := 495) dJ0_charAt_5068e_12 wj3_129 wj3_130 cs_J1_charAt_3b067 rfl ⟨by decide, by decide⟩ rfl)
    (e_each_cons (r_iretn X (ty := .char) dJ0_charAt_5068e_15 rfl)
    (e_each_cons (r_aload_n X (k := 0) (i := 0) rfl dJ0_charAt_5068e_16 rfl)
    (e_each_cons (r_no X)
    (e_each_cons (r_iload_n X (k := 1) (i := 1) rfl dJ0_charAt_5068e_20 rfl)
    (e_each_cons (r_no X)
    (e_each_cons (r_iretn X (ty := .char) dJ0_charAt_5068e_24 rfl)
    (e_each_nil)))))))))))))
