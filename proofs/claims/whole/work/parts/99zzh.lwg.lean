/-! THE LAW, 5: what the machine holds at the law's start. -/
section
theorem wI : ∀ ci, ci < 11 → Cond.instantiable (e_cR ci) (e_cN ci) ∈ lw_tbl := by decide +kernel
theorem uwA : ∀ ci, ci < 11 → ∀ w ∈ u_ws (e_cR ci) (e_cF ci) (e_cN ci), w ∈ lw_tbl := by
  intro ci h
  match ci, h with
  | 0, _ => exact fun w hw => (uw_0a w hw).1
  | 1, _ => exact fun w hw => (uw_1a w hw).1
  | 2, _ => exact fun w hw => (uw_2a w hw).1
  | 3, _ => exact fun w hw => (uw_3a w hw).1
  | 4, _ => exact fun w hw => (uw_4a w hw).1
  | 5, _ => exact fun w hw => (uw_5a w hw).1
  | 6, _ => exact fun w hw => (uw_6a w hw).1
  | 7, _ => exact fun w hw => (uw_7a w hw).1
  | 8, _ => exact fun w hw => (uw_8a w hw).1
  | 9, _ => exact fun w hw => (uw_9a w hw).1
  | 10, _ => exact fun w hw => (uw_10a w hw).1
def e_tyk : List FieldType := [.int, .byte, .boolean, .long, .double, .object RX9, .object RX2, .object RX3, .object RX7]
theorem wA : Cond.arrayClass .int ∈ lw_tbl ∧ Cond.arrayClass .byte ∈ lw_tbl ∧ Cond.arrayClass .boolean ∈ lw_tbl ∧ Cond.arrayClass .long ∈ lw_tbl ∧ Cond.arrayClass .double ∈ lw_tbl := by decide +kernel
theorem wO : ∀ C ∈ e_ao, Cond.arrayOver (.object C) ∈ lw_tbl := by decide +kernel
theorem arr_p {s : State} {A : Array Value} {ty : FieldType} (h : (Cond.arrayClass ty).before A s = true) (hr : ∀ cA, s.vm.findClass ("[" ++ ty.toString) = some cA → va_RA s cA ty) : ∃ cA, ArrOfT s cA ty ∧ va_RA s cA ty := by
  obtain ⟨c, k, comp, h1, h2, h3⟩ := Cond.arrayClass_spec h
  exact ⟨c, fun n z => ⟨fun k h => (by cases h), k, h2, comp, h3⟩, hr c h1⟩
theorem arr_o {s : State} {A : Array Value} {C : String} (h : (Cond.arrayOver (.object C)).before A s = true) : ∃ cA, ArrOfT s cA (.object C) ∧ va_RA s cA (.object C) := by
  obtain ⟨comp, c, k, h1, h2, h3, h4, h5⟩ := Cond.arrayOver_spec h
  exact ⟨c, fun n z => ⟨fun k h => (by cases h), k, h3, comp, h4⟩, k, comp, h3, h4, h1, h5⟩
abbrev e_fl : List Cond := flatC (Cond.and given_1 narrow_1)
theorem nM : Cond.arrayOf (.static "CalendarSync$Days" "MONTH_START" "[I") .int ∈ e_fl ∧ Cond.eq (.length (.static "CalendarSync$Days" "MONTH_START" "[I")) (.int (Int32.ofNat 13)) ∈ e_fl ∧ ∀ j, j < 13 → Cond.eq (.elem (.static "CalendarSync$Days" "MONTH_START" "[I") (.int (Int32.ofNat j))) (.int (e_month j)) ∈ e_fl := by decide +kernel
def e_tm (i : Nat) : Term := Term.string (e_txt.getD i ("", 0, "")).1 (e_txt.getD i ("", 0, "")).2.1
theorem nT1 : ∀ i, i < 16 → Cond.exactly (e_tm i) "java/lang/String" ∈ e_fl ∧ Cond.eq (.field (e_tm i) "java/lang/String" "coder" "B") (.int 0) ∈ e_fl ∧ Cond.arrayOf (.field (e_tm i) "java/lang/String" "value" "[B") .byte ∈ e_fl ∧ Cond.eq (.length (.field (e_tm i) "java/lang/String" "value" "[B")) (.int (Int32.ofNat (e_len.getD i 0))) ∈ e_fl := by decide +kernel
theorem nT2_0 : ∀ j, j < e_len.getD 0 0 → Cond.eq (.elem (.field (e_tm 0) "java/lang/String" "value" "[B") (.int (Int32.ofNat j))) (.int ((e_byt.getD 0 []).getD j 0)) ∈ e_fl := by decide +kernel
theorem nT2_1 : ∀ j, j < e_len.getD 1 0 → Cond.eq (.elem (.field (e_tm 1) "java/lang/String" "value" "[B") (.int (Int32.ofNat j))) (.int ((e_byt.getD 1 []).getD j 0)) ∈ e_fl := by decide +kernel
theorem nT2_2 : ∀ j, j < e_len.getD 2 0 → Cond.eq (.elem (.field (e_tm 2) "java/lang/String" "value" "[B") (.int (Int32.ofNat j))) (.int ((e_byt.getD 2 []).getD j 0)) ∈ e_fl := by decide +kernel
theorem nT2_3 : ∀ j, j < e_len.getD 3 0 → Cond.eq (.elem (.field (e_tm 3) "java/lang/String" "value" "[B") (.int (Int32.ofNat j))) (.int ((e_byt.getD 3 []).getD j 0)) ∈ e_fl := by decide +kernel
theorem nT2_4 : ∀ j, j < e_len.getD 4 0 → Cond.eq (.elem (.field (e_tm 4) "java/lang/String" "value" "[B") (.int (Int32.ofNat j))) (.int ((e_byt.getD 4 []).getD j 0)) ∈ e_fl := by decide +kernel
theorem nT2_5 : ∀ j, j < e_len.getD 5 0 → Cond.eq (.elem (.field (e_tm 5) "java/lang/String" "value" "[B") (.int (Int32.ofNat j))) (.int ((e_byt.getD 5 []).getD j 0)) ∈ e_fl := by decide +kernel
theorem nT2_6 : ∀ j, j < e_len.getD 6 0 → Cond.eq (.elem (.field (e_tm 6) "java/lang/String" "value" "[B") (.int (Int32.ofNat j))) (.int ((e_byt.getD 6 []).getD j 0)) ∈ e_fl := by decide +kernel
theorem nT2_7 : ∀ j, j < e_len.getD 7 0 → Cond.eq (.elem (.field (e_tm 7) "java/lang/String" "value" "[B") (.int (Int32.ofNat j))) (.int ((e_byt.getD 7 []).getD j 0)) ∈ e_fl := by decide +kernel
theorem nT2_8 : ∀ j, j < e_len.getD 8 0 → Cond.eq (.elem (.field (e_tm 8) "java/lang/String" "value" "[B") (.int (Int32.ofNat j))) (.int ((e_byt.getD 8 []).getD j 0)) ∈ e_fl := by decide +kernel
theorem nT2_9 : ∀ j, j < e_len.getD 9 0 → Cond.eq (.elem (.field (e_tm 9) "java/lang/String" "value" "[B") (.int (Int32.ofNat j))) (.int ((e_byt.getD 9 []).getD j 0)) ∈ e_fl := by decide +kernel
theorem nT2_10 : ∀ j, j < e_len.getD 10 0 → Cond.eq (.elem (.field (e_tm 10) "java/lang/String" "value" "[B") (.int (Int32.ofNat j))) (.int ((e_byt.getD 10 []).getD j 0)) ∈ e_fl := by decide +kernel
theorem nT2_11 : ∀ j, j < e_len.getD 11 0 → Cond.eq (.elem (.field (e_tm 11) "java/lang/String" "value" "[B") (.int (Int32.ofNat j))) (.int ((e_byt.getD 11 []).getD j 0)) ∈ e_fl := by decide +kernel
theorem nT2_12 : ∀ j, j < e_len.getD 12 0 → Cond.eq (.elem (.field (e_tm 12) "java/lang/String" "value" "[B") (.int (Int32.ofNat j))) (.int ((e_byt.getD 12 []).getD j 0)) ∈ e_fl := by decide +kernel
theorem nT2_13 : ∀ j, j < e_len.getD 13 0 → Cond.eq (.elem (.field (e_tm 13) "java/lang/String" "value" "[B") (.int (Int32.ofNat j))) (.int ((e_byt.getD 13 []).getD j 0)) ∈ e_fl := by decide +kernel
theorem nT2_14 : ∀ j, j < e_len.getD 14 0 → Cond.eq (.elem (.field (e_tm 14) "java/lang/String" "value" "[B") (.int (Int32.ofNat j))) (.int ((e_byt.getD 14 []).getD j 0)) ∈ e_fl := by decide +kernel
theorem nT2_15 : ∀ j, j < e_len.getD 15 0 → Cond.eq (.elem (.field (e_tm 15) "java/lang/String" "value" "[B") (.int (Int32.ofNat j))) (.int ((e_byt.getD 15 []).getD j 0)) ∈ e_fl := by decide +kernel
theorem nT2 : ∀ i, i < 16 → ∀ j, j < e_len.getD i 0 → Cond.eq (.elem (.field (e_tm i) "java/lang/String" "value" "[B") (.int (Int32.ofNat j))) (.int ((e_byt.getD i []).getD j 0)) ∈ e_fl := by
  intro i h
  match i, h with
  | 0, _ => exact nT2_0
  | 1, _ => exact nT2_1
  | 2, _ => exact nT2_2
  | 3, _ => exact nT2_3
  | 4, _ => exact nT2_4
  | 5, _ => exact nT2_5
  | 6, _ => exact nT2_6
  | 7, _ => exact nT2_7
  | 8, _ => exact nT2_8
  | 9, _ => exact nT2_9
  | 10, _ => exact nT2_10
  | 11, _ => exact nT2_11
  | 12, _ => exact nT2_12
  | 13, _ => exact nT2_13
  | 14, _ => exact nT2_14
  | 15, _ => exact nT2_15
  | k + 16, h => exact absurd h (by omega)
theorem nT3_0 : ∀ j, j < 16 → 0 ≠ j → Cond.not (Cond.eq (e_tm 0) (e_tm j)) ∈ e_fl ∨ Cond.not (Cond.eq (e_tm j) (e_tm 0)) ∈ e_fl := by decide +kernel
theorem nT3_1 : ∀ j, j < 16 → 1 ≠ j → Cond.not (Cond.eq (e_tm 1) (e_tm j)) ∈ e_fl ∨ Cond.not (Cond.eq (e_tm j) (e_tm 1)) ∈ e_fl := by decide +kernel
theorem nT3_2 : ∀ j, j < 16 → 2 ≠ j → Cond.not (Cond.eq (e_tm 2) (e_tm j)) ∈ e_fl ∨ Cond.not (Cond.eq (e_tm j) (e_tm 2)) ∈ e_fl := by decide +kernel
theorem nT3_3 : ∀ j, j < 16 → 3 ≠ j → Cond.not (Cond.eq (e_tm 3) (e_tm j)) ∈ e_fl ∨ Cond.not (Cond.eq (e_tm j) (e_tm 3)) ∈ e_fl := by decide +kernel
theorem nT3_4 : ∀ j, j < 16 → 4 ≠ j → Cond.not (Cond.eq (e_tm 4) (e_tm j)) ∈ e_fl ∨ Cond.not (Cond.eq (e_tm j) (e_tm 4)) ∈ e_fl := by decide +kernel
theorem nT3_5 : ∀ j, j < 16 → 5 ≠ j → Cond.not (Cond.eq (e_tm 5) (e_tm j)) ∈ e_fl ∨ Cond.not (Cond.eq (e_tm j) (e_tm 5)) ∈ e_fl := by decide +kernel
theorem nT3_6 : ∀ j, j < 16 → 6 ≠ j → Cond.not (Cond.eq (e_tm 6) (e_tm j)) ∈ e_fl ∨ Cond.not (Cond.eq (e_tm j) (e_tm 6)) ∈ e_fl := by decide +kernel
theorem nT3_7 : ∀ j, j < 16 → 7 ≠ j → Cond.not (Cond.eq (e_tm 7) (e_tm j)) ∈ e_fl ∨ Cond.not (Cond.eq (e_tm j) (e_tm 7)) ∈ e_fl := by decide +kernel
theorem nT3_8 : ∀ j, j < 16 → 8 ≠ j → Cond.not (Cond.eq (e_tm 8) (e_tm j)) ∈ e_fl ∨ Cond.not (Cond.eq (e_tm j) (e_tm 8)) ∈ e_fl := by decide +kernel
theorem nT3_9 : ∀ j, j < 16 → 9 ≠ j → Cond.not (Cond.eq (e_tm 9) (e_tm j)) ∈ e_fl ∨ Cond.not (Cond.eq (e_tm j) (e_tm 9)) ∈ e_fl := by decide +kernel
theorem nT3_10 : ∀ j, j < 16 → 10 ≠ j → Cond.not (Cond.eq (e_tm 10) (e_tm j)) ∈ e_fl ∨ Cond.not (Cond.eq (e_tm j) (e_tm 10)) ∈ e_fl := by decide +kernel
theorem nT3_11 : ∀ j, j < 16 → 11 ≠ j → Cond.not (Cond.eq (e_tm 11) (e_tm j)) ∈ e_fl ∨ Cond.not (Cond.eq (e_tm j) (e_tm 11)) ∈ e_fl := by decide +kernel
theorem nT3_12 : ∀ j, j < 16 → 12 ≠ j → Cond.not (Cond.eq (e_tm 12) (e_tm j)) ∈ e_fl ∨ Cond.not (Cond.eq (e_tm j) (e_tm 12)) ∈ e_fl := by decide +kernel
theorem nT3_13 : ∀ j, j < 16 → 13 ≠ j → Cond.not (Cond.eq (e_tm 13) (e_tm j)) ∈ e_fl ∨ Cond.not (Cond.eq (e_tm j) (e_tm 13)) ∈ e_fl := by decide +kernel
theorem nT3_14 : ∀ j, j < 16 → 14 ≠ j → Cond.not (Cond.eq (e_tm 14) (e_tm j)) ∈ e_fl ∨ Cond.not (Cond.eq (e_tm j) (e_tm 14)) ∈ e_fl := by decide +kernel
theorem nT3_15 : ∀ j, j < 16 → 15 ≠ j → Cond.not (Cond.eq (e_tm 15) (e_tm j)) ∈ e_fl ∨ Cond.not (Cond.eq (e_tm j) (e_tm 15)) ∈ e_fl := by decide +kernel
theorem nT3 : ∀ i, i < 16 → ∀ j, j < 16 → i ≠ j → Cond.not (Cond.eq (e_tm i) (e_tm j)) ∈ e_fl ∨ Cond.not (Cond.eq (e_tm j) (e_tm i)) ∈ e_fl := by
  intro i h
  match i, h with
  | 0, _ => exact nT3_0
  | 1, _ => exact nT3_1
  | 2, _ => exact nT3_2
  | 3, _ => exact nT3_3
  | 4, _ => exact nT3_4
  | 5, _ => exact nT3_5
  | 6, _ => exact nT3_6
  | 7, _ => exact nT3_7
  | 8, _ => exact nT3_8
  | 9, _ => exact nT3_9
  | 10, _ => exact nT3_10
  | 11, _ => exact nT3_11
  | 12, _ => exact nT3_12
  | 13, _ => exact nT3_13
  | 14, _ => exact nT3_14
  | 15, _ => exact nT3_15
  | k + 16, h => exact absurd h (by omega)
theorem nT4 : ∀ i, i < 16 → Cond.stringRef (e_txt.getD i ("", 0, "")).1 (e_txt.getD i ("", 0, "")).2.1 (e_txt.getD i ("", 0, "")).2.2 ∈ lw_tbl := by decide +kernel
theorem nN : ∀ q ∈ e_nc, Cond.not (.castable q.1 q.2) ∈ e_fl := by decide +kernel
theorem nS : Cond.isRef (.static Bundle.tN "UNASSIGNED_STACK" Bundle.steD) ∈ e_fl ∧ Cond.isRef (.static Bundle.tN "SUPPRESSED_SENTINEL" Bundle.listD) ∈ e_fl ∧ Cond.eq (.static "java/lang/String" "COMPACT_STRINGS" "Z") (.int 1) ∈ e_fl ∧ Cond.isRef (.static "jdk/internal/util/Preconditions" "SIOOBE_FORMATTER" "Ljava/util/function/BiFunction;") ∈ e_fl := by decide +kernel
theorem wL : (Cond.laysStatic Bundle.tN "UNASSIGNED_STACK" Bundle.steD ∈ lw_tbl ∧ Cond.laysStatic Bundle.tN "SUPPRESSED_SENTINEL" Bundle.listD ∈ lw_tbl ∧ Cond.laysStatic "java/lang/String" "COMPACT_STRINGS" "Z" ∈ lw_tbl ∧ Cond.laysStatic "jdk/internal/util/Preconditions" "SIOOBE_FORMATTER" "Ljava/util/function/BiFunction;" ∈ lw_tbl ∧ Cond.laysStatic "CalendarSync$Days" "MONTH_START" "[I" ∈ lw_tbl) ∧ Cond.initialized Bundle.tN ∈ lw_tbl ∧ Cond.initialized "java/lang/String" ∈ lw_tbl ∧ Cond.initialized "jdk/internal/util/Preconditions" ∈ lw_tbl ∧ Cond.initialized "CalendarSync$Days" ∈ lw_tbl := by decide +kernel
end
