/-! THE TEXT of the class: its cells as one row; kinds of signs. -/
section
variable {l : Launch} {g : EG}
/-- the class's text at a: its own cells hold f -/
def tW (M : EM) (a : Nat) (f : Nat → Int32) : EM := (M.1, fun c j => if c = a then f j else M.2.1 c j, M.2.2)
theorem tW_s {M : EM} {a k : Nat} {f : Nat → Int32} : mI (tW M a f) a k = f k := if_pos rfl
theorem tW_n {M : EM} {a c k : Nat} {f : Nat → Int32} (h : ¬ c = a) : mI (tW M a f) c k = mI M c k := if_neg h
theorem sI_tW {M : EM} {a k : Nat} {v : Int32} {f : Nat → Int32} : sI (tW M a f) a k v = tW M a (wS f k v) := by
  unfold sI tW wS e_up
  refine Prod.ext rfl (Prod.ext ?_ rfl)
  funext c j
  dsimp only
  by_cases h : c = a
  · by_cases h2 : j = k
    · simp [h, h2]
    · simp [h, h2]
  · simp [h]
theorem tW_id {M : EM} {a : Nat} : tW M a (mI M a) = M := by
  unfold tW
  have : (fun c j => if c = a then mI M a j else M.2.1 c j) = M.2.1 := by
    funext c j
    by_cases h : c = a
    · rw [if_pos h, h]; rfl
    · rw [if_neg h]
  rw [this]
theorem tW_tW {M : EM} {a : Nat} {f f' : Nat → Int32} : tW (tW M a f) a f' = tW M a f' := by
  unfold tW
  refine Prod.ext rfl (Prod.ext ?_ rfl)
  funext c j
  dsimp only
  by_cases h : c = a
  · rw [if_pos h, if_pos h]
  · rw [if_neg h, if_neg h, if_neg h]
/-- a byte as the class holds it -/
def sB (c : Nat) : Int32 := (nI c).toInt8.toInt32
theorem sB_lo {c : Nat} (h : c < 128) : sB c = nI c := by
  have : ∀ c, c < 128 → sB c = nI c := by decide +kernel
  exact this c h
theorem sB_hi {c : Nat} (h : 128 ≤ c) (h2 : c < 256) : sB c < 0 := by
  have : ∀ d, d < 128 → sB (128 + d) < 0 := by decide +kernel
  have := this (c - 128) (by omega)
  rw [show 128 + (c - 128) = c by omega] at this
  exact this
theorem sB_eq {c d : Nat} (h : c < 256) (hd : d < 128) : sB c = nI d ↔ c = d := by
  by_cases h2 : c < 128
  · rw [sB_lo h2, nI_eq (by omega) (by omega)]
  · have := sB_hi (by omega) h
    refine ⟨fun z => ?_, fun z => by omega⟩
    rw [z] at this
    exact absurd ((nI_leI (a := 0) (b := d) (by omega) (by omega)).mpr (Nat.zero_le _)) (Int32.not_le.mpr this)
theorem sB_in {c a b : Nat} (h : c < 256) (ha : a < 128) (hb : b < 128) (h0 : 0 < a) : (nI a ≤ sB c ∧ sB c ≤ nI b) ↔ (a ≤ c ∧ c ≤ b) := by
  by_cases h2 : c < 128
  · rw [sB_lo h2, nI_leI (by omega) (by omega), nI_leI (by omega) (by omega)]
  · have := sB_hi (by omega) h
    refine ⟨fun z => ?_, fun z => by omega⟩
    exact absurd (Int32.le_trans ((nI_leI (a := 0) (b := a) (by omega) (by omega)).mpr (Nat.zero_le _)) z.1) (Int32.not_le.mpr this)
theorem sB_le {c : Nat} (h : c < 256) : (97 ≤ sB c ∧ sB c ≤ 122) ↔ isLe c = true := by
  have := sB_in (a := 97) (b := 122) h (by omega) (by omega) (by omega)
  unfold isLe
  simp only [Bool.and_eq_true, Nat.ble_eq]
  exact this
theorem sB_di {c : Nat} (h : c < 256) : (48 ≤ sB c ∧ sB c ≤ 57) ↔ isDi c = true := by
  have := sB_in (a := 48) (b := 57) h (by omega) (by omega) (by omega)
  unfold isDi
  simp only [Bool.and_eq_true, Nat.ble_eq]
  exact this
theorem sB_bl {c : Nat} (h : c < 256) : (sB c = 32 ∨ sB c = 10) ↔ isBl c = true := by
  have a := sB_eq (d := 32) h (by omega)
  have b := sB_eq (d := 10) h (by omega)
  unfold isBl
  simp only [Bool.or_eq_true, beq_iff_eq]
  rw [show (32 : Int32) = nI 32 from rfl, show (10 : Int32) = nI 10 from rfl, a, b]
set_option maxRecDepth 20000 in
theorem ct_isLetter0 (hl0 : l.stackTraces = false) (M : EM) (x : Int32) : Ct l g sg_X8_isLetter [.inl x] M (fun o M' => M' = M ∧ o = .inl (some (.inl (e_01 (97 ≤ x ∧ x ≤ 122))))) := by
  refine sem_of hl0 mt_X8_isLetter ok_X8_isLetter rfl (fun K hc hw => e_step rfl hc 80 [] ?_)
  clear hc hw
  repeat' (first | (with_reducible (intro h9; exact absurd rfl h9)) | (with_reducible (intro h9; exact absurd h9 e_10)) | (with_reducible (intro h9; first | exact absurd e_00 h9 | exact absurd h9 e_n10 | exact absurd h9 e_n20 | exact absurd h9 e_n30)) | (with_reducible intro _) | (refine And.intro ?_ ?_) | (with_reducible refine e_sw_nil ?_) | fail)
  all_goals first | (with_reducible refine e_goK ?_) | (with_reducible refine e_ctK ?_) | (with_reducible refine vp_inK ?_; (try simp (disch := omega) only [mI_rM0, mI_rM1, mI_rM2, mI_rM3, mI_rM4, mI_rM5, mI_rM6, mI_rM7, mI_rM8, mI_rM9, mI_rM10, mI_rM11, mI_rM12, mI_rM13, sI_rM0, sI_rM1, sI_rM2, sI_rM3, sI_rM4, sI_rM5, sI_rM6, sI_rM7, sI_rM8, sI_rM9, sI_rM10, sI_rM11, sI_rM12, sI_rM13, ix_0, ix_1, ix_2, ix_3, ix_4, ix_5, ix_6, ix_7, ix_8, ix_9, ix_10, ix_11, ix_12, ix_13, ix_14, ix_15, ix_16, ix_20, ix_23, ix_24, ix_30, ix_36, ix_46, ix_76, mx_4, mx_6, mx_30, mx_136, mx_1100, mx_3324, xi_1, xi_30, nI_pred, eAt, zAt, tc_0, tc_1, tc_2, tc_3, tc_7, tc_15, tc_23, tc_30, nI_add, pk_mul, nI_clamp]); exact vp_in_nI (by omega) (by omega)) | rfl | exact trivial | exact Nat.zero_le _ | exact (e_fit_01 _).1 | exact (e_fit_01 _).2 | (with_reducible refine vp_in_iff.mpr ?_; decide +kernel) | (with_reducible refine e_nz _ (by decide)) | decide | skip
  all_goals first | (rw [e_01_t ⟨Int32.not_lt.mp (by assumption), Int32.not_lt.mp (by assumption)⟩]; done) | (rw [e_01_f (fun z => absurd z.1 (Int32.not_le.mpr (by assumption)))]; done) | (rw [e_01_f (fun z => absurd z.2 (Int32.not_le.mpr (by assumption)))]; done) | fail
set_option maxRecDepth 20000 in
theorem ct_isDigit0 (hl0 : l.stackTraces = false) (M : EM) (x : Int32) : Ct l g sg_X8_isDigit [.inl x] M (fun o M' => M' = M ∧ o = .inl (some (.inl (e_01 (48 ≤ x ∧ x ≤ 57))))) := by
  refine sem_of hl0 mt_X8_isDigit ok_X8_isDigit rfl (fun K hc hw => e_step rfl hc 80 [] ?_)
  clear hc hw
  repeat' (first | (with_reducible (intro h9; exact absurd rfl h9)) | (with_reducible (intro h9; exact absurd h9 e_10)) | (with_reducible (intro h9; first | exact absurd e_00 h9 | exact absurd h9 e_n10 | exact absurd h9 e_n20 | exact absurd h9 e_n30)) | (with_reducible intro _) | (refine And.intro ?_ ?_) | (with_reducible refine e_sw_nil ?_) | fail)
  all_goals first | (with_reducible refine e_goK ?_) | (with_reducible refine e_ctK ?_) | (with_reducible refine vp_inK ?_; (try simp (disch := omega) only [mI_rM0, mI_rM1, mI_rM2, mI_rM3, mI_rM4, mI_rM5, mI_rM6, mI_rM7, mI_rM8, mI_rM9, mI_rM10, mI_rM11, mI_rM12, mI_rM13, sI_rM0, sI_rM1, sI_rM2, sI_rM3, sI_rM4, sI_rM5, sI_rM6, sI_rM7, sI_rM8, sI_rM9, sI_rM10, sI_rM11, sI_rM12, sI_rM13, ix_0, ix_1, ix_2, ix_3, ix_4, ix_5, ix_6, ix_7, ix_8, ix_9, ix_10, ix_11, ix_12, ix_13, ix_14, ix_15, ix_16, ix_20, ix_23, ix_24, ix_30, ix_36, ix_46, ix_76, mx_4, mx_6, mx_30, mx_136, mx_1100, mx_3324, xi_1, xi_30, nI_pred, eAt, zAt, tc_0, tc_1, tc_2, tc_3, tc_7, tc_15, tc_23, tc_30, nI_add, pk_mul, nI_clamp]); exact vp_in_nI (by omega) (by omega)) | rfl | exact trivial | exact Nat.zero_le _ | exact (e_fit_01 _).1 | exact (e_fit_01 _).2 | (with_reducible refine vp_in_iff.mpr ?_; decide +kernel) | (with_reducible refine e_nz _ (by decide)) | decide | skip
  all_goals first | (rw [e_01_t ⟨Int32.not_lt.mp (by assumption), Int32.not_lt.mp (by assumption)⟩]; done) | (rw [e_01_f (fun z => absurd z.1 (Int32.not_le.mpr (by assumption)))]; done) | (rw [e_01_f (fun z => absurd z.2 (Int32.not_le.mpr (by assumption)))]; done) | fail
set_option maxRecDepth 20000 in
theorem ct_isBlank0 (hl0 : l.stackTraces = false) (M : EM) (x : Int32) : Ct l g sg_X8_isBlank [.inl x] M (fun o M' => M' = M ∧ o = .inl (some (.inl (e_01 (x = 32 ∨ x = 10))))) := by
  refine sem_of hl0 mt_X8_isBlank ok_X8_isBlank rfl (fun K hc hw => e_step rfl hc 80 [] ?_)
  clear hc hw
  repeat' (first | (with_reducible (intro h9; exact absurd rfl h9)) | (with_reducible (intro h9; exact absurd h9 e_10)) | (with_reducible (intro h9; first | exact absurd e_00 h9 | exact absurd h9 e_n10 | exact absurd h9 e_n20 | exact absurd h9 e_n30)) | (with_reducible intro _) | (refine And.intro ?_ ?_) | (with_reducible refine e_sw_nil ?_) | fail)
  all_goals first | (with_reducible refine e_goK ?_) | (with_reducible refine e_ctK ?_) | (with_reducible refine vp_inK ?_; (try simp (disch := omega) only [mI_rM0, mI_rM1, mI_rM2, mI_rM3, mI_rM4, mI_rM5, mI_rM6, mI_rM7, mI_rM8, mI_rM9, mI_rM10, mI_rM11, mI_rM12, mI_rM13, sI_rM0, sI_rM1, sI_rM2, sI_rM3, sI_rM4, sI_rM5, sI_rM6, sI_rM7, sI_rM8, sI_rM9, sI_rM10, sI_rM11, sI_rM12, sI_rM13, ix_0, ix_1, ix_2, ix_3, ix_4, ix_5, ix_6, ix_7, ix_8, ix_9, ix_10, ix_11, ix_12, ix_13, ix_14, ix_15, ix_16, ix_20, ix_23, ix_24, ix_30, ix_36, ix_46, ix_76, mx_4, mx_6, mx_30, mx_136, mx_1100, mx_3324, xi_1, xi_30, nI_pred, eAt, zAt, tc_0, tc_1, tc_2, tc_3, tc_7, tc_15, tc_23, tc_30, nI_add, pk_mul, nI_clamp]); exact vp_in_nI (by omega) (by omega)) | rfl | exact trivial | exact Nat.zero_le _ | exact (e_fit_01 _).1 | exact (e_fit_01 _).2 | (with_reducible refine vp_in_iff.mpr ?_; decide +kernel) | (with_reducible refine e_nz _ (by decide)) | decide | skip
  all_goals first | (rw [e_01_t (Or.inl (by assumption))]; done) | (rw [e_01_t (Or.inr (by assumption))]; done) | (rw [e_01_f (fun z => z.elim (by assumption) (by assumption))]; done) | fail
theorem ct_isLetter_t (hl0 : l.stackTraces = false) (M : EM) {c : Nat} (hB : c < 256) (h : isLe c = true) : Ct l g sg_X8_isLetter [.inl (sB c)] M (fun o M' => M' = M ∧ o = .inl (some (.inl 1))) := Ct.mono (ct_isLetter0 hl0 M _) (fun o M' q => ⟨q.1, q.2.trans (by rw [e_01_t (by rw [sB_le hB]; exact h)])⟩)
theorem ct_isLetter_f (hl0 : l.stackTraces = false) (M : EM) {c : Nat} (hB : c < 256) (h : ¬ isLe c = true) : Ct l g sg_X8_isLetter [.inl (sB c)] M (fun o M' => M' = M ∧ o = .inl (some (.inl 0))) := Ct.mono (ct_isLetter0 hl0 M _) (fun o M' q => ⟨q.1, q.2.trans (by rw [e_01_f (by rw [sB_le hB]; exact h)])⟩)
theorem ct_isDigit_t (hl0 : l.stackTraces = false) (M : EM) {c : Nat} (hB : c < 256) (h : isDi c = true) : Ct l g sg_X8_isDigit [.inl (sB c)] M (fun o M' => M' = M ∧ o = .inl (some (.inl 1))) := Ct.mono (ct_isDigit0 hl0 M _) (fun o M' q => ⟨q.1, q.2.trans (by rw [e_01_t (by rw [sB_di hB]; exact h)])⟩)
theorem ct_isDigit_f (hl0 : l.stackTraces = false) (M : EM) {c : Nat} (hB : c < 256) (h : ¬ isDi c = true) : Ct l g sg_X8_isDigit [.inl (sB c)] M (fun o M' => M' = M ∧ o = .inl (some (.inl 0))) := Ct.mono (ct_isDigit0 hl0 M _) (fun o M' q => ⟨q.1, q.2.trans (by rw [e_01_f (by rw [sB_di hB]; exact h)])⟩)
theorem ct_isBlank_t (hl0 : l.stackTraces = false) (M : EM) {c : Nat} (hB : c < 256) (h : isBl c = true) : Ct l g sg_X8_isBlank [.inl (sB c)] M (fun o M' => M' = M ∧ o = .inl (some (.inl 1))) := Ct.mono (ct_isBlank0 hl0 M _) (fun o M' q => ⟨q.1, q.2.trans (by rw [e_01_t (by rw [sB_bl hB]; exact h)])⟩)
theorem ct_isBlank_f (hl0 : l.stackTraces = false) (M : EM) {c : Nat} (hB : c < 256) (h : ¬ isBl c = true) : Ct l g sg_X8_isBlank [.inl (sB c)] M (fun o M' => M' = M ∧ o = .inl (some (.inl 0))) := Ct.mono (ct_isBlank0 hl0 M _) (fun o M' q => ⟨q.1, q.2.trans (by rw [e_01_f (by rw [sB_bl hB]; exact h)])⟩)
end
