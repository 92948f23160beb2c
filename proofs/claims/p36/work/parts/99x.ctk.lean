/-! THE READER of the class: a number, a semicolon are taken; units. -/
section
variable {l : Launch} {g : EG}
set_option maxRecDepth 20000 in
theorem cc_takeNumberX (hl0 : l.stackTraces = false) (M : EM) {r n t : Nat} {B : Nat → Nat} (h : CT M r B n t) (lo hi : Int32) : Ct l g sg_X6_takeNumber [.inr (.inr (.inr (.inr (2, r)))), .inl lo, .inl hi] M (fun o M' => RC (rT r) M r (pN B n lo hi t) (fun M' v t' => (CT M' r B n t' ∧ mI M' r 5 = nI v) ∧ mI M' r 6 = mI M r 6) o M') := by
  refine sem_of hl0 mt_X6_takeNumber ok_X6_takeNumber rfl (fun K hc hw => ?_)
  clear hw
  rcases hp : pN B n lo hi t with ⟨c, q⟩ | ⟨v, t'⟩
  · refine e_step rfl hc 60 [11] ?_
    repeat' (first | (with_reducible (intro h9; exact absurd rfl h9)) | (with_reducible (intro h9; exact absurd h9 e_10)) | (with_reducible (intro h9; first | exact absurd e_00 h9 | exact absurd h9 e_n10 | exact absurd h9 e_n20 | exact absurd h9 e_n30)) | (with_reducible intro _) | (refine And.intro ?_ ?_) | (with_reducible refine e_sw_nil ?_) | (refine e_ctK ?_; first | (refine Ct.mono (Ct.ar (by first | rfl | (simp (disch := omega) only [mI_rM0, mI_rM1, mI_rM2, mI_rM3, mI_rM4, mI_rM5, mI_rM6, mI_rM7, mI_rM8, mI_rM9, mI_rM10, mI_rM11, mI_rM12, mI_rM13, sI_rM0, sI_rM1, sI_rM2, sI_rM3, sI_rM4, sI_rM5, sI_rM6, sI_rM7, sI_rM8, sI_rM9, sI_rM10, sI_rM11, sI_rM12, sI_rM13, n_lit, ↓pk_rem, pk_div, pk_mul, pk_sub, nI_add, nI_clamp, nmod, Nat.add_sub_cancel, eAt, zAt, e_clI, e_clP]; done) | fail) (by first | rfl | (simp (disch := omega) only [mI_rM0, mI_rM1, mI_rM2, mI_rM3, mI_rM4, mI_rM5, mI_rM6, mI_rM7, mI_rM8, mI_rM9, mI_rM10, mI_rM11, mI_rM12, mI_rM13, sI_rM0, sI_rM1, sI_rM2, sI_rM3, sI_rM4, sI_rM5, sI_rM6, sI_rM7, sI_rM8, sI_rM9, sI_rM10, sI_rM11, sI_rM12, sI_rM13, n_lit, ↓pk_rem, pk_div, pk_mul, pk_sub, nI_add, nI_clamp, nmod, Nat.add_sub_cancel, eAt, zAt, e_clI, e_clP]; done) | fail) (cc_seeNumberX hl0 M h lo hi)) ?_; intro o M' h8; obtain ⟨q1, rfl⟩ := h8.o hp) | fail) | fail)
    all_goals first | (with_reducible refine e_goK ?_) | (with_reducible refine e_ctK ?_) | (with_reducible refine vp_inK ?_; (try simp (disch := omega) only [mI_rM0, mI_rM1, mI_rM2, mI_rM3, mI_rM4, mI_rM5, mI_rM6, mI_rM7, mI_rM8, mI_rM9, mI_rM10, mI_rM11, mI_rM12, mI_rM13, sI_rM0, sI_rM1, sI_rM2, sI_rM3, sI_rM4, sI_rM5, sI_rM6, sI_rM7, sI_rM8, sI_rM9, sI_rM10, sI_rM11, sI_rM12, sI_rM13, ix_0, ix_1, ix_2, ix_3, ix_4, ix_5, ix_6, ix_7, ix_8, ix_9, ix_10, ix_11, ix_12, ix_13, ix_14, ix_15, ix_16, ix_20, ix_23, ix_24, ix_30, ix_36, ix_46, ix_76, mx_4, mx_6, mx_30, mx_136, mx_1100, mx_3324, xi_1, xi_30, nI_pred, eAt, zAt, tc_0, tc_1, tc_2, tc_3, tc_7, tc_15, tc_23, tc_30, nI_add, pk_mul, nI_clamp]); exact vp_in_nI (by omega) (by omega)) | rfl | exact trivial | exact Nat.zero_le _ | exact (e_fit_01 _).1 | exact (e_fit_01 _).2 | (with_reducible refine vp_in_iff.mpr ?_; decide +kernel) | (with_reducible refine e_nz _ (by decide)) | decide | skip
    all_goals first | contradiction | exact RC.no hp q1.1 q1.2 | trace_state
  · obtain ⟨_, _, _, e2, e3, _⟩ := pN_r hp
    refine e_step rfl hc 60 [] ?_
    repeat' (first | (with_reducible (intro h9; exact absurd rfl h9)) | (with_reducible (intro h9; exact absurd h9 e_10)) | (with_reducible (intro h9; first | exact absurd e_00 h9 | exact absurd h9 e_n10 | exact absurd h9 e_n20 | exact absurd h9 e_n30)) | (with_reducible intro _) | (refine And.intro ?_ ?_) | (with_reducible refine e_sw_nil ?_) | (refine e_ctK ?_; first | (refine Ct.mono (Ct.ar (by first | rfl | (simp (disch := omega) only [mI_rM0, mI_rM1, mI_rM2, mI_rM3, mI_rM4, mI_rM5, mI_rM6, mI_rM7, mI_rM8, mI_rM9, mI_rM10, mI_rM11, mI_rM12, mI_rM13, sI_rM0, sI_rM1, sI_rM2, sI_rM3, sI_rM4, sI_rM5, sI_rM6, sI_rM7, sI_rM8, sI_rM9, sI_rM10, sI_rM11, sI_rM12, sI_rM13, n_lit, ↓pk_rem, pk_div, pk_mul, pk_sub, nI_add, nI_clamp, nmod, Nat.add_sub_cancel, eAt, zAt, e_clI, e_clP]; done) | fail) (by first | rfl | (simp (disch := omega) only [mI_rM0, mI_rM1, mI_rM2, mI_rM3, mI_rM4, mI_rM5, mI_rM6, mI_rM7, mI_rM8, mI_rM9, mI_rM10, mI_rM11, mI_rM12, mI_rM13, sI_rM0, sI_rM1, sI_rM2, sI_rM3, sI_rM4, sI_rM5, sI_rM6, sI_rM7, sI_rM8, sI_rM9, sI_rM10, sI_rM11, sI_rM12, sI_rM13, n_lit, ↓pk_rem, pk_div, pk_mul, pk_sub, nI_add, nI_clamp, nmod, Nat.add_sub_cancel, eAt, zAt, e_clI, e_clP]; done) | fail) (cc_seeNumberX hl0 M h lo hi)) ?_; intro o M' h8; obtain ⟨q1, rfl⟩ := h8.i hp) | (refine Ct.mono (Ct.ar (by first | rfl | (simp (disch := omega) only [mI_rM0, mI_rM1, mI_rM2, mI_rM3, mI_rM4, mI_rM5, mI_rM6, mI_rM7, mI_rM8, mI_rM9, mI_rM10, mI_rM11, mI_rM12, mI_rM13, sI_rM0, sI_rM1, sI_rM2, sI_rM3, sI_rM4, sI_rM5, sI_rM6, sI_rM7, sI_rM8, sI_rM9, sI_rM10, sI_rM11, sI_rM12, sI_rM13, n_lit, ↓pk_rem, pk_div, pk_mul, pk_sub, nI_add, nI_clamp, nmod, Nat.add_sub_cancel, eAt, zAt, e_clI, e_clP]; done) | fail) (by first | rfl | (simp (disch := omega) only [mI_rM0, mI_rM1, mI_rM2, mI_rM3, mI_rM4, mI_rM5, mI_rM6, mI_rM7, mI_rM8, mI_rM9, mI_rM10, mI_rM11, mI_rM12, mI_rM13, sI_rM0, sI_rM1, sI_rM2, sI_rM3, sI_rM4, sI_rM5, sI_rM6, sI_rM7, sI_rM8, sI_rM9, sI_rM10, sI_rM11, sI_rM12, sI_rM13, n_lit, ↓pk_rem, pk_div, pk_mul, pk_sub, nI_add, nI_clamp, nmod, Nat.add_sub_cancel, eAt, zAt, e_clI, e_clP]; done) | fail) (ct_next hl0 _ q1.2.2.1.1 e3)) ?_; intro o M' h8; obtain ⟨q2, rfl⟩ := h8.out) | fail) | fail)
    all_goals first | (with_reducible refine e_goK ?_) | (with_reducible refine e_ctK ?_) | (with_reducible refine vp_inK ?_; (try simp (disch := omega) only [mI_rM0, mI_rM1, mI_rM2, mI_rM3, mI_rM4, mI_rM5, mI_rM6, mI_rM7, mI_rM8, mI_rM9, mI_rM10, mI_rM11, mI_rM12, mI_rM13, sI_rM0, sI_rM1, sI_rM2, sI_rM3, sI_rM4, sI_rM5, sI_rM6, sI_rM7, sI_rM8, sI_rM9, sI_rM10, sI_rM11, sI_rM12, sI_rM13, ix_0, ix_1, ix_2, ix_3, ix_4, ix_5, ix_6, ix_7, ix_8, ix_9, ix_10, ix_11, ix_12, ix_13, ix_14, ix_15, ix_16, ix_20, ix_23, ix_24, ix_30, ix_36, ix_46, ix_76, mx_4, mx_6, mx_30, mx_136, mx_1100, mx_3324, xi_1, xi_30, nI_pred, eAt, zAt, tc_0, tc_1, tc_2, tc_3, tc_7, tc_15, tc_23, tc_30, nI_add, pk_mul, nI_clamp]); exact vp_in_nI (by omega) (by omega)) | rfl | exact trivial | exact Nat.zero_le _ | exact (e_fit_01 _).1 | exact (e_fit_01 _).2 | (with_reducible refine vp_in_iff.mpr ?_; decide +kernel) | (with_reducible refine e_nz _ (by decide)) | decide | skip
    all_goals first | contradiction | exact RC.yes hp (q1.1.tr q2.1) (q1.2.1.tr q2.2.2.1) ⟨⟨by rw [e2]; exact q2.2.1, (q2.2.2.2 5).trans q1.2.2.1.2⟩, (q2.2.2.2 6).trans q1.2.2.2⟩ | trace_state
theorem cc_takeNumber (hl0 : l.stackTraces = false) (M : EM) {r n t : Nat} {B : Nat → Nat} (h : CT M r B n t) (lo hi : Int32) : Ct l g sg_X6_takeNumber [.inr (.inr (.inr (.inr (2, r)))), .inl lo, .inl hi] M (fun o M' => RC (rT r) M r (pN B n lo hi t) (fun M' v t' => CT M' r B n t' ∧ mI M' r 5 = nI v) o M') := Ct.mono (cc_takeNumberX hl0 M h lo hi) (fun o M' q => q.mono (fun _ _ _ z => z.1))
theorem kd_3 {B : Nat → Nat} {n t : Nat} : kdN B n t = 3 ↔ tIs B n t 59 = true := by
  unfold kdN tIs
  by_cases h : t < n
  · rw [if_pos h]
    have hb : Nat.blt t n = true := by rw [Nat.blt_eq]; exact h
    rw [hb, Bool.true_and, beq_iff_eq]
    by_cases h1 : isLe (B t) = true
    · rw [if_pos h1]
      refine ⟨(fun z => by cases z), fun z => ?_⟩
      rw [z] at h1; cases h1
    rw [if_neg h1]
    by_cases h2 : isDi (B t) = true
    · rw [if_pos h2]
      refine ⟨(fun z => by split at z <;> cases z), fun z => ?_⟩
      rw [z] at h2; cases h2
    rw [if_neg h2]
    by_cases h3 : B t = 59
    · rw [if_pos h3]; exact ⟨fun _ => h3, fun _ => rfl⟩
    · rw [if_neg h3]
      refine ⟨(fun z => by split at z <;> cases z), fun z => absurd z h3⟩
  · rw [if_neg h]
    have hb : Nat.blt t n = false := Bool.eq_false_iff.mpr (fun z => h (by rw [Nat.blt_eq] at z; exact z))
    rw [hb]
    exact ⟨(fun z => by cases z), (fun z => by cases z)⟩
theorem kd_4 {B : Nat → Nat} {n t : Nat} : kdN B n t = 4 ↔ tIs B n t 45 = true := by
  unfold kdN tIs
  by_cases h : t < n
  · rw [if_pos h]
    have hb : Nat.blt t n = true := by rw [Nat.blt_eq]; exact h
    rw [hb, Bool.true_and, beq_iff_eq]
    by_cases h1 : isLe (B t) = true
    · rw [if_pos h1]
      refine ⟨(fun z => by cases z), fun z => ?_⟩
      rw [z] at h1; cases h1
    rw [if_neg h1]
    by_cases h2 : isDi (B t) = true
    · rw [if_pos h2]
      refine ⟨(fun z => by split at z <;> cases z), fun z => ?_⟩
      rw [z] at h2; cases h2
    rw [if_neg h2]
    by_cases h3 : B t = 59
    · rw [if_pos h3]
      refine ⟨(fun z => by cases z), fun z => ?_⟩
      rw [h3] at z; cases z
    rw [if_neg h3]
    by_cases h4 : B t = 45
    · rw [if_pos h4]; exact ⟨fun _ => h4, fun _ => rfl⟩
    · rw [if_neg h4]
      exact ⟨(fun z => by cases z), fun z => absurd z h4⟩
  · rw [if_neg h]
    have hb : Nat.blt t n = false := Bool.eq_false_iff.mpr (fun z => h (by rw [Nat.blt_eq] at z; exact z))
    rw [hb]
    exact ⟨(fun z => by cases z), (fun z => by cases z)⟩
theorem tIs_n {B : Nat → Nat} {n t c : Nat} (h : tIs B n t c = true) : t < n := by unfold tIs at h; simp at h; exact h.1
theorem kd_0 {B : Nat → Nat} {n t : Nat} : kdN B n t = 0 ↔ ¬ t < n := by
  unfold kdN
  by_cases h : t < n
  · rw [if_pos h]
    refine ⟨fun z => ?_, fun z => absurd h z⟩
    repeat' (split at z)
    all_goals cases z
  · rw [if_neg h]; exact ⟨fun _ => h, fun _ => rfl⟩
/-- a semicolon -/
def pSc (B : Nat → Nat) (n t : Nat) : (Nat × Nat) ⊕ (Unit × Nat) := if tIs B n t 59 = true then .inr ((), nx B n t) else .inl (1, t)
set_option maxRecDepth 20000 in
theorem cc_takeSemicolon (hl0 : l.stackTraces = false) (M : EM) {r n t : Nat} {B : Nat → Nat} (h : CT M r B n t) : Ct l g sg_X6_takeSemicolon [.inr (.inr (.inr (.inr (2, r))))] M (fun o M' => RC (rT r) M r (pSc B n t) (fun M' _ t' => CT M' r B n t') o M') := by
  refine sem_of hl0 mt_X6_takeSemicolon ok_X6_takeSemicolon rfl (fun K hc hw => ?_)
  clear hw
  obtain ⟨hT, k1, k2, k6, k3, kt, k5⟩ := id h
  have kl := kdN_lt (B := B) (n := n) (t := t)
  by_cases hk : kdN B n t = 3
  case neg =>
    have c : ¬ mI M (r + 47) 1 = 3 := by rw [k1]; exact fun z => hk ((nI_eq (b := 3) (by omega) (by omega)).mp z)
    have hr : pSc B n t = .inl (1, t) := by unfold pSc; rw [if_neg (fun z => hk (kd_3.mpr z))]
    refine e_step rfl hc 60 [17] ?_
    repeat' (first | (with_reducible (intro h9; exact absurd rfl h9)) | (with_reducible (intro h9; exact absurd h9 e_10)) | (with_reducible (intro h9; first | exact absurd e_00 h9 | exact absurd h9 e_n10 | exact absurd h9 e_n20 | exact absurd h9 e_n30)) | (with_reducible intro _) | (refine And.intro ?_ ?_) | (with_reducible refine e_sw_nil ?_) | (refine e_ctK ?_; first | (refine Ct.mono (Ct.ar (by first | rfl | (simp (disch := omega) only [mI_rM0, mI_rM1, mI_rM2, mI_rM3, mI_rM4, mI_rM5, mI_rM6, mI_rM7, mI_rM8, mI_rM9, mI_rM10, mI_rM11, mI_rM12, mI_rM13, sI_rM0, sI_rM1, sI_rM2, sI_rM3, sI_rM4, sI_rM5, sI_rM6, sI_rM7, sI_rM8, sI_rM9, sI_rM10, sI_rM11, sI_rM12, sI_rM13, n_lit, ↓pk_rem, pk_div, pk_mul, pk_sub, nI_add, nI_clamp, nmod, Nat.add_sub_cancel, eAt, zAt, e_clI, e_clP]; done) | fail) (by first | rfl | (simp (disch := omega) only [mI_rM0, mI_rM1, mI_rM2, mI_rM3, mI_rM4, mI_rM5, mI_rM6, mI_rM7, mI_rM8, mI_rM9, mI_rM10, mI_rM11, mI_rM12, mI_rM13, sI_rM0, sI_rM1, sI_rM2, sI_rM3, sI_rM4, sI_rM5, sI_rM6, sI_rM7, sI_rM8, sI_rM9, sI_rM10, sI_rM11, sI_rM12, sI_rM13, n_lit, ↓pk_rem, pk_div, pk_mul, pk_sub, nI_add, nI_clamp, nmod, Nat.add_sub_cancel, eAt, zAt, e_clI, e_clP]; done) | fail) (cc_fail hl0 M (c := 1) h)) ?_; intro o M' h8; obtain ⟨q1, rfl⟩ := h8.out) | fail) | fail)
    all_goals first | (exfalso; first | exact c (by assumption) | exact (by assumption : ¬ _) c | fail) | skip
    all_goals first | (with_reducible refine e_goK ?_) | (with_reducible refine e_ctK ?_) | (with_reducible refine vp_inK ?_; (try simp (disch := omega) only [mI_rM0, mI_rM1, mI_rM2, mI_rM3, mI_rM4, mI_rM5, mI_rM6, mI_rM7, mI_rM8, mI_rM9, mI_rM10, mI_rM11, mI_rM12, mI_rM13, sI_rM0, sI_rM1, sI_rM2, sI_rM3, sI_rM4, sI_rM5, sI_rM6, sI_rM7, sI_rM8, sI_rM9, sI_rM10, sI_rM11, sI_rM12, sI_rM13, ix_0, ix_1, ix_2, ix_3, ix_4, ix_5, ix_6, ix_7, ix_8, ix_9, ix_10, ix_11, ix_12, ix_13, ix_14, ix_15, ix_16, ix_20, ix_23, ix_24, ix_30, ix_36, ix_46, ix_76, mx_4, mx_6, mx_30, mx_136, mx_1100, mx_3324, xi_1, xi_30, nI_pred, eAt, zAt, tc_0, tc_1, tc_2, tc_3, tc_7, tc_15, tc_23, tc_30, nI_add, pk_mul, nI_clamp]); exact vp_in_nI (by omega) (by omega)) | rfl | exact trivial | exact Nat.zero_le _ | exact (e_fit_01 _).1 | exact (e_fit_01 _).2 | (with_reducible refine vp_in_iff.mpr ?_; decide +kernel) | (with_reducible refine e_nz _ (by decide)) | decide | skip
    all_goals first | (exfalso; first | exact c (by assumption) | exact (by assumption : ¬ _) c | fail) | skip
    all_goals first | exact RC.no hr q1.1 q1.2.2 | skip
  have c : mI M (r + 47) 1 = 3 := by rw [k1, hk]; rfl
  have hs := kd_3.mp hk
  have hr : pSc B n t = .inr ((), nx B n t) := by unfold pSc; rw [if_pos hs]
  refine e_step rfl hc 60 [17] ?_
  repeat' (first | (with_reducible (intro h9; exact absurd rfl h9)) | (with_reducible (intro h9; exact absurd h9 e_10)) | (with_reducible (intro h9; first | exact absurd e_00 h9 | exact absurd h9 e_n10 | exact absurd h9 e_n20 | exact absurd h9 e_n30)) | (with_reducible intro _) | (refine And.intro ?_ ?_) | (with_reducible refine e_sw_nil ?_) | fail)
  all_goals first | (exfalso; first | exact c (by assumption) | exact (by assumption : ¬ _) c | fail) | skip
  all_goals first | (with_reducible refine e_goK ?_) | (with_reducible refine e_ctK ?_) | (with_reducible refine vp_inK ?_; (try simp (disch := omega) only [mI_rM0, mI_rM1, mI_rM2, mI_rM3, mI_rM4, mI_rM5, mI_rM6, mI_rM7, mI_rM8, mI_rM9, mI_rM10, mI_rM11, mI_rM12, mI_rM13, sI_rM0, sI_rM1, sI_rM2, sI_rM3, sI_rM4, sI_rM5, sI_rM6, sI_rM7, sI_rM8, sI_rM9, sI_rM10, sI_rM11, sI_rM12, sI_rM13, ix_0, ix_1, ix_2, ix_3, ix_4, ix_5, ix_6, ix_7, ix_8, ix_9, ix_10, ix_11, ix_12, ix_13, ix_14, ix_15, ix_16, ix_20, ix_23, ix_24, ix_30, ix_36, ix_46, ix_76, mx_4, mx_6, mx_30, mx_136, mx_1100, mx_3324, xi_1, xi_30, nI_pred, eAt, zAt, tc_0, tc_1, tc_2, tc_3, tc_7, tc_15, tc_23, tc_30, nI_add, pk_mul, nI_clamp]); exact vp_in_nI (by omega) (by omega)) | rfl | exact trivial | exact Nat.zero_le _ | exact (e_fit_01 _).1 | exact (e_fit_01 _).2 | (with_reducible refine vp_in_iff.mpr ?_; decide +kernel) | (with_reducible refine e_nz _ (by decide)) | decide | skip
  all_goals first | (exfalso; first | exact c (by assumption) | exact (by assumption : ¬ _) c | fail) | skip
  refine e_kk (K := K) ?_
  refine e_step rfl hc 60 [] ?_
  repeat' (first | (with_reducible (intro h9; exact absurd rfl h9)) | (with_reducible (intro h9; exact absurd h9 e_10)) | (with_reducible (intro h9; first | exact absurd e_00 h9 | exact absurd h9 e_n10 | exact absurd h9 e_n20 | exact absurd h9 e_n30)) | (with_reducible intro _) | (refine And.intro ?_ ?_) | (with_reducible refine e_sw_nil ?_) | (refine e_ctK ?_; first | (refine Ct.mono (Ct.ar (by first | rfl | (simp (disch := omega) only [mI_rM0, mI_rM1, mI_rM2, mI_rM3, mI_rM4, mI_rM5, mI_rM6, mI_rM7, mI_rM8, mI_rM9, mI_rM10, mI_rM11, mI_rM12, mI_rM13, sI_rM0, sI_rM1, sI_rM2, sI_rM3, sI_rM4, sI_rM5, sI_rM6, sI_rM7, sI_rM8, sI_rM9, sI_rM10, sI_rM11, sI_rM12, sI_rM13, n_lit, ↓pk_rem, pk_div, pk_mul, pk_sub, nI_add, nI_clamp, nmod, Nat.add_sub_cancel, eAt, zAt, e_clI, e_clP]; done) | fail) (by first | rfl | (simp (disch := omega) only [mI_rM0, mI_rM1, mI_rM2, mI_rM3, mI_rM4, mI_rM5, mI_rM6, mI_rM7, mI_rM8, mI_rM9, mI_rM10, mI_rM11, mI_rM12, mI_rM13, sI_rM0, sI_rM1, sI_rM2, sI_rM3, sI_rM4, sI_rM5, sI_rM6, sI_rM7, sI_rM8, sI_rM9, sI_rM10, sI_rM11, sI_rM12, sI_rM13, n_lit, ↓pk_rem, pk_div, pk_mul, pk_sub, nI_add, nI_clamp, nmod, Nat.add_sub_cancel, eAt, zAt, e_clI, e_clP]; done) | fail) (ct_next hl0 _ h (tIs_n hs))) ?_; intro o M' h8; obtain ⟨q2, rfl⟩ := h8.out) | fail) | fail)
  all_goals first | (with_reducible refine e_goK ?_) | (with_reducible refine e_ctK ?_) | (with_reducible refine vp_inK ?_; (try simp (disch := omega) only [mI_rM0, mI_rM1, mI_rM2, mI_rM3, mI_rM4, mI_rM5, mI_rM6, mI_rM7, mI_rM8, mI_rM9, mI_rM10, mI_rM11, mI_rM12, mI_rM13, sI_rM0, sI_rM1, sI_rM2, sI_rM3, sI_rM4, sI_rM5, sI_rM6, sI_rM7, sI_rM8, sI_rM9, sI_rM10, sI_rM11, sI_rM12, sI_rM13, ix_0, ix_1, ix_2, ix_3, ix_4, ix_5, ix_6, ix_7, ix_8, ix_9, ix_10, ix_11, ix_12, ix_13, ix_14, ix_15, ix_16, ix_20, ix_23, ix_24, ix_30, ix_36, ix_46, ix_76, mx_4, mx_6, mx_30, mx_136, mx_1100, mx_3324, xi_1, xi_30, nI_pred, eAt, zAt, tc_0, tc_1, tc_2, tc_3, tc_7, tc_15, tc_23, tc_30, nI_add, pk_mul, nI_clamp]); exact vp_in_nI (by omega) (by omega)) | rfl | exact trivial | exact Nat.zero_le _ | exact (e_fit_01 _).1 | exact (e_fit_01 _).2 | (with_reducible refine vp_in_iff.mpr ?_; decide +kernel) | (with_reducible refine e_nz _ (by decide)) | decide | skip
  all_goals exact RC.yes hr q2.1 q2.2.2.1 q2.2.1
set_option maxRecDepth 20000 in
theorem cc_unitKind (hl0 : l.stackTraces = false) (M : EM) {r n t : Nat} {B : Nat → Nat} (h : CT M r B n t) : Ct l g sg_X6_unitKind [.inr (.inr (.inr (.inr (2, r))))] M (fun o M' => M' = M ∧ o = .inl (some (.inl (if unN B n t = 0 then -1 else nI (unN B n t))))) := by
  refine sem_of hl0 mt_X6_unitKind ok_X6_unitKind rfl (fun K hc hw => ?_)
  clear hw
  by_cases u1 : tH B n t = 132915
  · refine e_step rfl hc 60 [14] ?_
    repeat' (first | (with_reducible (intro h9; exact absurd rfl h9)) | (with_reducible (intro h9; exact absurd h9 e_10)) | (with_reducible (intro h9; first | exact absurd e_00 h9 | exact absurd h9 e_n10 | exact absurd h9 e_n20 | exact absurd h9 e_n30)) | (with_reducible intro _) | (refine And.intro ?_ ?_) | (with_reducible refine e_sw_nil ?_) | (refine e_fa (fun _ => ?_)) | (refine e_ctK ?_; first | (refine Ct.mono (Ct.ar rfl rfl ((isW_t hl0 M (k := 204) (W := 132915) (B := B) (n := n) (t := t) (ct_isWord_4 hl0 M _ h.1 h.2)).1 (by assumption))) ?_; intro o M' h8; obtain ⟨h9, rfl⟩ := h8; replace h9 := h9.symm; subst h9) | fail) | fail)
    all_goals first | (with_reducible refine e_goK ?_) | (with_reducible refine e_ctK ?_) | (with_reducible refine vp_inK ?_; (try simp (disch := omega) only [mI_rM0, mI_rM1, mI_rM2, mI_rM3, mI_rM4, mI_rM5, mI_rM6, mI_rM7, mI_rM8, mI_rM9, mI_rM10, mI_rM11, mI_rM12, mI_rM13, sI_rM0, sI_rM1, sI_rM2, sI_rM3, sI_rM4, sI_rM5, sI_rM6, sI_rM7, sI_rM8, sI_rM9, sI_rM10, sI_rM11, sI_rM12, sI_rM13, ix_0, ix_1, ix_2, ix_3, ix_4, ix_5, ix_6, ix_7, ix_8, ix_9, ix_10, ix_11, ix_12, ix_13, ix_14, ix_15, ix_16, ix_20, ix_23, ix_24, ix_30, ix_36, ix_46, ix_76, mx_4, mx_6, mx_30, mx_136, mx_1100, mx_3324, xi_1, xi_30, nI_pred, eAt, zAt, tc_0, tc_1, tc_2, tc_3, tc_7, tc_15, tc_23, tc_30, nI_add, pk_mul, nI_clamp]); exact vp_in_nI (by omega) (by omega)) | rfl | exact trivial | exact Nat.zero_le _ | exact (e_fit_01 _).1 | exact (e_fit_01 _).2 | (with_reducible refine vp_in_iff.mpr ?_; decide +kernel) | (with_reducible refine e_nz _ (by decide)) | decide | skip
    all_goals first | contradiction | (unfold unN; rw [if_pos u1]; rfl) | trace_state
  by_cases u2 : tH B n t = 24286579
  · refine e_step rfl hc 60 [28] ?_
    repeat' (first | (with_reducible (intro h9; exact absurd rfl h9)) | (with_reducible (intro h9; exact absurd h9 e_10)) | (with_reducible (intro h9; first | exact absurd e_00 h9 | exact absurd h9 e_n10 | exact absurd h9 e_n20 | exact absurd h9 e_n30)) | (with_reducible intro _) | (refine And.intro ?_ ?_) | (with_reducible refine e_sw_nil ?_) | (refine e_fa (fun _ => ?_)) | (refine e_ctK ?_; first | (refine Ct.mono (Ct.ar rfl rfl ((isW_t hl0 M (k := 204) (W := 132915) (B := B) (n := n) (t := t) (ct_isWord_4 hl0 M _ h.1 h.2)).2 (by assumption))) ?_; intro o M' h8; obtain ⟨h9, rfl⟩ := h8; replace h9 := h9.symm; subst h9) | (refine Ct.mono (Ct.ar rfl rfl ((isW_t hl0 M (k := 205) (W := 24286579) (B := B) (n := n) (t := t) (ct_isWord_5 hl0 M _ h.1 h.2)).1 (by assumption))) ?_; intro o M' h8; obtain ⟨h9, rfl⟩ := h8; replace h9 := h9.symm; subst h9) | fail) | fail)
    all_goals first | (with_reducible refine e_goK ?_) | (with_reducible refine e_ctK ?_) | (with_reducible refine vp_inK ?_; (try simp (disch := omega) only [mI_rM0, mI_rM1, mI_rM2, mI_rM3, mI_rM4, mI_rM5, mI_rM6, mI_rM7, mI_rM8, mI_rM9, mI_rM10, mI_rM11, mI_rM12, mI_rM13, sI_rM0, sI_rM1, sI_rM2, sI_rM3, sI_rM4, sI_rM5, sI_rM6, sI_rM7, sI_rM8, sI_rM9, sI_rM10, sI_rM11, sI_rM12, sI_rM13, ix_0, ix_1, ix_2, ix_3, ix_4, ix_5, ix_6, ix_7, ix_8, ix_9, ix_10, ix_11, ix_12, ix_13, ix_14, ix_15, ix_16, ix_20, ix_23, ix_24, ix_30, ix_36, ix_46, ix_76, mx_4, mx_6, mx_30, mx_136, mx_1100, mx_3324, xi_1, xi_30, nI_pred, eAt, zAt, tc_0, tc_1, tc_2, tc_3, tc_7, tc_15, tc_23, tc_30, nI_add, pk_mul, nI_clamp]); exact vp_in_nI (by omega) (by omega)) | rfl | exact trivial | exact Nat.zero_le _ | exact (e_fit_01 _).1 | exact (e_fit_01 _).2 | (with_reducible refine vp_in_iff.mpr ?_; decide +kernel) | (with_reducible refine e_nz _ (by decide)) | decide | skip
    all_goals first | contradiction | (unfold unN; rw [if_neg u1, if_pos u2]; rfl) | trace_state
  by_cases u3 : tH B n t = 452415763
  · refine e_step rfl hc 60 [] ?_
    repeat' (first | (with_reducible (intro h9; exact absurd rfl h9)) | (with_reducible (intro h9; exact absurd h9 e_10)) | (with_reducible (intro h9; first | exact absurd e_00 h9 | exact absurd h9 e_n10 | exact absurd h9 e_n20 | exact absurd h9 e_n30)) | (with_reducible intro _) | (refine And.intro ?_ ?_) | (with_reducible refine e_sw_nil ?_) | (refine e_fa (fun _ => ?_)) | (refine e_ctK ?_; first | (refine Ct.mono (Ct.ar rfl rfl ((isW_t hl0 M (k := 204) (W := 132915) (B := B) (n := n) (t := t) (ct_isWord_4 hl0 M _ h.1 h.2)).2 (by assumption))) ?_; intro o M' h8; obtain ⟨h9, rfl⟩ := h8; replace h9 := h9.symm; subst h9) | (refine Ct.mono (Ct.ar rfl rfl ((isW_t hl0 M (k := 205) (W := 24286579) (B := B) (n := n) (t := t) (ct_isWord_5 hl0 M _ h.1 h.2)).2 (by assumption))) ?_; intro o M' h8; obtain ⟨h9, rfl⟩ := h8; replace h9 := h9.symm; subst h9) | (refine Ct.mono (Ct.ar rfl rfl ((isW_t hl0 M (k := 206) (W := 452415763) (B := B) (n := n) (t := t) (ct_isWord_6 hl0 M _ h.1 h.2)).1 (by assumption))) ?_; intro o M' h8; obtain ⟨h9, rfl⟩ := h8; replace h9 := h9.symm; subst h9) | fail) | fail)
    all_goals first | (with_reducible refine e_goK ?_) | (with_reducible refine e_ctK ?_) | (with_reducible refine vp_inK ?_; (try simp (disch := omega) only [mI_rM0, mI_rM1, mI_rM2, mI_rM3, mI_rM4, mI_rM5, mI_rM6, mI_rM7, mI_rM8, mI_rM9, mI_rM10, mI_rM11, mI_rM12, mI_rM13, sI_rM0, sI_rM1, sI_rM2, sI_rM3, sI_rM4, sI_rM5, sI_rM6, sI_rM7, sI_rM8, sI_rM9, sI_rM10, sI_rM11, sI_rM12, sI_rM13, ix_0, ix_1, ix_2, ix_3, ix_4, ix_5, ix_6, ix_7, ix_8, ix_9, ix_10, ix_11, ix_12, ix_13, ix_14, ix_15, ix_16, ix_20, ix_23, ix_24, ix_30, ix_36, ix_46, ix_76, mx_4, mx_6, mx_30, mx_136, mx_1100, mx_3324, xi_1, xi_30, nI_pred, eAt, zAt, tc_0, tc_1, tc_2, tc_3, tc_7, tc_15, tc_23, tc_30, nI_add, pk_mul, nI_clamp]); exact vp_in_nI (by omega) (by omega)) | rfl | exact trivial | exact Nat.zero_le _ | exact (e_fit_01 _).1 | exact (e_fit_01 _).2 | (with_reducible refine vp_in_iff.mpr ?_; decide +kernel) | (with_reducible refine e_nz _ (by decide)) | decide | skip
    all_goals first | contradiction | (unfold unN; rw [if_neg u1, if_neg u2, if_pos u3]; rfl) | trace_state
  · refine e_step rfl hc 60 [] ?_
    repeat' (first | (with_reducible (intro h9; exact absurd rfl h9)) | (with_reducible (intro h9; exact absurd h9 e_10)) | (with_reducible (intro h9; first | exact absurd e_00 h9 | exact absurd h9 e_n10 | exact absurd h9 e_n20 | exact absurd h9 e_n30)) | (with_reducible intro _) | (refine And.intro ?_ ?_) | (with_reducible refine e_sw_nil ?_) | (refine e_fa (fun _ => ?_)) | (refine e_ctK ?_; first | (refine Ct.mono (Ct.ar rfl rfl ((isW_t hl0 M (k := 204) (W := 132915) (B := B) (n := n) (t := t) (ct_isWord_4 hl0 M _ h.1 h.2)).2 (by assumption))) ?_; intro o M' h8; obtain ⟨h9, rfl⟩ := h8; replace h9 := h9.symm; subst h9) | (refine Ct.mono (Ct.ar rfl rfl ((isW_t hl0 M (k := 205) (W := 24286579) (B := B) (n := n) (t := t) (ct_isWord_5 hl0 M _ h.1 h.2)).2 (by assumption))) ?_; intro o M' h8; obtain ⟨h9, rfl⟩ := h8; replace h9 := h9.symm; subst h9) | (refine Ct.mono (Ct.ar rfl rfl ((isW_t hl0 M (k := 206) (W := 452415763) (B := B) (n := n) (t := t) (ct_isWord_6 hl0 M _ h.1 h.2)).2 (by assumption))) ?_; intro o M' h8; obtain ⟨h9, rfl⟩ := h8; replace h9 := h9.symm; subst h9) | fail) | fail)
    all_goals first | (with_reducible refine e_goK ?_) | (with_reducible refine e_ctK ?_) | (with_reducible refine vp_inK ?_; (try simp (disch := omega) only [mI_rM0, mI_rM1, mI_rM2, mI_rM3, mI_rM4, mI_rM5, mI_rM6, mI_rM7, mI_rM8, mI_rM9, mI_rM10, mI_rM11, mI_rM12, mI_rM13, sI_rM0, sI_rM1, sI_rM2, sI_rM3, sI_rM4, sI_rM5, sI_rM6, sI_rM7, sI_rM8, sI_rM9, sI_rM10, sI_rM11, sI_rM12, sI_rM13, ix_0, ix_1, ix_2, ix_3, ix_4, ix_5, ix_6, ix_7, ix_8, ix_9, ix_10, ix_11, ix_12, ix_13, ix_14, ix_15, ix_16, ix_20, ix_23, ix_24, ix_30, ix_36, ix_46, ix_76, mx_4, mx_6, mx_30, mx_136, mx_1100, mx_3324, xi_1, xi_30, nI_pred, eAt, zAt, tc_0, tc_1, tc_2, tc_3, tc_7, tc_15, tc_23, tc_30, nI_add, pk_mul, nI_clamp]); exact vp_in_nI (by omega) (by omega)) | rfl | exact trivial | exact Nat.zero_le _ | exact (e_fit_01 _).1 | exact (e_fit_01 _).2 | (with_reducible refine vp_in_iff.mpr ?_; decide +kernel) | (with_reducible refine e_nz _ (by decide)) | decide | skip
    all_goals first | contradiction | (unfold unN; rw [if_neg u1, if_neg u2, if_neg u3]; rfl) | trace_state
end
