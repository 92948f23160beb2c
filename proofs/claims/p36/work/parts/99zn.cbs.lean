/-! FLOATS: the share of busy minutes, its bits. -/
section
variable {l : Launch} {g : EG}
theorem fcv_gt : Op.cmpValue (some .gt) .l = 1 := rfl
theorem fcv_lt : Op.cmpValue (some .lt) .g = -1 := rfl
theorem agB1_r {ln : Nat → Int32} {f t : Int32} {q : Int32 × Int32} {x : AG} (h1 : t.toInt - f.toInt ≤ 100000) (h : (0 ≤ q.1.toInt ∧ q.1.toInt ≤ q.2.toInt - f.toInt) ∧ f.toInt ≤ q.2.toInt ∧ q.2.toInt ≤ t.toInt) : (0 ≤ (agB1 ln t q x).1.toInt ∧ (agB1 ln t q x).1.toInt ≤ (agB1 ln t q x).2.toInt - f.toInt) ∧ f.toInt ≤ (agB1 ln t q x).2.toInt ∧ (agB1 ln t q x).2.toInt ≤ t.toInt := by
  obtain ⟨⟨a, b⟩, c, d⟩ := h
  unfold agB1
  have hS : q.2.toInt ≤ (if q.2 < x.1 then x.1 else q.2).toInt := by
    split
    · rename_i z; rw [Int32.lt_iff_toInt_lt] at z; omega
    · exact Int.le_refl _
  have hE : (if x.1 + ln x.2.1 < t then x.1 + ln x.2.1 else t).toInt ≤ t.toInt := by
    split
    · rename_i z; rw [Int32.lt_iff_toInt_lt] at z; omega
    · exact Int.le_refl _
  generalize (if q.2 < x.1 then x.1 else q.2) = S at *
  generalize (if x.1 + ln x.2.1 < t then x.1 + ln x.2.1 else t) = E at *
  split
  · rename_i z
    rw [Int32.lt_iff_toInt_lt] at z
    dsimp only
    have e : (q.1 + E - S).toInt = q.1.toInt + E.toInt - S.toInt := by
      rw [Int32.toInt_sub, Int32.toInt_add]
      simp only [Int.bmod]
      repeat' split
      all_goals omega
    rw [e]
    omega
  · exact ⟨⟨a, b⟩, c, d⟩
theorem agBm_r {ln : Nat → Int32} {A : List AG} {f t : Int32} (h0 : f.toInt ≤ t.toInt) (h1 : t.toInt - f.toInt ≤ 100000) : ∀ k, (0 ≤ (agBm ln A f t k).1.toInt ∧ (agBm ln A f t k).1.toInt ≤ (agBm ln A f t k).2.toInt - f.toInt) ∧ f.toInt ≤ (agBm ln A f t k).2.toInt ∧ (agBm ln A f t k).2.toInt ≤ t.toInt
  | 0 => ⟨⟨Int.le_refl _, by show (0 : Int32).toInt ≤ f.toInt - f.toInt; rw [i_0]; omega⟩, Int.le_refl _, h0⟩
  | k + 1 => agB1_r h1 (agBm_r h0 h1 k)
theorem tm_i {f t : Int32} (h : tmOk f t) : 1 ≤ t.toInt - f.toInt ∧ t.toInt - f.toInt ≤ 100000 := by
  obtain ⟨h1, h2⟩ := h
  unfold lg_cmp at h1 h2
  have e := i64_s (f := f) (t := t)
  constructor
  · apply Classical.byContradiction
    intro z
    apply h1
    rw [if_neg (fun w => by rw [gt_iff_lt, Int64.lt_iff_toInt_lt, e] at w; have : (1 : Int64).toInt = 1 := by decide
                            omega), if_neg (fun w => by rw [w] at e; have : (1 : Int64).toInt = 1 := by decide
                                                        omega)]
    decide
  · apply Classical.byContradiction
    intro z
    apply h2
    rw [if_pos (by rw [gt_iff_lt, Int64.lt_iff_toInt_lt, e]; have : (100000 : Int64).toInt = 100000 := by decide
                   omega)]
    decide
theorem tm_s {f t : Int32} (h : tmOk f t) : (t - f).toInt = t.toInt - f.toInt := by
  have := tm_i h
  rw [Int32.toInt_sub]
  simp only [Int.bmod]
  split <;> omega
theorem sh_ag {ln : Nat → Int32} {A : List AG} {f t : Int32} (h : tmOk f t) (k : Nat) : shOk (FP.fdiv (FP.i2f (agBm ln A f t k).1) (FP.i2f (t - f))) := by
  have e := tm_i h
  have s := tm_s h
  obtain ⟨⟨a, b⟩, c, d⟩ := agBm_r (ln := ln) (A := A) (f := f) (t := t) (by omega) (by omega) k
  exact sh_k a (by omega) (by omega) (by omega)
theorem l2f_s {f t : Int32} (h : tmOk f t) : FP.l2f (t.toInt64 - f.toInt64) = FP.i2f (t - f) := l2f_i (by rw [i64_s, tm_s h])
set_option maxRecDepth 20000 in
theorem cc_bits1 (hl0 : l.stackTraces = false) (M : EM) {C : Nat} {Q : Int} (h : nrm C) (q1 : -90 ≤ Q) (q2 : Q ≤ -23) : Ct l g sg_X10_bitsOfShare [.inr (.inr (.inl (fU C Q)))] M (fun o M' => M' = M ∧ o = .inl (some (.inl (fU C Q).toInt32))) := by
  refine sem_of hl0 mt_X10_bitsOfShare ok_X10_bitsOfShare rfl (fun K hc hw => ?_)
  clear hw
  have c0 : 0 < Op.cmpValue (FP.fcmp (fU C Q) FP.fconst0) .l := by
    rw [show FP.fcmp (fU C Q) FP.fconst0 = some .gt from fc_0 h ⟨by omega, by omega⟩]; decide
  have loop : ∀ (zn k : Nat) (P : Int), P = Q + k → k + zn = 68 → P ≤ -23 → K 15 [some (.inr (.inr (.inl (fU C Q)))), some (.inr (.inr (.inl (fU C P)))), some (.inl (nI (127 - k))), some (.inl (nI k))] [] M 0 0 := by
    intro zn
    induction zn with
    | zero => intro k P hP hk h2; omega
    | succ zn ih =>
      intro k P hP hk h2
      have ck : ¬ 126 ≤ nI k := fun z => absurd ((nI_leI (a := 126) (by omega) (by omega)).mp z) (by omega)
      by_cases c : P < -23
      · have c1 : ¬ 0 ≤ Op.cmpValue (FP.fcmp (fU C P) FP.fconst1) .g := by
          rw [f1_u, show FP.fcmp (fU C P) (fU 8388608 (-23)) = _ from fc_1 h ⟨by omega, by omega⟩, if_pos c]; decide
        have ef : FP.fmul (fU C P) FP.fconst2 = fU C (P + 1) := by
          rw [f2_u, show FP.fmul (fU C P) (fU 8388608 (-22)) = _ from fm_v h ⟨by omega, by omega⟩ ⟨by omega, by omega⟩ (by omega) (by omega), show P + -22 + 23 = P + 1 by omega]
        have kk := ih (k + 1) (P + 1) (by omega) (by omega) (by omega)
        have ed : nI (127 - k) + -1 = nI (127 - (k + 1)) := by
          rw [show 127 - k = (127 - (k + 1)) + 1 by omega]
          exact (Int32.sub_eq_add_neg _ 1).symm.trans (nI_pred _)
        refine e_step rfl hc 60 [15] ?_
        repeat' (first | (with_reducible (intro h9; exact absurd rfl h9)) | (with_reducible (intro h9; exact absurd h9 e_10)) | (with_reducible (intro h9; first | exact absurd e_00 h9 | exact absurd h9 e_n10 | exact absurd h9 e_n20 | exact absurd h9 e_n30)) | (with_reducible intro _) | (refine And.intro ?_ ?_) | (with_reducible refine e_sw_nil ?_) | fail)
        all_goals first | (exfalso; first | exact absurd ck (by with_reducible assumption) | exact ck (by with_reducible assumption) | exact absurd c1 (by with_reducible assumption) | exact c1 (by with_reducible assumption) | fail) | skip
        all_goals first | (with_reducible refine e_goK ?_) | (with_reducible refine e_ctK ?_) | (with_reducible refine vp_inK ?_; (try simp (disch := omega) only [mI_rM0, mI_rM1, mI_rM2, mI_rM3, mI_rM4, mI_rM5, mI_rM6, mI_rM7, mI_rM8, mI_rM9, mI_rM10, mI_rM11, mI_rM12, mI_rM13, sI_rM0, sI_rM1, sI_rM2, sI_rM3, sI_rM4, sI_rM5, sI_rM6, sI_rM7, sI_rM8, sI_rM9, sI_rM10, sI_rM11, sI_rM12, sI_rM13, ix_0, ix_1, ix_2, ix_3, ix_4, ix_5, ix_6, ix_7, ix_8, ix_9, ix_10, ix_11, ix_12, ix_13, ix_14, ix_15, ix_16, ix_20, ix_23, ix_24, ix_30, ix_36, ix_46, ix_76, mx_4, mx_6, mx_30, mx_136, mx_1100, mx_3324, xi_1, xi_30, nI_pred, eAt, zAt, tc_0, tc_1, tc_2, tc_3, tc_7, tc_15, tc_23, tc_30, nI_add, pk_mul, nI_clamp]); exact vp_in_nI (by omega) (by omega)) | rfl | exact trivial | exact Nat.zero_le _ | exact (e_fit_01 _).1 | exact (e_fit_01 _).2 | (with_reducible refine vp_in_iff.mpr ?_; decide +kernel) | (with_reducible refine e_nz _ (by decide)) | decide | skip
        all_goals first | (exfalso; first | exact absurd ck (by with_reducible assumption) | exact ck (by with_reducible assumption) | exact absurd c1 (by with_reducible assumption) | exact c1 (by with_reducible assumption) | fail) | skip
        · show vf_n32 (FP.fmul (fU C P) FP.fconst2)
          rw [ef]; exact fU_nn h ⟨by omega, by omega⟩
        · refine e_kk (K := K) ?_
          show K 15 [some (.inr (.inr (.inl (fU C Q)))), some (.inr (.inr (.inl (FP.fmul (fU C P) FP.fconst2)))), some (.inl (nI (127 - k) + -1)), some (.inl (nI k + 1))] [] M 0 0
          rw [ef, ed, show nI k + 1 = nI (k + 1) from nI_add k 1]
          exact kk
      · obtain rfl : P = -23 := by omega
        have c1 : 0 ≤ Op.cmpValue (FP.fcmp (fU C (-23)) FP.fconst1) .g := by
          rw [f1_u, show FP.fcmp (fU C (-23)) (fU 8388608 (-23)) = _ from fc_1 h ⟨by omega, by omega⟩, if_neg c, if_pos rfl]
          obtain ⟨x1, x2⟩ := h
          by_cases z : C = 8388608
          · rw [z, show compare ((8388608 : Nat) : Int) 8388608 = .eq from Int.compare_eq_eq.mpr rfl]; decide
          · rw [show compare (C : Int) 8388608 = .gt from Int.compare_eq_gt.mpr (by omega)]; decide
        have bv := bit_v (Q := Q) (E := 127 - k) h ⟨by omega, by omega⟩ (by omega)
        have fv := ft_v h
        have n1 := fs_nn h
        have n2 := ft_nn h
        rw [← f1_u] at fv n1 n2
        rw [← f8_u] at fv n2
        have bv2 : nI (127 - k) <<< (23 &&& 31) + FP.Core.f2i (FP.Core.fmul (FP.Core.fsub (fU C (-23)) FP.fconst1) 1258291200) = (fU C Q).toInt32 := by
          rw [fv]; exact bv
        refine e_step rfl hc 60 [] ?_
        repeat' (first | (with_reducible (intro h9; exact absurd rfl h9)) | (with_reducible (intro h9; exact absurd h9 e_10)) | (with_reducible (intro h9; first | exact absurd e_00 h9 | exact absurd h9 e_n10 | exact absurd h9 e_n20 | exact absurd h9 e_n30)) | (with_reducible intro _) | (refine And.intro ?_ ?_) | (with_reducible refine e_sw_nil ?_) | fail)
        all_goals first | (exfalso; first | exact absurd ck (by with_reducible assumption) | exact ck (by with_reducible assumption) | exact absurd c1 (by with_reducible assumption) | exact c1 (by with_reducible assumption) | fail) | skip
        all_goals first | (with_reducible refine e_goK ?_) | (with_reducible refine e_ctK ?_) | (with_reducible refine vp_inK ?_; (try simp (disch := omega) only [mI_rM0, mI_rM1, mI_rM2, mI_rM3, mI_rM4, mI_rM5, mI_rM6, mI_rM7, mI_rM8, mI_rM9, mI_rM10, mI_rM11, mI_rM12, mI_rM13, sI_rM0, sI_rM1, sI_rM2, sI_rM3, sI_rM4, sI_rM5, sI_rM6, sI_rM7, sI_rM8, sI_rM9, sI_rM10, sI_rM11, sI_rM12, sI_rM13, ix_0, ix_1, ix_2, ix_3, ix_4, ix_5, ix_6, ix_7, ix_8, ix_9, ix_10, ix_11, ix_12, ix_13, ix_14, ix_15, ix_16, ix_20, ix_23, ix_24, ix_30, ix_36, ix_46, ix_76, mx_4, mx_6, mx_30, mx_136, mx_1100, mx_3324, xi_1, xi_30, nI_pred, eAt, zAt, tc_0, tc_1, tc_2, tc_3, tc_7, tc_15, tc_23, tc_30, nI_add, pk_mul, nI_clamp]); exact vp_in_nI (by omega) (by omega)) | rfl | exact trivial | exact Nat.zero_le _ | exact (e_fit_01 _).1 | exact (e_fit_01 _).2 | (with_reducible refine vp_in_iff.mpr ?_; decide +kernel) | (with_reducible refine e_nz _ (by decide)) | decide | skip
        all_goals first | (exfalso; first | exact absurd ck (by with_reducible assumption) | exact ck (by with_reducible assumption) | exact absurd c1 (by with_reducible assumption) | exact c1 (by with_reducible assumption) | fail) | skip
        · exact n1
        · exact n2
        · exact congrArg (fun z => (Sum.inl (some (Sum.inl z)) : EO)) bv2
  have key := loop 68 0 Q (by omega) (by omega) q2
  refine e_step rfl hc 60 [15] ?_
  repeat' (first | (with_reducible (intro h9; exact absurd rfl h9)) | (with_reducible (intro h9; exact absurd h9 e_10)) | (with_reducible (intro h9; first | exact absurd e_00 h9 | exact absurd h9 e_n10 | exact absurd h9 e_n20 | exact absurd h9 e_n30)) | (with_reducible intro _) | (refine And.intro ?_ ?_) | (with_reducible refine e_sw_nil ?_) | fail)
  all_goals first | (exfalso; first | exact absurd c0 (by with_reducible assumption) | exact c0 (by with_reducible assumption) | fail) | skip
  all_goals first | (with_reducible refine e_goK ?_) | (with_reducible refine e_ctK ?_) | (with_reducible refine vp_inK ?_; (try simp (disch := omega) only [mI_rM0, mI_rM1, mI_rM2, mI_rM3, mI_rM4, mI_rM5, mI_rM6, mI_rM7, mI_rM8, mI_rM9, mI_rM10, mI_rM11, mI_rM12, mI_rM13, sI_rM0, sI_rM1, sI_rM2, sI_rM3, sI_rM4, sI_rM5, sI_rM6, sI_rM7, sI_rM8, sI_rM9, sI_rM10, sI_rM11, sI_rM12, sI_rM13, ix_0, ix_1, ix_2, ix_3, ix_4, ix_5, ix_6, ix_7, ix_8, ix_9, ix_10, ix_11, ix_12, ix_13, ix_14, ix_15, ix_16, ix_20, ix_23, ix_24, ix_30, ix_36, ix_46, ix_76, mx_4, mx_6, mx_30, mx_136, mx_1100, mx_3324, xi_1, xi_30, nI_pred, eAt, zAt, tc_0, tc_1, tc_2, tc_3, tc_7, tc_15, tc_23, tc_30, nI_add, pk_mul, nI_clamp]); exact vp_in_nI (by omega) (by omega)) | rfl | exact trivial | exact Nat.zero_le _ | exact (e_fit_01 _).1 | exact (e_fit_01 _).2 | (with_reducible refine vp_in_iff.mpr ?_; decide +kernel) | (with_reducible refine e_nz _ (by decide)) | decide | skip
  all_goals first | (exfalso; first | exact absurd c0 (by with_reducible assumption) | exact c0 (by with_reducible assumption) | fail) | skip
  refine e_kk (K := K) ?_
  exact key
set_option maxRecDepth 20000 in
theorem cc_bits0 (hl0 : l.stackTraces = false) (M : EM) : Ct l g sg_X10_bitsOfShare [.inr (.inr (.inl 0))] M (fun o M' => M' = M ∧ o = .inl (some (.inl 0))) := by
  refine sem_of hl0 mt_X10_bitsOfShare ok_X10_bitsOfShare rfl (fun K hc hw => ?_)
  clear hw
  have c0 : ¬ 0 < Op.cmpValue (FP.fcmp 0 FP.fconst0) .l := by decide
  refine e_step rfl hc 60 [15] ?_
  repeat' (first | (with_reducible (intro h9; exact absurd rfl h9)) | (with_reducible (intro h9; exact absurd h9 e_10)) | (with_reducible (intro h9; first | exact absurd e_00 h9 | exact absurd h9 e_n10 | exact absurd h9 e_n20 | exact absurd h9 e_n30)) | (with_reducible intro _) | (refine And.intro ?_ ?_) | (with_reducible refine e_sw_nil ?_) | fail)
  all_goals first | (exfalso; first | exact absurd c0 (by with_reducible assumption) | exact c0 (by with_reducible assumption) | fail) | skip
  all_goals first | (with_reducible refine e_goK ?_) | (with_reducible refine e_ctK ?_) | (with_reducible refine vp_inK ?_; (try simp (disch := omega) only [mI_rM0, mI_rM1, mI_rM2, mI_rM3, mI_rM4, mI_rM5, mI_rM6, mI_rM7, mI_rM8, mI_rM9, mI_rM10, mI_rM11, mI_rM12, mI_rM13, sI_rM0, sI_rM1, sI_rM2, sI_rM3, sI_rM4, sI_rM5, sI_rM6, sI_rM7, sI_rM8, sI_rM9, sI_rM10, sI_rM11, sI_rM12, sI_rM13, ix_0, ix_1, ix_2, ix_3, ix_4, ix_5, ix_6, ix_7, ix_8, ix_9, ix_10, ix_11, ix_12, ix_13, ix_14, ix_15, ix_16, ix_20, ix_23, ix_24, ix_30, ix_36, ix_46, ix_76, mx_4, mx_6, mx_30, mx_136, mx_1100, mx_3324, xi_1, xi_30, nI_pred, eAt, zAt, tc_0, tc_1, tc_2, tc_3, tc_7, tc_15, tc_23, tc_30, nI_add, pk_mul, nI_clamp]); exact vp_in_nI (by omega) (by omega)) | rfl | exact trivial | exact Nat.zero_le _ | exact (e_fit_01 _).1 | exact (e_fit_01 _).2 | (with_reducible refine vp_in_iff.mpr ?_; decide +kernel) | (with_reducible refine e_nz _ (by decide)) | decide | skip
  all_goals first | (exfalso; first | exact absurd c0 (by with_reducible assumption) | exact c0 (by with_reducible assumption) | fail) | skip
theorem cc_bits (hl0 : l.stackTraces = false) (M : EM) {w : UInt32} (h : shOk w) : Ct l g sg_X10_bitsOfShare [.inr (.inr (.inl w))] M (fun o M' => M' = M ∧ o = .inl (some (.inl w.toInt32))) := by
  rcases h with rfl | ⟨C, Q, rfl, h1, h2, h3⟩
  · exact cc_bits0 hl0 M
  · exact cc_bits1 hl0 M h1 h2 h3
end
