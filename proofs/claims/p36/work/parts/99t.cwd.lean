/-! THE TEXT of the class: words. -/
section
variable {l : Launch} {g : EG}
theorem el_0 : e_len = [4, 6, 5, 5, 4, 5, 6, 5, 3, 4, 14, 16, 12, 12, 9, 12, 5, 0, 1, 11, 22, 6, 2, 2, 2, 2, 2, 2, 2, 7, 12, 7, 1, 7, 14] := by decide +kernel
theorem kdN_lt {B : Nat → Nat} {n t : Nat} : kdN B n t < 6 := by
  unfold kdN
  repeat' split
  all_goals omega
theorem kd_1 {B : Nat → Nat} {n t : Nat} : kdN B n t = 1 ↔ tLe B n t = true := by
  unfold kdN tLe
  by_cases h : t < n
  · rw [if_pos h]
    by_cases h2 : isLe (B t) = true
    · rw [if_pos h2]; simp [h, h2]
    · rw [if_neg h2]
      have e : (Nat.blt t n && isLe (B t)) = true ↔ False := by simp [h2]
      rw [e, iff_false]
      intro z
      repeat' (split at z)
      all_goals (cases z)
  · rw [if_neg h]; simp [h]
theorem tLe_n {B : Nat → Nat} {n t : Nat} (h : tLe B n t = true) : t < n := by unfold tLe at h; simp at h; exact h.1
/-- a word's number, forward -/
theorem tH_f {B : Nat → Nat} {n t : Nat} (cs : List Nat) (hl : ∀ c ∈ cs, isLe c = true) (h8 : cs.length ≤ 8) (h0 : cs ≠ []) : tH B n t = wHk cs.reverse ↔ (tLe B n t = true ∧ tE B n t - t = cs.length ∧ ∀ i, i < cs.length → B (t + i) = cs.getD i 0) := by
  rw [tH_w (fun c hc => hl c (List.mem_reverse.mp hc)) (by rw [List.length_reverse]; exact h8) (fun z => h0 (List.reverse_eq_nil_iff.mp z))]
  unfold isW
  rw [List.length_reverse]
  have e : ∀ i, i < cs.length → cs.reverse.getD (cs.length - 1 - i) 0 = cs.getD i 0 := by
    intro i hi
    rw [List.getD_eq_getElem?_getD, List.getD_eq_getElem?_getD, List.getElem?_reverse (by omega)]
    congr 2; omega
  refine and_congr Iff.rfl (and_congr Iff.rfl ⟨fun h i hi => (h i hi).trans (e i hi), fun h i hi => (h i hi).trans (e i hi).symm⟩)
theorem eb_0 : e_byt.getD 0 [] = [122, 111, 110, 101] := by decide +kernel
theorem eb_1 : e_byt.getD 1 [] = [115, 117, 109, 109, 101, 114] := by decide +kernel
theorem eb_2 : e_byt.getD 2 [] = [101, 118, 101, 110, 116] := by decide +kernel
theorem eb_3 : e_byt.getD 3 [] = [101, 118, 101, 114, 121] := by decide +kernel
theorem eb_4 : e_byt.getD 4 [] = [100, 97, 121, 115] := by decide +kernel
theorem eb_5 : e_byt.getD 5 [] = [119, 101, 101, 107, 115] := by decide +kernel
theorem eb_6 : e_byt.getD 6 [] = [109, 111, 110, 116, 104, 115] := by decide +kernel
theorem eb_7 : e_byt.getD 7 [] = [116, 105, 109, 101, 115] := by decide +kernel
theorem eb_8 : e_byt.getD 8 [] = [110, 111, 116] := by decide +kernel
theorem eb_9 : e_byt.getD 9 [] = [109, 111, 118, 101] := by decide +kernel
theorem eb_10 : e_byt.getD 10 [] = [109, 111, 116, 117, 119, 101, 116, 104, 102, 114, 115, 97, 115, 117] := by decide +kernel
set_option maxRecDepth 20000 in
theorem ct_isWord_0 (hl0 : l.stackTraces = false) (M : EM) {a n t s : Nat} {B : Nat → Nat} (f : Nat → Int32) (hT : TB M a B n) (h : CK B n t f) : Ct l g sg_X8_isWord [.inr (.inr (.inr (.inr (3, a)))), .inr (.inr (.inr (.inr (200, s))))] (tW M a f) (fun o M' => M' = tW M a f ∧ o = .inl (some (.inl (e_01 (tH B n t = 867781))))) := by
  refine sem_of hl0 mt_X8_isWord ok_X8_isWord rfl (fun K hc hw => ?_)
  clear hw
  have hW : tH B n t = 867781 ↔ _ := tH_f (B := B) (n := n) (t := t) [122, 111, 110, 101] (by decide) (by decide) (by decide)
  obtain ⟨f1, f22, f6, f3, htn, f5⟩ := h
  have n8 := hT.1
  by_cases hk : kdN B n t = 1
  case neg =>
    have c : ¬ mI (tW M a f) a 1 = 1 := by rw [tW_s, f1]; exact fun z => hk ((nI_eq (b := 1) (by have := kdN_lt (B := B) (n := n) (t := t); omega) (by omega)).mp z)
    have nW : ¬ tH B n t = 867781 := fun z => hk (kd_1.mpr (hW.mp z).1)
    refine e_step rfl hc 60 [8] ?_
    repeat' (first | (with_reducible (intro h9; exact absurd rfl h9)) | (with_reducible (intro h9; exact absurd h9 e_10)) | (with_reducible (intro h9; first | exact absurd e_00 h9 | exact absurd h9 e_n10 | exact absurd h9 e_n20 | exact absurd h9 e_n30)) | (with_reducible intro _) | (refine And.intro ?_ ?_) | (with_reducible refine e_sw_nil ?_) | fail)
    all_goals first | (exfalso; first | exact c (by assumption) | exact (by assumption : ¬ _) c | fail) | skip
    all_goals first | (with_reducible refine e_goK ?_) | (with_reducible refine e_ctK ?_) | (with_reducible refine vp_inK ?_; (try simp (disch := omega) only [mI_rM0, mI_rM1, mI_rM2, mI_rM3, mI_rM4, mI_rM5, mI_rM6, mI_rM7, mI_rM8, mI_rM9, mI_rM10, mI_rM11, mI_rM12, mI_rM13, sI_rM0, sI_rM1, sI_rM2, sI_rM3, sI_rM4, sI_rM5, sI_rM6, sI_rM7, sI_rM8, sI_rM9, sI_rM10, sI_rM11, sI_rM12, sI_rM13, ix_0, ix_1, ix_2, ix_3, ix_4, ix_5, ix_6, ix_7, ix_8, ix_9, ix_10, ix_11, ix_12, ix_13, ix_14, ix_15, ix_16, ix_20, ix_23, ix_24, ix_30, ix_36, ix_46, ix_76, mx_4, mx_6, mx_30, mx_136, mx_1100, mx_3324, xi_1, xi_30, nI_pred, eAt, zAt, tc_0, tc_1, tc_2, tc_3, tc_7, tc_15, tc_23, tc_30, nI_add, pk_mul, nI_clamp]); exact vp_in_nI (by omega) (by omega)) | rfl | exact trivial | exact Nat.zero_le _ | exact (e_fit_01 _).1 | exact (e_fit_01 _).2 | (with_reducible refine vp_in_iff.mpr ?_; decide +kernel) | (with_reducible refine e_nz _ (by decide)) | decide | skip
    all_goals (rw [e_01_f nW])
  have hle := kd_1.mp hk
  have htl := tLe_n hle
  have hE := tE_le (B := B) htl
  have x6 : f 6 = nI (tE B n t) := by rw [f6]; unfold tX; rw [if_pos htl]
  have c : mI (tW M a f) a 1 = 1 := by rw [tW_s, f1, hk]; rfl
  have hs : mI (tW M a f) a 6 - mI (tW M a f) a 2 = nI (tE B n t - t) := by rw [tW_s, tW_s, x6, f22]; exact pk_sub (by omega)
  have hlw : e_len.getD 0 0 = 4 := by rw [el_0]; rfl
  by_cases hlen : tE B n t - t = 4
  case neg =>
    have c2 : ¬ mI (tW M a f) a 6 - mI (tW M a f) a 2 = nI (e_len.getD 0 0) := by rw [hs, hlw]; exact fun z => hlen ((nI_eq (by omega) (by omega)).mp z)
    have nW : ¬ tH B n t = 867781 := fun z => hlen (hW.mp z).2.1
    refine e_step rfl hc 60 [28] ?_
    repeat' (first | (with_reducible (intro h9; exact absurd rfl h9)) | (with_reducible (intro h9; exact absurd h9 e_10)) | (with_reducible (intro h9; first | exact absurd e_00 h9 | exact absurd h9 e_n10 | exact absurd h9 e_n20 | exact absurd h9 e_n30)) | (with_reducible intro _) | (refine And.intro ?_ ?_) | (with_reducible refine e_sw_nil ?_) | fail)
    all_goals first | (exfalso; first | exact c (by assumption) | exact (by assumption : ¬ _) c | exact c2 (by assumption) | exact (by assumption : ¬ _) c2 | fail) | skip
    all_goals first | (with_reducible refine e_goK ?_) | (with_reducible refine e_ctK ?_) | (with_reducible refine vp_inK ?_; (try simp (disch := omega) only [mI_rM0, mI_rM1, mI_rM2, mI_rM3, mI_rM4, mI_rM5, mI_rM6, mI_rM7, mI_rM8, mI_rM9, mI_rM10, mI_rM11, mI_rM12, mI_rM13, sI_rM0, sI_rM1, sI_rM2, sI_rM3, sI_rM4, sI_rM5, sI_rM6, sI_rM7, sI_rM8, sI_rM9, sI_rM10, sI_rM11, sI_rM12, sI_rM13, ix_0, ix_1, ix_2, ix_3, ix_4, ix_5, ix_6, ix_7, ix_8, ix_9, ix_10, ix_11, ix_12, ix_13, ix_14, ix_15, ix_16, ix_20, ix_23, ix_24, ix_30, ix_36, ix_46, ix_76, mx_4, mx_6, mx_30, mx_136, mx_1100, mx_3324, xi_1, xi_30, nI_pred, eAt, zAt, tc_0, tc_1, tc_2, tc_3, tc_7, tc_15, tc_23, tc_30, nI_add, pk_mul, nI_clamp]); exact vp_in_nI (by omega) (by omega)) | rfl | exact trivial | exact Nat.zero_le _ | exact (e_fit_01 _).1 | exact (e_fit_01 _).2 | (with_reducible refine vp_in_iff.mpr ?_; decide +kernel) | (with_reducible refine e_nz _ (by decide)) | decide | skip
    all_goals first | (exfalso; first | exact c (by assumption) | exact (by assumption : ¬ _) c | exact c2 (by assumption) | exact (by assumption : ¬ _) c2 | fail) | skip
    all_goals (rw [e_01_f nW])
  have c2 : mI (tW M a f) a 6 - mI (tW M a f) a 2 = nI (e_len.getD 0 0) := by rw [hs, hlw, hlen]
  have loop : ∀ zn i, i + zn = 4 → (∀ j, j < i → B (t + j) = List.getD [122, 111, 110, 101] j 0) → K 28 [some (.inr (.inr (.inr (.inr (3, a))))), some (.inr (.inr (.inr (.inr (200, s))))), some (.inl (nI i))] [] (tW M a f) 0 0 := by
    intro zn
    induction zn with
    | zero =>
      intro i hi hm
      have cI : nI (e_len.getD 0 0) ≤ nI i := by rw [hlw]; exact (nI_leI (by omega) (by omega)).mpr (by omega)
      have yW : tH B n t = 867781 := hW.mpr ⟨hle, hlen, fun j hj => hm j (by have : j < 4 := hj; omega)⟩
      refine e_step rfl hc 60 [36] ?_
      repeat' (first | (with_reducible (intro h9; exact absurd rfl h9)) | (with_reducible (intro h9; exact absurd h9 e_10)) | (with_reducible (intro h9; first | exact absurd e_00 h9 | exact absurd h9 e_n10 | exact absurd h9 e_n20 | exact absurd h9 e_n30)) | (with_reducible intro _) | (refine And.intro ?_ ?_) | (with_reducible refine e_sw_nil ?_) | fail)
      all_goals first | (exfalso; first | exact cI (by assumption) | exact (by assumption : ¬ _) cI | fail) | skip
      all_goals first | (with_reducible refine e_goK ?_) | (with_reducible refine e_ctK ?_) | (with_reducible refine vp_inK ?_; (try simp (disch := omega) only [mI_rM0, mI_rM1, mI_rM2, mI_rM3, mI_rM4, mI_rM5, mI_rM6, mI_rM7, mI_rM8, mI_rM9, mI_rM10, mI_rM11, mI_rM12, mI_rM13, sI_rM0, sI_rM1, sI_rM2, sI_rM3, sI_rM4, sI_rM5, sI_rM6, sI_rM7, sI_rM8, sI_rM9, sI_rM10, sI_rM11, sI_rM12, sI_rM13, ix_0, ix_1, ix_2, ix_3, ix_4, ix_5, ix_6, ix_7, ix_8, ix_9, ix_10, ix_11, ix_12, ix_13, ix_14, ix_15, ix_16, ix_20, ix_23, ix_24, ix_30, ix_36, ix_46, ix_76, mx_4, mx_6, mx_30, mx_136, mx_1100, mx_3324, xi_1, xi_30, nI_pred, eAt, zAt, tc_0, tc_1, tc_2, tc_3, tc_7, tc_15, tc_23, tc_30, nI_add, pk_mul, nI_clamp]); exact vp_in_nI (by omega) (by omega)) | rfl | exact trivial | exact Nat.zero_le _ | exact (e_fit_01 _).1 | exact (e_fit_01 _).2 | (with_reducible refine vp_in_iff.mpr ?_; decide +kernel) | (with_reducible refine e_nz _ (by decide)) | decide | skip
      all_goals (rw [e_01_t yW])
    | succ zn ih =>
      intro i hi hm
      have cI : ¬ nI (e_len.getD 0 0) ≤ nI i := by rw [hlw]; exact fun z => absurd ((nI_leI (by omega) (by omega)).mp z) (by omega)
      have si : mI (tW M a f) a 2 + nI i = nI (t + i) := by rw [tW_s, f22, nI_add]
      have cE : ¬ mI (tW M a f) a 5 ≤ mI (tW M a f) a 2 + nI i := by rw [si, tW_s, f5]; exact fun z => absurd ((nI_leI (by omega) (by omega)).mp z) (by omega)
      have vq : vp_in (mI (tW M a f) a 2 + nI i) 800 := by rw [si]; exact vp_in_nI (by omega) (by omega)
      have vs : vp_in (nI i) (e_len.getD 0 0) := by rw [hlw]; exact vp_in_nI (by omega) (by omega)
      have hb : (e_byt.getD 0 []).getD (nI i).toNatClampNeg 0 = nI (List.getD [122, 111, 110, 101] i 0) := by
        rw [eb_0, nI_clamp (by omega)]
        have : ∀ i, i < 4 → List.getD ([122, 111, 110, 101] : List Int32) i 0 = nI (List.getD [122, 111, 110, 101] i 0) := by decide +kernel
        exact this i (by omega)
      have hc128 : List.getD [122, 111, 110, 101] i 0 < 128 := by
        have : ∀ i, i < 4 → List.getD [122, 111, 110, 101] i 0 < 128 := by decide +kernel
        exact this i (by omega)
      have bB := hT.2 (t + i) (by omega)
      have cB : mI (tW M a f) (a + 1) (mI (tW M a f) a 2 + nI i).toNatClampNeg = (e_byt.getD 0 []).getD (nI i).toNatClampNeg 0 ↔ B (t + i) = List.getD [122, 111, 110, 101] i 0 := by
        rw [hb, si, nI_clamp (by omega), tW_b, bB.1]; exact sB_eq bB.2 hc128
      have k36 : K 36 [some (.inr (.inr (.inr (.inr (3, a))))), some (.inr (.inr (.inr (.inr (200, s))))), some (.inl (nI i))] [] (tW M a f) 0 0 := by
        by_cases hq : B (t + i) = List.getD [122, 111, 110, 101] i 0
        · have kk := ih (i + 1) (by omega) (fun j hj => by
            by_cases q : j = i
            · subst q; exact hq
            · exact hm j (by omega))
          have cB1 := cB.mpr hq
          refine e_step rfl hc 60 [28] ?_
          repeat' (first | (with_reducible (intro h9; exact absurd rfl h9)) | (with_reducible (intro h9; exact absurd h9 e_10)) | (with_reducible (intro h9; first | exact absurd e_00 h9 | exact absurd h9 e_n10 | exact absurd h9 e_n20 | exact absurd h9 e_n30)) | (with_reducible intro _) | (refine And.intro ?_ ?_) | (with_reducible refine e_sw_nil ?_) | fail)
          all_goals first | (exfalso; first | exact cE (by assumption) | exact (by assumption : ¬ _) cE | exact cB1 (by assumption) | exact (by assumption : ¬ _) cB1 | fail) | skip
          all_goals first | (with_reducible refine e_goK ?_) | (with_reducible refine e_ctK ?_) | (with_reducible refine vp_inK ?_; (try simp (disch := omega) only [mI_rM0, mI_rM1, mI_rM2, mI_rM3, mI_rM4, mI_rM5, mI_rM6, mI_rM7, mI_rM8, mI_rM9, mI_rM10, mI_rM11, mI_rM12, mI_rM13, sI_rM0, sI_rM1, sI_rM2, sI_rM3, sI_rM4, sI_rM5, sI_rM6, sI_rM7, sI_rM8, sI_rM9, sI_rM10, sI_rM11, sI_rM12, sI_rM13, ix_0, ix_1, ix_2, ix_3, ix_4, ix_5, ix_6, ix_7, ix_8, ix_9, ix_10, ix_11, ix_12, ix_13, ix_14, ix_15, ix_16, ix_20, ix_23, ix_24, ix_30, ix_36, ix_46, ix_76, mx_4, mx_6, mx_30, mx_136, mx_1100, mx_3324, xi_1, xi_30, nI_pred, eAt, zAt, tc_0, tc_1, tc_2, tc_3, tc_7, tc_15, tc_23, tc_30, nI_add, pk_mul, nI_clamp]); exact vp_in_nI (by omega) (by omega)) | rfl | exact trivial | exact Nat.zero_le _ | exact (e_fit_01 _).1 | exact (e_fit_01 _).2 | (with_reducible refine vp_in_iff.mpr ?_; decide +kernel) | (with_reducible refine e_nz _ (by decide)) | decide | exact vq | exact vs | skip
          all_goals first | (exfalso; first | exact cE (by assumption) | exact (by assumption : ¬ _) cE | exact cB1 (by assumption) | exact (by assumption : ¬ _) cB1 | fail) | skip
          refine e_kk (K := K) ?_; refine e_kc (kk) (by (repeat' (first | (refine e_cc ?_ ?_) | (with_reducible rfl) | (simp (disch := omega) only [mI_rM0, mI_rM1, mI_rM2, mI_rM3, mI_rM4, mI_rM5, mI_rM6, mI_rM7, mI_rM8, mI_rM9, mI_rM10, mI_rM11, mI_rM12, mI_rM13, sI_rM0, sI_rM1, sI_rM2, sI_rM3, sI_rM4, sI_rM5, sI_rM6, sI_rM7, sI_rM8, sI_rM9, sI_rM10, sI_rM11, sI_rM12, sI_rM13, n_lit, ↓pk_rem, pk_div, pk_mul, pk_sub, nI_add, nI_clamp, nmod, Nat.add_sub_cancel, eAt, zAt, e_clI, e_clP]; done) | ((try simp (disch := omega) only [mI_rM0, mI_rM1, mI_rM2, mI_rM3, mI_rM4, mI_rM5, mI_rM6, mI_rM7, mI_rM8, mI_rM9, mI_rM10, mI_rM11, mI_rM12, mI_rM13, sI_rM0, sI_rM1, sI_rM2, sI_rM3, sI_rM4, sI_rM5, sI_rM6, sI_rM7, sI_rM8, sI_rM9, sI_rM10, sI_rM11, sI_rM12, sI_rM13, n_lit, ↓pk_rem, pk_div, pk_mul, pk_sub, nI_add, nI_clamp, nmod, Nat.add_sub_cancel, eAt, zAt, e_clI, e_clP]); exact e_cnI (by omega)) | rfl))) (by (repeat' (first | (refine e_cc ?_ ?_) | (with_reducible rfl) | (simp (disch := omega) only [mI_rM0, mI_rM1, mI_rM2, mI_rM3, mI_rM4, mI_rM5, mI_rM6, mI_rM7, mI_rM8, mI_rM9, mI_rM10, mI_rM11, mI_rM12, mI_rM13, sI_rM0, sI_rM1, sI_rM2, sI_rM3, sI_rM4, sI_rM5, sI_rM6, sI_rM7, sI_rM8, sI_rM9, sI_rM10, sI_rM11, sI_rM12, sI_rM13, n_lit, ↓pk_rem, pk_div, pk_mul, pk_sub, nI_add, nI_clamp, nmod, Nat.add_sub_cancel, eAt, zAt, e_clI, e_clP]; done) | ((try simp (disch := omega) only [mI_rM0, mI_rM1, mI_rM2, mI_rM3, mI_rM4, mI_rM5, mI_rM6, mI_rM7, mI_rM8, mI_rM9, mI_rM10, mI_rM11, mI_rM12, mI_rM13, sI_rM0, sI_rM1, sI_rM2, sI_rM3, sI_rM4, sI_rM5, sI_rM6, sI_rM7, sI_rM8, sI_rM9, sI_rM10, sI_rM11, sI_rM12, sI_rM13, n_lit, ↓pk_rem, pk_div, pk_mul, pk_sub, nI_add, nI_clamp, nmod, Nat.add_sub_cancel, eAt, zAt, e_clI, e_clP]); exact e_cnI (by omega)) | rfl))) (by first | (with_reducible rfl) | (simp (disch := omega) only [mI_rM0, mI_rM1, mI_rM2, mI_rM3, mI_rM4, mI_rM5, mI_rM6, mI_rM7, mI_rM8, mI_rM9, mI_rM10, mI_rM11, mI_rM12, mI_rM13, sI_rM0, sI_rM1, sI_rM2, sI_rM3, sI_rM4, sI_rM5, sI_rM6, sI_rM7, sI_rM8, sI_rM9, sI_rM10, sI_rM11, sI_rM12, sI_rM13, n_lit, ↓pk_rem, pk_div, pk_mul, pk_sub, nI_add, nI_clamp, nmod, Nat.add_sub_cancel, eAt, zAt, e_clI, e_clP]; done) | rfl | fail)
        · have nW : ¬ tH B n t = 867781 := fun z => hq ((hW.mp z).2.2 i (by show i < 4; omega))
          have cB0 := fun z => hq (cB.mp z)
          refine e_step rfl hc 60 [28] ?_
          repeat' (first | (with_reducible (intro h9; exact absurd rfl h9)) | (with_reducible (intro h9; exact absurd h9 e_10)) | (with_reducible (intro h9; first | exact absurd e_00 h9 | exact absurd h9 e_n10 | exact absurd h9 e_n20 | exact absurd h9 e_n30)) | (with_reducible intro _) | (refine And.intro ?_ ?_) | (with_reducible refine e_sw_nil ?_) | fail)
          all_goals first | (exfalso; first | exact cE (by assumption) | exact (by assumption : ¬ _) cE | exact cB0 (by assumption) | exact (by assumption : ¬ _) cB0 | fail) | skip
          all_goals first | (with_reducible refine e_goK ?_) | (with_reducible refine e_ctK ?_) | (with_reducible refine vp_inK ?_; (try simp (disch := omega) only [mI_rM0, mI_rM1, mI_rM2, mI_rM3, mI_rM4, mI_rM5, mI_rM6, mI_rM7, mI_rM8, mI_rM9, mI_rM10, mI_rM11, mI_rM12, mI_rM13, sI_rM0, sI_rM1, sI_rM2, sI_rM3, sI_rM4, sI_rM5, sI_rM6, sI_rM7, sI_rM8, sI_rM9, sI_rM10, sI_rM11, sI_rM12, sI_rM13, ix_0, ix_1, ix_2, ix_3, ix_4, ix_5, ix_6, ix_7, ix_8, ix_9, ix_10, ix_11, ix_12, ix_13, ix_14, ix_15, ix_16, ix_20, ix_23, ix_24, ix_30, ix_36, ix_46, ix_76, mx_4, mx_6, mx_30, mx_136, mx_1100, mx_3324, xi_1, xi_30, nI_pred, eAt, zAt, tc_0, tc_1, tc_2, tc_3, tc_7, tc_15, tc_23, tc_30, nI_add, pk_mul, nI_clamp]); exact vp_in_nI (by omega) (by omega)) | rfl | exact trivial | exact Nat.zero_le _ | exact (e_fit_01 _).1 | exact (e_fit_01 _).2 | (with_reducible refine vp_in_iff.mpr ?_; decide +kernel) | (with_reducible refine e_nz _ (by decide)) | decide | exact vq | exact vs | skip
          all_goals first | (exfalso; first | exact cE (by assumption) | exact (by assumption : ¬ _) cE | exact cB0 (by assumption) | exact (by assumption : ¬ _) cB0 | fail) | skip
          all_goals first | (rw [e_01_f nW]; done) | skip
      refine e_step rfl hc 60 [36] ?_
      repeat' (first | (with_reducible (intro h9; exact absurd rfl h9)) | (with_reducible (intro h9; exact absurd h9 e_10)) | (with_reducible (intro h9; first | exact absurd e_00 h9 | exact absurd h9 e_n10 | exact absurd h9 e_n20 | exact absurd h9 e_n30)) | (with_reducible intro _) | (refine And.intro ?_ ?_) | (with_reducible refine e_sw_nil ?_) | fail)
      all_goals first | (exfalso; first | exact cI (by assumption) | exact (by assumption : ¬ _) cI | fail) | skip
      all_goals first | (with_reducible refine e_goK ?_) | (with_reducible refine e_ctK ?_) | (with_reducible refine vp_inK ?_; (try simp (disch := omega) only [mI_rM0, mI_rM1, mI_rM2, mI_rM3, mI_rM4, mI_rM5, mI_rM6, mI_rM7, mI_rM8, mI_rM9, mI_rM10, mI_rM11, mI_rM12, mI_rM13, sI_rM0, sI_rM1, sI_rM2, sI_rM3, sI_rM4, sI_rM5, sI_rM6, sI_rM7, sI_rM8, sI_rM9, sI_rM10, sI_rM11, sI_rM12, sI_rM13, ix_0, ix_1, ix_2, ix_3, ix_4, ix_5, ix_6, ix_7, ix_8, ix_9, ix_10, ix_11, ix_12, ix_13, ix_14, ix_15, ix_16, ix_20, ix_23, ix_24, ix_30, ix_36, ix_46, ix_76, mx_4, mx_6, mx_30, mx_136, mx_1100, mx_3324, xi_1, xi_30, nI_pred, eAt, zAt, tc_0, tc_1, tc_2, tc_3, tc_7, tc_15, tc_23, tc_30, nI_add, pk_mul, nI_clamp]); exact vp_in_nI (by omega) (by omega)) | rfl | exact trivial | exact Nat.zero_le _ | exact (e_fit_01 _).1 | exact (e_fit_01 _).2 | (with_reducible refine vp_in_iff.mpr ?_; decide +kernel) | (with_reducible refine e_nz _ (by decide)) | decide | skip
      exact k36
  have key := loop 4 0 (by omega) (fun j hj => absurd hj (Nat.not_lt_zero _))
  refine e_step rfl hc 60 [28] ?_
  repeat' (first | (with_reducible (intro h9; exact absurd rfl h9)) | (with_reducible (intro h9; exact absurd h9 e_10)) | (with_reducible (intro h9; first | exact absurd e_00 h9 | exact absurd h9 e_n10 | exact absurd h9 e_n20 | exact absurd h9 e_n30)) | (with_reducible intro _) | (refine And.intro ?_ ?_) | (with_reducible refine e_sw_nil ?_) | fail)
  all_goals first | (exfalso; first | exact c (by assumption) | exact (by assumption : ¬ _) c | exact c2 (by assumption) | exact (by assumption : ¬ _) c2 | fail) | skip
  all_goals first | (with_reducible refine e_goK ?_) | (with_reducible refine e_ctK ?_) | (with_reducible refine vp_inK ?_; (try simp (disch := omega) only [mI_rM0, mI_rM1, mI_rM2, mI_rM3, mI_rM4, mI_rM5, mI_rM6, mI_rM7, mI_rM8, mI_rM9, mI_rM10, mI_rM11, mI_rM12, mI_rM13, sI_rM0, sI_rM1, sI_rM2, sI_rM3, sI_rM4, sI_rM5, sI_rM6, sI_rM7, sI_rM8, sI_rM9, sI_rM10, sI_rM11, sI_rM12, sI_rM13, ix_0, ix_1, ix_2, ix_3, ix_4, ix_5, ix_6, ix_7, ix_8, ix_9, ix_10, ix_11, ix_12, ix_13, ix_14, ix_15, ix_16, ix_20, ix_23, ix_24, ix_30, ix_36, ix_46, ix_76, mx_4, mx_6, mx_30, mx_136, mx_1100, mx_3324, xi_1, xi_30, nI_pred, eAt, zAt, tc_0, tc_1, tc_2, tc_3, tc_7, tc_15, tc_23, tc_30, nI_add, pk_mul, nI_clamp]); exact vp_in_nI (by omega) (by omega)) | rfl | exact trivial | exact Nat.zero_le _ | exact (e_fit_01 _).1 | exact (e_fit_01 _).2 | (with_reducible refine vp_in_iff.mpr ?_; decide +kernel) | (with_reducible refine e_nz _ (by decide)) | decide | skip
  all_goals first | (exfalso; first | exact c (by assumption) | exact (by assumption : ¬ _) c | exact c2 (by assumption) | exact (by assumption : ¬ _) c2 | fail) | skip
  exact key
set_option maxRecDepth 20000 in
theorem ct_isWord_1 (hl0 : l.stackTraces = false) (M : EM) {a n t s : Nat} {B : Nat → Nat} (f : Nat → Int32) (hT : TB M a B n) (h : CK B n t f) : Ct l g sg_X8_isWord [.inr (.inr (.inr (.inr (3, a)))), .inr (.inr (.inr (.inr (201, s))))] (tW M a f) (fun o M' => M' = tW M a f ∧ o = .inl (some (.inl (e_01 (tH B n t = 659993778))))) := by
  refine sem_of hl0 mt_X8_isWord ok_X8_isWord rfl (fun K hc hw => ?_)
  clear hw
  have hW : tH B n t = 659993778 ↔ _ := tH_f (B := B) (n := n) (t := t) [115, 117, 109, 109, 101, 114] (by decide) (by decide) (by decide)
  obtain ⟨f1, f22, f6, f3, htn, f5⟩ := h
  have n8 := hT.1
  by_cases hk : kdN B n t = 1
  case neg =>
    have c : ¬ mI (tW M a f) a 1 = 1 := by rw [tW_s, f1]; exact fun z => hk ((nI_eq (b := 1) (by have := kdN_lt (B := B) (n := n) (t := t); omega) (by omega)).mp z)
    have nW : ¬ tH B n t = 659993778 := fun z => hk (kd_1.mpr (hW.mp z).1)
    refine e_step rfl hc 60 [8] ?_
    repeat' (first | (with_reducible (intro h9; exact absurd rfl h9)) | (with_reducible (intro h9; exact absurd h9 e_10)) | (with_reducible (intro h9; first | exact absurd e_00 h9 | exact absurd h9 e_n10 | exact absurd h9 e_n20 | exact absurd h9 e_n30)) | (with_reducible intro _) | (refine And.intro ?_ ?_) | (with_reducible refine e_sw_nil ?_) | fail)
    all_goals first | (exfalso; first | exact c (by assumption) | exact (by assumption : ¬ _) c | fail) | skip
    all_goals first | (with_reducible refine e_goK ?_) | (with_reducible refine e_ctK ?_) | (with_reducible refine vp_inK ?_; (try simp (disch := omega) only [mI_rM0, mI_rM1, mI_rM2, mI_rM3, mI_rM4, mI_rM5, mI_rM6, mI_rM7, mI_rM8, mI_rM9, mI_rM10, mI_rM11, mI_rM12, mI_rM13, sI_rM0, sI_rM1, sI_rM2, sI_rM3, sI_rM4, sI_rM5, sI_rM6, sI_rM7, sI_rM8, sI_rM9, sI_rM10, sI_rM11, sI_rM12, sI_rM13, ix_0, ix_1, ix_2, ix_3, ix_4, ix_5, ix_6, ix_7, ix_8, ix_9, ix_10, ix_11, ix_12, ix_13, ix_14, ix_15, ix_16, ix_20, ix_23, ix_24, ix_30, ix_36, ix_46, ix_76, mx_4, mx_6, mx_30, mx_136, mx_1100, mx_3324, xi_1, xi_30, nI_pred, eAt, zAt, tc_0, tc_1, tc_2, tc_3, tc_7, tc_15, tc_23, tc_30, nI_add, pk_mul, nI_clamp]); exact vp_in_nI (by omega) (by omega)) | rfl | exact trivial | exact Nat.zero_le _ | exact (e_fit_01 _).1 | exact (e_fit_01 _).2 | (with_reducible refine vp_in_iff.mpr ?_; decide +kernel) | (with_reducible refine e_nz _ (by decide)) | decide | skip
    all_goals (rw [e_01_f nW])
  have hle := kd_1.mp hk
  have htl := tLe_n hle
  have hE := tE_le (B := B) htl
  have x6 : f 6 = nI (tE B n t) := by rw [f6]; unfold tX; rw [if_pos htl]
  have c : mI (tW M a f) a 1 = 1 := by rw [tW_s, f1, hk]; rfl
  have hs : mI (tW M a f) a 6 - mI (tW M a f) a 2 = nI (tE B n t - t) := by rw [tW_s, tW_s, x6, f22]; exact pk_sub (by omega)
  have hlw : e_len.getD 1 0 = 6 := by rw [el_0]; rfl
  by_cases hlen : tE B n t - t = 6
  case neg =>
    have c2 : ¬ mI (tW M a f) a 6 - mI (tW M a f) a 2 = nI (e_len.getD 1 0) := by rw [hs, hlw]; exact fun z => hlen ((nI_eq (by omega) (by omega)).mp z)
    have nW : ¬ tH B n t = 659993778 := fun z => hlen (hW.mp z).2.1
    refine e_step rfl hc 60 [28] ?_
    repeat' (first | (with_reducible (intro h9; exact absurd rfl h9)) | (with_reducible (intro h9; exact absurd h9 e_10)) | (with_reducible (intro h9; first | exact absurd e_00 h9 | exact absurd h9 e_n10 | exact absurd h9 e_n20 | exact absurd h9 e_n30)) | (with_reducible intro _) | (refine And.intro ?_ ?_) | (with_reducible refine e_sw_nil ?_) | fail)
    all_goals first | (exfalso; first | exact c (by assumption) | exact (by assumption : ¬ _) c | exact c2 (by assumption) | exact (by assumption : ¬ _) c2 | fail) | skip
    all_goals first | (with_reducible refine e_goK ?_) | (with_reducible refine e_ctK ?_) | (with_reducible refine vp_inK ?_; (try simp (disch := omega) only [mI_rM0, mI_rM1, mI_rM2, mI_rM3, mI_rM4, mI_rM5, mI_rM6, mI_rM7, mI_rM8, mI_rM9, mI_rM10, mI_rM11, mI_rM12, mI_rM13, sI_rM0, sI_rM1, sI_rM2, sI_rM3, sI_rM4, sI_rM5, sI_rM6, sI_rM7, sI_rM8, sI_rM9, sI_rM10, sI_rM11, sI_rM12, sI_rM13, ix_0, ix_1, ix_2, ix_3, ix_4, ix_5, ix_6, ix_7, ix_8, ix_9, ix_10, ix_11, ix_12, ix_13, ix_14, ix_15, ix_16, ix_20, ix_23, ix_24, ix_30, ix_36, ix_46, ix_76, mx_4, mx_6, mx_30, mx_136, mx_1100, mx_3324, xi_1, xi_30, nI_pred, eAt, zAt, tc_0, tc_1, tc_2, tc_3, tc_7, tc_15, tc_23, tc_30, nI_add, pk_mul, nI_clamp]); exact vp_in_nI (by omega) (by omega)) | rfl | exact trivial | exact Nat.zero_le _ | exact (e_fit_01 _).1 | exact (e_fit_01 _).2 | (with_reducible refine vp_in_iff.mpr ?_; decide +kernel) | (with_reducible refine e_nz _ (by decide)) | decide | skip
    all_goals first | (exfalso; first | exact c (by assumption) | exact (by assumption : ¬ _) c | exact c2 (by assumption) | exact (by assumption : ¬ _) c2 | fail) | skip
    all_goals (rw [e_01_f nW])
  have c2 : mI (tW M a f) a 6 - mI (tW M a f) a 2 = nI (e_len.getD 1 0) := by rw [hs, hlw, hlen]
  have loop : ∀ zn i, i + zn = 6 → (∀ j, j < i → B (t + j) = List.getD [115, 117, 109, 109, 101, 114] j 0) → K 28 [some (.inr (.inr (.inr (.inr (3, a))))), some (.inr (.inr (.inr (.inr (201, s))))), some (.inl (nI i))] [] (tW M a f) 0 0 := by
    intro zn
    induction zn with
    | zero =>
      intro i hi hm
      have cI : nI (e_len.getD 1 0) ≤ nI i := by rw [hlw]; exact (nI_leI (by omega) (by omega)).mpr (by omega)
      have yW : tH B n t = 659993778 := hW.mpr ⟨hle, hlen, fun j hj => hm j (by have : j < 6 := hj; omega)⟩
      refine e_step rfl hc 60 [36] ?_
      repeat' (first | (with_reducible (intro h9; exact absurd rfl h9)) | (with_reducible (intro h9; exact absurd h9 e_10)) | (with_reducible (intro h9; first | exact absurd e_00 h9 | exact absurd h9 e_n10 | exact absurd h9 e_n20 | exact absurd h9 e_n30)) | (with_reducible intro _) | (refine And.intro ?_ ?_) | (with_reducible refine e_sw_nil ?_) | fail)
      all_goals first | (exfalso; first | exact cI (by assumption) | exact (by assumption : ¬ _) cI | fail) | skip
      all_goals first | (with_reducible refine e_goK ?_) | (with_reducible refine e_ctK ?_) | (with_reducible refine vp_inK ?_; (try simp (disch := omega) only [mI_rM0, mI_rM1, mI_rM2, mI_rM3, mI_rM4, mI_rM5, mI_rM6, mI_rM7, mI_rM8, mI_rM9, mI_rM10, mI_rM11, mI_rM12, mI_rM13, sI_rM0, sI_rM1, sI_rM2, sI_rM3, sI_rM4, sI_rM5, sI_rM6, sI_rM7, sI_rM8, sI_rM9, sI_rM10, sI_rM11, sI_rM12, sI_rM13, ix_0, ix_1, ix_2, ix_3, ix_4, ix_5, ix_6, ix_7, ix_8, ix_9, ix_10, ix_11, ix_12, ix_13, ix_14, ix_15, ix_16, ix_20, ix_23, ix_24, ix_30, ix_36, ix_46, ix_76, mx_4, mx_6, mx_30, mx_136, mx_1100, mx_3324, xi_1, xi_30, nI_pred, eAt, zAt, tc_0, tc_1, tc_2, tc_3, tc_7, tc_15, tc_23, tc_30, nI_add, pk_mul, nI_clamp]); exact vp_in_nI (by omega) (by omega)) | rfl | exact trivial | exact Nat.zero_le _ | exact (e_fit_01 _).1 | exact (e_fit_01 _).2 | (with_reducible refine vp_in_iff.mpr ?_; decide +kernel) | (with_reducible refine e_nz _ (by decide)) | decide | skip
      all_goals (rw [e_01_t yW])
    | succ zn ih =>
      intro i hi hm
      have cI : ¬ nI (e_len.getD 1 0) ≤ nI i := by rw [hlw]; exact fun z => absurd ((nI_leI (by omega) (by omega)).mp z) (by omega)
      have si : mI (tW M a f) a 2 + nI i = nI (t + i) := by rw [tW_s, f22, nI_add]
      have cE : ¬ mI (tW M a f) a 5 ≤ mI (tW M a f) a 2 + nI i := by rw [si, tW_s, f5]; exact fun z => absurd ((nI_leI (by omega) (by omega)).mp z) (by omega)
      have vq : vp_in (mI (tW M a f) a 2 + nI i) 800 := by rw [si]; exact vp_in_nI (by omega) (by omega)
      have vs : vp_in (nI i) (e_len.getD 1 0) := by rw [hlw]; exact vp_in_nI (by omega) (by omega)
      have hb : (e_byt.getD 1 []).getD (nI i).toNatClampNeg 0 = nI (List.getD [115, 117, 109, 109, 101, 114] i 0) := by
        rw [eb_1, nI_clamp (by omega)]
        have : ∀ i, i < 6 → List.getD ([115, 117, 109, 109, 101, 114] : List Int32) i 0 = nI (List.getD [115, 117, 109, 109, 101, 114] i 0) := by decide +kernel
        exact this i (by omega)
      have hc128 : List.getD [115, 117, 109, 109, 101, 114] i 0 < 128 := by
        have : ∀ i, i < 6 → List.getD [115, 117, 109, 109, 101, 114] i 0 < 128 := by decide +kernel
        exact this i (by omega)
      have bB := hT.2 (t + i) (by omega)
      have cB : mI (tW M a f) (a + 1) (mI (tW M a f) a 2 + nI i).toNatClampNeg = (e_byt.getD 1 []).getD (nI i).toNatClampNeg 0 ↔ B (t + i) = List.getD [115, 117, 109, 109, 101, 114] i 0 := by
        rw [hb, si, nI_clamp (by omega), tW_b, bB.1]; exact sB_eq bB.2 hc128
      have k36 : K 36 [some (.inr (.inr (.inr (.inr (3, a))))), some (.inr (.inr (.inr (.inr (201, s))))), some (.inl (nI i))] [] (tW M a f) 0 0 := by
        by_cases hq : B (t + i) = List.getD [115, 117, 109, 109, 101, 114] i 0
        · have kk := ih (i + 1) (by omega) (fun j hj => by
            by_cases q : j = i
            · subst q; exact hq
            · exact hm j (by omega))
          have cB1 := cB.mpr hq
          refine e_step rfl hc 60 [28] ?_
          repeat' (first | (with_reducible (intro h9; exact absurd rfl h9)) | (with_reducible (intro h9; exact absurd h9 e_10)) | (with_reducible (intro h9; first | exact absurd e_00 h9 | exact absurd h9 e_n10 | exact absurd h9 e_n20 | exact absurd h9 e_n30)) | (with_reducible intro _) | (refine And.intro ?_ ?_) | (with_reducible refine e_sw_nil ?_) | fail)
          all_goals first | (exfalso; first | exact cE (by assumption) | exact (by assumption : ¬ _) cE | exact cB1 (by assumption) | exact (by assumption : ¬ _) cB1 | fail) | skip
          all_goals first | (with_reducible refine e_goK ?_) | (with_reducible refine e_ctK ?_) | (with_reducible refine vp_inK ?_; (try simp (disch := omega) only [mI_rM0, mI_rM1, mI_rM2, mI_rM3, mI_rM4, mI_rM5, mI_rM6, mI_rM7, mI_rM8, mI_rM9, mI_rM10, mI_rM11, mI_rM12, mI_rM13, sI_rM0, sI_rM1, sI_rM2, sI_rM3, sI_rM4, sI_rM5, sI_rM6, sI_rM7, sI_rM8, sI_rM9, sI_rM10, sI_rM11, sI_rM12, sI_rM13, ix_0, ix_1, ix_2, ix_3, ix_4, ix_5, ix_6, ix_7, ix_8, ix_9, ix_10, ix_11, ix_12, ix_13, ix_14, ix_15, ix_16, ix_20, ix_23, ix_24, ix_30, ix_36, ix_46, ix_76, mx_4, mx_6, mx_30, mx_136, mx_1100, mx_3324, xi_1, xi_30, nI_pred, eAt, zAt, tc_0, tc_1, tc_2, tc_3, tc_7, tc_15, tc_23, tc_30, nI_add, pk_mul, nI_clamp]); exact vp_in_nI (by omega) (by omega)) | rfl | exact trivial | exact Nat.zero_le _ | exact (e_fit_01 _).1 | exact (e_fit_01 _).2 | (with_reducible refine vp_in_iff.mpr ?_; decide +kernel) | (with_reducible refine e_nz _ (by decide)) | decide | exact vq | exact vs | skip
          all_goals first | (exfalso; first | exact cE (by assumption) | exact (by assumption : ¬ _) cE | exact cB1 (by assumption) | exact (by assumption : ¬ _) cB1 | fail) | skip
          refine e_kk (K := K) ?_; refine e_kc (kk) (by (repeat' (first | (refine e_cc ?_ ?_) | (with_reducible rfl) | (simp (disch := omega) only [mI_rM0, mI_rM1, mI_rM2, mI_rM3, mI_rM4, mI_rM5, mI_rM6, mI_rM7, mI_rM8, mI_rM9, mI_rM10, mI_rM11, mI_rM12, mI_rM13, sI_rM0, sI_rM1, sI_rM2, sI_rM3, sI_rM4, sI_rM5, sI_rM6, sI_rM7, sI_rM8, sI_rM9, sI_rM10, sI_rM11, sI_rM12, sI_rM13, n_lit, ↓pk_rem, pk_div, pk_mul, pk_sub, nI_add, nI_clamp, nmod, Nat.add_sub_cancel, eAt, zAt, e_clI, e_clP]; done) | ((try simp (disch := omega) only [mI_rM0, mI_rM1, mI_rM2, mI_rM3, mI_rM4, mI_rM5, mI_rM6, mI_rM7, mI_rM8, mI_rM9, mI_rM10, mI_rM11, mI_rM12, mI_rM13, sI_rM0, sI_rM1, sI_rM2, sI_rM3, sI_rM4, sI_rM5, sI_rM6, sI_rM7, sI_rM8, sI_rM9, sI_rM10, sI_rM11, sI_rM12, sI_rM13, n_lit, ↓pk_rem, pk_div, pk_mul, pk_sub, nI_add, nI_clamp, nmod, Nat.add_sub_cancel, eAt, zAt, e_clI, e_clP]); exact e_cnI (by omega)) | rfl))) (by (repeat' (first | (refine e_cc ?_ ?_) | (with_reducible rfl) | (simp (disch := omega) only [mI_rM0, mI_rM1, mI_rM2, mI_rM3, mI_rM4, mI_rM5, mI_rM6, mI_rM7, mI_rM8, mI_rM9, mI_rM10, mI_rM11, mI_rM12, mI_rM13, sI_rM0, sI_rM1, sI_rM2, sI_rM3, sI_rM4, sI_rM5, sI_rM6, sI_rM7, sI_rM8, sI_rM9, sI_rM10, sI_rM11, sI_rM12, sI_rM13, n_lit, ↓pk_rem, pk_div, pk_mul, pk_sub, nI_add, nI_clamp, nmod, Nat.add_sub_cancel, eAt, zAt, e_clI, e_clP]; done) | ((try simp (disch := omega) only [mI_rM0, mI_rM1, mI_rM2, mI_rM3, mI_rM4, mI_rM5, mI_rM6, mI_rM7, mI_rM8, mI_rM9, mI_rM10, mI_rM11, mI_rM12, mI_rM13, sI_rM0, sI_rM1, sI_rM2, sI_rM3, sI_rM4, sI_rM5, sI_rM6, sI_rM7, sI_rM8, sI_rM9, sI_rM10, sI_rM11, sI_rM12, sI_rM13, n_lit, ↓pk_rem, pk_div, pk_mul, pk_sub, nI_add, nI_clamp, nmod, Nat.add_sub_cancel, eAt, zAt, e_clI, e_clP]); exact e_cnI (by omega)) | rfl))) (by first | (with_reducible rfl) | (simp (disch := omega) only [mI_rM0, mI_rM1, mI_rM2, mI_rM3, mI_rM4, mI_rM5, mI_rM6, mI_rM7, mI_rM8, mI_rM9, mI_rM10, mI_rM11, mI_rM12, mI_rM13, sI_rM0, sI_rM1, sI_rM2, sI_rM3, sI_rM4, sI_rM5, sI_rM6, sI_rM7, sI_rM8, sI_rM9, sI_rM10, sI_rM11, sI_rM12, sI_rM13, n_lit, ↓pk_rem, pk_div, pk_mul, pk_sub, nI_add, nI_clamp, nmod, Nat.add_sub_cancel, eAt, zAt, e_clI, e_clP]; done) | rfl | fail)
        · have nW : ¬ tH B n t = 659993778 := fun z => hq ((hW.mp z).2.2 i (by show i < 6; omega))
          have cB0 := fun z => hq (cB.mp z)
          refine e_step rfl hc 60 [28] ?_
          repeat' (first | (with_reducible (intro h9; exact absurd rfl h9)) | (with_reducible (intro h9; exact absurd h9 e_10)) | (with_reducible (intro h9; first | exact absurd e_00 h9 | exact absurd h9 e_n10 | exact absurd h9 e_n20 | exact absurd h9 e_n30)) | (with_reducible intro _) | (refine And.intro ?_ ?_) | (with_reducible refine e_sw_nil ?_) | fail)
          all_goals first | (exfalso; first | exact cE (by assumption) | exact (by assumption : ¬ _) cE | exact cB0 (by assumption) | exact (by assumption : ¬ _) cB0 | fail) | skip
          all_goals first | (with_reducible refine e_goK ?_) | (with_reducible refine e_ctK ?_) | (with_reducible refine vp_inK ?_; (try simp (disch := omega) only [mI_rM0, mI_rM1, mI_rM2, mI_rM3, mI_rM4, mI_rM5, mI_rM6, mI_rM7, mI_rM8, mI_rM9, mI_rM10, mI_rM11, mI_rM12, mI_rM13, sI_rM0, sI_rM1, sI_rM2, sI_rM3, sI_rM4, sI_rM5, sI_rM6, sI_rM7, sI_rM8, sI_rM9, sI_rM10, sI_rM11, sI_rM12, sI_rM13, ix_0, ix_1, ix_2, ix_3, ix_4, ix_5, ix_6, ix_7, ix_8, ix_9, ix_10, ix_11, ix_12, ix_13, ix_14, ix_15, ix_16, ix_20, ix_23, ix_24, ix_30, ix_36, ix_46, ix_76, mx_4, mx_6, mx_30, mx_136, mx_1100, mx_3324, xi_1, xi_30, nI_pred, eAt, zAt, tc_0, tc_1, tc_2, tc_3, tc_7, tc_15, tc_23, tc_30, nI_add, pk_mul, nI_clamp]); exact vp_in_nI (by omega) (by omega)) | rfl | exact trivial | exact Nat.zero_le _ | exact (e_fit_01 _).1 | exact (e_fit_01 _).2 | (with_reducible refine vp_in_iff.mpr ?_; decide +kernel) | (with_reducible refine e_nz _ (by decide)) | decide | exact vq | exact vs | skip
          all_goals first | (exfalso; first | exact cE (by assumption) | exact (by assumption : ¬ _) cE | exact cB0 (by assumption) | exact (by assumption : ¬ _) cB0 | fail) | skip
          all_goals first | (rw [e_01_f nW]; done) | skip
      refine e_step rfl hc 60 [36] ?_
      repeat' (first | (with_reducible (intro h9; exact absurd rfl h9)) | (with_reducible (intro h9; exact absurd h9 e_10)) | (with_reducible (intro h9; first | exact absurd e_00 h9 | exact absurd h9 e_n10 | exact absurd h9 e_n20 | exact absurd h9 e_n30)) | (with_reducible intro _) | (refine And.intro ?_ ?_) | (with_reducible refine e_sw_nil ?_) | fail)
      all_goals first | (exfalso; first | exact cI (by assumption) | exact (by assumption : ¬ _) cI | fail) | skip
      all_goals first | (with_reducible refine e_goK ?_) | (with_reducible refine e_ctK ?_) | (with_reducible refine vp_inK ?_; (try simp (disch := omega) only [mI_rM0, mI_rM1, mI_rM2, mI_rM3, mI_rM4, mI_rM5, mI_rM6, mI_rM7, mI_rM8, mI_rM9, mI_rM10, mI_rM11, mI_rM12, mI_rM13, sI_rM0, sI_rM1, sI_rM2, sI_rM3, sI_rM4, sI_rM5, sI_rM6, sI_rM7, sI_rM8, sI_rM9, sI_rM10, sI_rM11, sI_rM12, sI_rM13, ix_0, ix_1, ix_2, ix_3, ix_4, ix_5, ix_6, ix_7, ix_8, ix_9, ix_10, ix_11, ix_12, ix_13, ix_14, ix_15, ix_16, ix_20, ix_23, ix_24, ix_30, ix_36, ix_46, ix_76, mx_4, mx_6, mx_30, mx_136, mx_1100, mx_3324, xi_1, xi_30, nI_pred, eAt, zAt, tc_0, tc_1, tc_2, tc_3, tc_7, tc_15, tc_23, tc_30, nI_add, pk_mul, nI_clamp]); exact vp_in_nI (by omega) (by omega)) | rfl | exact trivial | exact Nat.zero_le _ | exact (e_fit_01 _).1 | exact (e_fit_01 _).2 | (with_reducible refine vp_in_iff.mpr ?_; decide +kernel) | (with_reducible refine e_nz _ (by decide)) | decide | skip
      exact k36
  have key := loop 6 0 (by omega) (fun j hj => absurd hj (Nat.not_lt_zero _))
  refine e_step rfl hc 60 [28] ?_
  repeat' (first | (with_reducible (intro h9; exact absurd rfl h9)) | (with_reducible (intro h9; exact absurd h9 e_10)) | (with_reducible (intro h9; first | exact absurd e_00 h9 | exact absurd h9 e_n10 | exact absurd h9 e_n20 | exact absurd h9 e_n30)) | (with_reducible intro _) | (refine And.intro ?_ ?_) | (with_reducible refine e_sw_nil ?_) | fail)
  all_goals first | (exfalso; first | exact c (by assumption) | exact (by assumption : ¬ _) c | exact c2 (by assumption) | exact (by assumption : ¬ _) c2 | fail) | skip
  all_goals first | (with_reducible refine e_goK ?_) | (with_reducible refine e_ctK ?_) | (with_reducible refine vp_inK ?_; (try simp (disch := omega) only [mI_rM0, mI_rM1, mI_rM2, mI_rM3, mI_rM4, mI_rM5, mI_rM6, mI_rM7, mI_rM8, mI_rM9, mI_rM10, mI_rM11, mI_rM12, mI_rM13, sI_rM0, sI_rM1, sI_rM2, sI_rM3, sI_rM4, sI_rM5, sI_rM6, sI_rM7, sI_rM8, sI_rM9, sI_rM10, sI_rM11, sI_rM12, sI_rM13, ix_0, ix_1, ix_2, ix_3, ix_4, ix_5, ix_6, ix_7, ix_8, ix_9, ix_10, ix_11, ix_12, ix_13, ix_14, ix_15, ix_16, ix_20, ix_23, ix_24, ix_30, ix_36, ix_46, ix_76, mx_4, mx_6, mx_30, mx_136, mx_1100, mx_3324, xi_1, xi_30, nI_pred, eAt, zAt, tc_0, tc_1, tc_2, tc_3, tc_7, tc_15, tc_23, tc_30, nI_add, pk_mul, nI_clamp]); exact vp_in_nI (by omega) (by omega)) | rfl | exact trivial | exact Nat.zero_le _ | exact (e_fit_01 _).1 | exact (e_fit_01 _).2 | (with_reducible refine vp_in_iff.mpr ?_; decide +kernel) | (with_reducible refine e_nz _ (by decide)) | decide | skip
  all_goals first | (exfalso; first | exact c (by assumption) | exact (by assumption : ¬ _) c | exact c2 (by assumption) | exact (by assumption : ¬ _) c2 | fail) | skip
  exact key
set_option maxRecDepth 20000 in
theorem ct_isWord_2 (hl0 : l.stackTraces = false) (M : EM) {a n t s : Nat} {B : Nat → Nat} (f : Nat → Int32) (hT : TB M a B n) (h : CK B n t f) : Ct l g sg_X8_isWord [.inr (.inr (.inr (.inr (3, a)))), .inr (.inr (.inr (.inr (202, s))))] (tW M a f) (fun o M' => M' = tW M a f ∧ o = .inl (some (.inl (e_01 (tH B n t = 5969364))))) := by
  refine sem_of hl0 mt_X8_isWord ok_X8_isWord rfl (fun K hc hw => ?_)
  clear hw
  have hW : tH B n t = 5969364 ↔ _ := tH_f (B := B) (n := n) (t := t) [101, 118, 101, 110, 116] (by decide) (by decide) (by decide)
  obtain ⟨f1, f22, f6, f3, htn, f5⟩ := h
  have n8 := hT.1
  by_cases hk : kdN B n t = 1
  case neg =>
    have c : ¬ mI (tW M a f) a 1 = 1 := by rw [tW_s, f1]; exact fun z => hk ((nI_eq (b := 1) (by have := kdN_lt (B := B) (n := n) (t := t); omega) (by omega)).mp z)
    have nW : ¬ tH B n t = 5969364 := fun z => hk (kd_1.mpr (hW.mp z).1)
    refine e_step rfl hc 60 [8] ?_
    repeat' (first | (with_reducible (intro h9; exact absurd rfl h9)) | (with_reducible (intro h9; exact absurd h9 e_10)) | (with_reducible (intro h9; first | exact absurd e_00 h9 | exact absurd h9 e_n10 | exact absurd h9 e_n20 | exact absurd h9 e_n30)) | (with_reducible intro _) | (refine And.intro ?_ ?_) | (with_reducible refine e_sw_nil ?_) | fail)
    all_goals first | (exfalso; first | exact c (by assumption) | exact (by assumption : ¬ _) c | fail) | skip
    all_goals first | (with_reducible refine e_goK ?_) | (with_reducible refine e_ctK ?_) | (with_reducible refine vp_inK ?_; (try simp (disch := omega) only [mI_rM0, mI_rM1, mI_rM2, mI_rM3, mI_rM4, mI_rM5, mI_rM6, mI_rM7, mI_rM8, mI_rM9, mI_rM10, mI_rM11, mI_rM12, mI_rM13, sI_rM0, sI_rM1, sI_rM2, sI_rM3, sI_rM4, sI_rM5, sI_rM6, sI_rM7, sI_rM8, sI_rM9, sI_rM10, sI_rM11, sI_rM12, sI_rM13, ix_0, ix_1, ix_2, ix_3, ix_4, ix_5, ix_6, ix_7, ix_8, ix_9, ix_10, ix_11, ix_12, ix_13, ix_14, ix_15, ix_16, ix_20, ix_23, ix_24, ix_30, ix_36, ix_46, ix_76, mx_4, mx_6, mx_30, mx_136, mx_1100, mx_3324, xi_1, xi_30, nI_pred, eAt, zAt, tc_0, tc_1, tc_2, tc_3, tc_7, tc_15, tc_23, tc_30, nI_add, pk_mul, nI_clamp]); exact vp_in_nI (by omega) (by omega)) | rfl | exact trivial | exact Nat.zero_le _ | exact (e_fit_01 _).1 | exact (e_fit_01 _).2 | (with_reducible refine vp_in_iff.mpr ?_; decide +kernel) | (with_reducible refine e_nz _ (by decide)) | decide | skip
    all_goals (rw [e_01_f nW])
  have hle := kd_1.mp hk
  have htl := tLe_n hle
  have hE := tE_le (B := B) htl
  have x6 : f 6 = nI (tE B n t) := by rw [f6]; unfold tX; rw [if_pos htl]
  have c : mI (tW M a f) a 1 = 1 := by rw [tW_s, f1, hk]; rfl
  have hs : mI (tW M a f) a 6 - mI (tW M a f) a 2 = nI (tE B n t - t) := by rw [tW_s, tW_s, x6, f22]; exact pk_sub (by omega)
  have hlw : e_len.getD 2 0 = 5 := by rw [el_0]; rfl
  by_cases hlen : tE B n t - t = 5
  case neg =>
    have c2 : ¬ mI (tW M a f) a 6 - mI (tW M a f) a 2 = nI (e_len.getD 2 0) := by rw [hs, hlw]; exact fun z => hlen ((nI_eq (by omega) (by omega)).mp z)
    have nW : ¬ tH B n t = 5969364 := fun z => hlen (hW.mp z).2.1
    refine e_step rfl hc 60 [28] ?_
    repeat' (first | (with_reducible (intro h9; exact absurd rfl h9)) | (with_reducible (intro h9; exact absurd h9 e_10)) | (with_reducible (intro h9; first | exact absurd e_00 h9 | exact absurd h9 e_n10 | exact absurd h9 e_n20 | exact absurd h9 e_n30)) | (with_reducible intro _) | (refine And.intro ?_ ?_) | (with_reducible refine e_sw_nil ?_) | fail)
    all_goals first | (exfalso; first | exact c (by assumption) | exact (by assumption : ¬ _) c | exact c2 (by assumption) | exact (by assumption : ¬ _) c2 | fail) | skip
    all_goals first | (with_reducible refine e_goK ?_) | (with_reducible refine e_ctK ?_) | (with_reducible refine vp_inK ?_; (try simp (disch := omega) only [mI_rM0, mI_rM1, mI_rM2, mI_rM3, mI_rM4, mI_rM5, mI_rM6, mI_rM7, mI_rM8, mI_rM9, mI_rM10, mI_rM11, mI_rM12, mI_rM13, sI_rM0, sI_rM1, sI_rM2, sI_rM3, sI_rM4, sI_rM5, sI_rM6, sI_rM7, sI_rM8, sI_rM9, sI_rM10, sI_rM11, sI_rM12, sI_rM13, ix_0, ix_1, ix_2, ix_3, ix_4, ix_5, ix_6, ix_7, ix_8, ix_9, ix_10, ix_11, ix_12, ix_13, ix_14, ix_15, ix_16, ix_20, ix_23, ix_24, ix_30, ix_36, ix_46, ix_76, mx_4, mx_6, mx_30, mx_136, mx_1100, mx_3324, xi_1, xi_30, nI_pred, eAt, zAt, tc_0, tc_1, tc_2, tc_3, tc_7, tc_15, tc_23, tc_30, nI_add, pk_mul, nI_clamp]); exact vp_in_nI (by omega) (by omega)) | rfl | exact trivial | exact Nat.zero_le _ | exact (e_fit_01 _).1 | exact (e_fit_01 _).2 | (with_reducible refine vp_in_iff.mpr ?_; decide +kernel) | (with_reducible refine e_nz _ (by decide)) | decide | skip
    all_goals first | (exfalso; first | exact c (by assumption) | exact (by assumption : ¬ _) c | exact c2 (by assumption) | exact (by assumption : ¬ _) c2 | fail) | skip
    all_goals (rw [e_01_f nW])
  have c2 : mI (tW M a f) a 6 - mI (tW M a f) a 2 = nI (e_len.getD 2 0) := by rw [hs, hlw, hlen]
  have loop : ∀ zn i, i + zn = 5 → (∀ j, j < i → B (t + j) = List.getD [101, 118, 101, 110, 116] j 0) → K 28 [some (.inr (.inr (.inr (.inr (3, a))))), some (.inr (.inr (.inr (.inr (202, s))))), some (.inl (nI i))] [] (tW M a f) 0 0 := by
    intro zn
    induction zn with
    | zero =>
      intro i hi hm
      have cI : nI (e_len.getD 2 0) ≤ nI i := by rw [hlw]; exact (nI_leI (by omega) (by omega)).mpr (by omega)
      have yW : tH B n t = 5969364 := hW.mpr ⟨hle, hlen, fun j hj => hm j (by have : j < 5 := hj; omega)⟩
      refine e_step rfl hc 60 [36] ?_
      repeat' (first | (with_reducible (intro h9; exact absurd rfl h9)) | (with_reducible (intro h9; exact absurd h9 e_10)) | (with_reducible (intro h9; first | exact absurd e_00 h9 | exact absurd h9 e_n10 | exact absurd h9 e_n20 | exact absurd h9 e_n30)) | (with_reducible intro _) | (refine And.intro ?_ ?_) | (with_reducible refine e_sw_nil ?_) | fail)
      all_goals first | (exfalso; first | exact cI (by assumption) | exact (by assumption : ¬ _) cI | fail) | skip
      all_goals first | (with_reducible refine e_goK ?_) | (with_reducible refine e_ctK ?_) | (with_reducible refine vp_inK ?_; (try simp (disch := omega) only [mI_rM0, mI_rM1, mI_rM2, mI_rM3, mI_rM4, mI_rM5, mI_rM6, mI_rM7, mI_rM8, mI_rM9, mI_rM10, mI_rM11, mI_rM12, mI_rM13, sI_rM0, sI_rM1, sI_rM2, sI_rM3, sI_rM4, sI_rM5, sI_rM6, sI_rM7, sI_rM8, sI_rM9, sI_rM10, sI_rM11, sI_rM12, sI_rM13, ix_0, ix_1, ix_2, ix_3, ix_4, ix_5, ix_6, ix_7, ix_8, ix_9, ix_10, ix_11, ix_12, ix_13, ix_14, ix_15, ix_16, ix_20, ix_23, ix_24, ix_30, ix_36, ix_46, ix_76, mx_4, mx_6, mx_30, mx_136, mx_1100, mx_3324, xi_1, xi_30, nI_pred, eAt, zAt, tc_0, tc_1, tc_2, tc_3, tc_7, tc_15, tc_23, tc_30, nI_add, pk_mul, nI_clamp]); exact vp_in_nI (by omega) (by omega)) | rfl | exact trivial | exact Nat.zero_le _ | exact (e_fit_01 _).1 | exact (e_fit_01 _).2 | (with_reducible refine vp_in_iff.mpr ?_; decide +kernel) | (with_reducible refine e_nz _ (by decide)) | decide | skip
      all_goals (rw [e_01_t yW])
    | succ zn ih =>
      intro i hi hm
      have cI : ¬ nI (e_len.getD 2 0) ≤ nI i := by rw [hlw]; exact fun z => absurd ((nI_leI (by omega) (by omega)).mp z) (by omega)
      have si : mI (tW M a f) a 2 + nI i = nI (t + i) := by rw [tW_s, f22, nI_add]
      have cE : ¬ mI (tW M a f) a 5 ≤ mI (tW M a f) a 2 + nI i := by rw [si, tW_s, f5]; exact fun z => absurd ((nI_leI (by omega) (by omega)).mp z) (by omega)
      have vq : vp_in (mI (tW M a f) a 2 + nI i) 800 := by rw [si]; exact vp_in_nI (by omega) (by omega)
      have vs : vp_in (nI i) (e_len.getD 2 0) := by rw [hlw]; exact vp_in_nI (by omega) (by omega)
      have hb : (e_byt.getD 2 []).getD (nI i).toNatClampNeg 0 = nI (List.getD [101, 118, 101, 110, 116] i 0) := by
        rw [eb_2, nI_clamp (by omega)]
        have : ∀ i, i < 5 → List.getD ([101, 118, 101, 110, 116] : List Int32) i 0 = nI (List.getD [101, 118, 101, 110, 116] i 0) := by decide +kernel
        exact this i (by omega)
      have hc128 : List.getD [101, 118, 101, 110, 116] i 0 < 128 := by
        have : ∀ i, i < 5 → List.getD [101, 118, 101, 110, 116] i 0 < 128 := by decide +kernel
        exact this i (by omega)
      have bB := hT.2 (t + i) (by omega)
      have cB : mI (tW M a f) (a + 1) (mI (tW M a f) a 2 + nI i).toNatClampNeg = (e_byt.getD 2 []).getD (nI i).toNatClampNeg 0 ↔ B (t + i) = List.getD [101, 118, 101, 110, 116] i 0 := by
        rw [hb, si, nI_clamp (by omega), tW_b, bB.1]; exact sB_eq bB.2 hc128
      have k36 : K 36 [some (.inr (.inr (.inr (.inr (3, a))))), some (.inr (.inr (.inr (.inr (202, s))))), some (.inl (nI i))] [] (tW M a f) 0 0 := by
        by_cases hq : B (t + i) = List.getD [101, 118, 101, 110, 116] i 0
        · have kk := ih (i + 1) (by omega) (fun j hj => by
            by_cases q : j = i
            · subst q; exact hq
            · exact hm j (by omega))
          have cB1 := cB.mpr hq
          refine e_step rfl hc 60 [28] ?_
          repeat' (first | (with_reducible (intro h9; exact absurd rfl h9)) | (with_reducible (intro h9; exact absurd h9 e_10)) | (with_reducible (intro h9; first | exact absurd e_00 h9 | exact absurd h9 e_n10 | exact absurd h9 e_n20 | exact absurd h9 e_n30)) | (with_reducible intro _) | (refine And.intro ?_ ?_) | (with_reducible refine e_sw_nil ?_) | fail)
          all_goals first | (exfalso; first | exact cE (by assumption) | exact (by assumption : ¬ _) cE | exact cB1 (by assumption) | exact (by assumption : ¬ _) cB1 | fail) | skip
          all_goals first | (with_reducible refine e_goK ?_) | (with_reducible refine e_ctK ?_) | (with_reducible refine vp_inK ?_; (try simp (disch := omega) only [mI_rM0, mI_rM1, mI_rM2, mI_rM3, mI_rM4, mI_rM5, mI_rM6, mI_rM7, mI_rM8, mI_rM9, mI_rM10, mI_rM11, mI_rM12, mI_rM13, sI_rM0, sI_rM1, sI_rM2, sI_rM3, sI_rM4, sI_rM5, sI_rM6, sI_rM7, sI_rM8, sI_rM9, sI_rM10, sI_rM11, sI_rM12, sI_rM13, ix_0, ix_1, ix_2, ix_3, ix_4, ix_5, ix_6, ix_7, ix_8, ix_9, ix_10, ix_11, ix_12, ix_13, ix_14, ix_15, ix_16, ix_20, ix_23, ix_24, ix_30, ix_36, ix_46, ix_76, mx_4, mx_6, mx_30, mx_136, mx_1100, mx_3324, xi_1, xi_30, nI_pred, eAt, zAt, tc_0, tc_1, tc_2, tc_3, tc_7, tc_15, tc_23, tc_30, nI_add, pk_mul, nI_clamp]); exact vp_in_nI (by omega) (by omega)) | rfl | exact trivial | exact Nat.zero_le _ | exact (e_fit_01 _).1 | exact (e_fit_01 _).2 | (with_reducible refine vp_in_iff.mpr ?_; decide +kernel) | (with_reducible refine e_nz _ (by decide)) | decide | exact vq | exact vs | skip
          all_goals first | (exfalso; first | exact cE (by assumption) | exact (by assumption : ¬ _) cE | exact cB1 (by assumption) | exact (by assumption : ¬ _) cB1 | fail) | skip
          refine e_kk (K := K) ?_; refine e_kc (kk) (by (repeat' (first | (refine e_cc ?_ ?_) | (with_reducible rfl) | (simp (disch := omega) only [mI_rM0, mI_rM1, mI_rM2, mI_rM3, mI_rM4, mI_rM5, mI_rM6, mI_rM7, mI_rM8, mI_rM9, mI_rM10, mI_rM11, mI_rM12, mI_rM13, sI_rM0, sI_rM1, sI_rM2, sI_rM3, sI_rM4, sI_rM5, sI_rM6, sI_rM7, sI_rM8, sI_rM9, sI_rM10, sI_rM11, sI_rM12, sI_rM13, n_lit, ↓pk_rem, pk_div, pk_mul, pk_sub, nI_add, nI_clamp, nmod, Nat.add_sub_cancel, eAt, zAt, e_clI, e_clP]; done) | ((try simp (disch := omega) only [mI_rM0, mI_rM1, mI_rM2, mI_rM3, mI_rM4, mI_rM5, mI_rM6, mI_rM7, mI_rM8, mI_rM9, mI_rM10, mI_rM11, mI_rM12, mI_rM13, sI_rM0, sI_rM1, sI_rM2, sI_rM3, sI_rM4, sI_rM5, sI_rM6, sI_rM7, sI_rM8, sI_rM9, sI_rM10, sI_rM11, sI_rM12, sI_rM13, n_lit, ↓pk_rem, pk_div, pk_mul, pk_sub, nI_add, nI_clamp, nmod, Nat.add_sub_cancel, eAt, zAt, e_clI, e_clP]); exact e_cnI (by omega)) | rfl))) (by (repeat' (first | (refine e_cc ?_ ?_) | (with_reducible rfl) | (simp (disch := omega) only [mI_rM0, mI_rM1, mI_rM2, mI_rM3, mI_rM4, mI_rM5, mI_rM6, mI_rM7, mI_rM8, mI_rM9, mI_rM10, mI_rM11, mI_rM12, mI_rM13, sI_rM0, sI_rM1, sI_rM2, sI_rM3, sI_rM4, sI_rM5, sI_rM6, sI_rM7, sI_rM8, sI_rM9, sI_rM10, sI_rM11, sI_rM12, sI_rM13, n_lit, ↓pk_rem, pk_div, pk_mul, pk_sub, nI_add, nI_clamp, nmod, Nat.add_sub_cancel, eAt, zAt, e_clI, e_clP]; done) | ((try simp (disch := omega) only [mI_rM0, mI_rM1, mI_rM2, mI_rM3, mI_rM4, mI_rM5, mI_rM6, mI_rM7, mI_rM8, mI_rM9, mI_rM10, mI_rM11, mI_rM12, mI_rM13, sI_rM0, sI_rM1, sI_rM2, sI_rM3, sI_rM4, sI_rM5, sI_rM6, sI_rM7, sI_rM8, sI_rM9, sI_rM10, sI_rM11, sI_rM12, sI_rM13, n_lit, ↓pk_rem, pk_div, pk_mul, pk_sub, nI_add, nI_clamp, nmod, Nat.add_sub_cancel, eAt, zAt, e_clI, e_clP]); exact e_cnI (by omega)) | rfl))) (by first | (with_reducible rfl) | (simp (disch := omega) only [mI_rM0, mI_rM1, mI_rM2, mI_rM3, mI_rM4, mI_rM5, mI_rM6, mI_rM7, mI_rM8, mI_rM9, mI_rM10, mI_rM11, mI_rM12, mI_rM13, sI_rM0, sI_rM1, sI_rM2, sI_rM3, sI_rM4, sI_rM5, sI_rM6, sI_rM7, sI_rM8, sI_rM9, sI_rM10, sI_rM11, sI_rM12, sI_rM13, n_lit, ↓pk_rem, pk_div, pk_mul, pk_sub, nI_add, nI_clamp, nmod, Nat.add_sub_cancel, eAt, zAt, e_clI, e_clP]; done) | rfl | fail)
        · have nW : ¬ tH B n t = 5969364 := fun z => hq ((hW.mp z).2.2 i (by show i < 5; omega))
          have cB0 := fun z => hq (cB.mp z)
          refine e_step rfl hc 60 [28] ?_
          repeat' (first | (with_reducible (intro h9; exact absurd rfl h9)) | (with_reducible (intro h9; exact absurd h9 e_10)) | (with_reducible (intro h9; first | exact absurd e_00 h9 | exact absurd h9 e_n10 | exact absurd h9 e_n20 | exact absurd h9 e_n30)) | (with_reducible intro _) | (refine And.intro ?_ ?_) | (with_reducible refine e_sw_nil ?_) | fail)
          all_goals first | (exfalso; first | exact cE (by assumption) | exact (by assumption : ¬ _) cE | exact cB0 (by assumption) | exact (by assumption : ¬ _) cB0 | fail) | skip
          all_goals first | (with_reducible refine e_goK ?_) | (with_reducible refine e_ctK ?_) | (with_reducible refine vp_inK ?_; (try simp (disch := omega) only [mI_rM0, mI_rM1, mI_rM2, mI_rM3, mI_rM4, mI_rM5, mI_rM6, mI_rM7, mI_rM8, mI_rM9, mI_rM10, mI_rM11, mI_rM12, mI_rM13, sI_rM0, sI_rM1, sI_rM2, sI_rM3, sI_rM4, sI_rM5, sI_rM6, sI_rM7, sI_rM8, sI_rM9, sI_rM10, sI_rM11, sI_rM12, sI_rM13, ix_0, ix_1, ix_2, ix_3, ix_4, ix_5, ix_6, ix_7, ix_8, ix_9, ix_10, ix_11, ix_12, ix_13, ix_14, ix_15, ix_16, ix_20, ix_23, ix_24, ix_30, ix_36, ix_46, ix_76, mx_4, mx_6, mx_30, mx_136, mx_1100, mx_3324, xi_1, xi_30, nI_pred, eAt, zAt, tc_0, tc_1, tc_2, tc_3, tc_7, tc_15, tc_23, tc_30, nI_add, pk_mul, nI_clamp]); exact vp_in_nI (by omega) (by omega)) | rfl | exact trivial | exact Nat.zero_le _ | exact (e_fit_01 _).1 | exact (e_fit_01 _).2 | (with_reducible refine vp_in_iff.mpr ?_; decide +kernel) | (with_reducible refine e_nz _ (by decide)) | decide | exact vq | exact vs | skip
          all_goals first | (exfalso; first | exact cE (by assumption) | exact (by assumption : ¬ _) cE | exact cB0 (by assumption) | exact (by assumption : ¬ _) cB0 | fail) | skip
          all_goals first | (rw [e_01_f nW]; done) | skip
      refine e_step rfl hc 60 [36] ?_
      repeat' (first | (with_reducible (intro h9; exact absurd rfl h9)) | (with_reducible (intro h9; exact absurd h9 e_10)) | (with_reducible (intro h9; first | exact absurd e_00 h9 | exact absurd h9 e_n10 | exact absurd h9 e_n20 | exact absurd h9 e_n30)) | (with_reducible intro _) | (refine And.intro ?_ ?_) | (with_reducible refine e_sw_nil ?_) | fail)
      all_goals first | (exfalso; first | exact cI (by assumption) | exact (by assumption : ¬ _) cI | fail) | skip
      all_goals first | (with_reducible refine e_goK ?_) | (with_reducible refine e_ctK ?_) | (with_reducible refine vp_inK ?_; (try simp (disch := omega) only [mI_rM0, mI_rM1, mI_rM2, mI_rM3, mI_rM4, mI_rM5, mI_rM6, mI_rM7, mI_rM8, mI_rM9, mI_rM10, mI_rM11, mI_rM12, mI_rM13, sI_rM0, sI_rM1, sI_rM2, sI_rM3, sI_rM4, sI_rM5, sI_rM6, sI_rM7, sI_rM8, sI_rM9, sI_rM10, sI_rM11, sI_rM12, sI_rM13, ix_0, ix_1, ix_2, ix_3, ix_4, ix_5, ix_6, ix_7, ix_8, ix_9, ix_10, ix_11, ix_12, ix_13, ix_14, ix_15, ix_16, ix_20, ix_23, ix_24, ix_30, ix_36, ix_46, ix_76, mx_4, mx_6, mx_30, mx_136, mx_1100, mx_3324, xi_1, xi_30, nI_pred, eAt, zAt, tc_0, tc_1, tc_2, tc_3, tc_7, tc_15, tc_23, tc_30, nI_add, pk_mul, nI_clamp]); exact vp_in_nI (by omega) (by omega)) | rfl | exact trivial | exact Nat.zero_le _ | exact (e_fit_01 _).1 | exact (e_fit_01 _).2 | (with_reducible refine vp_in_iff.mpr ?_; decide +kernel) | (with_reducible refine e_nz _ (by decide)) | decide | skip
      exact k36
  have key := loop 5 0 (by omega) (fun j hj => absurd hj (Nat.not_lt_zero _))
  refine e_step rfl hc 60 [28] ?_
  repeat' (first | (with_reducible (intro h9; exact absurd rfl h9)) | (with_reducible (intro h9; exact absurd h9 e_10)) | (with_reducible (intro h9; first | exact absurd e_00 h9 | exact absurd h9 e_n10 | exact absurd h9 e_n20 | exact absurd h9 e_n30)) | (with_reducible intro _) | (refine And.intro ?_ ?_) | (with_reducible refine e_sw_nil ?_) | fail)
  all_goals first | (exfalso; first | exact c (by assumption) | exact (by assumption : ¬ _) c | exact c2 (by assumption) | exact (by assumption : ¬ _) c2 | fail) | skip
  all_goals first | (with_reducible refine e_goK ?_) | (with_reducible refine e_ctK ?_) | (with_reducible refine vp_inK ?_; (try simp (disch := omega) only [mI_rM0, mI_rM1, mI_rM2, mI_rM3, mI_rM4, mI_rM5, mI_rM6, mI_rM7, mI_rM8, mI_rM9, mI_rM10, mI_rM11, mI_rM12, mI_rM13, sI_rM0, sI_rM1, sI_rM2, sI_rM3, sI_rM4, sI_rM5, sI_rM6, sI_rM7, sI_rM8, sI_rM9, sI_rM10, sI_rM11, sI_rM12, sI_rM13, ix_0, ix_1, ix_2, ix_3, ix_4, ix_5, ix_6, ix_7, ix_8, ix_9, ix_10, ix_11, ix_12, ix_13, ix_14, ix_15, ix_16, ix_20, ix_23, ix_24, ix_30, ix_36, ix_46, ix_76, mx_4, mx_6, mx_30, mx_136, mx_1100, mx_3324, xi_1, xi_30, nI_pred, eAt, zAt, tc_0, tc_1, tc_2, tc_3, tc_7, tc_15, tc_23, tc_30, nI_add, pk_mul, nI_clamp]); exact vp_in_nI (by omega) (by omega)) | rfl | exact trivial | exact Nat.zero_le _ | exact (e_fit_01 _).1 | exact (e_fit_01 _).2 | (with_reducible refine vp_in_iff.mpr ?_; decide +kernel) | (with_reducible refine e_nz _ (by decide)) | decide | skip
  all_goals first | (exfalso; first | exact c (by assumption) | exact (by assumption : ¬ _) c | exact c2 (by assumption) | exact (by assumption : ¬ _) c2 | fail) | skip
  exact key
set_option maxRecDepth 20000 in
theorem ct_isWord_3 (hl0 : l.stackTraces = false) (M : EM) {a n t s : Nat} {B : Nat → Nat} (f : Nat → Int32) (hT : TB M a B n) (h : CK B n t f) : Ct l g sg_X8_isWord [.inr (.inr (.inr (.inr (3, a)))), .inr (.inr (.inr (.inr (203, s))))] (tW M a f) (fun o M' => M' = tW M a f ∧ o = .inl (some (.inl (e_01 (tH B n t = 5969497))))) := by
  refine sem_of hl0 mt_X8_isWord ok_X8_isWord rfl (fun K hc hw => ?_)
  clear hw
  have hW : tH B n t = 5969497 ↔ _ := tH_f (B := B) (n := n) (t := t) [101, 118, 101, 114, 121] (by decide) (by decide) (by decide)
  obtain ⟨f1, f22, f6, f3, htn, f5⟩ := h
  have n8 := hT.1
  by_cases hk : kdN B n t = 1
  case neg =>
    have c : ¬ mI (tW M a f) a 1 = 1 := by rw [tW_s, f1]; exact fun z => hk ((nI_eq (b := 1) (by have := kdN_lt (B := B) (n := n) (t := t); omega) (by omega)).mp z)
    have nW : ¬ tH B n t = 5969497 := fun z => hk (kd_1.mpr (hW.mp z).1)
    refine e_step rfl hc 60 [8] ?_
    repeat' (first | (with_reducible (intro h9; exact absurd rfl h9)) | (with_reducible (intro h9; exact absurd h9 e_10)) | (with_reducible (intro h9; first | exact absurd e_00 h9 | exact absurd h9 e_n10 | exact absurd h9 e_n20 | exact absurd h9 e_n30)) | (with_reducible intro _) | (refine And.intro ?_ ?_) | (with_reducible refine e_sw_nil ?_) | fail)
    all_goals first | (exfalso; first | exact c (by assumption) | exact (by assumption : ¬ _) c | fail) | skip
    all_goals first | (with_reducible refine e_goK ?_) | (with_reducible refine e_ctK ?_) | (with_reducible refine vp_inK ?_; (try simp (disch := omega) only [mI_rM0, mI_rM1, mI_rM2, mI_rM3, mI_rM4, mI_rM5, mI_rM6, mI_rM7, mI_rM8, mI_rM9, mI_rM10, mI_rM11, mI_rM12, mI_rM13, sI_rM0, sI_rM1, sI_rM2, sI_rM3, sI_rM4, sI_rM5, sI_rM6, sI_rM7, sI_rM8, sI_rM9, sI_rM10, sI_rM11, sI_rM12, sI_rM13, ix_0, ix_1, ix_2, ix_3, ix_4, ix_5, ix_6, ix_7, ix_8, ix_9, ix_10, ix_11, ix_12, ix_13, ix_14, ix_15, ix_16, ix_20, ix_23, ix_24, ix_30, ix_36, ix_46, ix_76, mx_4, mx_6, mx_30, mx_136, mx_1100, mx_3324, xi_1, xi_30, nI_pred, eAt, zAt, tc_0, tc_1, tc_2, tc_3, tc_7, tc_15, tc_23, tc_30, nI_add, pk_mul, nI_clamp]); exact vp_in_nI (by omega) (by omega)) | rfl | exact trivial | exact Nat.zero_le _ | exact (e_fit_01 _).1 | exact (e_fit_01 _).2 | (with_reducible refine vp_in_iff.mpr ?_; decide +kernel) | (with_reducible refine e_nz _ (by decide)) | decide | skip
    all_goals (rw [e_01_f nW])
  have hle := kd_1.mp hk
  have htl := tLe_n hle
  have hE := tE_le (B := B) htl
  have x6 : f 6 = nI (tE B n t) := by rw [f6]; unfold tX; rw [if_pos htl]
  have c : mI (tW M a f) a 1 = 1 := by rw [tW_s, f1, hk]; rfl
  have hs : mI (tW M a f) a 6 - mI (tW M a f) a 2 = nI (tE B n t - t) := by rw [tW_s, tW_s, x6, f22]; exact pk_sub (by omega)
  have hlw : e_len.getD 3 0 = 5 := by rw [el_0]; rfl
  by_cases hlen : tE B n t - t = 5
  case neg =>
    have c2 : ¬ mI (tW M a f) a 6 - mI (tW M a f) a 2 = nI (e_len.getD 3 0) := by rw [hs, hlw]; exact fun z => hlen ((nI_eq (by omega) (by omega)).mp z)
    have nW : ¬ tH B n t = 5969497 := fun z => hlen (hW.mp z).2.1
    refine e_step rfl hc 60 [28] ?_
    repeat' (first | (with_reducible (intro h9; exact absurd rfl h9)) | (with_reducible (intro h9; exact absurd h9 e_10)) | (with_reducible (intro h9; first | exact absurd e_00 h9 | exact absurd h9 e_n10 | exact absurd h9 e_n20 | exact absurd h9 e_n30)) | (with_reducible intro _) | (refine And.intro ?_ ?_) | (with_reducible refine e_sw_nil ?_) | fail)
    all_goals first | (exfalso; first | exact c (by assumption) | exact (by assumption : ¬ _) c | exact c2 (by assumption) | exact (by assumption : ¬ _) c2 | fail) | skip
    all_goals first | (with_reducible refine e_goK ?_) | (with_reducible refine e_ctK ?_) | (with_reducible refine vp_inK ?_; (try simp (disch := omega) only [mI_rM0, mI_rM1, mI_rM2, mI_rM3, mI_rM4, mI_rM5, mI_rM6, mI_rM7, mI_rM8, mI_rM9, mI_rM10, mI_rM11, mI_rM12, mI_rM13, sI_rM0, sI_rM1, sI_rM2, sI_rM3, sI_rM4, sI_rM5, sI_rM6, sI_rM7, sI_rM8, sI_rM9, sI_rM10, sI_rM11, sI_rM12, sI_rM13, ix_0, ix_1, ix_2, ix_3, ix_4, ix_5, ix_6, ix_7, ix_8, ix_9, ix_10, ix_11, ix_12, ix_13, ix_14, ix_15, ix_16, ix_20, ix_23, ix_24, ix_30, ix_36, ix_46, ix_76, mx_4, mx_6, mx_30, mx_136, mx_1100, mx_3324, xi_1, xi_30, nI_pred, eAt, zAt, tc_0, tc_1, tc_2, tc_3, tc_7, tc_15, tc_23, tc_30, nI_add, pk_mul, nI_clamp]); exact vp_in_nI (by omega) (by omega)) | rfl | exact trivial | exact Nat.zero_le _ | exact (e_fit_01 _).1 | exact (e_fit_01 _).2 | (with_reducible refine vp_in_iff.mpr ?_; decide +kernel) | (with_reducible refine e_nz _ (by decide)) | decide | skip
    all_goals first | (exfalso; first | exact c (by assumption) | exact (by assumption : ¬ _) c | exact c2 (by assumption) | exact (by assumption : ¬ _) c2 | fail) | skip
    all_goals (rw [e_01_f nW])
  have c2 : mI (tW M a f) a 6 - mI (tW M a f) a 2 = nI (e_len.getD 3 0) := by rw [hs, hlw, hlen]
  have loop : ∀ zn i, i + zn = 5 → (∀ j, j < i → B (t + j) = List.getD [101, 118, 101, 114, 121] j 0) → K 28 [some (.inr (.inr (.inr (.inr (3, a))))), some (.inr (.inr (.inr (.inr (203, s))))), some (.inl (nI i))] [] (tW M a f) 0 0 := by
    intro zn
    induction zn with
    | zero =>
      intro i hi hm
      have cI : nI (e_len.getD 3 0) ≤ nI i := by rw [hlw]; exact (nI_leI (by omega) (by omega)).mpr (by omega)
      have yW : tH B n t = 5969497 := hW.mpr ⟨hle, hlen, fun j hj => hm j (by have : j < 5 := hj; omega)⟩
      refine e_step rfl hc 60 [36] ?_
      repeat' (first | (with_reducible (intro h9; exact absurd rfl h9)) | (with_reducible (intro h9; exact absurd h9 e_10)) | (with_reducible (intro h9; first | exact absurd e_00 h9 | exact absurd h9 e_n10 | exact absurd h9 e_n20 | exact absurd h9 e_n30)) | (with_reducible intro _) | (refine And.intro ?_ ?_) | (with_reducible refine e_sw_nil ?_) | fail)
      all_goals first | (exfalso; first | exact cI (by assumption) | exact (by assumption : ¬ _) cI | fail) | skip
      all_goals first | (with_reducible refine e_goK ?_) | (with_reducible refine e_ctK ?_) | (with_reducible refine vp_inK ?_; (try simp (disch := omega) only [mI_rM0, mI_rM1, mI_rM2, mI_rM3, mI_rM4, mI_rM5, mI_rM6, mI_rM7, mI_rM8, mI_rM9, mI_rM10, mI_rM11, mI_rM12, mI_rM13, sI_rM0, sI_rM1, sI_rM2, sI_rM3, sI_rM4, sI_rM5, sI_rM6, sI_rM7, sI_rM8, sI_rM9, sI_rM10, sI_rM11, sI_rM12, sI_rM13, ix_0, ix_1, ix_2, ix_3, ix_4, ix_5, ix_6, ix_7, ix_8, ix_9, ix_10, ix_11, ix_12, ix_13, ix_14, ix_15, ix_16, ix_20, ix_23, ix_24, ix_30, ix_36, ix_46, ix_76, mx_4, mx_6, mx_30, mx_136, mx_1100, mx_3324, xi_1, xi_30, nI_pred, eAt, zAt, tc_0, tc_1, tc_2, tc_3, tc_7, tc_15, tc_23, tc_30, nI_add, pk_mul, nI_clamp]); exact vp_in_nI (by omega) (by omega)) | rfl | exact trivial | exact Nat.zero_le _ | exact (e_fit_01 _).1 | exact (e_fit_01 _).2 | (with_reducible refine vp_in_iff.mpr ?_; decide +kernel) | (with_reducible refine e_nz _ (by decide)) | decide | skip
      all_goals (rw [e_01_t yW])
    | succ zn ih =>
      intro i hi hm
      have cI : ¬ nI (e_len.getD 3 0) ≤ nI i := by rw [hlw]; exact fun z => absurd ((nI_leI (by omega) (by omega)).mp z) (by omega)
      have si : mI (tW M a f) a 2 + nI i = nI (t + i) := by rw [tW_s, f22, nI_add]
      have cE : ¬ mI (tW M a f) a 5 ≤ mI (tW M a f) a 2 + nI i := by rw [si, tW_s, f5]; exact fun z => absurd ((nI_leI (by omega) (by omega)).mp z) (by omega)
      have vq : vp_in (mI (tW M a f) a 2 + nI i) 800 := by rw [si]; exact vp_in_nI (by omega) (by omega)
      have vs : vp_in (nI i) (e_len.getD 3 0) := by rw [hlw]; exact vp_in_nI (by omega) (by omega)
      have hb : (e_byt.getD 3 []).getD (nI i).toNatClampNeg 0 = nI (List.getD [101, 118, 101, 114, 121] i 0) := by
        rw [eb_3, nI_clamp (by omega)]
        have : ∀ i, i < 5 → List.getD ([101, 118, 101, 114, 121] : List Int32) i 0 = nI (List.getD [101, 118, 101, 114, 121] i 0) := by decide +kernel
        exact this i (by omega)
      have hc128 : List.getD [101, 118, 101, 114, 121] i 0 < 128 := by
        have : ∀ i, i < 5 → List.getD [101, 118, 101, 114, 121] i 0 < 128 := by decide +kernel
        exact this i (by omega)
      have bB := hT.2 (t + i) (by omega)
      have cB : mI (tW M a f) (a + 1) (mI (tW M a f) a 2 + nI i).toNatClampNeg = (e_byt.getD 3 []).getD (nI i).toNatClampNeg 0 ↔ B (t + i) = List.getD [101, 118, 101, 114, 121] i 0 := by
        rw [hb, si, nI_clamp (by omega), tW_b, bB.1]; exact sB_eq bB.2 hc128
      have k36 : K 36 [some (.inr (.inr (.inr (.inr (3, a))))), some (.inr (.inr (.inr (.inr (203, s))))), some (.inl (nI i))] [] (tW M a f) 0 0 := by
        by_cases hq : B (t + i) = List.getD [101, 118, 101, 114, 121] i 0
        · have kk := ih (i + 1) (by omega) (fun j hj => by
            by_cases q : j = i
            · subst q; exact hq
            · exact hm j (by omega))
          have cB1 := cB.mpr hq
          refine e_step rfl hc 60 [28] ?_
          repeat' (first | (with_reducible (intro h9; exact absurd rfl h9)) | (with_reducible (intro h9; exact absurd h9 e_10)) | (with_reducible (intro h9; first | exact absurd e_00 h9 | exact absurd h9 e_n10 | exact absurd h9 e_n20 | exact absurd h9 e_n30)) | (with_reducible intro _) | (refine And.intro ?_ ?_) | (with_reducible refine e_sw_nil ?_) | fail)
          all_goals first | (exfalso; first | exact cE (by assumption) | exact (by assumption : ¬ _) cE | exact cB1 (by assumption) | exact (by assumption : ¬ _) cB1 | fail) | skip
          all_goals first | (with_reducible refine e_goK ?_) | (with_reducible refine e_ctK ?_) | (with_reducible refine vp_inK ?_; (try simp (disch := omega) only [mI_rM0, mI_rM1, mI_rM2, mI_rM3, mI_rM4, mI_rM5, mI_rM6, mI_rM7, mI_rM8, mI_rM9, mI_rM10, mI_rM11, mI_rM12, mI_rM13, sI_rM0, sI_rM1, sI_rM2, sI_rM3, sI_rM4, sI_rM5, sI_rM6, sI_rM7, sI_rM8, sI_rM9, sI_rM10, sI_rM11, sI_rM12, sI_rM13, ix_0, ix_1, ix_2, ix_3, ix_4, ix_5, ix_6, ix_7, ix_8, ix_9, ix_10, ix_11, ix_12, ix_13, ix_14, ix_15, ix_16, ix_20, ix_23, ix_24, ix_30, ix_36, ix_46, ix_76, mx_4, mx_6, mx_30, mx_136, mx_1100, mx_3324, xi_1, xi_30, nI_pred, eAt, zAt, tc_0, tc_1, tc_2, tc_3, tc_7, tc_15, tc_23, tc_30, nI_add, pk_mul, nI_clamp]); exact vp_in_nI (by omega) (by omega)) | rfl | exact trivial | exact Nat.zero_le _ | exact (e_fit_01 _).1 | exact (e_fit_01 _).2 | (with_reducible refine vp_in_iff.mpr ?_; decide +kernel) | (with_reducible refine e_nz _ (by decide)) | decide | exact vq | exact vs | skip
          all_goals first | (exfalso; first | exact cE (by assumption) | exact (by assumption : ¬ _) cE | exact cB1 (by assumption) | exact (by assumption : ¬ _) cB1 | fail) | skip
          refine e_kk (K := K) ?_; refine e_kc (kk) (by (repeat' (first | (refine e_cc ?_ ?_) | (with_reducible rfl) | (simp (disch := omega) only [mI_rM0, mI_rM1, mI_rM2, mI_rM3, mI_rM4, mI_rM5, mI_rM6, mI_rM7, mI_rM8, mI_rM9, mI_rM10, mI_rM11, mI_rM12, mI_rM13, sI_rM0, sI_rM1, sI_rM2, sI_rM3, sI_rM4, sI_rM5, sI_rM6, sI_rM7, sI_rM8, sI_rM9, sI_rM10, sI_rM11, sI_rM12, sI_rM13, n_lit, ↓pk_rem, pk_div, pk_mul, pk_sub, nI_add, nI_clamp, nmod, Nat.add_sub_cancel, eAt, zAt, e_clI, e_clP]; done) | ((try simp (disch := omega) only [mI_rM0, mI_rM1, mI_rM2, mI_rM3, mI_rM4, mI_rM5, mI_rM6, mI_rM7, mI_rM8, mI_rM9, mI_rM10, mI_rM11, mI_rM12, mI_rM13, sI_rM0, sI_rM1, sI_rM2, sI_rM3, sI_rM4, sI_rM5, sI_rM6, sI_rM7, sI_rM8, sI_rM9, sI_rM10, sI_rM11, sI_rM12, sI_rM13, n_lit, ↓pk_rem, pk_div, pk_mul, pk_sub, nI_add, nI_clamp, nmod, Nat.add_sub_cancel, eAt, zAt, e_clI, e_clP]); exact e_cnI (by omega)) | rfl))) (by (repeat' (first | (refine e_cc ?_ ?_) | (with_reducible rfl) | (simp (disch := omega) only [mI_rM0, mI_rM1, mI_rM2, mI_rM3, mI_rM4, mI_rM5, mI_rM6, mI_rM7, mI_rM8, mI_rM9, mI_rM10, mI_rM11, mI_rM12, mI_rM13, sI_rM0, sI_rM1, sI_rM2, sI_rM3, sI_rM4, sI_rM5, sI_rM6, sI_rM7, sI_rM8, sI_rM9, sI_rM10, sI_rM11, sI_rM12, sI_rM13, n_lit, ↓pk_rem, pk_div, pk_mul, pk_sub, nI_add, nI_clamp, nmod, Nat.add_sub_cancel, eAt, zAt, e_clI, e_clP]; done) | ((try simp (disch := omega) only [mI_rM0, mI_rM1, mI_rM2, mI_rM3, mI_rM4, mI_rM5, mI_rM6, mI_rM7, mI_rM8, mI_rM9, mI_rM10, mI_rM11, mI_rM12, mI_rM13, sI_rM0, sI_rM1, sI_rM2, sI_rM3, sI_rM4, sI_rM5, sI_rM6, sI_rM7, sI_rM8, sI_rM9, sI_rM10, sI_rM11, sI_rM12, sI_rM13, n_lit, ↓pk_rem, pk_div, pk_mul, pk_sub, nI_add, nI_clamp, nmod, Nat.add_sub_cancel, eAt, zAt, e_clI, e_clP]); exact e_cnI (by omega)) | rfl))) (by first | (with_reducible rfl) | (simp (disch := omega) only [mI_rM0, mI_rM1, mI_rM2, mI_rM3, mI_rM4, mI_rM5, mI_rM6, mI_rM7, mI_rM8, mI_rM9, mI_rM10, mI_rM11, mI_rM12, mI_rM13, sI_rM0, sI_rM1, sI_rM2, sI_rM3, sI_rM4, sI_rM5, sI_rM6, sI_rM7, sI_rM8, sI_rM9, sI_rM10, sI_rM11, sI_rM12, sI_rM13, n_lit, ↓pk_rem, pk_div, pk_mul, pk_sub, nI_add, nI_clamp, nmod, Nat.add_sub_cancel, eAt, zAt, e_clI, e_clP]; done) | rfl | fail)
        · have nW : ¬ tH B n t = 5969497 := fun z => hq ((hW.mp z).2.2 i (by show i < 5; omega))
          have cB0 := fun z => hq (cB.mp z)
          refine e_step rfl hc 60 [28] ?_
          repeat' (first | (with_reducible (intro h9; exact absurd rfl h9)) | (with_reducible (intro h9; exact absurd h9 e_10)) | (with_reducible (intro h9; first | exact absurd e_00 h9 | exact absurd h9 e_n10 | exact absurd h9 e_n20 | exact absurd h9 e_n30)) | (with_reducible intro _) | (refine And.intro ?_ ?_) | (with_reducible refine e_sw_nil ?_) | fail)
          all_goals first | (exfalso; first | exact cE (by assumption) | exact (by assumption : ¬ _) cE | exact cB0 (by assumption) | exact (by assumption : ¬ _) cB0 | fail) | skip
          all_goals first | (with_reducible refine e_goK ?_) | (with_reducible refine e_ctK ?_) | (with_reducible refine vp_inK ?_; (try simp (disch := omega) only [mI_rM0, mI_rM1, mI_rM2, mI_rM3, mI_rM4, mI_rM5, mI_rM6, mI_rM7, mI_rM8, mI_rM9, mI_rM10, mI_rM11, mI_rM12, mI_rM13, sI_rM0, sI_rM1, sI_rM2, sI_rM3, sI_rM4, sI_rM5, sI_rM6, sI_rM7, sI_rM8, sI_rM9, sI_rM10, sI_rM11, sI_rM12, sI_rM13, ix_0, ix_1, ix_2, ix_3, ix_4, ix_5, ix_6, ix_7, ix_8, ix_9, ix_10, ix_11, ix_12, ix_13, ix_14, ix_15, ix_16, ix_20, ix_23, ix_24, ix_30, ix_36, ix_46, ix_76, mx_4, mx_6, mx_30, mx_136, mx_1100, mx_3324, xi_1, xi_30, nI_pred, eAt, zAt, tc_0, tc_1, tc_2, tc_3, tc_7, tc_15, tc_23, tc_30, nI_add, pk_mul, nI_clamp]); exact vp_in_nI (by omega) (by omega)) | rfl | exact trivial | exact Nat.zero_le _ | exact (e_fit_01 _).1 | exact (e_fit_01 _).2 | (with_reducible refine vp_in_iff.mpr ?_; decide +kernel) | (with_reducible refine e_nz _ (by decide)) | decide | exact vq | exact vs | skip
          all_goals first | (exfalso; first | exact cE (by assumption) | exact (by assumption : ¬ _) cE | exact cB0 (by assumption) | exact (by assumption : ¬ _) cB0 | fail) | skip
          all_goals first | (rw [e_01_f nW]; done) | skip
      refine e_step rfl hc 60 [36] ?_
      repeat' (first | (with_reducible (intro h9; exact absurd rfl h9)) | (with_reducible (intro h9; exact absurd h9 e_10)) | (with_reducible (intro h9; first | exact absurd e_00 h9 | exact absurd h9 e_n10 | exact absurd h9 e_n20 | exact absurd h9 e_n30)) | (with_reducible intro _) | (refine And.intro ?_ ?_) | (with_reducible refine e_sw_nil ?_) | fail)
      all_goals first | (exfalso; first | exact cI (by assumption) | exact (by assumption : ¬ _) cI | fail) | skip
      all_goals first | (with_reducible refine e_goK ?_) | (with_reducible refine e_ctK ?_) | (with_reducible refine vp_inK ?_; (try simp (disch := omega) only [mI_rM0, mI_rM1, mI_rM2, mI_rM3, mI_rM4, mI_rM5, mI_rM6, mI_rM7, mI_rM8, mI_rM9, mI_rM10, mI_rM11, mI_rM12, mI_rM13, sI_rM0, sI_rM1, sI_rM2, sI_rM3, sI_rM4, sI_rM5, sI_rM6, sI_rM7, sI_rM8, sI_rM9, sI_rM10, sI_rM11, sI_rM12, sI_rM13, ix_0, ix_1, ix_2, ix_3, ix_4, ix_5, ix_6, ix_7, ix_8, ix_9, ix_10, ix_11, ix_12, ix_13, ix_14, ix_15, ix_16, ix_20, ix_23, ix_24, ix_30, ix_36, ix_46, ix_76, mx_4, mx_6, mx_30, mx_136, mx_1100, mx_3324, xi_1, xi_30, nI_pred, eAt, zAt, tc_0, tc_1, tc_2, tc_3, tc_7, tc_15, tc_23, tc_30, nI_add, pk_mul, nI_clamp]); exact vp_in_nI (by omega) (by omega)) | rfl | exact trivial | exact Nat.zero_le _ | exact (e_fit_01 _).1 | exact (e_fit_01 _).2 | (with_reducible refine vp_in_iff.mpr ?_; decide +kernel) | (with_reducible refine e_nz _ (by decide)) | decide | skip
      exact k36
  have key := loop 5 0 (by omega) (fun j hj => absurd hj (Nat.not_lt_zero _))
  refine e_step rfl hc 60 [28] ?_
  repeat' (first | (with_reducible (intro h9; exact absurd rfl h9)) | (with_reducible (intro h9; exact absurd h9 e_10)) | (with_reducible (intro h9; first | exact absurd e_00 h9 | exact absurd h9 e_n10 | exact absurd h9 e_n20 | exact absurd h9 e_n30)) | (with_reducible intro _) | (refine And.intro ?_ ?_) | (with_reducible refine e_sw_nil ?_) | fail)
  all_goals first | (exfalso; first | exact c (by assumption) | exact (by assumption : ¬ _) c | exact c2 (by assumption) | exact (by assumption : ¬ _) c2 | fail) | skip
  all_goals first | (with_reducible refine e_goK ?_) | (with_reducible refine e_ctK ?_) | (with_reducible refine vp_inK ?_; (try simp (disch := omega) only [mI_rM0, mI_rM1, mI_rM2, mI_rM3, mI_rM4, mI_rM5, mI_rM6, mI_rM7, mI_rM8, mI_rM9, mI_rM10, mI_rM11, mI_rM12, mI_rM13, sI_rM0, sI_rM1, sI_rM2, sI_rM3, sI_rM4, sI_rM5, sI_rM6, sI_rM7, sI_rM8, sI_rM9, sI_rM10, sI_rM11, sI_rM12, sI_rM13, ix_0, ix_1, ix_2, ix_3, ix_4, ix_5, ix_6, ix_7, ix_8, ix_9, ix_10, ix_11, ix_12, ix_13, ix_14, ix_15, ix_16, ix_20, ix_23, ix_24, ix_30, ix_36, ix_46, ix_76, mx_4, mx_6, mx_30, mx_136, mx_1100, mx_3324, xi_1, xi_30, nI_pred, eAt, zAt, tc_0, tc_1, tc_2, tc_3, tc_7, tc_15, tc_23, tc_30, nI_add, pk_mul, nI_clamp]); exact vp_in_nI (by omega) (by omega)) | rfl | exact trivial | exact Nat.zero_le _ | exact (e_fit_01 _).1 | exact (e_fit_01 _).2 | (with_reducible refine vp_in_iff.mpr ?_; decide +kernel) | (with_reducible refine e_nz _ (by decide)) | decide | skip
  all_goals first | (exfalso; first | exact c (by assumption) | exact (by assumption : ¬ _) c | exact c2 (by assumption) | exact (by assumption : ¬ _) c2 | fail) | skip
  exact key
set_option maxRecDepth 20000 in
theorem ct_isWord_4 (hl0 : l.stackTraces = false) (M : EM) {a n t s : Nat} {B : Nat → Nat} (f : Nat → Int32) (hT : TB M a B n) (h : CK B n t f) : Ct l g sg_X8_isWord [.inr (.inr (.inr (.inr (3, a)))), .inr (.inr (.inr (.inr (204, s))))] (tW M a f) (fun o M' => M' = tW M a f ∧ o = .inl (some (.inl (e_01 (tH B n t = 132915))))) := by
  refine sem_of hl0 mt_X8_isWord ok_X8_isWord rfl (fun K hc hw => ?_)
  clear hw
  have hW : tH B n t = 132915 ↔ _ := tH_f (B := B) (n := n) (t := t) [100, 97, 121, 115] (by decide) (by decide) (by decide)
  obtain ⟨f1, f22, f6, f3, htn, f5⟩ := h
  have n8 := hT.1
  by_cases hk : kdN B n t = 1
  case neg =>
    have c : ¬ mI (tW M a f) a 1 = 1 := by rw [tW_s, f1]; exact fun z => hk ((nI_eq (b := 1) (by have := kdN_lt (B := B) (n := n) (t := t); omega) (by omega)).mp z)
    have nW : ¬ tH B n t = 132915 := fun z => hk (kd_1.mpr (hW.mp z).1)
    refine e_step rfl hc 60 [8] ?_
    repeat' (first | (with_reducible (intro h9; exact absurd rfl h9)) | (with_reducible (intro h9; exact absurd h9 e_10)) | (with_reducible (intro h9; first | exact absurd e_00 h9 | exact absurd h9 e_n10 | exact absurd h9 e_n20 | exact absurd h9 e_n30)) | (with_reducible intro _) | (refine And.intro ?_ ?_) | (with_reducible refine e_sw_nil ?_) | fail)
    all_goals first | (exfalso; first | exact c (by assumption) | exact (by assumption : ¬ _) c | fail) | skip
    all_goals first | (with_reducible refine e_goK ?_) | (with_reducible refine e_ctK ?_) | (with_reducible refine vp_inK ?_; (try simp (disch := omega) only [mI_rM0, mI_rM1, mI_rM2, mI_rM3, mI_rM4, mI_rM5, mI_rM6, mI_rM7, mI_rM8, mI_rM9, mI_rM10, mI_rM11, mI_rM12, mI_rM13, sI_rM0, sI_rM1, sI_rM2, sI_rM3, sI_rM4, sI_rM5, sI_rM6, sI_rM7, sI_rM8, sI_rM9, sI_rM10, sI_rM11, sI_rM12, sI_rM13, ix_0, ix_1, ix_2, ix_3, ix_4, ix_5, ix_6, ix_7, ix_8, ix_9, ix_10, ix_11, ix_12, ix_13, ix_14, ix_15, ix_16, ix_20, ix_23, ix_24, ix_30, ix_36, ix_46, ix_76, mx_4, mx_6, mx_30, mx_136, mx_1100, mx_3324, xi_1, xi_30, nI_pred, eAt, zAt, tc_0, tc_1, tc_2, tc_3, tc_7, tc_15, tc_23, tc_30, nI_add, pk_mul, nI_clamp]); exact vp_in_nI (by omega) (by omega)) | rfl | exact trivial | exact Nat.zero_le _ | exact (e_fit_01 _).1 | exact (e_fit_01 _).2 | (with_reducible refine vp_in_iff.mpr ?_; decide +kernel) | (with_reducible refine e_nz _ (by decide)) | decide | skip
    all_goals (rw [e_01_f nW])
  have hle := kd_1.mp hk
  have htl := tLe_n hle
  have hE := tE_le (B := B) htl
  have x6 : f 6 = nI (tE B n t) := by rw [f6]; unfold tX; rw [if_pos htl]
  have c : mI (tW M a f) a 1 = 1 := by rw [tW_s, f1, hk]; rfl
  have hs : mI (tW M a f) a 6 - mI (tW M a f) a 2 = nI (tE B n t - t) := by rw [tW_s, tW_s, x6, f22]; exact pk_sub (by omega)
  have hlw : e_len.getD 4 0 = 4 := by rw [el_0]; rfl
  by_cases hlen : tE B n t - t = 4
  case neg =>
    have c2 : ¬ mI (tW M a f) a 6 - mI (tW M a f) a 2 = nI (e_len.getD 4 0) := by rw [hs, hlw]; exact fun z => hlen ((nI_eq (by omega) (by omega)).mp z)
    have nW : ¬ tH B n t = 132915 := fun z => hlen (hW.mp z).2.1
    refine e_step rfl hc 60 [28] ?_
    repeat' (first | (with_reducible (intro h9; exact absurd rfl h9)) | (with_reducible (intro h9; exact absurd h9 e_10)) | (with_reducible (intro h9; first | exact absurd e_00 h9 | exact absurd h9 e_n10 | exact absurd h9 e_n20 | exact absurd h9 e_n30)) | (with_reducible intro _) | (refine And.intro ?_ ?_) | (with_reducible refine e_sw_nil ?_) | fail)
    all_goals first | (exfalso; first | exact c (by assumption) | exact (by assumption : ¬ _) c | exact c2 (by assumption) | exact (by assumption : ¬ _) c2 | fail) | skip
    all_goals first | (with_reducible refine e_goK ?_) | (with_reducible refine e_ctK ?_) | (with_reducible refine vp_inK ?_; (try simp (disch := omega) only [mI_rM0, mI_rM1, mI_rM2, mI_rM3, mI_rM4, mI_rM5, mI_rM6, mI_rM7, mI_rM8, mI_rM9, mI_rM10, mI_rM11, mI_rM12, mI_rM13, sI_rM0, sI_rM1, sI_rM2, sI_rM3, sI_rM4, sI_rM5, sI_rM6, sI_rM7, sI_rM8, sI_rM9, sI_rM10, sI_rM11, sI_rM12, sI_rM13, ix_0, ix_1, ix_2, ix_3, ix_4, ix_5, ix_6, ix_7, ix_8, ix_9, ix_10, ix_11, ix_12, ix_13, ix_14, ix_15, ix_16, ix_20, ix_23, ix_24, ix_30, ix_36, ix_46, ix_76, mx_4, mx_6, mx_30, mx_136, mx_1100, mx_3324, xi_1, xi_30, nI_pred, eAt, zAt, tc_0, tc_1, tc_2, tc_3, tc_7, tc_15, tc_23, tc_30, nI_add, pk_mul, nI_clamp]); exact vp_in_nI (by omega) (by omega)) | rfl | exact trivial | exact Nat.zero_le _ | exact (e_fit_01 _).1 | exact (e_fit_01 _).2 | (with_reducible refine vp_in_iff.mpr ?_; decide +kernel) | (with_reducible refine e_nz _ (by decide)) | decide | skip
    all_goals first | (exfalso; first | exact c (by assumption) | exact (by assumption : ¬ _) c | exact c2 (by assumption) | exact (by assumption : ¬ _) c2 | fail) | skip
    all_goals (rw [e_01_f nW])
  have c2 : mI (tW M a f) a 6 - mI (tW M a f) a 2 = nI (e_len.getD 4 0) := by rw [hs, hlw, hlen]
  have loop : ∀ zn i, i + zn = 4 → (∀ j, j < i → B (t + j) = List.getD [100, 97, 121, 115] j 0) → K 28 [some (.inr (.inr (.inr (.inr (3, a))))), some (.inr (.inr (.inr (.inr (204, s))))), some (.inl (nI i))] [] (tW M a f) 0 0 := by
    intro zn
    induction zn with
    | zero =>
      intro i hi hm
      have cI : nI (e_len.getD 4 0) ≤ nI i := by rw [hlw]; exact (nI_leI (by omega) (by omega)).mpr (by omega)
      have yW : tH B n t = 132915 := hW.mpr ⟨hle, hlen, fun j hj => hm j (by have : j < 4 := hj; omega)⟩
      refine e_step rfl hc 60 [36] ?_
      repeat' (first | (with_reducible (intro h9; exact absurd rfl h9)) | (with_reducible (intro h9; exact absurd h9 e_10)) | (with_reducible (intro h9; first | exact absurd e_00 h9 | exact absurd h9 e_n10 | exact absurd h9 e_n20 | exact absurd h9 e_n30)) | (with_reducible intro _) | (refine And.intro ?_ ?_) | (with_reducible refine e_sw_nil ?_) | fail)
      all_goals first | (exfalso; first | exact cI (by assumption) | exact (by assumption : ¬ _) cI | fail) | skip
      all_goals first | (with_reducible refine e_goK ?_) | (with_reducible refine e_ctK ?_) | (with_reducible refine vp_inK ?_; (try simp (disch := omega) only [mI_rM0, mI_rM1, mI_rM2, mI_rM3, mI_rM4, mI_rM5, mI_rM6, mI_rM7, mI_rM8, mI_rM9, mI_rM10, mI_rM11, mI_rM12, mI_rM13, sI_rM0, sI_rM1, sI_rM2, sI_rM3, sI_rM4, sI_rM5, sI_rM6, sI_rM7, sI_rM8, sI_rM9, sI_rM10, sI_rM11, sI_rM12, sI_rM13, ix_0, ix_1, ix_2, ix_3, ix_4, ix_5, ix_6, ix_7, ix_8, ix_9, ix_10, ix_11, ix_12, ix_13, ix_14, ix_15, ix_16, ix_20, ix_23, ix_24, ix_30, ix_36, ix_46, ix_76, mx_4, mx_6, mx_30, mx_136, mx_1100, mx_3324, xi_1, xi_30, nI_pred, eAt, zAt, tc_0, tc_1, tc_2, tc_3, tc_7, tc_15, tc_23, tc_30, nI_add, pk_mul, nI_clamp]); exact vp_in_nI (by omega) (by omega)) | rfl | exact trivial | exact Nat.zero_le _ | exact (e_fit_01 _).1 | exact (e_fit_01 _).2 | (with_reducible refine vp_in_iff.mpr ?_; decide +kernel) | (with_reducible refine e_nz _ (by decide)) | decide | skip
      all_goals (rw [e_01_t yW])
    | succ zn ih =>
      intro i hi hm
      have cI : ¬ nI (e_len.getD 4 0) ≤ nI i := by rw [hlw]; exact fun z => absurd ((nI_leI (by omega) (by omega)).mp z) (by omega)
      have si : mI (tW M a f) a 2 + nI i = nI (t + i) := by rw [tW_s, f22, nI_add]
      have cE : ¬ mI (tW M a f) a 5 ≤ mI (tW M a f) a 2 + nI i := by rw [si, tW_s, f5]; exact fun z => absurd ((nI_leI (by omega) (by omega)).mp z) (by omega)
      have vq : vp_in (mI (tW M a f) a 2 + nI i) 800 := by rw [si]; exact vp_in_nI (by omega) (by omega)
      have vs : vp_in (nI i) (e_len.getD 4 0) := by rw [hlw]; exact vp_in_nI (by omega) (by omega)
      have hb : (e_byt.getD 4 []).getD (nI i).toNatClampNeg 0 = nI (List.getD [100, 97, 121, 115] i 0) := by
        rw [eb_4, nI_clamp (by omega)]
        have : ∀ i, i < 4 → List.getD ([100, 97, 121, 115] : List Int32) i 0 = nI (List.getD [100, 97, 121, 115] i 0) := by decide +kernel
        exact this i (by omega)
      have hc128 : List.getD [100, 97, 121, 115] i 0 < 128 := by
        have : ∀ i, i < 4 → List.getD [100, 97, 121, 115] i 0 < 128 := by decide +kernel
        exact this i (by omega)
      have bB := hT.2 (t + i) (by omega)
      have cB : mI (tW M a f) (a + 1) (mI (tW M a f) a 2 + nI i).toNatClampNeg = (e_byt.getD 4 []).getD (nI i).toNatClampNeg 0 ↔ B (t + i) = List.getD [100, 97, 121, 115] i 0 := by
        rw [hb, si, nI_clamp (by omega), tW_b, bB.1]; exact sB_eq bB.2 hc128
      have k36 : K 36 [some (.inr (.inr (.inr (.inr (3, a))))), some (.inr (.inr (.inr (.inr (204, s))))), some (.inl (nI i))] [] (tW M a f) 0 0 := by
        by_cases hq : B (t + i) = List.getD [100, 97, 121, 115] i 0
        · have kk := ih (i + 1) (by omega) (fun j hj => by
            by_cases q : j = i
            · subst q; exact hq
            · exact hm j (by omega))
          have cB1 := cB.mpr hq
          refine e_step rfl hc 60 [28] ?_
          repeat' (first | (with_reducible (intro h9; exact absurd rfl h9)) | (with_reducible (intro h9; exact absurd h9 e_10)) | (with_reducible (intro h9; first | exact absurd e_00 h9 | exact absurd h9 e_n10 | exact absurd h9 e_n20 | exact absurd h9 e_n30)) | (with_reducible intro _) | (refine And.intro ?_ ?_) | (with_reducible refine e_sw_nil ?_) | fail)
          all_goals first | (exfalso; first | exact cE (by assumption) | exact (by assumption : ¬ _) cE | exact cB1 (by assumption) | exact (by assumption : ¬ _) cB1 | fail) | skip
          all_goals first | (with_reducible refine e_goK ?_) | (with_reducible refine e_ctK ?_) | (with_reducible refine vp_inK ?_; (try simp (disch := omega) only [mI_rM0, mI_rM1, mI_rM2, mI_rM3, mI_rM4, mI_rM5, mI_rM6, mI_rM7, mI_rM8, mI_rM9, mI_rM10, mI_rM11, mI_rM12, mI_rM13, sI_rM0, sI_rM1, sI_rM2, sI_rM3, sI_rM4, sI_rM5, sI_rM6, sI_rM7, sI_rM8, sI_rM9, sI_rM10, sI_rM11, sI_rM12, sI_rM13, ix_0, ix_1, ix_2, ix_3, ix_4, ix_5, ix_6, ix_7, ix_8, ix_9, ix_10, ix_11, ix_12, ix_13, ix_14, ix_15, ix_16, ix_20, ix_23, ix_24, ix_30, ix_36, ix_46, ix_76, mx_4, mx_6, mx_30, mx_136, mx_1100, mx_3324, xi_1, xi_30, nI_pred, eAt, zAt, tc_0, tc_1, tc_2, tc_3, tc_7, tc_15, tc_23, tc_30, nI_add, pk_mul, nI_clamp]); exact vp_in_nI (by omega) (by omega)) | rfl | exact trivial | exact Nat.zero_le _ | exact (e_fit_01 _).1 | exact (e_fit_01 _).2 | (with_reducible refine vp_in_iff.mpr ?_; decide +kernel) | (with_reducible refine e_nz _ (by decide)) | decide | exact vq | exact vs | skip
          all_goals first | (exfalso; first | exact cE (by assumption) | exact (by assumption : ¬ _) cE | exact cB1 (by assumption) | exact (by assumption : ¬ _) cB1 | fail) | skip
          refine e_kk (K := K) ?_; refine e_kc (kk) (by (repeat' (first | (refine e_cc ?_ ?_) | (with_reducible rfl) | (simp (disch := omega) only [mI_rM0, mI_rM1, mI_rM2, mI_rM3, mI_rM4, mI_rM5, mI_rM6, mI_rM7, mI_rM8, mI_rM9, mI_rM10, mI_rM11, mI_rM12, mI_rM13, sI_rM0, sI_rM1, sI_rM2, sI_rM3, sI_rM4, sI_rM5, sI_rM6, sI_rM7, sI_rM8, sI_rM9, sI_rM10, sI_rM11, sI_rM12, sI_rM13, n_lit, ↓pk_rem, pk_div, pk_mul, pk_sub, nI_add, nI_clamp, nmod, Nat.add_sub_cancel, eAt, zAt, e_clI, e_clP]; done) | ((try simp (disch := omega) only [mI_rM0, mI_rM1, mI_rM2, mI_rM3, mI_rM4, mI_rM5, mI_rM6, mI_rM7, mI_rM8, mI_rM9, mI_rM10, mI_rM11, mI_rM12, mI_rM13, sI_rM0, sI_rM1, sI_rM2, sI_rM3, sI_rM4, sI_rM5, sI_rM6, sI_rM7, sI_rM8, sI_rM9, sI_rM10, sI_rM11, sI_rM12, sI_rM13, n_lit, ↓pk_rem, pk_div, pk_mul, pk_sub, nI_add, nI_clamp, nmod, Nat.add_sub_cancel, eAt, zAt, e_clI, e_clP]); exact e_cnI (by omega)) | rfl))) (by (repeat' (first | (refine e_cc ?_ ?_) | (with_reducible rfl) | (simp (disch := omega) only [mI_rM0, mI_rM1, mI_rM2, mI_rM3, mI_rM4, mI_rM5, mI_rM6, mI_rM7, mI_rM8, mI_rM9, mI_rM10, mI_rM11, mI_rM12, mI_rM13, sI_rM0, sI_rM1, sI_rM2, sI_rM3, sI_rM4, sI_rM5, sI_rM6, sI_rM7, sI_rM8, sI_rM9, sI_rM10, sI_rM11, sI_rM12, sI_rM13, n_lit, ↓pk_rem, pk_div, pk_mul, pk_sub, nI_add, nI_clamp, nmod, Nat.add_sub_cancel, eAt, zAt, e_clI, e_clP]; done) | ((try simp (disch := omega) only [mI_rM0, mI_rM1, mI_rM2, mI_rM3, mI_rM4, mI_rM5, mI_rM6, mI_rM7, mI_rM8, mI_rM9, mI_rM10, mI_rM11, mI_rM12, mI_rM13, sI_rM0, sI_rM1, sI_rM2, sI_rM3, sI_rM4, sI_rM5, sI_rM6, sI_rM7, sI_rM8, sI_rM9, sI_rM10, sI_rM11, sI_rM12, sI_rM13, n_lit, ↓pk_rem, pk_div, pk_mul, pk_sub, nI_add, nI_clamp, nmod, Nat.add_sub_cancel, eAt, zAt, e_clI, e_clP]); exact e_cnI (by omega)) | rfl))) (by first | (with_reducible rfl) | (simp (disch := omega) only [mI_rM0, mI_rM1, mI_rM2, mI_rM3, mI_rM4, mI_rM5, mI_rM6, mI_rM7, mI_rM8, mI_rM9, mI_rM10, mI_rM11, mI_rM12, mI_rM13, sI_rM0, sI_rM1, sI_rM2, sI_rM3, sI_rM4, sI_rM5, sI_rM6, sI_rM7, sI_rM8, sI_rM9, sI_rM10, sI_rM11, sI_rM12, sI_rM13, n_lit, ↓pk_rem, pk_div, pk_mul, pk_sub, nI_add, nI_clamp, nmod, Nat.add_sub_cancel, eAt, zAt, e_clI, e_clP]; done) | rfl | fail)
        · have nW : ¬ tH B n t = 132915 := fun z => hq ((hW.mp z).2.2 i (by show i < 4; omega))
          have cB0 := fun z => hq (cB.mp z)
          refine e_step rfl hc 60 [28] ?_
          repeat' (first | (with_reducible (intro h9; exact absurd rfl h9)) | (with_reducible (intro h9; exact absurd h9 e_10)) | (with_reducible (intro h9; first | exact absurd e_00 h9 | exact absurd h9 e_n10 | exact absurd h9 e_n20 | exact absurd h9 e_n30)) | (with_reducible intro _) | (refine And.intro ?_ ?_) | (with_reducible refine e_sw_nil ?_) | fail)
          all_goals first | (exfalso; first | exact cE (by assumption) | exact (by assumption : ¬ _) cE | exact cB0 (by assumption) | exact (by assumption : ¬ _) cB0 | fail) | skip
          all_goals first | (with_reducible refine e_goK ?_) | (with_reducible refine e_ctK ?_) | (with_reducible refine vp_inK ?_; (try simp (disch := omega) only [mI_rM0, mI_rM1, mI_rM2, mI_rM3, mI_rM4, mI_rM5, mI_rM6, mI_rM7, mI_rM8, mI_rM9, mI_rM10, mI_rM11, mI_rM12, mI_rM13, sI_rM0, sI_rM1, sI_rM2, sI_rM3, sI_rM4, sI_rM5, sI_rM6, sI_rM7, sI_rM8, sI_rM9, sI_rM10, sI_rM11, sI_rM12, sI_rM13, ix_0, ix_1, ix_2, ix_3, ix_4, ix_5, ix_6, ix_7, ix_8, ix_9, ix_10, ix_11, ix_12, ix_13, ix_14, ix_15, ix_16, ix_20, ix_23, ix_24, ix_30, ix_36, ix_46, ix_76, mx_4, mx_6, mx_30, mx_136, mx_1100, mx_3324, xi_1, xi_30, nI_pred, eAt, zAt, tc_0, tc_1, tc_2, tc_3, tc_7, tc_15, tc_23, tc_30, nI_add, pk_mul, nI_clamp]); exact vp_in_nI (by omega) (by omega)) | rfl | exact trivial | exact Nat.zero_le _ | exact (e_fit_01 _).1 | exact (e_fit_01 _).2 | (with_reducible refine vp_in_iff.mpr ?_; decide +kernel) | (with_reducible refine e_nz _ (by decide)) | decide | exact vq | exact vs | skip
          all_goals first | (exfalso; first | exact cE (by assumption) | exact (by assumption : ¬ _) cE | exact cB0 (by assumption) | exact (by assumption : ¬ _) cB0 | fail) | skip
          all_goals first | (rw [e_01_f nW]; done) | skip
      refine e_step rfl hc 60 [36] ?_
      repeat' (first | (with_reducible (intro h9; exact absurd rfl h9)) | (with_reducible (intro h9; exact absurd h9 e_10)) | (with_reducible (intro h9; first | exact absurd e_00 h9 | exact absurd h9 e_n10 | exact absurd h9 e_n20 | exact absurd h9 e_n30)) | (with_reducible intro _) | (refine And.intro ?_ ?_) | (with_reducible refine e_sw_nil ?_) | fail)
      all_goals first | (exfalso; first | exact cI (by assumption) | exact (by assumption : ¬ _) cI | fail) | skip
      all_goals first | (with_reducible refine e_goK ?_) | (with_reducible refine e_ctK ?_) | (with_reducible refine vp_inK ?_; (try simp (disch := omega) only [mI_rM0, mI_rM1, mI_rM2, mI_rM3, mI_rM4, mI_rM5, mI_rM6, mI_rM7, mI_rM8, mI_rM9, mI_rM10, mI_rM11, mI_rM12, mI_rM13, sI_rM0, sI_rM1, sI_rM2, sI_rM3, sI_rM4, sI_rM5, sI_rM6, sI_rM7, sI_rM8, sI_rM9, sI_rM10, sI_rM11, sI_rM12, sI_rM13, ix_0, ix_1, ix_2, ix_3, ix_4, ix_5, ix_6, ix_7, ix_8, ix_9, ix_10, ix_11, ix_12, ix_13, ix_14, ix_15, ix_16, ix_20, ix_23, ix_24, ix_30, ix_36, ix_46, ix_76, mx_4, mx_6, mx_30, mx_136, mx_1100, mx_3324, xi_1, xi_30, nI_pred, eAt, zAt, tc_0, tc_1, tc_2, tc_3, tc_7, tc_15, tc_23, tc_30, nI_add, pk_mul, nI_clamp]); exact vp_in_nI (by omega) (by omega)) | rfl | exact trivial | exact Nat.zero_le _ | exact (e_fit_01 _).1 | exact (e_fit_01 _).2 | (with_reducible refine vp_in_iff.mpr ?_; decide +kernel) | (with_reducible refine e_nz _ (by decide)) | decide | skip
      exact k36
  have key := loop 4 0 (by omega) (fun j hj => absurd hj (Nat.not_lt_zero _))
  refine e_step rfl hc 60 [28] ?_
  repeat' (first | (with_reducible (intro h9; exact absurd rfl h9)) | (with_reducible (intro h9; exact absurd h9 e_10)) | (with_reducible (intro h9; first | exact absurd e_00 h9 | exact absurd h9 e_n10 | exact absurd h9 e_n20 | exact absurd h9 e_n30)) | (with_reducible intro _) | (refine And.intro ?_ ?_) | (with_reducible refine e_sw_nil ?_) | fail)
  all_goals first | (exfalso; first | exact c (by assumption) | exact (by assumption : ¬ _) c | exact c2 (by assumption) | exact (by assumption : ¬ _) c2 | fail) | skip
  all_goals first | (with_reducible refine e_goK ?_) | (with_reducible refine e_ctK ?_) | (with_reducible refine vp_inK ?_; (try simp (disch := omega) only [mI_rM0, mI_rM1, mI_rM2, mI_rM3, mI_rM4, mI_rM5, mI_rM6, mI_rM7, mI_rM8, mI_rM9, mI_rM10, mI_rM11, mI_rM12, mI_rM13, sI_rM0, sI_rM1, sI_rM2, sI_rM3, sI_rM4, sI_rM5, sI_rM6, sI_rM7, sI_rM8, sI_rM9, sI_rM10, sI_rM11, sI_rM12, sI_rM13, ix_0, ix_1, ix_2, ix_3, ix_4, ix_5, ix_6, ix_7, ix_8, ix_9, ix_10, ix_11, ix_12, ix_13, ix_14, ix_15, ix_16, ix_20, ix_23, ix_24, ix_30, ix_36, ix_46, ix_76, mx_4, mx_6, mx_30, mx_136, mx_1100, mx_3324, xi_1, xi_30, nI_pred, eAt, zAt, tc_0, tc_1, tc_2, tc_3, tc_7, tc_15, tc_23, tc_30, nI_add, pk_mul, nI_clamp]); exact vp_in_nI (by omega) (by omega)) | rfl | exact trivial | exact Nat.zero_le _ | exact (e_fit_01 _).1 | exact (e_fit_01 _).2 | (with_reducible refine vp_in_iff.mpr ?_; decide +kernel) | (with_reducible refine e_nz _ (by decide)) | decide | skip
  all_goals first | (exfalso; first | exact c (by assumption) | exact (by assumption : ¬ _) c | exact c2 (by assumption) | exact (by assumption : ¬ _) c2 | fail) | skip
  exact key
set_option maxRecDepth 20000 in
theorem ct_isWord_5 (hl0 : l.stackTraces = false) (M : EM) {a n t s : Nat} {B : Nat → Nat} (f : Nat → Int32) (hT : TB M a B n) (h : CK B n t f) : Ct l g sg_X8_isWord [.inr (.inr (.inr (.inr (3, a)))), .inr (.inr (.inr (.inr (205, s))))] (tW M a f) (fun o M' => M' = tW M a f ∧ o = .inl (some (.inl (e_01 (tH B n t = 24286579))))) := by
  refine sem_of hl0 mt_X8_isWord ok_X8_isWord rfl (fun K hc hw => ?_)
  clear hw
  have hW : tH B n t = 24286579 ↔ _ := tH_f (B := B) (n := n) (t := t) [119, 101, 101, 107, 115] (by decide) (by decide) (by decide)
  obtain ⟨f1, f22, f6, f3, htn, f5⟩ := h
  have n8 := hT.1
  by_cases hk : kdN B n t = 1
  case neg =>
    have c : ¬ mI (tW M a f) a 1 = 1 := by rw [tW_s, f1]; exact fun z => hk ((nI_eq (b := 1) (by have := kdN_lt (B := B) (n := n) (t := t); omega) (by omega)).mp z)
    have nW : ¬ tH B n t = 24286579 := fun z => hk (kd_1.mpr (hW.mp z).1)
    refine e_step rfl hc 60 [8] ?_
    repeat' (first | (with_reducible (intro h9; exact absurd rfl h9)) | (with_reducible (intro h9; exact absurd h9 e_10)) | (with_reducible (intro h9; first | exact absurd e_00 h9 | exact absurd h9 e_n10 | exact absurd h9 e_n20 | exact absurd h9 e_n30)) | (with_reducible intro _) | (refine And.intro ?_ ?_) | (with_reducible refine e_sw_nil ?_) | fail)
    all_goals first | (exfalso; first | exact c (by assumption) | exact (by assumption : ¬ _) c | fail) | skip
    all_goals first | (with_reducible refine e_goK ?_) | (with_reducible refine e_ctK ?_) | (with_reducible refine vp_inK ?_; (try simp (disch := omega) only [mI_rM0, mI_rM1, mI_rM2, mI_rM3, mI_rM4, mI_rM5, mI_rM6, mI_rM7, mI_rM8, mI_rM9, mI_rM10, mI_rM11, mI_rM12, mI_rM13, sI_rM0, sI_rM1, sI_rM2, sI_rM3, sI_rM4, sI_rM5, sI_rM6, sI_rM7, sI_rM8, sI_rM9, sI_rM10, sI_rM11, sI_rM12, sI_rM13, ix_0, ix_1, ix_2, ix_3, ix_4, ix_5, ix_6, ix_7, ix_8, ix_9, ix_10, ix_11, ix_12, ix_13, ix_14, ix_15, ix_16, ix_20, ix_23, ix_24, ix_30, ix_36, ix_46, ix_76, mx_4, mx_6, mx_30, mx_136, mx_1100, mx_3324, xi_1, xi_30, nI_pred, eAt, zAt, tc_0, tc_1, tc_2, tc_3, tc_7, tc_15, tc_23, tc_30, nI_add, pk_mul, nI_clamp]); exact vp_in_nI (by omega) (by omega)) | rfl | exact trivial | exact Nat.zero_le _ | exact (e_fit_01 _).1 | exact (e_fit_01 _).2 | (with_reducible refine vp_in_iff.mpr ?_; decide +kernel) | (with_reducible refine e_nz _ (by decide)) | decide | skip
    all_goals (rw [e_01_f nW])
  have hle := kd_1.mp hk
  have htl := tLe_n hle
  have hE := tE_le (B := B) htl
  have x6 : f 6 = nI (tE B n t) := by rw [f6]; unfold tX; rw [if_pos htl]
  have c : mI (tW M a f) a 1 = 1 := by rw [tW_s, f1, hk]; rfl
  have hs : mI (tW M a f) a 6 - mI (tW M a f) a 2 = nI (tE B n t - t) := by rw [tW_s, tW_s, x6, f22]; exact pk_sub (by omega)
  have hlw : e_len.getD 5 0 = 5 := by rw [el_0]; rfl
  by_cases hlen : tE B n t - t = 5
  case neg =>
    have c2 : ¬ mI (tW M a f) a 6 - mI (tW M a f) a 2 = nI (e_len.getD 5 0) := by rw [hs, hlw]; exact fun z => hlen ((nI_eq (by omega) (by omega)).mp z)
    have nW : ¬ tH B n t = 24286579 := fun z => hlen (hW.mp z).2.1
    refine e_step rfl hc 60 [28] ?_
    repeat' (first | (with_reducible (intro h9; exact absurd rfl h9)) | (with_reducible (intro h9; exact absurd h9 e_10)) | (with_reducible (intro h9; first | exact absurd e_00 h9 | exact absurd h9 e_n10 | exact absurd h9 e_n20 | exact absurd h9 e_n30)) | (with_reducible intro _) | (refine And.intro ?_ ?_) | (with_reducible refine e_sw_nil ?_) | fail)
    all_goals first | (exfalso; first | exact c (by assumption) | exact (by assumption : ¬ _) c | exact c2 (by assumption) | exact (by assumption : ¬ _) c2 | fail) | skip
    all_goals first | (with_reducible refine e_goK ?_) | (with_reducible refine e_ctK ?_) | (with_reducible refine vp_inK ?_; (try simp (disch := omega) only [mI_rM0, mI_rM1, mI_rM2, mI_rM3, mI_rM4, mI_rM5, mI_rM6, mI_rM7, mI_rM8, mI_rM9, mI_rM10, mI_rM11, mI_rM12, mI_rM13, sI_rM0, sI_rM1, sI_rM2, sI_rM3, sI_rM4, sI_rM5, sI_rM6, sI_rM7, sI_rM8, sI_rM9, sI_rM10, sI_rM11, sI_rM12, sI_rM13, ix_0, ix_1, ix_2, ix_3, ix_4, ix_5, ix_6, ix_7, ix_8, ix_9, ix_10, ix_11, ix_12, ix_13, ix_14, ix_15, ix_16, ix_20, ix_23, ix_24, ix_30, ix_36, ix_46, ix_76, mx_4, mx_6, mx_30, mx_136, mx_1100, mx_3324, xi_1, xi_30, nI_pred, eAt, zAt, tc_0, tc_1, tc_2, tc_3, tc_7, tc_15, tc_23, tc_30, nI_add, pk_mul, nI_clamp]); exact vp_in_nI (by omega) (by omega)) | rfl | exact trivial | exact Nat.zero_le _ | exact (e_fit_01 _).1 | exact (e_fit_01 _).2 | (with_reducible refine vp_in_iff.mpr ?_; decide +kernel) | (with_reducible refine e_nz _ (by decide)) | decide | skip
    all_goals first | (exfalso; first | exact c (by assumption) | exact (by assumption : ¬ _) c | exact c2 (by assumption) | exact (by assumption : ¬ _) c2 | fail) | skip
    all_goals (rw [e_01_f nW])
  have c2 : mI (tW M a f) a 6 - mI (tW M a f) a 2 = nI (e_len.getD 5 0) := by rw [hs, hlw, hlen]
  have loop : ∀ zn i, i + zn = 5 → (∀ j, j < i → B (t + j) = List.getD [119, 101, 101, 107, 115] j 0) → K 28 [some (.inr (.inr (.inr (.inr (3, a))))), some (.inr (.inr (.inr (.inr (205, s))))), some (.inl (nI i))] [] (tW M a f) 0 0 := by
    intro zn
    induction zn with
    | zero =>
      intro i hi hm
      have cI : nI (e_len.getD 5 0) ≤ nI i := by rw [hlw]; exact (nI_leI (by omega) (by omega)).mpr (by omega)
      have yW : tH B n t = 24286579 := hW.mpr ⟨hle, hlen, fun j hj => hm j (by have : j < 5 := hj; omega)⟩
      refine e_step rfl hc 60 [36] ?_
      repeat' (first | (with_reducible (intro h9; exact absurd rfl h9)) | (with_reducible (intro h9; exact absurd h9 e_10)) | (with_reducible (intro h9; first | exact absurd e_00 h9 | exact absurd h9 e_n10 | exact absurd h9 e_n20 | exact absurd h9 e_n30)) | (with_reducible intro _) | (refine And.intro ?_ ?_) | (with_reducible refine e_sw_nil ?_) | fail)
      all_goals first | (exfalso; first | exact cI (by assumption) | exact (by assumption : ¬ _) cI | fail) | skip
      all_goals first | (with_reducible refine e_goK ?_) | (with_reducible refine e_ctK ?_) | (with_reducible refine vp_inK ?_; (try simp (disch := omega) only [mI_rM0, mI_rM1, mI_rM2, mI_rM3, mI_rM4, mI_rM5, mI_rM6, mI_rM7, mI_rM8, mI_rM9, mI_rM10, mI_rM11, mI_rM12, mI_rM13, sI_rM0, sI_rM1, sI_rM2, sI_rM3, sI_rM4, sI_rM5, sI_rM6, sI_rM7, sI_rM8, sI_rM9, sI_rM10, sI_rM11, sI_rM12, sI_rM13, ix_0, ix_1, ix_2, ix_3, ix_4, ix_5, ix_6, ix_7, ix_8, ix_9, ix_10, ix_11, ix_12, ix_13, ix_14, ix_15, ix_16, ix_20, ix_23, ix_24, ix_30, ix_36, ix_46, ix_76, mx_4, mx_6, mx_30, mx_136, mx_1100, mx_3324, xi_1, xi_30, nI_pred, eAt, zAt, tc_0, tc_1, tc_2, tc_3, tc_7, tc_15, tc_23, tc_30, nI_add, pk_mul, nI_clamp]); exact vp_in_nI (by omega) (by omega)) | rfl | exact trivial | exact Nat.zero_le _ | exact (e_fit_01 _).1 | exact (e_fit_01 _).2 | (with_reducible refine vp_in_iff.mpr ?_; decide +kernel) | (with_reducible refine e_nz _ (by decide)) | decide | skip
      all_goals (rw [e_01_t yW])
    | succ zn ih =>
      intro i hi hm
      have cI : ¬ nI (e_len.getD 5 0) ≤ nI i := by rw [hlw]; exact fun z => absurd ((nI_leI (by omega) (by omega)).mp z) (by omega)
      have si : mI (tW M a f) a 2 + nI i = nI (t + i) := by rw [tW_s, f22, nI_add]
      have cE : ¬ mI (tW M a f) a 5 ≤ mI (tW M a f) a 2 + nI i := by rw [si, tW_s, f5]; exact fun z => absurd ((nI_leI (by omega) (by omega)).mp z) (by omega)
      have vq : vp_in (mI (tW M a f) a 2 + nI i) 800 := by rw [si]; exact vp_in_nI (by omega) (by omega)
      have vs : vp_in (nI i) (e_len.getD 5 0) := by rw [hlw]; exact vp_in_nI (by omega) (by omega)
      have hb : (e_byt.getD 5 []).getD (nI i).toNatClampNeg 0 = nI (List.getD [119, 101, 101, 107, 115] i 0) := by
        rw [eb_5, nI_clamp (by omega)]
        have : ∀ i, i < 5 → List.getD ([119, 101, 101, 107, 115] : List Int32) i 0 = nI (List.getD [119, 101, 101, 107, 115] i 0) := by decide +kernel
        exact this i (by omega)
      have hc128 : List.getD [119, 101, 101, 107, 115] i 0 < 128 := by
        have : ∀ i, i < 5 → List.getD [119, 101, 101, 107, 115] i 0 < 128 := by decide +kernel
        exact this i (by omega)
      have bB := hT.2 (t + i) (by omega)
      have cB : mI (tW M a f) (a + 1) (mI (tW M a f) a 2 + nI i).toNatClampNeg = (e_byt.getD 5 []).getD (nI i).toNatClampNeg 0 ↔ B (t + i) = List.getD [119, 101, 101, 107, 115] i 0 := by
        rw [hb, si, nI_clamp (by omega), tW_b, bB.1]; exact sB_eq bB.2 hc128
      have k36 : K 36 [some (.inr (.inr (.inr (.inr (3, a))))), some (.inr (.inr (.inr (.inr (205, s))))), some (.inl (nI i))] [] (tW M a f) 0 0 := by
        by_cases hq : B (t + i) = List.getD [119, 101, 101, 107, 115] i 0
        · have kk := ih (i + 1) (by omega) (fun j hj => by
            by_cases q : j = i
            · subst q; exact hq
            · exact hm j (by omega))
          have cB1 := cB.mpr hq
          refine e_step rfl hc 60 [28] ?_
          repeat' (first | (with_reducible (intro h9; exact absurd rfl h9)) | (with_reducible (intro h9; exact absurd h9 e_10)) | (with_reducible (intro h9; first | exact absurd e_00 h9 | exact absurd h9 e_n10 | exact absurd h9 e_n20 | exact absurd h9 e_n30)) | (with_reducible intro _) | (refine And.intro ?_ ?_) | (with_reducible refine e_sw_nil ?_) | fail)
          all_goals first | (exfalso; first | exact cE (by assumption) | exact (by assumption : ¬ _) cE | exact cB1 (by assumption) | exact (by assumption : ¬ _) cB1 | fail) | skip
          all_goals first | (with_reducible refine e_goK ?_) | (with_reducible refine e_ctK ?_) | (with_reducible refine vp_inK ?_; (try simp (disch := omega) only [mI_rM0, mI_rM1, mI_rM2, mI_rM3, mI_rM4, mI_rM5, mI_rM6, mI_rM7, mI_rM8, mI_rM9, mI_rM10, mI_rM11, mI_rM12, mI_rM13, sI_rM0, sI_rM1, sI_rM2, sI_rM3, sI_rM4, sI_rM5, sI_rM6, sI_rM7, sI_rM8, sI_rM9, sI_rM10, sI_rM11, sI_rM12, sI_rM13, ix_0, ix_1, ix_2, ix_3, ix_4, ix_5, ix_6, ix_7, ix_8, ix_9, ix_10, ix_11, ix_12, ix_13, ix_14, ix_15, ix_16, ix_20, ix_23, ix_24, ix_30, ix_36, ix_46, ix_76, mx_4, mx_6, mx_30, mx_136, mx_1100, mx_3324, xi_1, xi_30, nI_pred, eAt, zAt, tc_0, tc_1, tc_2, tc_3, tc_7, tc_15, tc_23, tc_30, nI_add, pk_mul, nI_clamp]); exact vp_in_nI (by omega) (by omega)) | rfl | exact trivial | exact Nat.zero_le _ | exact (e_fit_01 _).1 | exact (e_fit_01 _).2 | (with_reducible refine vp_in_iff.mpr ?_; decide +kernel) | (with_reducible refine e_nz _ (by decide)) | decide | exact vq | exact vs | skip
          all_goals first | (exfalso; first | exact cE (by assumption) | exact (by assumption : ¬ _) cE | exact cB1 (by assumption) | exact (by assumption : ¬ _) cB1 | fail) | skip
          refine e_kk (K := K) ?_; refine e_kc (kk) (by (repeat' (first | (refine e_cc ?_ ?_) | (with_reducible rfl) | (simp (disch := omega) only [mI_rM0, mI_rM1, mI_rM2, mI_rM3, mI_rM4, mI_rM5, mI_rM6, mI_rM7, mI_rM8, mI_rM9, mI_rM10, mI_rM11, mI_rM12, mI_rM13, sI_rM0, sI_rM1, sI_rM2, sI_rM3, sI_rM4, sI_rM5, sI_rM6, sI_rM7, sI_rM8, sI_rM9, sI_rM10, sI_rM11, sI_rM12, sI_rM13, n_lit, ↓pk_rem, pk_div, pk_mul, pk_sub, nI_add, nI_clamp, nmod, Nat.add_sub_cancel, eAt, zAt, e_clI, e_clP]; done) | ((try simp (disch := omega) only [mI_rM0, mI_rM1, mI_rM2, mI_rM3, mI_rM4, mI_rM5, mI_rM6, mI_rM7, mI_rM8, mI_rM9, mI_rM10, mI_rM11, mI_rM12, mI_rM13, sI_rM0, sI_rM1, sI_rM2, sI_rM3, sI_rM4, sI_rM5, sI_rM6, sI_rM7, sI_rM8, sI_rM9, sI_rM10, sI_rM11, sI_rM12, sI_rM13, n_lit, ↓pk_rem, pk_div, pk_mul, pk_sub, nI_add, nI_clamp, nmod, Nat.add_sub_cancel, eAt, zAt, e_clI, e_clP]); exact e_cnI (by omega)) | rfl))) (by (repeat' (first | (refine e_cc ?_ ?_) | (with_reducible rfl) | (simp (disch := omega) only [mI_rM0, mI_rM1, mI_rM2, mI_rM3, mI_rM4, mI_rM5, mI_rM6, mI_rM7, mI_rM8, mI_rM9, mI_rM10, mI_rM11, mI_rM12, mI_rM13, sI_rM0, sI_rM1, sI_rM2, sI_rM3, sI_rM4, sI_rM5, sI_rM6, sI_rM7, sI_rM8, sI_rM9, sI_rM10, sI_rM11, sI_rM12, sI_rM13, n_lit, ↓pk_rem, pk_div, pk_mul, pk_sub, nI_add, nI_clamp, nmod, Nat.add_sub_cancel, eAt, zAt, e_clI, e_clP]; done) | ((try simp (disch := omega) only [mI_rM0, mI_rM1, mI_rM2, mI_rM3, mI_rM4, mI_rM5, mI_rM6, mI_rM7, mI_rM8, mI_rM9, mI_rM10, mI_rM11, mI_rM12, mI_rM13, sI_rM0, sI_rM1, sI_rM2, sI_rM3, sI_rM4, sI_rM5, sI_rM6, sI_rM7, sI_rM8, sI_rM9, sI_rM10, sI_rM11, sI_rM12, sI_rM13, n_lit, ↓pk_rem, pk_div, pk_mul, pk_sub, nI_add, nI_clamp, nmod, Nat.add_sub_cancel, eAt, zAt, e_clI, e_clP]); exact e_cnI (by omega)) | rfl))) (by first | (with_reducible rfl) | (simp (disch := omega) only [mI_rM0, mI_rM1, mI_rM2, mI_rM3, mI_rM4, mI_rM5, mI_rM6, mI_rM7, mI_rM8, mI_rM9, mI_rM10, mI_rM11, mI_rM12, mI_rM13, sI_rM0, sI_rM1, sI_rM2, sI_rM3, sI_rM4, sI_rM5, sI_rM6, sI_rM7, sI_rM8, sI_rM9, sI_rM10, sI_rM11, sI_rM12, sI_rM13, n_lit, ↓pk_rem, pk_div, pk_mul, pk_sub, nI_add, nI_clamp, nmod, Nat.add_sub_cancel, eAt, zAt, e_clI, e_clP]; done) | rfl | fail)
        · have nW : ¬ tH B n t = 24286579 := fun z => hq ((hW.mp z).2.2 i (by show i < 5; omega))
          have cB0 := fun z => hq (cB.mp z)
          refine e_step rfl hc 60 [28] ?_
          repeat' (first | (with_reducible (intro h9; exact absurd rfl h9)) | (with_reducible (intro h9; exact absurd h9 e_10)) | (with_reducible (intro h9; first | exact absurd e_00 h9 | exact absurd h9 e_n10 | exact absurd h9 e_n20 | exact absurd h9 e_n30)) | (with_reducible intro _) | (refine And.intro ?_ ?_) | (with_reducible refine e_sw_nil ?_) | fail)
          all_goals first | (exfalso; first | exact cE (by assumption) | exact (by assumption : ¬ _) cE | exact cB0 (by assumption) | exact (by assumption : ¬ _) cB0 | fail) | skip
          all_goals first | (with_reducible refine e_goK ?_) | (with_reducible refine e_ctK ?_) | (with_reducible refine vp_inK ?_; (try simp (disch := omega) only [mI_rM0, mI_rM1, mI_rM2, mI_rM3, mI_rM4, mI_rM5, mI_rM6, mI_rM7, mI_rM8, mI_rM9, mI_rM10, mI_rM11, mI_rM12, mI_rM13, sI_rM0, sI_rM1, sI_rM2, sI_rM3, sI_rM4, sI_rM5, sI_rM6, sI_rM7, sI_rM8, sI_rM9, sI_rM10, sI_rM11, sI_rM12, sI_rM13, ix_0, ix_1, ix_2, ix_3, ix_4, ix_5, ix_6, ix_7, ix_8, ix_9, ix_10, ix_11, ix_12, ix_13, ix_14, ix_15, ix_16, ix_20, ix_23, ix_24, ix_30, ix_36, ix_46, ix_76, mx_4, mx_6, mx_30, mx_136, mx_1100, mx_3324, xi_1, xi_30, nI_pred, eAt, zAt, tc_0, tc_1, tc_2, tc_3, tc_7, tc_15, tc_23, tc_30, nI_add, pk_mul, nI_clamp]); exact vp_in_nI (by omega) (by omega)) | rfl | exact trivial | exact Nat.zero_le _ | exact (e_fit_01 _).1 | exact (e_fit_01 _).2 | (with_reducible refine vp_in_iff.mpr ?_; decide +kernel) | (with_reducible refine e_nz _ (by decide)) | decide | exact vq | exact vs | skip
          all_goals first | (exfalso; first | exact cE (by assumption) | exact (by assumption : ¬ _) cE | exact cB0 (by assumption) | exact (by assumption : ¬ _) cB0 | fail) | skip
          all_goals first | (rw [e_01_f nW]; done) | skip
      refine e_step rfl hc 60 [36] ?_
      repeat' (first | (with_reducible (intro h9; exact absurd rfl h9)) | (with_reducible (intro h9; exact absurd h9 e_10)) | (with_reducible (intro h9; first | exact absurd e_00 h9 | exact absurd h9 e_n10 | exact absurd h9 e_n20 | exact absurd h9 e_n30)) | (with_reducible intro _) | (refine And.intro ?_ ?_) | (with_reducible refine e_sw_nil ?_) | fail)
      all_goals first | (exfalso; first | exact cI (by assumption) | exact (by assumption : ¬ _) cI | fail) | skip
      all_goals first | (with_reducible refine e_goK ?_) | (with_reducible refine e_ctK ?_) | (with_reducible refine vp_inK ?_; (try simp (disch := omega) only [mI_rM0, mI_rM1, mI_rM2, mI_rM3, mI_rM4, mI_rM5, mI_rM6, mI_rM7, mI_rM8, mI_rM9, mI_rM10, mI_rM11, mI_rM12, mI_rM13, sI_rM0, sI_rM1, sI_rM2, sI_rM3, sI_rM4, sI_rM5, sI_rM6, sI_rM7, sI_rM8, sI_rM9, sI_rM10, sI_rM11, sI_rM12, sI_rM13, ix_0, ix_1, ix_2, ix_3, ix_4, ix_5, ix_6, ix_7, ix_8, ix_9, ix_10, ix_11, ix_12, ix_13, ix_14, ix_15, ix_16, ix_20, ix_23, ix_24, ix_30, ix_36, ix_46, ix_76, mx_4, mx_6, mx_30, mx_136, mx_1100, mx_3324, xi_1, xi_30, nI_pred, eAt, zAt, tc_0, tc_1, tc_2, tc_3, tc_7, tc_15, tc_23, tc_30, nI_add, pk_mul, nI_clamp]); exact vp_in_nI (by omega) (by omega)) | rfl | exact trivial | exact Nat.zero_le _ | exact (e_fit_01 _).1 | exact (e_fit_01 _).2 | (with_reducible refine vp_in_iff.mpr ?_; decide +kernel) | (with_reducible refine e_nz _ (by decide)) | decide | skip
      exact k36
  have key := loop 5 0 (by omega) (fun j hj => absurd hj (Nat.not_lt_zero _))
  refine e_step rfl hc 60 [28] ?_
  repeat' (first | (with_reducible (intro h9; exact absurd rfl h9)) | (with_reducible (intro h9; exact absurd h9 e_10)) | (with_reducible (intro h9; first | exact absurd e_00 h9 | exact absurd h9 e_n10 | exact absurd h9 e_n20 | exact absurd h9 e_n30)) | (with_reducible intro _) | (refine And.intro ?_ ?_) | (with_reducible refine e_sw_nil ?_) | fail)
  all_goals first | (exfalso; first | exact c (by assumption) | exact (by assumption : ¬ _) c | exact c2 (by assumption) | exact (by assumption : ¬ _) c2 | fail) | skip
  all_goals first | (with_reducible refine e_goK ?_) | (with_reducible refine e_ctK ?_) | (with_reducible refine vp_inK ?_; (try simp (disch := omega) only [mI_rM0, mI_rM1, mI_rM2, mI_rM3, mI_rM4, mI_rM5, mI_rM6, mI_rM7, mI_rM8, mI_rM9, mI_rM10, mI_rM11, mI_rM12, mI_rM13, sI_rM0, sI_rM1, sI_rM2, sI_rM3, sI_rM4, sI_rM5, sI_rM6, sI_rM7, sI_rM8, sI_rM9, sI_rM10, sI_rM11, sI_rM12, sI_rM13, ix_0, ix_1, ix_2, ix_3, ix_4, ix_5, ix_6, ix_7, ix_8, ix_9, ix_10, ix_11, ix_12, ix_13, ix_14, ix_15, ix_16, ix_20, ix_23, ix_24, ix_30, ix_36, ix_46, ix_76, mx_4, mx_6, mx_30, mx_136, mx_1100, mx_3324, xi_1, xi_30, nI_pred, eAt, zAt, tc_0, tc_1, tc_2, tc_3, tc_7, tc_15, tc_23, tc_30, nI_add, pk_mul, nI_clamp]); exact vp_in_nI (by omega) (by omega)) | rfl | exact trivial | exact Nat.zero_le _ | exact (e_fit_01 _).1 | exact (e_fit_01 _).2 | (with_reducible refine vp_in_iff.mpr ?_; decide +kernel) | (with_reducible refine e_nz _ (by decide)) | decide | skip
  all_goals first | (exfalso; first | exact c (by assumption) | exact (by assumption : ¬ _) c | exact c2 (by assumption) | exact (by assumption : ¬ _) c2 | fail) | skip
  exact key
set_option maxRecDepth 20000 in
theorem ct_isWord_6 (hl0 : l.stackTraces = false) (M : EM) {a n t s : Nat} {B : Nat → Nat} (f : Nat → Int32) (hT : TB M a B n) (h : CK B n t f) : Ct l g sg_X8_isWord [.inr (.inr (.inr (.inr (3, a)))), .inr (.inr (.inr (.inr (206, s))))] (tW M a f) (fun o M' => M' = tW M a f ∧ o = .inl (some (.inl (e_01 (tH B n t = 452415763))))) := by
  refine sem_of hl0 mt_X8_isWord ok_X8_isWord rfl (fun K hc hw => ?_)
  clear hw
  have hW : tH B n t = 452415763 ↔ _ := tH_f (B := B) (n := n) (t := t) [109, 111, 110, 116, 104, 115] (by decide) (by decide) (by decide)
  obtain ⟨f1, f22, f6, f3, htn, f5⟩ := h
  have n8 := hT.1
  by_cases hk : kdN B n t = 1
  case neg =>
    have c : ¬ mI (tW M a f) a 1 = 1 := by rw [tW_s, f1]; exact fun z => hk ((nI_eq (b := 1) (by have := kdN_lt (B := B) (n := n) (t := t); omega) (by omega)).mp z)
    have nW : ¬ tH B n t = 452415763 := fun z => hk (kd_1.mpr (hW.mp z).1)
    refine e_step rfl hc 60 [8] ?_
    repeat' (first | (with_reducible (intro h9; exact absurd rfl h9)) | (with_reducible (intro h9; exact absurd h9 e_10)) | (with_reducible (intro h9; first | exact absurd e_00 h9 | exact absurd h9 e_n10 | exact absurd h9 e_n20 | exact absurd h9 e_n30)) | (with_reducible intro _) | (refine And.intro ?_ ?_) | (with_reducible refine e_sw_nil ?_) | fail)
    all_goals first | (exfalso; first | exact c (by assumption) | exact (by assumption : ¬ _) c | fail) | skip
    all_goals first | (with_reducible refine e_goK ?_) | (with_reducible refine e_ctK ?_) | (with_reducible refine vp_inK ?_; (try simp (disch := omega) only [mI_rM0, mI_rM1, mI_rM2, mI_rM3, mI_rM4, mI_rM5, mI_rM6, mI_rM7, mI_rM8, mI_rM9, mI_rM10, mI_rM11, mI_rM12, mI_rM13, sI_rM0, sI_rM1, sI_rM2, sI_rM3, sI_rM4, sI_rM5, sI_rM6, sI_rM7, sI_rM8, sI_rM9, sI_rM10, sI_rM11, sI_rM12, sI_rM13, ix_0, ix_1, ix_2, ix_3, ix_4, ix_5, ix_6, ix_7, ix_8, ix_9, ix_10, ix_11, ix_12, ix_13, ix_14, ix_15, ix_16, ix_20, ix_23, ix_24, ix_30, ix_36, ix_46, ix_76, mx_4, mx_6, mx_30, mx_136, mx_1100, mx_3324, xi_1, xi_30, nI_pred, eAt, zAt, tc_0, tc_1, tc_2, tc_3, tc_7, tc_15, tc_23, tc_30, nI_add, pk_mul, nI_clamp]); exact vp_in_nI (by omega) (by omega)) | rfl | exact trivial | exact Nat.zero_le _ | exact (e_fit_01 _).1 | exact (e_fit_01 _).2 | (with_reducible refine vp_in_iff.mpr ?_; decide +kernel) | (with_reducible refine e_nz _ (by decide)) | decide | skip
    all_goals (rw [e_01_f nW])
  have hle := kd_1.mp hk
  have htl := tLe_n hle
  have hE := tE_le (B := B) htl
  have x6 : f 6 = nI (tE B n t) := by rw [f6]; unfold tX; rw [if_pos htl]
  have c : mI (tW M a f) a 1 = 1 := by rw [tW_s, f1, hk]; rfl
  have hs : mI (tW M a f) a 6 - mI (tW M a f) a 2 = nI (tE B n t - t) := by rw [tW_s, tW_s, x6, f22]; exact pk_sub (by omega)
  have hlw : e_len.getD 6 0 = 6 := by rw [el_0]; rfl
  by_cases hlen : tE B n t - t = 6
  case neg =>
    have c2 : ¬ mI (tW M a f) a 6 - mI (tW M a f) a 2 = nI (e_len.getD 6 0) := by rw [hs, hlw]; exact fun z => hlen ((nI_eq (by omega) (by omega)).mp z)
    have nW : ¬ tH B n t = 452415763 := fun z => hlen (hW.mp z).2.1
    refine e_step rfl hc 60 [28] ?_
    repeat' (first | (with_reducible (intro h9; exact absurd rfl h9)) | (with_reducible (intro h9; exact absurd h9 e_10)) | (with_reducible (intro h9; first | exact absurd e_00 h9 | exact absurd h9 e_n10 | exact absurd h9 e_n20 | exact absurd h9 e_n30)) | (with_reducible intro _) | (refine And.intro ?_ ?_) | (with_reducible refine e_sw_nil ?_) | fail)
    all_goals first | (exfalso; first | exact c (by assumption) | exact (by assumption : ¬ _) c | exact c2 (by assumption) | exact (by assumption : ¬ _) c2 | fail) | skip
    all_goals first | (with_reducible refine e_goK ?_) | (with_reducible refine e_ctK ?_) | (with_reducible refine vp_inK ?_; (try simp (disch := omega) only [mI_rM0, mI_rM1, mI_rM2, mI_rM3, mI_rM4, mI_rM5, mI_rM6, mI_rM7, mI_rM8, mI_rM9, mI_rM10, mI_rM11, mI_rM12, mI_rM13, sI_rM0, sI_rM1, sI_rM2, sI_rM3, sI_rM4, sI_rM5, sI_rM6, sI_rM7, sI_rM8, sI_rM9, sI_rM10, sI_rM11, sI_rM12, sI_rM13, ix_0, ix_1, ix_2, ix_3, ix_4, ix_5, ix_6, ix_7, ix_8, ix_9, ix_10, ix_11, ix_12, ix_13, ix_14, ix_15, ix_16, ix_20, ix_23, ix_24, ix_30, ix_36, ix_46, ix_76, mx_4, mx_6, mx_30, mx_136, mx_1100, mx_3324, xi_1, xi_30, nI_pred, eAt, zAt, tc_0, tc_1, tc_2, tc_3, tc_7, tc_15, tc_23, tc_30, nI_add, pk_mul, nI_clamp]); exact vp_in_nI (by omega) (by omega)) | rfl | exact trivial | exact Nat.zero_le _ | exact (e_fit_01 _).1 | exact (e_fit_01 _).2 | (with_reducible refine vp_in_iff.mpr ?_; decide +kernel) | (with_reducible refine e_nz _ (by decide)) | decide | skip
    all_goals first | (exfalso; first | exact c (by assumption) | exact (by assumption : ¬ _) c | exact c2 (by assumption) | exact (by assumption : ¬ _) c2 | fail) | skip
    all_goals (rw [e_01_f nW])
  have c2 : mI (tW M a f) a 6 - mI (tW M a f) a 2 = nI (e_len.getD 6 0) := by rw [hs, hlw, hlen]
  have loop : ∀ zn i, i + zn = 6 → (∀ j, j < i → B (t + j) = List.getD [109, 111, 110, 116, 104, 115] j 0) → K 28 [some (.inr (.inr (.inr (.inr (3, a))))), some (.inr (.inr (.inr (.inr (206, s))))), some (.inl (nI i))] [] (tW M a f) 0 0 := by
    intro zn
    induction zn with
    | zero =>
      intro i hi hm
      have cI : nI (e_len.getD 6 0) ≤ nI i := by rw [hlw]; exact (nI_leI (by omega) (by omega)).mpr (by omega)
      have yW : tH B n t = 452415763 := hW.mpr ⟨hle, hlen, fun j hj => hm j (by have : j < 6 := hj; omega)⟩
      refine e_step rfl hc 60 [36] ?_
      repeat' (first | (with_reducible (intro h9; exact absurd rfl h9)) | (with_reducible (intro h9; exact absurd h9 e_10)) | (with_reducible (intro h9; first | exact absurd e_00 h9 | exact absurd h9 e_n10 | exact absurd h9 e_n20 | exact absurd h9 e_n30)) | (with_reducible intro _) | (refine And.intro ?_ ?_) | (with_reducible refine e_sw_nil ?_) | fail)
      all_goals first | (exfalso; first | exact cI (by assumption) | exact (by assumption : ¬ _) cI | fail) | skip
      all_goals first | (with_reducible refine e_goK ?_) | (with_reducible refine e_ctK ?_) | (with_reducible refine vp_inK ?_; (try simp (disch := omega) only [mI_rM0, mI_rM1, mI_rM2, mI_rM3, mI_rM4, mI_rM5, mI_rM6, mI_rM7, mI_rM8, mI_rM9, mI_rM10, mI_rM11, mI_rM12, mI_rM13, sI_rM0, sI_rM1, sI_rM2, sI_rM3, sI_rM4, sI_rM5, sI_rM6, sI_rM7, sI_rM8, sI_rM9, sI_rM10, sI_rM11, sI_rM12, sI_rM13, ix_0, ix_1, ix_2, ix_3, ix_4, ix_5, ix_6, ix_7, ix_8, ix_9, ix_10, ix_11, ix_12, ix_13, ix_14, ix_15, ix_16, ix_20, ix_23, ix_24, ix_30, ix_36, ix_46, ix_76, mx_4, mx_6, mx_30, mx_136, mx_1100, mx_3324, xi_1, xi_30, nI_pred, eAt, zAt, tc_0, tc_1, tc_2, tc_3, tc_7, tc_15, tc_23, tc_30, nI_add, pk_mul, nI_clamp]); exact vp_in_nI (by omega) (by omega)) | rfl | exact trivial | exact Nat.zero_le _ | exact (e_fit_01 _).1 | exact (e_fit_01 _).2 | (with_reducible refine vp_in_iff.mpr ?_; decide +kernel) | (with_reducible refine e_nz _ (by decide)) | decide | skip
      all_goals (rw [e_01_t yW])
    | succ zn ih =>
      intro i hi hm
      have cI : ¬ nI (e_len.getD 6 0) ≤ nI i := by rw [hlw]; exact fun z => absurd ((nI_leI (by omega) (by omega)).mp z) (by omega)
      have si : mI (tW M a f) a 2 + nI i = nI (t + i) := by rw [tW_s, f22, nI_add]
      have cE : ¬ mI (tW M a f) a 5 ≤ mI (tW M a f) a 2 + nI i := by rw [si, tW_s, f5]; exact fun z => absurd ((nI_leI (by omega) (by omega)).mp z) (by omega)
      have vq : vp_in (mI (tW M a f) a 2 + nI i) 800 := by rw [si]; exact vp_in_nI (by omega) (by omega)
      have vs : vp_in (nI i) (e_len.getD 6 0) := by rw [hlw]; exact vp_in_nI (by omega) (by omega)
      have hb : (e_byt.getD 6 []).getD (nI i).toNatClampNeg 0 = nI (List.getD [109, 111, 110, 116, 104, 115] i 0) := by
        rw [eb_6, nI_clamp (by omega)]
        have : ∀ i, i < 6 → List.getD ([109, 111, 110, 116, 104, 115] : List Int32) i 0 = nI (List.getD [109, 111, 110, 116, 104, 115] i 0) := by decide +kernel
        exact this i (by omega)
      have hc128 : List.getD [109, 111, 110, 116, 104, 115] i 0 < 128 := by
        have : ∀ i, i < 6 → List.getD [109, 111, 110, 116, 104, 115] i 0 < 128 := by decide +kernel
        exact this i (by omega)
      have bB := hT.2 (t + i) (by omega)
      have cB : mI (tW M a f) (a + 1) (mI (tW M a f) a 2 + nI i).toNatClampNeg = (e_byt.getD 6 []).getD (nI i).toNatClampNeg 0 ↔ B (t + i) = List.getD [109, 111, 110, 116, 104, 115] i 0 := by
        rw [hb, si, nI_clamp (by omega), tW_b, bB.1]; exact sB_eq bB.2 hc128
      have k36 : K 36 [some (.inr (.inr (.inr (.inr (3, a))))), some (.inr (.inr (.inr (.inr (206, s))))), some (.inl (nI i))] [] (tW M a f) 0 0 := by
        by_cases hq : B (t + i) = List.getD [109, 111, 110, 116, 104, 115] i 0
        · have kk := ih (i + 1) (by omega) (fun j hj => by
            by_cases q : j = i
            · subst q; exact hq
            · exact hm j (by omega))
          have cB1 := cB.mpr hq
          refine e_step rfl hc 60 [28] ?_
          repeat' (first | (with_reducible (intro h9; exact absurd rfl h9)) | (with_reducible (intro h9; exact absurd h9 e_10)) | (with_reducible (intro h9; first | exact absurd e_00 h9 | exact absurd h9 e_n10 | exact absurd h9 e_n20 | exact absurd h9 e_n30)) | (with_reducible intro _) | (refine And.intro ?_ ?_) | (with_reducible refine e_sw_nil ?_) | fail)
          all_goals first | (exfalso; first | exact cE (by assumption) | exact (by assumption : ¬ _) cE | exact cB1 (by assumption) | exact (by assumption : ¬ _) cB1 | fail) | skip
          all_goals first | (with_reducible refine e_goK ?_) | (with_reducible refine e_ctK ?_) | (with_reducible refine vp_inK ?_; (try simp (disch := omega) only [mI_rM0, mI_rM1, mI_rM2, mI_rM3, mI_rM4, mI_rM5, mI_rM6, mI_rM7, mI_rM8, mI_rM9, mI_rM10, mI_rM11, mI_rM12, mI_rM13, sI_rM0, sI_rM1, sI_rM2, sI_rM3, sI_rM4, sI_rM5, sI_rM6, sI_rM7, sI_rM8, sI_rM9, sI_rM10, sI_rM11, sI_rM12, sI_rM13, ix_0, ix_1, ix_2, ix_3, ix_4, ix_5, ix_6, ix_7, ix_8, ix_9, ix_10, ix_11, ix_12, ix_13, ix_14, ix_15, ix_16, ix_20, ix_23, ix_24, ix_30, ix_36, ix_46, ix_76, mx_4, mx_6, mx_30, mx_136, mx_1100, mx_3324, xi_1, xi_30, nI_pred, eAt, zAt, tc_0, tc_1, tc_2, tc_3, tc_7, tc_15, tc_23, tc_30, nI_add, pk_mul, nI_clamp]); exact vp_in_nI (by omega) (by omega)) | rfl | exact trivial | exact Nat.zero_le _ | exact (e_fit_01 _).1 | exact (e_fit_01 _).2 | (with_reducible refine vp_in_iff.mpr ?_; decide +kernel) | (with_reducible refine e_nz _ (by decide)) | decide | exact vq | exact vs | skip
          all_goals first | (exfalso; first | exact cE (by assumption) | exact (by assumption : ¬ _) cE | exact cB1 (by assumption) | exact (by assumption : ¬ _) cB1 | fail) | skip
          refine e_kk (K := K) ?_; refine e_kc (kk) (by (repeat' (first | (refine e_cc ?_ ?_) | (with_reducible rfl) | (simp (disch := omega) only [mI_rM0, mI_rM1, mI_rM2, mI_rM3, mI_rM4, mI_rM5, mI_rM6, mI_rM7, mI_rM8, mI_rM9, mI_rM10, mI_rM11, mI_rM12, mI_rM13, sI_rM0, sI_rM1, sI_rM2, sI_rM3, sI_rM4, sI_rM5, sI_rM6, sI_rM7, sI_rM8, sI_rM9, sI_rM10, sI_rM11, sI_rM12, sI_rM13, n_lit, ↓pk_rem, pk_div, pk_mul, pk_sub, nI_add, nI_clamp, nmod, Nat.add_sub_cancel, eAt, zAt, e_clI, e_clP]; done) | ((try simp (disch := omega) only [mI_rM0, mI_rM1, mI_rM2, mI_rM3, mI_rM4, mI_rM5, mI_rM6, mI_rM7, mI_rM8, mI_rM9, mI_rM10, mI_rM11, mI_rM12, mI_rM13, sI_rM0, sI_rM1, sI_rM2, sI_rM3, sI_rM4, sI_rM5, sI_rM6, sI_rM7, sI_rM8, sI_rM9, sI_rM10, sI_rM11, sI_rM12, sI_rM13, n_lit, ↓pk_rem, pk_div, pk_mul, pk_sub, nI_add, nI_clamp, nmod, Nat.add_sub_cancel, eAt, zAt, e_clI, e_clP]); exact e_cnI (by omega)) | rfl))) (by (repeat' (first | (refine e_cc ?_ ?_) | (with_reducible rfl) | (simp (disch := omega) only [mI_rM0, mI_rM1, mI_rM2, mI_rM3, mI_rM4, mI_rM5, mI_rM6, mI_rM7, mI_rM8, mI_rM9, mI_rM10, mI_rM11, mI_rM12, mI_rM13, sI_rM0, sI_rM1, sI_rM2, sI_rM3, sI_rM4, sI_rM5, sI_rM6, sI_rM7, sI_rM8, sI_rM9, sI_rM10, sI_rM11, sI_rM12, sI_rM13, n_lit, ↓pk_rem, pk_div, pk_mul, pk_sub, nI_add, nI_clamp, nmod, Nat.add_sub_cancel, eAt, zAt, e_clI, e_clP]; done) | ((try simp (disch := omega) only [mI_rM0, mI_rM1, mI_rM2, mI_rM3, mI_rM4, mI_rM5, mI_rM6, mI_rM7, mI_rM8, mI_rM9, mI_rM10, mI_rM11, mI_rM12, mI_rM13, sI_rM0, sI_rM1, sI_rM2, sI_rM3, sI_rM4, sI_rM5, sI_rM6, sI_rM7, sI_rM8, sI_rM9, sI_rM10, sI_rM11, sI_rM12, sI_rM13, n_lit, ↓pk_rem, pk_div, pk_mul, pk_sub, nI_add, nI_clamp, nmod, Nat.add_sub_cancel, eAt, zAt, e_clI, e_clP]); exact e_cnI (by omega)) | rfl))) (by first | (with_reducible rfl) | (simp (disch := omega) only [mI_rM0, mI_rM1, mI_rM2, mI_rM3, mI_rM4, mI_rM5, mI_rM6, mI_rM7, mI_rM8, mI_rM9, mI_rM10, mI_rM11, mI_rM12, mI_rM13, sI_rM0, sI_rM1, sI_rM2, sI_rM3, sI_rM4, sI_rM5, sI_rM6, sI_rM7, sI_rM8, sI_rM9, sI_rM10, sI_rM11, sI_rM12, sI_rM13, n_lit, ↓pk_rem, pk_div, pk_mul, pk_sub, nI_add, nI_clamp, nmod, Nat.add_sub_cancel, eAt, zAt, e_clI, e_clP]; done) | rfl | fail)
        · have nW : ¬ tH B n t = 452415763 := fun z => hq ((hW.mp z).2.2 i (by show i < 6; omega))
          have cB0 := fun z => hq (cB.mp z)
          refine e_step rfl hc 60 [28] ?_
          repeat' (first | (with_reducible (intro h9; exact absurd rfl h9)) | (with_reducible (intro h9; exact absurd h9 e_10)) | (with_reducible (intro h9; first | exact absurd e_00 h9 | exact absurd h9 e_n10 | exact absurd h9 e_n20 | exact absurd h9 e_n30)) | (with_reducible intro _) | (refine And.intro ?_ ?_) | (with_reducible refine e_sw_nil ?_) | fail)
          all_goals first | (exfalso; first | exact cE (by assumption) | exact (by assumption : ¬ _) cE | exact cB0 (by assumption) | exact (by assumption : ¬ _) cB0 | fail) | skip
          all_goals first | (with_reducible refine e_goK ?_) | (with_reducible refine e_ctK ?_) | (with_reducible refine vp_inK ?_; (try simp (disch := omega) only [mI_rM0, mI_rM1, mI_rM2, mI_rM3, mI_rM4, mI_rM5, mI_rM6, mI_rM7, mI_rM8, mI_rM9, mI_rM10, mI_rM11, mI_rM12, mI_rM13, sI_rM0, sI_rM1, sI_rM2, sI_rM3, sI_rM4, sI_rM5, sI_rM6, sI_rM7, sI_rM8, sI_rM9, sI_rM10, sI_rM11, sI_rM12, sI_rM13, ix_0, ix_1, ix_2, ix_3, ix_4, ix_5, ix_6, ix_7, ix_8, ix_9, ix_10, ix_11, ix_12, ix_13, ix_14, ix_15, ix_16, ix_20, ix_23, ix_24, ix_30, ix_36, ix_46, ix_76, mx_4, mx_6, mx_30, mx_136, mx_1100, mx_3324, xi_1, xi_30, nI_pred, eAt, zAt, tc_0, tc_1, tc_2, tc_3, tc_7, tc_15, tc_23, tc_30, nI_add, pk_mul, nI_clamp]); exact vp_in_nI (by omega) (by omega)) | rfl | exact trivial | exact Nat.zero_le _ | exact (e_fit_01 _).1 | exact (e_fit_01 _).2 | (with_reducible refine vp_in_iff.mpr ?_; decide +kernel) | (with_reducible refine e_nz _ (by decide)) | decide | exact vq | exact vs | skip
          all_goals first | (exfalso; first | exact cE (by assumption) | exact (by assumption : ¬ _) cE | exact cB0 (by assumption) | exact (by assumption : ¬ _) cB0 | fail) | skip
          all_goals first | (rw [e_01_f nW]; done) | skip
      refine e_step rfl hc 60 [36] ?_
      repeat' (first | (with_reducible (intro h9; exact absurd rfl h9)) | (with_reducible (intro h9; exact absurd h9 e_10)) | (with_reducible (intro h9; first | exact absurd e_00 h9 | exact absurd h9 e_n10 | exact absurd h9 e_n20 | exact absurd h9 e_n30)) | (with_reducible intro _) | (refine And.intro ?_ ?_) | (with_reducible refine e_sw_nil ?_) | fail)
      all_goals first | (exfalso; first | exact cI (by assumption) | exact (by assumption : ¬ _) cI | fail) | skip
      all_goals first | (with_reducible refine e_goK ?_) | (with_reducible refine e_ctK ?_) | (with_reducible refine vp_inK ?_; (try simp (disch := omega) only [mI_rM0, mI_rM1, mI_rM2, mI_rM3, mI_rM4, mI_rM5, mI_rM6, mI_rM7, mI_rM8, mI_rM9, mI_rM10, mI_rM11, mI_rM12, mI_rM13, sI_rM0, sI_rM1, sI_rM2, sI_rM3, sI_rM4, sI_rM5, sI_rM6, sI_rM7, sI_rM8, sI_rM9, sI_rM10, sI_rM11, sI_rM12, sI_rM13, ix_0, ix_1, ix_2, ix_3, ix_4, ix_5, ix_6, ix_7, ix_8, ix_9, ix_10, ix_11, ix_12, ix_13, ix_14, ix_15, ix_16, ix_20, ix_23, ix_24, ix_30, ix_36, ix_46, ix_76, mx_4, mx_6, mx_30, mx_136, mx_1100, mx_3324, xi_1, xi_30, nI_pred, eAt, zAt, tc_0, tc_1, tc_2, tc_3, tc_7, tc_15, tc_23, tc_30, nI_add, pk_mul, nI_clamp]); exact vp_in_nI (by omega) (by omega)) | rfl | exact trivial | exact Nat.zero_le _ | exact (e_fit_01 _).1 | exact (e_fit_01 _).2 | (with_reducible refine vp_in_iff.mpr ?_; decide +kernel) | (with_reducible refine e_nz _ (by decide)) | decide | skip
      exact k36
  have key := loop 6 0 (by omega) (fun j hj => absurd hj (Nat.not_lt_zero _))
  refine e_step rfl hc 60 [28] ?_
  repeat' (first | (with_reducible (intro h9; exact absurd rfl h9)) | (with_reducible (intro h9; exact absurd h9 e_10)) | (with_reducible (intro h9; first | exact absurd e_00 h9 | exact absurd h9 e_n10 | exact absurd h9 e_n20 | exact absurd h9 e_n30)) | (with_reducible intro _) | (refine And.intro ?_ ?_) | (with_reducible refine e_sw_nil ?_) | fail)
  all_goals first | (exfalso; first | exact c (by assumption) | exact (by assumption : ¬ _) c | exact c2 (by assumption) | exact (by assumption : ¬ _) c2 | fail) | skip
  all_goals first | (with_reducible refine e_goK ?_) | (with_reducible refine e_ctK ?_) | (with_reducible refine vp_inK ?_; (try simp (disch := omega) only [mI_rM0, mI_rM1, mI_rM2, mI_rM3, mI_rM4, mI_rM5, mI_rM6, mI_rM7, mI_rM8, mI_rM9, mI_rM10, mI_rM11, mI_rM12, mI_rM13, sI_rM0, sI_rM1, sI_rM2, sI_rM3, sI_rM4, sI_rM5, sI_rM6, sI_rM7, sI_rM8, sI_rM9, sI_rM10, sI_rM11, sI_rM12, sI_rM13, ix_0, ix_1, ix_2, ix_3, ix_4, ix_5, ix_6, ix_7, ix_8, ix_9, ix_10, ix_11, ix_12, ix_13, ix_14, ix_15, ix_16, ix_20, ix_23, ix_24, ix_30, ix_36, ix_46, ix_76, mx_4, mx_6, mx_30, mx_136, mx_1100, mx_3324, xi_1, xi_30, nI_pred, eAt, zAt, tc_0, tc_1, tc_2, tc_3, tc_7, tc_15, tc_23, tc_30, nI_add, pk_mul, nI_clamp]); exact vp_in_nI (by omega) (by omega)) | rfl | exact trivial | exact Nat.zero_le _ | exact (e_fit_01 _).1 | exact (e_fit_01 _).2 | (with_reducible refine vp_in_iff.mpr ?_; decide +kernel) | (with_reducible refine e_nz _ (by decide)) | decide | skip
  all_goals first | (exfalso; first | exact c (by assumption) | exact (by assumption : ¬ _) c | exact c2 (by assumption) | exact (by assumption : ¬ _) c2 | fail) | skip
  exact key
set_option maxRecDepth 20000 in
theorem ct_isWord_7 (hl0 : l.stackTraces = false) (M : EM) {a n t s : Nat} {B : Nat → Nat} (f : Nat → Int32) (hT : TB M a B n) (h : CK B n t f) : Ct l g sg_X8_isWord [.inr (.inr (.inr (.inr (3, a)))), .inr (.inr (.inr (.inr (207, s))))] (tW M a f) (fun o M' => M' = tW M a f ∧ o = .inl (some (.inl (e_01 (tH B n t = 21279923))))) := by
  refine sem_of hl0 mt_X8_isWord ok_X8_isWord rfl (fun K hc hw => ?_)
  clear hw
  have hW : tH B n t = 21279923 ↔ _ := tH_f (B := B) (n := n) (t := t) [116, 105, 109, 101, 115] (by decide) (by decide) (by decide)
  obtain ⟨f1, f22, f6, f3, htn, f5⟩ := h
  have n8 := hT.1
  by_cases hk : kdN B n t = 1
  case neg =>
    have c : ¬ mI (tW M a f) a 1 = 1 := by rw [tW_s, f1]; exact fun z => hk ((nI_eq (b := 1) (by have := kdN_lt (B := B) (n := n) (t := t); omega) (by omega)).mp z)
    have nW : ¬ tH B n t = 21279923 := fun z => hk (kd_1.mpr (hW.mp z).1)
    refine e_step rfl hc 60 [8] ?_
    repeat' (first | (with_reducible (intro h9; exact absurd rfl h9)) | (with_reducible (intro h9; exact absurd h9 e_10)) | (with_reducible (intro h9; first | exact absurd e_00 h9 | exact absurd h9 e_n10 | exact absurd h9 e_n20 | exact absurd h9 e_n30)) | (with_reducible intro _) | (refine And.intro ?_ ?_) | (with_reducible refine e_sw_nil ?_) | fail)
    all_goals first | (exfalso; first | exact c (by assumption) | exact (by assumption : ¬ _) c | fail) | skip
    all_goals first | (with_reducible refine e_goK ?_) | (with_reducible refine e_ctK ?_) | (with_reducible refine vp_inK ?_; (try simp (disch := omega) only [mI_rM0, mI_rM1, mI_rM2, mI_rM3, mI_rM4, mI_rM5, mI_rM6, mI_rM7, mI_rM8, mI_rM9, mI_rM10, mI_rM11, mI_rM12, mI_rM13, sI_rM0, sI_rM1, sI_rM2, sI_rM3, sI_rM4, sI_rM5, sI_rM6, sI_rM7, sI_rM8, sI_rM9, sI_rM10, sI_rM11, sI_rM12, sI_rM13, ix_0, ix_1, ix_2, ix_3, ix_4, ix_5, ix_6, ix_7, ix_8, ix_9, ix_10, ix_11, ix_12, ix_13, ix_14, ix_15, ix_16, ix_20, ix_23, ix_24, ix_30, ix_36, ix_46, ix_76, mx_4, mx_6, mx_30, mx_136, mx_1100, mx_3324, xi_1, xi_30, nI_pred, eAt, zAt, tc_0, tc_1, tc_2, tc_3, tc_7, tc_15, tc_23, tc_30, nI_add, pk_mul, nI_clamp]); exact vp_in_nI (by omega) (by omega)) | rfl | exact trivial | exact Nat.zero_le _ | exact (e_fit_01 _).1 | exact (e_fit_01 _).2 | (with_reducible refine vp_in_iff.mpr ?_; decide +kernel) | (with_reducible refine e_nz _ (by decide)) | decide | skip
    all_goals (rw [e_01_f nW])
  have hle := kd_1.mp hk
  have htl := tLe_n hle
  have hE := tE_le (B := B) htl
  have x6 : f 6 = nI (tE B n t) := by rw [f6]; unfold tX; rw [if_pos htl]
  have c : mI (tW M a f) a 1 = 1 := by rw [tW_s, f1, hk]; rfl
  have hs : mI (tW M a f) a 6 - mI (tW M a f) a 2 = nI (tE B n t - t) := by rw [tW_s, tW_s, x6, f22]; exact pk_sub (by omega)
  have hlw : e_len.getD 7 0 = 5 := by rw [el_0]; rfl
  by_cases hlen : tE B n t - t = 5
  case neg =>
    have c2 : ¬ mI (tW M a f) a 6 - mI (tW M a f) a 2 = nI (e_len.getD 7 0) := by rw [hs, hlw]; exact fun z => hlen ((nI_eq (by omega) (by omega)).mp z)
    have nW : ¬ tH B n t = 21279923 := fun z => hlen (hW.mp z).2.1
    refine e_step rfl hc 60 [28] ?_
    repeat' (first | (with_reducible (intro h9; exact absurd rfl h9)) | (with_reducible (intro h9; exact absurd h9 e_10)) | (with_reducible (intro h9; first | exact absurd e_00 h9 | exact absurd h9 e_n10 | exact absurd h9 e_n20 | exact absurd h9 e_n30)) | (with_reducible intro _) | (refine And.intro ?_ ?_) | (with_reducible refine e_sw_nil ?_) | fail)
    all_goals first | (exfalso; first | exact c (by assumption) | exact (by assumption : ¬ _) c | exact c2 (by assumption) | exact (by assumption : ¬ _) c2 | fail) | skip
    all_goals first | (with_reducible refine e_goK ?_) | (with_reducible refine e_ctK ?_) | (with_reducible refine vp_inK ?_; (try simp (disch := omega) only [mI_rM0, mI_rM1, mI_rM2, mI_rM3, mI_rM4, mI_rM5, mI_rM6, mI_rM7, mI_rM8, mI_rM9, mI_rM10, mI_rM11, mI_rM12, mI_rM13, sI_rM0, sI_rM1, sI_rM2, sI_rM3, sI_rM4, sI_rM5, sI_rM6, sI_rM7, sI_rM8, sI_rM9, sI_rM10, sI_rM11, sI_rM12, sI_rM13, ix_0, ix_1, ix_2, ix_3, ix_4, ix_5, ix_6, ix_7, ix_8, ix_9, ix_10, ix_11, ix_12, ix_13, ix_14, ix_15, ix_16, ix_20, ix_23, ix_24, ix_30, ix_36, ix_46, ix_76, mx_4, mx_6, mx_30, mx_136, mx_1100, mx_3324, xi_1, xi_30, nI_pred, eAt, zAt, tc_0, tc_1, tc_2, tc_3, tc_7, tc_15, tc_23, tc_30, nI_add, pk_mul, nI_clamp]); exact vp_in_nI (by omega) (by omega)) | rfl | exact trivial | exact Nat.zero_le _ | exact (e_fit_01 _).1 | exact (e_fit_01 _).2 | (with_reducible refine vp_in_iff.mpr ?_; decide +kernel) | (with_reducible refine e_nz _ (by decide)) | decide | skip
    all_goals first | (exfalso; first | exact c (by assumption) | exact (by assumption : ¬ _) c | exact c2 (by assumption) | exact (by assumption : ¬ _) c2 | fail) | skip
    all_goals (rw [e_01_f nW])
  have c2 : mI (tW M a f) a 6 - mI (tW M a f) a 2 = nI (e_len.getD 7 0) := by rw [hs, hlw, hlen]
  have loop : ∀ zn i, i + zn = 5 → (∀ j, j < i → B (t + j) = List.getD [116, 105, 109, 101, 115] j 0) → K 28 [some (.inr (.inr (.inr (.inr (3, a))))), some (.inr (.inr (.inr (.inr (207, s))))), some (.inl (nI i))] [] (tW M a f) 0 0 := by
    intro zn
    induction zn with
    | zero =>
      intro i hi hm
      have cI : nI (e_len.getD 7 0) ≤ nI i := by rw [hlw]; exact (nI_leI (by omega) (by omega)).mpr (by omega)
      have yW : tH B n t = 21279923 := hW.mpr ⟨hle, hlen, fun j hj => hm j (by have : j < 5 := hj; omega)⟩
      refine e_step rfl hc 60 [36] ?_
      repeat' (first | (with_reducible (intro h9; exact absurd rfl h9)) | (with_reducible (intro h9; exact absurd h9 e_10)) | (with_reducible (intro h9; first | exact absurd e_00 h9 | exact absurd h9 e_n10 | exact absurd h9 e_n20 | exact absurd h9 e_n30)) | (with_reducible intro _) | (refine And.intro ?_ ?_) | (with_reducible refine e_sw_nil ?_) | fail)
      all_goals first | (exfalso; first | exact cI (by assumption) | exact (by assumption : ¬ _) cI | fail) | skip
      all_goals first | (with_reducible refine e_goK ?_) | (with_reducible refine e_ctK ?_) | (with_reducible refine vp_inK ?_; (try simp (disch := omega) only [mI_rM0, mI_rM1, mI_rM2, mI_rM3, mI_rM4, mI_rM5, mI_rM6, mI_rM7, mI_rM8, mI_rM9, mI_rM10, mI_rM11, mI_rM12, mI_rM13, sI_rM0, sI_rM1, sI_rM2, sI_rM3, sI_rM4, sI_rM5, sI_rM6, sI_rM7, sI_rM8, sI_rM9, sI_rM10, sI_rM11, sI_rM12, sI_rM13, ix_0, ix_1, ix_2, ix_3, ix_4, ix_5, ix_6, ix_7, ix_8, ix_9, ix_10, ix_11, ix_12, ix_13, ix_14, ix_15, ix_16, ix_20, ix_23, ix_24, ix_30, ix_36, ix_46, ix_76, mx_4, mx_6, mx_30, mx_136, mx_1100, mx_3324, xi_1, xi_30, nI_pred, eAt, zAt, tc_0, tc_1, tc_2, tc_3, tc_7, tc_15, tc_23, tc_30, nI_add, pk_mul, nI_clamp]); exact vp_in_nI (by omega) (by omega)) | rfl | exact trivial | exact Nat.zero_le _ | exact (e_fit_01 _).1 | exact (e_fit_01 _).2 | (with_reducible refine vp_in_iff.mpr ?_; decide +kernel) | (with_reducible refine e_nz _ (by decide)) | decide | skip
      all_goals (rw [e_01_t yW])
    | succ zn ih =>
      intro i hi hm
      have cI : ¬ nI (e_len.getD 7 0) ≤ nI i := by rw [hlw]; exact fun z => absurd ((nI_leI (by omega) (by omega)).mp z) (by omega)
      have si : mI (tW M a f) a 2 + nI i = nI (t + i) := by rw [tW_s, f22, nI_add]
      have cE : ¬ mI (tW M a f) a 5 ≤ mI (tW M a f) a 2 + nI i := by rw [si, tW_s, f5]; exact fun z => absurd ((nI_leI (by omega) (by omega)).mp z) (by omega)
      have vq : vp_in (mI (tW M a f) a 2 + nI i) 800 := by rw [si]; exact vp_in_nI (by omega) (by omega)
      have vs : vp_in (nI i) (e_len.getD 7 0) := by rw [hlw]; exact vp_in_nI (by omega) (by omega)
      have hb : (e_byt.getD 7 []).getD (nI i).toNatClampNeg 0 = nI (List.getD [116, 105, 109, 101, 115] i 0) := by
        rw [eb_7, nI_clamp (by omega)]
        have : ∀ i, i < 5 → List.getD ([116, 105, 109, 101, 115] : List Int32) i 0 = nI (List.getD [116, 105, 109, 101, 115] i 0) := by decide +kernel
        exact this i (by omega)
      have hc128 : List.getD [116, 105, 109, 101, 115] i 0 < 128 := by
        have : ∀ i, i < 5 → List.getD [116, 105, 109, 101, 115] i 0 < 128 := by decide +kernel
        exact this i (by omega)
      have bB := hT.2 (t + i) (by omega)
      have cB : mI (tW M a f) (a + 1) (mI (tW M a f) a 2 + nI i).toNatClampNeg = (e_byt.getD 7 []).getD (nI i).toNatClampNeg 0 ↔ B (t + i) = List.getD [116, 105, 109, 101, 115] i 0 := by
        rw [hb, si, nI_clamp (by omega), tW_b, bB.1]; exact sB_eq bB.2 hc128
      have k36 : K 36 [some (.inr (.inr (.inr (.inr (3, a))))), some (.inr (.inr (.inr (.inr (207, s))))), some (.inl (nI i))] [] (tW M a f) 0 0 := by
        by_cases hq : B (t + i) = List.getD [116, 105, 109, 101, 115] i 0
        · have kk := ih (i + 1) (by omega) (fun j hj => by
            by_cases q : j = i
            · subst q; exact hq
            · exact hm j (by omega))
          have cB1 := cB.mpr hq
          refine e_step rfl hc 60 [28] ?_
          repeat' (first | (with_reducible (intro h9; exact absurd rfl h9)) | (with_reducible (intro h9; exact absurd h9 e_10)) | (with_reducible (intro h9; first | exact absurd e_00 h9 | exact absurd h9 e_n10 | exact absurd h9 e_n20 | exact absurd h9 e_n30)) | (with_reducible intro _) | (refine And.intro ?_ ?_) | (with_reducible refine e_sw_nil ?_) | fail)
          all_goals first | (exfalso; first | exact cE (by assumption) | exact (by assumption : ¬ _) cE | exact cB1 (by assumption) | exact (by assumption : ¬ _) cB1 | fail) | skip
          all_goals first | (with_reducible refine e_goK ?_) | (with_reducible refine e_ctK ?_) | (with_reducible refine vp_inK ?_; (try simp (disch := omega) only [mI_rM0, mI_rM1, mI_rM2, mI_rM3, mI_rM4, mI_rM5, mI_rM6, mI_rM7, mI_rM8, mI_rM9, mI_rM10, mI_rM11, mI_rM12, mI_rM13, sI_rM0, sI_rM1, sI_rM2, sI_rM3, sI_rM4, sI_rM5, sI_rM6, sI_rM7, sI_rM8, sI_rM9, sI_rM10, sI_rM11, sI_rM12, sI_rM13, ix_0, ix_1, ix_2, ix_3, ix_4, ix_5, ix_6, ix_7, ix_8, ix_9, ix_10, ix_11, ix_12, ix_13, ix_14, ix_15, ix_16, ix_20, ix_23, ix_24, ix_30, ix_36, ix_46, ix_76, mx_4, mx_6, mx_30, mx_136, mx_1100, mx_3324, xi_1, xi_30, nI_pred, eAt, zAt, tc_0, tc_1, tc_2, tc_3, tc_7, tc_15, tc_23, tc_30, nI_add, pk_mul, nI_clamp]); exact vp_in_nI (by omega) (by omega)) | rfl | exact trivial | exact Nat.zero_le _ | exact (e_fit_01 _).1 | exact (e_fit_01 _).2 | (with_reducible refine vp_in_iff.mpr ?_; decide +kernel) | (with_reducible refine e_nz _ (by decide)) | decide | exact vq | exact vs | skip
          all_goals first | (exfalso; first | exact cE (by assumption) | exact (by assumption : ¬ _) cE | exact cB1 (by assumption) | exact (by assumption : ¬ _) cB1 | fail) | skip
          refine e_kk (K := K) ?_; refine e_kc (kk) (by (repeat' (first | (refine e_cc ?_ ?_) | (with_reducible rfl) | (simp (disch := omega) only [mI_rM0, mI_rM1, mI_rM2, mI_rM3, mI_rM4, mI_rM5, mI_rM6, mI_rM7, mI_rM8, mI_rM9, mI_rM10, mI_rM11, mI_rM12, mI_rM13, sI_rM0, sI_rM1, sI_rM2, sI_rM3, sI_rM4, sI_rM5, sI_rM6, sI_rM7, sI_rM8, sI_rM9, sI_rM10, sI_rM11, sI_rM12, sI_rM13, n_lit, ↓pk_rem, pk_div, pk_mul, pk_sub, nI_add, nI_clamp, nmod, Nat.add_sub_cancel, eAt, zAt, e_clI, e_clP]; done) | ((try simp (disch := omega) only [mI_rM0, mI_rM1, mI_rM2, mI_rM3, mI_rM4, mI_rM5, mI_rM6, mI_rM7, mI_rM8, mI_rM9, mI_rM10, mI_rM11, mI_rM12, mI_rM13, sI_rM0, sI_rM1, sI_rM2, sI_rM3, sI_rM4, sI_rM5, sI_rM6, sI_rM7, sI_rM8, sI_rM9, sI_rM10, sI_rM11, sI_rM12, sI_rM13, n_lit, ↓pk_rem, pk_div, pk_mul, pk_sub, nI_add, nI_clamp, nmod, Nat.add_sub_cancel, eAt, zAt, e_clI, e_clP]); exact e_cnI (by omega)) | rfl))) (by (repeat' (first | (refine e_cc ?_ ?_) | (with_reducible rfl) | (simp (disch := omega) only [mI_rM0, mI_rM1, mI_rM2, mI_rM3, mI_rM4, mI_rM5, mI_rM6, mI_rM7, mI_rM8, mI_rM9, mI_rM10, mI_rM11, mI_rM12, mI_rM13, sI_rM0, sI_rM1, sI_rM2, sI_rM3, sI_rM4, sI_rM5, sI_rM6, sI_rM7, sI_rM8, sI_rM9, sI_rM10, sI_rM11, sI_rM12, sI_rM13, n_lit, ↓pk_rem, pk_div, pk_mul, pk_sub, nI_add, nI_clamp, nmod, Nat.add_sub_cancel, eAt, zAt, e_clI, e_clP]; done) | ((try simp (disch := omega) only [mI_rM0, mI_rM1, mI_rM2, mI_rM3, mI_rM4, mI_rM5, mI_rM6, mI_rM7, mI_rM8, mI_rM9, mI_rM10, mI_rM11, mI_rM12, mI_rM13, sI_rM0, sI_rM1, sI_rM2, sI_rM3, sI_rM4, sI_rM5, sI_rM6, sI_rM7, sI_rM8, sI_rM9, sI_rM10, sI_rM11, sI_rM12, sI_rM13, n_lit, ↓pk_rem, pk_div, pk_mul, pk_sub, nI_add, nI_clamp, nmod, Nat.add_sub_cancel, eAt, zAt, e_clI, e_clP]); exact e_cnI (by omega)) | rfl))) (by first | (with_reducible rfl) | (simp (disch := omega) only [mI_rM0, mI_rM1, mI_rM2, mI_rM3, mI_rM4, mI_rM5, mI_rM6, mI_rM7, mI_rM8, mI_rM9, mI_rM10, mI_rM11, mI_rM12, mI_rM13, sI_rM0, sI_rM1, sI_rM2, sI_rM3, sI_rM4, sI_rM5, sI_rM6, sI_rM7, sI_rM8, sI_rM9, sI_rM10, sI_rM11, sI_rM12, sI_rM13, n_lit, ↓pk_rem, pk_div, pk_mul, pk_sub, nI_add, nI_clamp, nmod, Nat.add_sub_cancel, eAt, zAt, e_clI, e_clP]; done) | rfl | fail)
        · have nW : ¬ tH B n t = 21279923 := fun z => hq ((hW.mp z).2.2 i (by show i < 5; omega))
          have cB0 := fun z => hq (cB.mp z)
          refine e_step rfl hc 60 [28] ?_
          repeat' (first | (with_reducible (intro h9; exact absurd rfl h9)) | (with_reducible (intro h9; exact absurd h9 e_10)) | (with_reducible (intro h9; first | exact absurd e_00 h9 | exact absurd h9 e_n10 | exact absurd h9 e_n20 | exact absurd h9 e_n30)) | (with_reducible intro _) | (refine And.intro ?_ ?_) | (with_reducible refine e_sw_nil ?_) | fail)
          all_goals first | (exfalso; first | exact cE (by assumption) | exact (by assumption : ¬ _) cE | exact cB0 (by assumption) | exact (by assumption : ¬ _) cB0 | fail) | skip
          all_goals first | (with_reducible refine e_goK ?_) | (with_reducible refine e_ctK ?_) | (with_reducible refine vp_inK ?_; (try simp (disch := omega) only [mI_rM0, mI_rM1, mI_rM2, mI_rM3, mI_rM4, mI_rM5, mI_rM6, mI_rM7, mI_rM8, mI_rM9, mI_rM10, mI_rM11, mI_rM12, mI_rM13, sI_rM0, sI_rM1, sI_rM2, sI_rM3, sI_rM4, sI_rM5, sI_rM6, sI_rM7, sI_rM8, sI_rM9, sI_rM10, sI_rM11, sI_rM12, sI_rM13, ix_0, ix_1, ix_2, ix_3, ix_4, ix_5, ix_6, ix_7, ix_8, ix_9, ix_10, ix_11, ix_12, ix_13, ix_14, ix_15, ix_16, ix_20, ix_23, ix_24, ix_30, ix_36, ix_46, ix_76, mx_4, mx_6, mx_30, mx_136, mx_1100, mx_3324, xi_1, xi_30, nI_pred, eAt, zAt, tc_0, tc_1, tc_2, tc_3, tc_7, tc_15, tc_23, tc_30, nI_add, pk_mul, nI_clamp]); exact vp_in_nI (by omega) (by omega)) | rfl | exact trivial | exact Nat.zero_le _ | exact (e_fit_01 _).1 | exact (e_fit_01 _).2 | (with_reducible refine vp_in_iff.mpr ?_; decide +kernel) | (with_reducible refine e_nz _ (by decide)) | decide | exact vq | exact vs | skip
          all_goals first | (exfalso; first | exact cE (by assumption) | exact (by assumption : ¬ _) cE | exact cB0 (by assumption) | exact (by assumption : ¬ _) cB0 | fail) | skip
          all_goals first | (rw [e_01_f nW]; done) | skip
      refine e_step rfl hc 60 [36] ?_
      repeat' (first | (with_reducible (intro h9; exact absurd rfl h9)) | (with_reducible (intro h9; exact absurd h9 e_10)) | (with_reducible (intro h9; first | exact absurd e_00 h9 | exact absurd h9 e_n10 | exact absurd h9 e_n20 | exact absurd h9 e_n30)) | (with_reducible intro _) | (refine And.intro ?_ ?_) | (with_reducible refine e_sw_nil ?_) | fail)
      all_goals first | (exfalso; first | exact cI (by assumption) | exact (by assumption : ¬ _) cI | fail) | skip
      all_goals first | (with_reducible refine e_goK ?_) | (with_reducible refine e_ctK ?_) | (with_reducible refine vp_inK ?_; (try simp (disch := omega) only [mI_rM0, mI_rM1, mI_rM2, mI_rM3, mI_rM4, mI_rM5, mI_rM6, mI_rM7, mI_rM8, mI_rM9, mI_rM10, mI_rM11, mI_rM12, mI_rM13, sI_rM0, sI_rM1, sI_rM2, sI_rM3, sI_rM4, sI_rM5, sI_rM6, sI_rM7, sI_rM8, sI_rM9, sI_rM10, sI_rM11, sI_rM12, sI_rM13, ix_0, ix_1, ix_2, ix_3, ix_4, ix_5, ix_6, ix_7, ix_8, ix_9, ix_10, ix_11, ix_12, ix_13, ix_14, ix_15, ix_16, ix_20, ix_23, ix_24, ix_30, ix_36, ix_46, ix_76, mx_4, mx_6, mx_30, mx_136, mx_1100, mx_3324, xi_1, xi_30, nI_pred, eAt, zAt, tc_0, tc_1, tc_2, tc_3, tc_7, tc_15, tc_23, tc_30, nI_add, pk_mul, nI_clamp]); exact vp_in_nI (by omega) (by omega)) | rfl | exact trivial | exact Nat.zero_le _ | exact (e_fit_01 _).1 | exact (e_fit_01 _).2 | (with_reducible refine vp_in_iff.mpr ?_; decide +kernel) | (with_reducible refine e_nz _ (by decide)) | decide | skip
      exact k36
  have key := loop 5 0 (by omega) (fun j hj => absurd hj (Nat.not_lt_zero _))
  refine e_step rfl hc 60 [28] ?_
  repeat' (first | (with_reducible (intro h9; exact absurd rfl h9)) | (with_reducible (intro h9; exact absurd h9 e_10)) | (with_reducible (intro h9; first | exact absurd e_00 h9 | exact absurd h9 e_n10 | exact absurd h9 e_n20 | exact absurd h9 e_n30)) | (with_reducible intro _) | (refine And.intro ?_ ?_) | (with_reducible refine e_sw_nil ?_) | fail)
  all_goals first | (exfalso; first | exact c (by assumption) | exact (by assumption : ¬ _) c | exact c2 (by assumption) | exact (by assumption : ¬ _) c2 | fail) | skip
  all_goals first | (with_reducible refine e_goK ?_) | (with_reducible refine e_ctK ?_) | (with_reducible refine vp_inK ?_; (try simp (disch := omega) only [mI_rM0, mI_rM1, mI_rM2, mI_rM3, mI_rM4, mI_rM5, mI_rM6, mI_rM7, mI_rM8, mI_rM9, mI_rM10, mI_rM11, mI_rM12, mI_rM13, sI_rM0, sI_rM1, sI_rM2, sI_rM3, sI_rM4, sI_rM5, sI_rM6, sI_rM7, sI_rM8, sI_rM9, sI_rM10, sI_rM11, sI_rM12, sI_rM13, ix_0, ix_1, ix_2, ix_3, ix_4, ix_5, ix_6, ix_7, ix_8, ix_9, ix_10, ix_11, ix_12, ix_13, ix_14, ix_15, ix_16, ix_20, ix_23, ix_24, ix_30, ix_36, ix_46, ix_76, mx_4, mx_6, mx_30, mx_136, mx_1100, mx_3324, xi_1, xi_30, nI_pred, eAt, zAt, tc_0, tc_1, tc_2, tc_3, tc_7, tc_15, tc_23, tc_30, nI_add, pk_mul, nI_clamp]); exact vp_in_nI (by omega) (by omega)) | rfl | exact trivial | exact Nat.zero_le _ | exact (e_fit_01 _).1 | exact (e_fit_01 _).2 | (with_reducible refine vp_in_iff.mpr ?_; decide +kernel) | (with_reducible refine e_nz _ (by decide)) | decide | skip
  all_goals first | (exfalso; first | exact c (by assumption) | exact (by assumption : ¬ _) c | exact c2 (by assumption) | exact (by assumption : ¬ _) c2 | fail) | skip
  exact key
set_option maxRecDepth 20000 in
theorem ct_isWord_8 (hl0 : l.stackTraces = false) (M : EM) {a n t s : Nat} {B : Nat → Nat} (f : Nat → Int32) (hT : TB M a B n) (h : CK B n t f) : Ct l g sg_X8_isWord [.inr (.inr (.inr (.inr (3, a)))), .inr (.inr (.inr (.inr (208, s))))] (tW M a f) (fun o M' => M' = tW M a f ∧ o = .inl (some (.inl (e_01 (tH B n t = 14836))))) := by
  refine sem_of hl0 mt_X8_isWord ok_X8_isWord rfl (fun K hc hw => ?_)
  clear hw
  have hW : tH B n t = 14836 ↔ _ := tH_f (B := B) (n := n) (t := t) [110, 111, 116] (by decide) (by decide) (by decide)
  obtain ⟨f1, f22, f6, f3, htn, f5⟩ := h
  have n8 := hT.1
  by_cases hk : kdN B n t = 1
  case neg =>
    have c : ¬ mI (tW M a f) a 1 = 1 := by rw [tW_s, f1]; exact fun z => hk ((nI_eq (b := 1) (by have := kdN_lt (B := B) (n := n) (t := t); omega) (by omega)).mp z)
    have nW : ¬ tH B n t = 14836 := fun z => hk (kd_1.mpr (hW.mp z).1)
    refine e_step rfl hc 60 [8] ?_
    repeat' (first | (with_reducible (intro h9; exact absurd rfl h9)) | (with_reducible (intro h9; exact absurd h9 e_10)) | (with_reducible (intro h9; first | exact absurd e_00 h9 | exact absurd h9 e_n10 | exact absurd h9 e_n20 | exact absurd h9 e_n30)) | (with_reducible intro _) | (refine And.intro ?_ ?_) | (with_reducible refine e_sw_nil ?_) | fail)
    all_goals first | (exfalso; first | exact c (by assumption) | exact (by assumption : ¬ _) c | fail) | skip
    all_goals first | (with_reducible refine e_goK ?_) | (with_reducible refine e_ctK ?_) | (with_reducible refine vp_inK ?_; (try simp (disch := omega) only [mI_rM0, mI_rM1, mI_rM2, mI_rM3, mI_rM4, mI_rM5, mI_rM6, mI_rM7, mI_rM8, mI_rM9, mI_rM10, mI_rM11, mI_rM12, mI_rM13, sI_rM0, sI_rM1, sI_rM2, sI_rM3, sI_rM4, sI_rM5, sI_rM6, sI_rM7, sI_rM8, sI_rM9, sI_rM10, sI_rM11, sI_rM12, sI_rM13, ix_0, ix_1, ix_2, ix_3, ix_4, ix_5, ix_6, ix_7, ix_8, ix_9, ix_10, ix_11, ix_12, ix_13, ix_14, ix_15, ix_16, ix_20, ix_23, ix_24, ix_30, ix_36, ix_46, ix_76, mx_4, mx_6, mx_30, mx_136, mx_1100, mx_3324, xi_1, xi_30, nI_pred, eAt, zAt, tc_0, tc_1, tc_2, tc_3, tc_7, tc_15, tc_23, tc_30, nI_add, pk_mul, nI_clamp]); exact vp_in_nI (by omega) (by omega)) | rfl | exact trivial | exact Nat.zero_le _ | exact (e_fit_01 _).1 | exact (e_fit_01 _).2 | (with_reducible refine vp_in_iff.mpr ?_; decide +kernel) | (with_reducible refine e_nz _ (by decide)) | decide | skip
    all_goals (rw [e_01_f nW])
  have hle := kd_1.mp hk
  have htl := tLe_n hle
  have hE := tE_le (B := B) htl
  have x6 : f 6 = nI (tE B n t) := by rw [f6]; unfold tX; rw [if_pos htl]
  have c : mI (tW M a f) a 1 = 1 := by rw [tW_s, f1, hk]; rfl
  have hs : mI (tW M a f) a 6 - mI (tW M a f) a 2 = nI (tE B n t - t) := by rw [tW_s, tW_s, x6, f22]; exact pk_sub (by omega)
  have hlw : e_len.getD 8 0 = 3 := by rw [el_0]; rfl
  by_cases hlen : tE B n t - t = 3
  case neg =>
    have c2 : ¬ mI (tW M a f) a 6 - mI (tW M a f) a 2 = nI (e_len.getD 8 0) := by rw [hs, hlw]; exact fun z => hlen ((nI_eq (by omega) (by omega)).mp z)
    have nW : ¬ tH B n t = 14836 := fun z => hlen (hW.mp z).2.1
    refine e_step rfl hc 60 [28] ?_
    repeat' (first | (with_reducible (intro h9; exact absurd rfl h9)) | (with_reducible (intro h9; exact absurd h9 e_10)) | (with_reducible (intro h9; first | exact absurd e_00 h9 | exact absurd h9 e_n10 | exact absurd h9 e_n20 | exact absurd h9 e_n30)) | (with_reducible intro _) | (refine And.intro ?_ ?_) | (with_reducible refine e_sw_nil ?_) | fail)
    all_goals first | (exfalso; first | exact c (by assumption) | exact (by assumption : ¬ _) c | exact c2 (by assumption) | exact (by assumption : ¬ _) c2 | fail) | skip
    all_goals first | (with_reducible refine e_goK ?_) | (with_reducible refine e_ctK ?_) | (with_reducible refine vp_inK ?_; (try simp (disch := omega) only [mI_rM0, mI_rM1, mI_rM2, mI_rM3, mI_rM4, mI_rM5, mI_rM6, mI_rM7, mI_rM8, mI_rM9, mI_rM10, mI_rM11, mI_rM12, mI_rM13, sI_rM0, sI_rM1, sI_rM2, sI_rM3, sI_rM4, sI_rM5, sI_rM6, sI_rM7, sI_rM8, sI_rM9, sI_rM10, sI_rM11, sI_rM12, sI_rM13, ix_0, ix_1, ix_2, ix_3, ix_4, ix_5, ix_6, ix_7, ix_8, ix_9, ix_10, ix_11, ix_12, ix_13, ix_14, ix_15, ix_16, ix_20, ix_23, ix_24, ix_30, ix_36, ix_46, ix_76, mx_4, mx_6, mx_30, mx_136, mx_1100, mx_3324, xi_1, xi_30, nI_pred, eAt, zAt, tc_0, tc_1, tc_2, tc_3, tc_7, tc_15, tc_23, tc_30, nI_add, pk_mul, nI_clamp]); exact vp_in_nI (by omega) (by omega)) | rfl | exact trivial | exact Nat.zero_le _ | exact (e_fit_01 _).1 | exact (e_fit_01 _).2 | (with_reducible refine vp_in_iff.mpr ?_; decide +kernel) | (with_reducible refine e_nz _ (by decide)) | decide | skip
    all_goals first | (exfalso; first | exact c (by assumption) | exact (by assumption : ¬ _) c | exact c2 (by assumption) | exact (by assumption : ¬ _) c2 | fail) | skip
    all_goals (rw [e_01_f nW])
  have c2 : mI (tW M a f) a 6 - mI (tW M a f) a 2 = nI (e_len.getD 8 0) := by rw [hs, hlw, hlen]
  have loop : ∀ zn i, i + zn = 3 → (∀ j, j < i → B (t + j) = List.getD [110, 111, 116] j 0) → K 28 [some (.inr (.inr (.inr (.inr (3, a))))), some (.inr (.inr (.inr (.inr (208, s))))), some (.inl (nI i))] [] (tW M a f) 0 0 := by
    intro zn
    induction zn with
    | zero =>
      intro i hi hm
      have cI : nI (e_len.getD 8 0) ≤ nI i := by rw [hlw]; exact (nI_leI (by omega) (by omega)).mpr (by omega)
      have yW : tH B n t = 14836 := hW.mpr ⟨hle, hlen, fun j hj => hm j (by have : j < 3 := hj; omega)⟩
      refine e_step rfl hc 60 [36] ?_
      repeat' (first | (with_reducible (intro h9; exact absurd rfl h9)) | (with_reducible (intro h9; exact absurd h9 e_10)) | (with_reducible (intro h9; first | exact absurd e_00 h9 | exact absurd h9 e_n10 | exact absurd h9 e_n20 | exact absurd h9 e_n30)) | (with_reducible intro _) | (refine And.intro ?_ ?_) | (with_reducible refine e_sw_nil ?_) | fail)
      all_goals first | (exfalso; first | exact cI (by assumption) | exact (by assumption : ¬ _) cI | fail) | skip
      all_goals first | (with_reducible refine e_goK ?_) | (with_reducible refine e_ctK ?_) | (with_reducible refine vp_inK ?_; (try simp (disch := omega) only [mI_rM0, mI_rM1, mI_rM2, mI_rM3, mI_rM4, mI_rM5, mI_rM6, mI_rM7, mI_rM8, mI_rM9, mI_rM10, mI_rM11, mI_rM12, mI_rM13, sI_rM0, sI_rM1, sI_rM2, sI_rM3, sI_rM4, sI_rM5, sI_rM6, sI_rM7, sI_rM8, sI_rM9, sI_rM10, sI_rM11, sI_rM12, sI_rM13, ix_0, ix_1, ix_2, ix_3, ix_4, ix_5, ix_6, ix_7, ix_8, ix_9, ix_10, ix_11, ix_12, ix_13, ix_14, ix_15, ix_16, ix_20, ix_23, ix_24, ix_30, ix_36, ix_46, ix_76, mx_4, mx_6, mx_30, mx_136, mx_1100, mx_3324, xi_1, xi_30, nI_pred, eAt, zAt, tc_0, tc_1, tc_2, tc_3, tc_7, tc_15, tc_23, tc_30, nI_add, pk_mul, nI_clamp]); exact vp_in_nI (by omega) (by omega)) | rfl | exact trivial | exact Nat.zero_le _ | exact (e_fit_01 _).1 | exact (e_fit_01 _).2 | (with_reducible refine vp_in_iff.mpr ?_; decide +kernel) | (with_reducible refine e_nz _ (by decide)) | decide | skip
      all_goals (rw [e_01_t yW])
    | succ zn ih =>
      intro i hi hm
      have cI : ¬ nI (e_len.getD 8 0) ≤ nI i := by rw [hlw]; exact fun z => absurd ((nI_leI (by omega) (by omega)).mp z) (by omega)
      have si : mI (tW M a f) a 2 + nI i = nI (t + i) := by rw [tW_s, f22, nI_add]
      have cE : ¬ mI (tW M a f) a 5 ≤ mI (tW M a f) a 2 + nI i := by rw [si, tW_s, f5]; exact fun z => absurd ((nI_leI (by omega) (by omega)).mp z) (by omega)
      have vq : vp_in (mI (tW M a f) a 2 + nI i) 800 := by rw [si]; exact vp_in_nI (by omega) (by omega)
      have vs : vp_in (nI i) (e_len.getD 8 0) := by rw [hlw]; exact vp_in_nI (by omega) (by omega)
      have hb : (e_byt.getD 8 []).getD (nI i).toNatClampNeg 0 = nI (List.getD [110, 111, 116] i 0) := by
        rw [eb_8, nI_clamp (by omega)]
        have : ∀ i, i < 3 → List.getD ([110, 111, 116] : List Int32) i 0 = nI (List.getD [110, 111, 116] i 0) := by decide +kernel
        exact this i (by omega)
      have hc128 : List.getD [110, 111, 116] i 0 < 128 := by
        have : ∀ i, i < 3 → List.getD [110, 111, 116] i 0 < 128 := by decide +kernel
        exact this i (by omega)
      have bB := hT.2 (t + i) (by omega)
      have cB : mI (tW M a f) (a + 1) (mI (tW M a f) a 2 + nI i).toNatClampNeg = (e_byt.getD 8 []).getD (nI i).toNatClampNeg 0 ↔ B (t + i) = List.getD [110, 111, 116] i 0 := by
        rw [hb, si, nI_clamp (by omega), tW_b, bB.1]; exact sB_eq bB.2 hc128
      have k36 : K 36 [some (.inr (.inr (.inr (.inr (3, a))))), some (.inr (.inr (.inr (.inr (208, s))))), some (.inl (nI i))] [] (tW M a f) 0 0 := by
        by_cases hq : B (t + i) = List.getD [110, 111, 116] i 0
        · have kk := ih (i + 1) (by omega) (fun j hj => by
            by_cases q : j = i
            · subst q; exact hq
            · exact hm j (by omega))
          have cB1 := cB.mpr hq
          refine e_step rfl hc 60 [28] ?_
          repeat' (first | (with_reducible (intro h9; exact absurd rfl h9)) | (with_reducible (intro h9; exact absurd h9 e_10)) | (with_reducible (intro h9; first | exact absurd e_00 h9 | exact absurd h9 e_n10 | exact absurd h9 e_n20 | exact absurd h9 e_n30)) | (with_reducible intro _) | (refine And.intro ?_ ?_) | (with_reducible refine e_sw_nil ?_) | fail)
          all_goals first | (exfalso; first | exact cE (by assumption) | exact (by assumption : ¬ _) cE | exact cB1 (by assumption) | exact (by assumption : ¬ _) cB1 | fail) | skip
          all_goals first | (with_reducible refine e_goK ?_) | (with_reducible refine e_ctK ?_) | (with_reducible refine vp_inK ?_; (try simp (disch := omega) only [mI_rM0, mI_rM1, mI_rM2, mI_rM3, mI_rM4, mI_rM5, mI_rM6, mI_rM7, mI_rM8, mI_rM9, mI_rM10, mI_rM11, mI_rM12, mI_rM13, sI_rM0, sI_rM1, sI_rM2, sI_rM3, sI_rM4, sI_rM5, sI_rM6, sI_rM7, sI_rM8, sI_rM9, sI_rM10, sI_rM11, sI_rM12, sI_rM13, ix_0, ix_1, ix_2, ix_3, ix_4, ix_5, ix_6, ix_7, ix_8, ix_9, ix_10, ix_11, ix_12, ix_13, ix_14, ix_15, ix_16, ix_20, ix_23, ix_24, ix_30, ix_36, ix_46, ix_76, mx_4, mx_6, mx_30, mx_136, mx_1100, mx_3324, xi_1, xi_30, nI_pred, eAt, zAt, tc_0, tc_1, tc_2, tc_3, tc_7, tc_15, tc_23, tc_30, nI_add, pk_mul, nI_clamp]); exact vp_in_nI (by omega) (by omega)) | rfl | exact trivial | exact Nat.zero_le _ | exact (e_fit_01 _).1 | exact (e_fit_01 _).2 | (with_reducible refine vp_in_iff.mpr ?_; decide +kernel) | (with_reducible refine e_nz _ (by decide)) | decide | exact vq | exact vs | skip
          all_goals first | (exfalso; first | exact cE (by assumption) | exact (by assumption : ¬ _) cE | exact cB1 (by assumption) | exact (by assumption : ¬ _) cB1 | fail) | skip
          refine e_kk (K := K) ?_; refine e_kc (kk) (by (repeat' (first | (refine e_cc ?_ ?_) | (with_reducible rfl) | (simp (disch := omega) only [mI_rM0, mI_rM1, mI_rM2, mI_rM3, mI_rM4, mI_rM5, mI_rM6, mI_rM7, mI_rM8, mI_rM9, mI_rM10, mI_rM11, mI_rM12, mI_rM13, sI_rM0, sI_rM1, sI_rM2, sI_rM3, sI_rM4, sI_rM5, sI_rM6, sI_rM7, sI_rM8, sI_rM9, sI_rM10, sI_rM11, sI_rM12, sI_rM13, n_lit, ↓pk_rem, pk_div, pk_mul, pk_sub, nI_add, nI_clamp, nmod, Nat.add_sub_cancel, eAt, zAt, e_clI, e_clP]; done) | ((try simp (disch := omega) only [mI_rM0, mI_rM1, mI_rM2, mI_rM3, mI_rM4, mI_rM5, mI_rM6, mI_rM7, mI_rM8, mI_rM9, mI_rM10, mI_rM11, mI_rM12, mI_rM13, sI_rM0, sI_rM1, sI_rM2, sI_rM3, sI_rM4, sI_rM5, sI_rM6, sI_rM7, sI_rM8, sI_rM9, sI_rM10, sI_rM11, sI_rM12, sI_rM13, n_lit, ↓pk_rem, pk_div, pk_mul, pk_sub, nI_add, nI_clamp, nmod, Nat.add_sub_cancel, eAt, zAt, e_clI, e_clP]); exact e_cnI (by omega)) | rfl))) (by (repeat' (first | (refine e_cc ?_ ?_) | (with_reducible rfl) | (simp (disch := omega) only [mI_rM0, mI_rM1, mI_rM2, mI_rM3, mI_rM4, mI_rM5, mI_rM6, mI_rM7, mI_rM8, mI_rM9, mI_rM10, mI_rM11, mI_rM12, mI_rM13, sI_rM0, sI_rM1, sI_rM2, sI_rM3, sI_rM4, sI_rM5, sI_rM6, sI_rM7, sI_rM8, sI_rM9, sI_rM10, sI_rM11, sI_rM12, sI_rM13, n_lit, ↓pk_rem, pk_div, pk_mul, pk_sub, nI_add, nI_clamp, nmod, Nat.add_sub_cancel, eAt, zAt, e_clI, e_clP]; done) | ((try simp (disch := omega) only [mI_rM0, mI_rM1, mI_rM2, mI_rM3, mI_rM4, mI_rM5, mI_rM6, mI_rM7, mI_rM8, mI_rM9, mI_rM10, mI_rM11, mI_rM12, mI_rM13, sI_rM0, sI_rM1, sI_rM2, sI_rM3, sI_rM4, sI_rM5, sI_rM6, sI_rM7, sI_rM8, sI_rM9, sI_rM10, sI_rM11, sI_rM12, sI_rM13, n_lit, ↓pk_rem, pk_div, pk_mul, pk_sub, nI_add, nI_clamp, nmod, Nat.add_sub_cancel, eAt, zAt, e_clI, e_clP]); exact e_cnI (by omega)) | rfl))) (by first | (with_reducible rfl) | (simp (disch := omega) only [mI_rM0, mI_rM1, mI_rM2, mI_rM3, mI_rM4, mI_rM5, mI_rM6, mI_rM7, mI_rM8, mI_rM9, mI_rM10, mI_rM11, mI_rM12, mI_rM13, sI_rM0, sI_rM1, sI_rM2, sI_rM3, sI_rM4, sI_rM5, sI_rM6, sI_rM7, sI_rM8, sI_rM9, sI_rM10, sI_rM11, sI_rM12, sI_rM13, n_lit, ↓pk_rem, pk_div, pk_mul, pk_sub, nI_add, nI_clamp, nmod, Nat.add_sub_cancel, eAt, zAt, e_clI, e_clP]; done) | rfl | fail)
        · have nW : ¬ tH B n t = 14836 := fun z => hq ((hW.mp z).2.2 i (by show i < 3; omega))
          have cB0 := fun z => hq (cB.mp z)
          refine e_step rfl hc 60 [28] ?_
          repeat' (first | (with_reducible (intro h9; exact absurd rfl h9)) | (with_reducible (intro h9; exact absurd h9 e_10)) | (with_reducible (intro h9; first | exact absurd e_00 h9 | exact absurd h9 e_n10 | exact absurd h9 e_n20 | exact absurd h9 e_n30)) | (with_reducible intro _) | (refine And.intro ?_ ?_) | (with_reducible refine e_sw_nil ?_) | fail)
          all_goals first | (exfalso; first | exact cE (by assumption) | exact (by assumption : ¬ _) cE | exact cB0 (by assumption) | exact (by assumption : ¬ _) cB0 | fail) | skip
          all_goals first | (with_reducible refine e_goK ?_) | (with_reducible refine e_ctK ?_) | (with_reducible refine vp_inK ?_; (try simp (disch := omega) only [mI_rM0, mI_rM1, mI_rM2, mI_rM3, mI_rM4, mI_rM5, mI_rM6, mI_rM7, mI_rM8, mI_rM9, mI_rM10, mI_rM11, mI_rM12, mI_rM13, sI_rM0, sI_rM1, sI_rM2, sI_rM3, sI_rM4, sI_rM5, sI_rM6, sI_rM7, sI_rM8, sI_rM9, sI_rM10, sI_rM11, sI_rM12, sI_rM13, ix_0, ix_1, ix_2, ix_3, ix_4, ix_5, ix_6, ix_7, ix_8, ix_9, ix_10, ix_11, ix_12, ix_13, ix_14, ix_15, ix_16, ix_20, ix_23, ix_24, ix_30, ix_36, ix_46, ix_76, mx_4, mx_6, mx_30, mx_136, mx_1100, mx_3324, xi_1, xi_30, nI_pred, eAt, zAt, tc_0, tc_1, tc_2, tc_3, tc_7, tc_15, tc_23, tc_30, nI_add, pk_mul, nI_clamp]); exact vp_in_nI (by omega) (by omega)) | rfl | exact trivial | exact Nat.zero_le _ | exact (e_fit_01 _).1 | exact (e_fit_01 _).2 | (with_reducible refine vp_in_iff.mpr ?_; decide +kernel) | (with_reducible refine e_nz _ (by decide)) | decide | exact vq | exact vs | skip
          all_goals first | (exfalso; first | exact cE (by assumption) | exact (by assumption : ¬ _) cE | exact cB0 (by assumption) | exact (by assumption : ¬ _) cB0 | fail) | skip
          all_goals first | (rw [e_01_f nW]; done) | skip
      refine e_step rfl hc 60 [36] ?_
      repeat' (first | (with_reducible (intro h9; exact absurd rfl h9)) | (with_reducible (intro h9; exact absurd h9 e_10)) | (with_reducible (intro h9; first | exact absurd e_00 h9 | exact absurd h9 e_n10 | exact absurd h9 e_n20 | exact absurd h9 e_n30)) | (with_reducible intro _) | (refine And.intro ?_ ?_) | (with_reducible refine e_sw_nil ?_) | fail)
      all_goals first | (exfalso; first | exact cI (by assumption) | exact (by assumption : ¬ _) cI | fail) | skip
      all_goals first | (with_reducible refine e_goK ?_) | (with_reducible refine e_ctK ?_) | (with_reducible refine vp_inK ?_; (try simp (disch := omega) only [mI_rM0, mI_rM1, mI_rM2, mI_rM3, mI_rM4, mI_rM5, mI_rM6, mI_rM7, mI_rM8, mI_rM9, mI_rM10, mI_rM11, mI_rM12, mI_rM13, sI_rM0, sI_rM1, sI_rM2, sI_rM3, sI_rM4, sI_rM5, sI_rM6, sI_rM7, sI_rM8, sI_rM9, sI_rM10, sI_rM11, sI_rM12, sI_rM13, ix_0, ix_1, ix_2, ix_3, ix_4, ix_5, ix_6, ix_7, ix_8, ix_9, ix_10, ix_11, ix_12, ix_13, ix_14, ix_15, ix_16, ix_20, ix_23, ix_24, ix_30, ix_36, ix_46, ix_76, mx_4, mx_6, mx_30, mx_136, mx_1100, mx_3324, xi_1, xi_30, nI_pred, eAt, zAt, tc_0, tc_1, tc_2, tc_3, tc_7, tc_15, tc_23, tc_30, nI_add, pk_mul, nI_clamp]); exact vp_in_nI (by omega) (by omega)) | rfl | exact trivial | exact Nat.zero_le _ | exact (e_fit_01 _).1 | exact (e_fit_01 _).2 | (with_reducible refine vp_in_iff.mpr ?_; decide +kernel) | (with_reducible refine e_nz _ (by decide)) | decide | skip
      exact k36
  have key := loop 3 0 (by omega) (fun j hj => absurd hj (Nat.not_lt_zero _))
  refine e_step rfl hc 60 [28] ?_
  repeat' (first | (with_reducible (intro h9; exact absurd rfl h9)) | (with_reducible (intro h9; exact absurd h9 e_10)) | (with_reducible (intro h9; first | exact absurd e_00 h9 | exact absurd h9 e_n10 | exact absurd h9 e_n20 | exact absurd h9 e_n30)) | (with_reducible intro _) | (refine And.intro ?_ ?_) | (with_reducible refine e_sw_nil ?_) | fail)
  all_goals first | (exfalso; first | exact c (by assumption) | exact (by assumption : ¬ _) c | exact c2 (by assumption) | exact (by assumption : ¬ _) c2 | fail) | skip
  all_goals first | (with_reducible refine e_goK ?_) | (with_reducible refine e_ctK ?_) | (with_reducible refine vp_inK ?_; (try simp (disch := omega) only [mI_rM0, mI_rM1, mI_rM2, mI_rM3, mI_rM4, mI_rM5, mI_rM6, mI_rM7, mI_rM8, mI_rM9, mI_rM10, mI_rM11, mI_rM12, mI_rM13, sI_rM0, sI_rM1, sI_rM2, sI_rM3, sI_rM4, sI_rM5, sI_rM6, sI_rM7, sI_rM8, sI_rM9, sI_rM10, sI_rM11, sI_rM12, sI_rM13, ix_0, ix_1, ix_2, ix_3, ix_4, ix_5, ix_6, ix_7, ix_8, ix_9, ix_10, ix_11, ix_12, ix_13, ix_14, ix_15, ix_16, ix_20, ix_23, ix_24, ix_30, ix_36, ix_46, ix_76, mx_4, mx_6, mx_30, mx_136, mx_1100, mx_3324, xi_1, xi_30, nI_pred, eAt, zAt, tc_0, tc_1, tc_2, tc_3, tc_7, tc_15, tc_23, tc_30, nI_add, pk_mul, nI_clamp]); exact vp_in_nI (by omega) (by omega)) | rfl | exact trivial | exact Nat.zero_le _ | exact (e_fit_01 _).1 | exact (e_fit_01 _).2 | (with_reducible refine vp_in_iff.mpr ?_; decide +kernel) | (with_reducible refine e_nz _ (by decide)) | decide | skip
  all_goals first | (exfalso; first | exact c (by assumption) | exact (by assumption : ¬ _) c | exact c2 (by assumption) | exact (by assumption : ¬ _) c2 | fail) | skip
  exact key
set_option maxRecDepth 20000 in
theorem ct_isWord_9 (hl0 : l.stackTraces = false) (M : EM) {a n t s : Nat} {B : Nat → Nat} (f : Nat → Int32) (hT : TB M a B n) (h : CK B n t f) : Ct l g sg_X8_isWord [.inr (.inr (.inr (.inr (3, a)))), .inr (.inr (.inr (.inr (209, s))))] (tW M a f) (fun o M' => M' = tW M a f ∧ o = .inl (some (.inl (e_01 (tH B n t = 442053))))) := by
  refine sem_of hl0 mt_X8_isWord ok_X8_isWord rfl (fun K hc hw => ?_)
  clear hw
  have hW : tH B n t = 442053 ↔ _ := tH_f (B := B) (n := n) (t := t) [109, 111, 118, 101] (by decide) (by decide) (by decide)
  obtain ⟨f1, f22, f6, f3, htn, f5⟩ := h
  have n8 := hT.1
  by_cases hk : kdN B n t = 1
  case neg =>
    have c : ¬ mI (tW M a f) a 1 = 1 := by rw [tW_s, f1]; exact fun z => hk ((nI_eq (b := 1) (by have := kdN_lt (B := B) (n := n) (t := t); omega) (by omega)).mp z)
    have nW : ¬ tH B n t = 442053 := fun z => hk (kd_1.mpr (hW.mp z).1)
    refine e_step rfl hc 60 [8] ?_
    repeat' (first | (with_reducible (intro h9; exact absurd rfl h9)) | (with_reducible (intro h9; exact absurd h9 e_10)) | (with_reducible (intro h9; first | exact absurd e_00 h9 | exact absurd h9 e_n10 | exact absurd h9 e_n20 | exact absurd h9 e_n30)) | (with_reducible intro _) | (refine And.intro ?_ ?_) | (with_reducible refine e_sw_nil ?_) | fail)
    all_goals first | (exfalso; first | exact c (by assumption) | exact (by assumption : ¬ _) c | fail) | skip
    all_goals first | (with_reducible refine e_goK ?_) | (with_reducible refine e_ctK ?_) | (with_reducible refine vp_inK ?_; (try simp (disch := omega) only [mI_rM0, mI_rM1, mI_rM2, mI_rM3, mI_rM4, mI_rM5, mI_rM6, mI_rM7, mI_rM8, mI_rM9, mI_rM10, mI_rM11, mI_rM12, mI_rM13, sI_rM0, sI_rM1, sI_rM2, sI_rM3, sI_rM4, sI_rM5, sI_rM6, sI_rM7, sI_rM8, sI_rM9, sI_rM10, sI_rM11, sI_rM12, sI_rM13, ix_0, ix_1, ix_2, ix_3, ix_4, ix_5, ix_6, ix_7, ix_8, ix_9, ix_10, ix_11, ix_12, ix_13, ix_14, ix_15, ix_16, ix_20, ix_23, ix_24, ix_30, ix_36, ix_46, ix_76, mx_4, mx_6, mx_30, mx_136, mx_1100, mx_3324, xi_1, xi_30, nI_pred, eAt, zAt, tc_0, tc_1, tc_2, tc_3, tc_7, tc_15, tc_23, tc_30, nI_add, pk_mul, nI_clamp]); exact vp_in_nI (by omega) (by omega)) | rfl | exact trivial | exact Nat.zero_le _ | exact (e_fit_01 _).1 | exact (e_fit_01 _).2 | (with_reducible refine vp_in_iff.mpr ?_; decide +kernel) | (with_reducible refine e_nz _ (by decide)) | decide | skip
    all_goals (rw [e_01_f nW])
  have hle := kd_1.mp hk
  have htl := tLe_n hle
  have hE := tE_le (B := B) htl
  have x6 : f 6 = nI (tE B n t) := by rw [f6]; unfold tX; rw [if_pos htl]
  have c : mI (tW M a f) a 1 = 1 := by rw [tW_s, f1, hk]; rfl
  have hs : mI (tW M a f) a 6 - mI (tW M a f) a 2 = nI (tE B n t - t) := by rw [tW_s, tW_s, x6, f22]; exact pk_sub (by omega)
  have hlw : e_len.getD 9 0 = 4 := by rw [el_0]; rfl
  by_cases hlen : tE B n t - t = 4
  case neg =>
    have c2 : ¬ mI (tW M a f) a 6 - mI (tW M a f) a 2 = nI (e_len.getD 9 0) := by rw [hs, hlw]; exact fun z => hlen ((nI_eq (by omega) (by omega)).mp z)
    have nW : ¬ tH B n t = 442053 := fun z => hlen (hW.mp z).2.1
    refine e_step rfl hc 60 [28] ?_
    repeat' (first | (with_reducible (intro h9; exact absurd rfl h9)) | (with_reducible (intro h9; exact absurd h9 e_10)) | (with_reducible (intro h9; first | exact absurd e_00 h9 | exact absurd h9 e_n10 | exact absurd h9 e_n20 | exact absurd h9 e_n30)) | (with_reducible intro _) | (refine And.intro ?_ ?_) | (with_reducible refine e_sw_nil ?_) | fail)
    all_goals first | (exfalso; first | exact c (by assumption) | exact (by assumption : ¬ _) c | exact c2 (by assumption) | exact (by assumption : ¬ _) c2 | fail) | skip
    all_goals first | (with_reducible refine e_goK ?_) | (with_reducible refine e_ctK ?_) | (with_reducible refine vp_inK ?_; (try simp (disch := omega) only [mI_rM0, mI_rM1, mI_rM2, mI_rM3, mI_rM4, mI_rM5, mI_rM6, mI_rM7, mI_rM8, mI_rM9, mI_rM10, mI_rM11, mI_rM12, mI_rM13, sI_rM0, sI_rM1, sI_rM2, sI_rM3, sI_rM4, sI_rM5, sI_rM6, sI_rM7, sI_rM8, sI_rM9, sI_rM10, sI_rM11, sI_rM12, sI_rM13, ix_0, ix_1, ix_2, ix_3, ix_4, ix_5, ix_6, ix_7, ix_8, ix_9, ix_10, ix_11, ix_12, ix_13, ix_14, ix_15, ix_16, ix_20, ix_23, ix_24, ix_30, ix_36, ix_46, ix_76, mx_4, mx_6, mx_30, mx_136, mx_1100, mx_3324, xi_1, xi_30, nI_pred, eAt, zAt, tc_0, tc_1, tc_2, tc_3, tc_7, tc_15, tc_23, tc_30, nI_add, pk_mul, nI_clamp]); exact vp_in_nI (by omega) (by omega)) | rfl | exact trivial | exact Nat.zero_le _ | exact (e_fit_01 _).1 | exact (e_fit_01 _).2 | (with_reducible refine vp_in_iff.mpr ?_; decide +kernel) | (with_reducible refine e_nz _ (by decide)) | decide | skip
    all_goals first | (exfalso; first | exact c (by assumption) | exact (by assumption : ¬ _) c | exact c2 (by assumption) | exact (by assumption : ¬ _) c2 | fail) | skip
    all_goals (rw [e_01_f nW])
  have c2 : mI (tW M a f) a 6 - mI (tW M a f) a 2 = nI (e_len.getD 9 0) := by rw [hs, hlw, hlen]
  have loop : ∀ zn i, i + zn = 4 → (∀ j, j < i → B (t + j) = List.getD [109, 111, 118, 101] j 0) → K 28 [some (.inr (.inr (.inr (.inr (3, a))))), some (.inr (.inr (.inr (.inr (209, s))))), some (.inl (nI i))] [] (tW M a f) 0 0 := by
    intro zn
    induction zn with
    | zero =>
      intro i hi hm
      have cI : nI (e_len.getD 9 0) ≤ nI i := by rw [hlw]; exact (nI_leI (by omega) (by omega)).mpr (by omega)
      have yW : tH B n t = 442053 := hW.mpr ⟨hle, hlen, fun j hj => hm j (by have : j < 4 := hj; omega)⟩
      refine e_step rfl hc 60 [36] ?_
      repeat' (first | (with_reducible (intro h9; exact absurd rfl h9)) | (with_reducible (intro h9; exact absurd h9 e_10)) | (with_reducible (intro h9; first | exact absurd e_00 h9 | exact absurd h9 e_n10 | exact absurd h9 e_n20 | exact absurd h9 e_n30)) | (with_reducible intro _) | (refine And.intro ?_ ?_) | (with_reducible refine e_sw_nil ?_) | fail)
      all_goals first | (exfalso; first | exact cI (by assumption) | exact (by assumption : ¬ _) cI | fail) | skip
      all_goals first | (with_reducible refine e_goK ?_) | (with_reducible refine e_ctK ?_) | (with_reducible refine vp_inK ?_; (try simp (disch := omega) only [mI_rM0, mI_rM1, mI_rM2, mI_rM3, mI_rM4, mI_rM5, mI_rM6, mI_rM7, mI_rM8, mI_rM9, mI_rM10, mI_rM11, mI_rM12, mI_rM13, sI_rM0, sI_rM1, sI_rM2, sI_rM3, sI_rM4, sI_rM5, sI_rM6, sI_rM7, sI_rM8, sI_rM9, sI_rM10, sI_rM11, sI_rM12, sI_rM13, ix_0, ix_1, ix_2, ix_3, ix_4, ix_5, ix_6, ix_7, ix_8, ix_9, ix_10, ix_11, ix_12, ix_13, ix_14, ix_15, ix_16, ix_20, ix_23, ix_24, ix_30, ix_36, ix_46, ix_76, mx_4, mx_6, mx_30, mx_136, mx_1100, mx_3324, xi_1, xi_30, nI_pred, eAt, zAt, tc_0, tc_1, tc_2, tc_3, tc_7, tc_15, tc_23, tc_30, nI_add, pk_mul, nI_clamp]); exact vp_in_nI (by omega) (by omega)) | rfl | exact trivial | exact Nat.zero_le _ | exact (e_fit_01 _).1 | exact (e_fit_01 _).2 | (with_reducible refine vp_in_iff.mpr ?_; decide +kernel) | (with_reducible refine e_nz _ (by decide)) | decide | skip
      all_goals (rw [e_01_t yW])
    | succ zn ih =>
      intro i hi hm
      have cI : ¬ nI (e_len.getD 9 0) ≤ nI i := by rw [hlw]; exact fun z => absurd ((nI_leI (by omega) (by omega)).mp z) (by omega)
      have si : mI (tW M a f) a 2 + nI i = nI (t + i) := by rw [tW_s, f22, nI_add]
      have cE : ¬ mI (tW M a f) a 5 ≤ mI (tW M a f) a 2 + nI i := by rw [si, tW_s, f5]; exact fun z => absurd ((nI_leI (by omega) (by omega)).mp z) (by omega)
      have vq : vp_in (mI (tW M a f) a 2 + nI i) 800 := by rw [si]; exact vp_in_nI (by omega) (by omega)
      have vs : vp_in (nI i) (e_len.getD 9 0) := by rw [hlw]; exact vp_in_nI (by omega) (by omega)
      have hb : (e_byt.getD 9 []).getD (nI i).toNatClampNeg 0 = nI (List.getD [109, 111, 118, 101] i 0) := by
        rw [eb_9, nI_clamp (by omega)]
        have : ∀ i, i < 4 → List.getD ([109, 111, 118, 101] : List Int32) i 0 = nI (List.getD [109, 111, 118, 101] i 0) := by decide +kernel
        exact this i (by omega)
      have hc128 : List.getD [109, 111, 118, 101] i 0 < 128 := by
        have : ∀ i, i < 4 → List.getD [109, 111, 118, 101] i 0 < 128 := by decide +kernel
        exact this i (by omega)
      have bB := hT.2 (t + i) (by omega)
      have cB : mI (tW M a f) (a + 1) (mI (tW M a f) a 2 + nI i).toNatClampNeg = (e_byt.getD 9 []).getD (nI i).toNatClampNeg 0 ↔ B (t + i) = List.getD [109, 111, 118, 101] i 0 := by
        rw [hb, si, nI_clamp (by omega), tW_b, bB.1]; exact sB_eq bB.2 hc128
      have k36 : K 36 [some (.inr (.inr (.inr (.inr (3, a))))), some (.inr (.inr (.inr (.inr (209, s))))), some (.inl (nI i))] [] (tW M a f) 0 0 := by
        by_cases hq : B (t + i) = List.getD [109, 111, 118, 101] i 0
        · have kk := ih (i + 1) (by omega) (fun j hj => by
            by_cases q : j = i
            · subst q; exact hq
            · exact hm j (by omega))
          have cB1 := cB.mpr hq
          refine e_step rfl hc 60 [28] ?_
          repeat' (first | (with_reducible (intro h9; exact absurd rfl h9)) | (with_reducible (intro h9; exact absurd h9 e_10)) | (with_reducible (intro h9; first | exact absurd e_00 h9 | exact absurd h9 e_n10 | exact absurd h9 e_n20 | exact absurd h9 e_n30)) | (with_reducible intro _) | (refine And.intro ?_ ?_) | (with_reducible refine e_sw_nil ?_) | fail)
          all_goals first | (exfalso; first | exact cE (by assumption) | exact (by assumption : ¬ _) cE | exact cB1 (by assumption) | exact (by assumption : ¬ _) cB1 | fail) | skip
          all_goals first | (with_reducible refine e_goK ?_) | (with_reducible refine e_ctK ?_) | (with_reducible refine vp_inK ?_; (try simp (disch := omega) only [mI_rM0, mI_rM1, mI_rM2, mI_rM3, mI_rM4, mI_rM5, mI_rM6, mI_rM7, mI_rM8, mI_rM9, mI_rM10, mI_rM11, mI_rM12, mI_rM13, sI_rM0, sI_rM1, sI_rM2, sI_rM3, sI_rM4, sI_rM5, sI_rM6, sI_rM7, sI_rM8, sI_rM9, sI_rM10, sI_rM11, sI_rM12, sI_rM13, ix_0, ix_1, ix_2, ix_3, ix_4, ix_5, ix_6, ix_7, ix_8, ix_9, ix_10, ix_11, ix_12, ix_13, ix_14, ix_15, ix_16, ix_20, ix_23, ix_24, ix_30, ix_36, ix_46, ix_76, mx_4, mx_6, mx_30, mx_136, mx_1100, mx_3324, xi_1, xi_30, nI_pred, eAt, zAt, tc_0, tc_1, tc_2, tc_3, tc_7, tc_15, tc_23, tc_30, nI_add, pk_mul, nI_clamp]); exact vp_in_nI (by omega) (by omega)) | rfl | exact trivial | exact Nat.zero_le _ | exact (e_fit_01 _).1 | exact (e_fit_01 _).2 | (with_reducible refine vp_in_iff.mpr ?_; decide +kernel) | (with_reducible refine e_nz _ (by decide)) | decide | exact vq | exact vs | skip
          all_goals first | (exfalso; first | exact cE (by assumption) | exact (by assumption : ¬ _) cE | exact cB1 (by assumption) | exact (by assumption : ¬ _) cB1 | fail) | skip
          refine e_kk (K := K) ?_; refine e_kc (kk) (by (repeat' (first | (refine e_cc ?_ ?_) | (with_reducible rfl) | (simp (disch := omega) only [mI_rM0, mI_rM1, mI_rM2, mI_rM3, mI_rM4, mI_rM5, mI_rM6, mI_rM7, mI_rM8, mI_rM9, mI_rM10, mI_rM11, mI_rM12, mI_rM13, sI_rM0, sI_rM1, sI_rM2, sI_rM3, sI_rM4, sI_rM5, sI_rM6, sI_rM7, sI_rM8, sI_rM9, sI_rM10, sI_rM11, sI_rM12, sI_rM13, n_lit, ↓pk_rem, pk_div, pk_mul, pk_sub, nI_add, nI_clamp, nmod, Nat.add_sub_cancel, eAt, zAt, e_clI, e_clP]; done) | ((try simp (disch := omega) only [mI_rM0, mI_rM1, mI_rM2, mI_rM3, mI_rM4, mI_rM5, mI_rM6, mI_rM7, mI_rM8, mI_rM9, mI_rM10, mI_rM11, mI_rM12, mI_rM13, sI_rM0, sI_rM1, sI_rM2, sI_rM3, sI_rM4, sI_rM5, sI_rM6, sI_rM7, sI_rM8, sI_rM9, sI_rM10, sI_rM11, sI_rM12, sI_rM13, n_lit, ↓pk_rem, pk_div, pk_mul, pk_sub, nI_add, nI_clamp, nmod, Nat.add_sub_cancel, eAt, zAt, e_clI, e_clP]); exact e_cnI (by omega)) | rfl))) (by (repeat' (first | (refine e_cc ?_ ?_) | (with_reducible rfl) | (simp (disch := omega) only [mI_rM0, mI_rM1, mI_rM2, mI_rM3, mI_rM4, mI_rM5, mI_rM6, mI_rM7, mI_rM8, mI_rM9, mI_rM10, mI_rM11, mI_rM12, mI_rM13, sI_rM0, sI_rM1, sI_rM2, sI_rM3, sI_rM4, sI_rM5, sI_rM6, sI_rM7, sI_rM8, sI_rM9, sI_rM10, sI_rM11, sI_rM12, sI_rM13, n_lit, ↓pk_rem, pk_div, pk_mul, pk_sub, nI_add, nI_clamp, nmod, Nat.add_sub_cancel, eAt, zAt, e_clI, e_clP]; done) | ((try simp (disch := omega) only [mI_rM0, mI_rM1, mI_rM2, mI_rM3, mI_rM4, mI_rM5, mI_rM6, mI_rM7, mI_rM8, mI_rM9, mI_rM10, mI_rM11, mI_rM12, mI_rM13, sI_rM0, sI_rM1, sI_rM2, sI_rM3, sI_rM4, sI_rM5, sI_rM6, sI_rM7, sI_rM8, sI_rM9, sI_rM10, sI_rM11, sI_rM12, sI_rM13, n_lit, ↓pk_rem, pk_div, pk_mul, pk_sub, nI_add, nI_clamp, nmod, Nat.add_sub_cancel, eAt, zAt, e_clI, e_clP]); exact e_cnI (by omega)) | rfl))) (by first | (with_reducible rfl) | (simp (disch := omega) only [mI_rM0, mI_rM1, mI_rM2, mI_rM3, mI_rM4, mI_rM5, mI_rM6, mI_rM7, mI_rM8, mI_rM9, mI_rM10, mI_rM11, mI_rM12, mI_rM13, sI_rM0, sI_rM1, sI_rM2, sI_rM3, sI_rM4, sI_rM5, sI_rM6, sI_rM7, sI_rM8, sI_rM9, sI_rM10, sI_rM11, sI_rM12, sI_rM13, n_lit, ↓pk_rem, pk_div, pk_mul, pk_sub, nI_add, nI_clamp, nmod, Nat.add_sub_cancel, eAt, zAt, e_clI, e_clP]; done) | rfl | fail)
        · have nW : ¬ tH B n t = 442053 := fun z => hq ((hW.mp z).2.2 i (by show i < 4; omega))
          have cB0 := fun z => hq (cB.mp z)
          refine e_step rfl hc 60 [28] ?_
          repeat' (first | (with_reducible (intro h9; exact absurd rfl h9)) | (with_reducible (intro h9; exact absurd h9 e_10)) | (with_reducible (intro h9; first | exact absurd e_00 h9 | exact absurd h9 e_n10 | exact absurd h9 e_n20 | exact absurd h9 e_n30)) | (with_reducible intro _) | (refine And.intro ?_ ?_) | (with_reducible refine e_sw_nil ?_) | fail)
          all_goals first | (exfalso; first | exact cE (by assumption) | exact (by assumption : ¬ _) cE | exact cB0 (by assumption) | exact (by assumption : ¬ _) cB0 | fail) | skip
          all_goals first | (with_reducible refine e_goK ?_) | (with_reducible refine e_ctK ?_) | (with_reducible refine vp_inK ?_; (try simp (disch := omega) only [mI_rM0, mI_rM1, mI_rM2, mI_rM3, mI_rM4, mI_rM5, mI_rM6, mI_rM7, mI_rM8, mI_rM9, mI_rM10, mI_rM11, mI_rM12, mI_rM13, sI_rM0, sI_rM1, sI_rM2, sI_rM3, sI_rM4, sI_rM5, sI_rM6, sI_rM7, sI_rM8, sI_rM9, sI_rM10, sI_rM11, sI_rM12, sI_rM13, ix_0, ix_1, ix_2, ix_3, ix_4, ix_5, ix_6, ix_7, ix_8, ix_9, ix_10, ix_11, ix_12, ix_13, ix_14, ix_15, ix_16, ix_20, ix_23, ix_24, ix_30, ix_36, ix_46, ix_76, mx_4, mx_6, mx_30, mx_136, mx_1100, mx_3324, xi_1, xi_30, nI_pred, eAt, zAt, tc_0, tc_1, tc_2, tc_3, tc_7, tc_15, tc_23, tc_30, nI_add, pk_mul, nI_clamp]); exact vp_in_nI (by omega) (by omega)) | rfl | exact trivial | exact Nat.zero_le _ | exact (e_fit_01 _).1 | exact (e_fit_01 _).2 | (with_reducible refine vp_in_iff.mpr ?_; decide +kernel) | (with_reducible refine e_nz _ (by decide)) | decide | exact vq | exact vs | skip
          all_goals first | (exfalso; first | exact cE (by assumption) | exact (by assumption : ¬ _) cE | exact cB0 (by assumption) | exact (by assumption : ¬ _) cB0 | fail) | skip
          all_goals first | (rw [e_01_f nW]; done) | skip
      refine e_step rfl hc 60 [36] ?_
      repeat' (first | (with_reducible (intro h9; exact absurd rfl h9)) | (with_reducible (intro h9; exact absurd h9 e_10)) | (with_reducible (intro h9; first | exact absurd e_00 h9 | exact absurd h9 e_n10 | exact absurd h9 e_n20 | exact absurd h9 e_n30)) | (with_reducible intro _) | (refine And.intro ?_ ?_) | (with_reducible refine e_sw_nil ?_) | fail)
      all_goals first | (exfalso; first | exact cI (by assumption) | exact (by assumption : ¬ _) cI | fail) | skip
      all_goals first | (with_reducible refine e_goK ?_) | (with_reducible refine e_ctK ?_) | (with_reducible refine vp_inK ?_; (try simp (disch := omega) only [mI_rM0, mI_rM1, mI_rM2, mI_rM3, mI_rM4, mI_rM5, mI_rM6, mI_rM7, mI_rM8, mI_rM9, mI_rM10, mI_rM11, mI_rM12, mI_rM13, sI_rM0, sI_rM1, sI_rM2, sI_rM3, sI_rM4, sI_rM5, sI_rM6, sI_rM7, sI_rM8, sI_rM9, sI_rM10, sI_rM11, sI_rM12, sI_rM13, ix_0, ix_1, ix_2, ix_3, ix_4, ix_5, ix_6, ix_7, ix_8, ix_9, ix_10, ix_11, ix_12, ix_13, ix_14, ix_15, ix_16, ix_20, ix_23, ix_24, ix_30, ix_36, ix_46, ix_76, mx_4, mx_6, mx_30, mx_136, mx_1100, mx_3324, xi_1, xi_30, nI_pred, eAt, zAt, tc_0, tc_1, tc_2, tc_3, tc_7, tc_15, tc_23, tc_30, nI_add, pk_mul, nI_clamp]); exact vp_in_nI (by omega) (by omega)) | rfl | exact trivial | exact Nat.zero_le _ | exact (e_fit_01 _).1 | exact (e_fit_01 _).2 | (with_reducible refine vp_in_iff.mpr ?_; decide +kernel) | (with_reducible refine e_nz _ (by decide)) | decide | skip
      exact k36
  have key := loop 4 0 (by omega) (fun j hj => absurd hj (Nat.not_lt_zero _))
  refine e_step rfl hc 60 [28] ?_
  repeat' (first | (with_reducible (intro h9; exact absurd rfl h9)) | (with_reducible (intro h9; exact absurd h9 e_10)) | (with_reducible (intro h9; first | exact absurd e_00 h9 | exact absurd h9 e_n10 | exact absurd h9 e_n20 | exact absurd h9 e_n30)) | (with_reducible intro _) | (refine And.intro ?_ ?_) | (with_reducible refine e_sw_nil ?_) | fail)
  all_goals first | (exfalso; first | exact c (by assumption) | exact (by assumption : ¬ _) c | exact c2 (by assumption) | exact (by assumption : ¬ _) c2 | fail) | skip
  all_goals first | (with_reducible refine e_goK ?_) | (with_reducible refine e_ctK ?_) | (with_reducible refine vp_inK ?_; (try simp (disch := omega) only [mI_rM0, mI_rM1, mI_rM2, mI_rM3, mI_rM4, mI_rM5, mI_rM6, mI_rM7, mI_rM8, mI_rM9, mI_rM10, mI_rM11, mI_rM12, mI_rM13, sI_rM0, sI_rM1, sI_rM2, sI_rM3, sI_rM4, sI_rM5, sI_rM6, sI_rM7, sI_rM8, sI_rM9, sI_rM10, sI_rM11, sI_rM12, sI_rM13, ix_0, ix_1, ix_2, ix_3, ix_4, ix_5, ix_6, ix_7, ix_8, ix_9, ix_10, ix_11, ix_12, ix_13, ix_14, ix_15, ix_16, ix_20, ix_23, ix_24, ix_30, ix_36, ix_46, ix_76, mx_4, mx_6, mx_30, mx_136, mx_1100, mx_3324, xi_1, xi_30, nI_pred, eAt, zAt, tc_0, tc_1, tc_2, tc_3, tc_7, tc_15, tc_23, tc_30, nI_add, pk_mul, nI_clamp]); exact vp_in_nI (by omega) (by omega)) | rfl | exact trivial | exact Nat.zero_le _ | exact (e_fit_01 _).1 | exact (e_fit_01 _).2 | (with_reducible refine vp_in_iff.mpr ?_; decide +kernel) | (with_reducible refine e_nz _ (by decide)) | decide | skip
  all_goals first | (exfalso; first | exact c (by assumption) | exact (by assumption : ¬ _) c | exact c2 (by assumption) | exact (by assumption : ¬ _) c2 | fail) | skip
  exact key
end
