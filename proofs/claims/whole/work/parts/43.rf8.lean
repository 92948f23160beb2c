/-! THE REFERENCE: agendas. -/
section
variable {l : Launch} {g : EG}
def agC (ln : Nat → Int32) (i : Nat) (x : AG) : Int32 := match i with
  | 8 => nI x.2.1
  | 9 => nI x.2.2
  | 10 => x.1
  | _ => ln x.2.1
/-- the reference's entries are A -/
def aR (F : FM) (ln : Nat → Int32) (A : List AG) : Prop := F 0 25 = nI A.length ∧ ∀ i, 8 ≤ i → i ≤ 11 → ∀ j, j < A.length → F i j = agC ln i (agG A j)
/-- nothing but the entries is written -/
def rKq (F F' : FM) : Prop := (∀ i, ¬ (8 ≤ i ∧ i ≤ 11) → ¬ i = 0 → F' i = F i) ∧ ∀ j, ¬ j = 25 → F' 0 j = F 0 j
theorem rKq.rf {F : FM} : rKq F F := ⟨fun _ _ _ => rfl, fun _ _ => rfl⟩
theorem rKq.tr {F F' F'' : FM} (h : rKq F F') (h' : rKq F' F'') : rKq F F'' := ⟨fun i h1 h2 => (h'.1 i h1 h2).trans (h.1 i h1 h2), fun j h1 => (h'.2 j h1).trans (h.2 j h1)⟩
theorem rKq.p {F F' : FM} (h : rKq F F') : rKp F F' := ⟨fun i hi => h.1 i (by omega) (by omega), fun j hj => h.2 j (by omega)⟩
theorem rKq.u {F F' : FM} {i k : Nat} {v : Int32} (h : rKq F F') (hi : 8 ≤ i ∧ i ≤ 11) : rKq F (upF F' i k v) := h.tr ⟨fun i' h1 h2 => upF_r (by omega), fun j h1 => upF_n (by omega)⟩
theorem rKq.z {F F' : FM} {v : Int32} (h : rKq F F') : rKq F (upF F' 0 25 v) := h.tr ⟨fun i' h1 h2 => upF_r h2, fun j h1 => upF_n (by omega)⟩
set_option maxRecDepth 20000 in
theorem cr_enters (hl0 : l.stackTraces = false) (M : EM) {m e d : Nat} (F : FM) (mo : Int32) {ln : Nat → Int32} {A : List AG} (hA : aR F ln A) (hn : A.length < 240) : Ct l g sg_X11_enters [.inr (.inr (.inr (.inr (30, m)))), .inl (nI e), .inl (nI d), .inl mo, .inl (ln e)] (rM M m F) (fun o M' => (∃ F', M' = rM M m F' ∧ rKq F F' ∧ aR F' ln (agIns A (mo, e, d))) ∧ o = .inl none) := by
  refine sem_of hl0 mt_X11_enters ok_X11_enters rfl (fun K hc hw => ?_)
  have fin : ∀ (k : Nat) (F1 : FM), k ≤ A.length → agPos A mo A.length = k → rKq F F1 → F1 0 25 = nI A.length → (∀ i, 8 ≤ i → i ≤ 11 → (∀ j, j < k → F1 i j = agC ln i (agG A j)) ∧ ∀ j, k < j → j ≤ A.length → F1 i j = agC ln i (agG A (j - 1))) → K 97 [some (.inr (.inr (.inr (.inr (30, m))))), some (.inl (nI e)), some (.inl (nI d)), some (.inl mo), some (.inl (ln e)), some (.inl (nI k))] [] (rM M m F1) 0 0 := by
    intro k F1 hk hp h1 h2 h3
    refine e_step rfl hc 60 [] ?_
    repeat' (first | (with_reducible (intro h9; exact absurd rfl h9)) | (with_reducible (intro h9; exact absurd h9 e_10)) | (with_reducible (intro h9; first | exact absurd e_00 h9 | exact absurd h9 e_n10 | exact absurd h9 e_n20 | exact absurd h9 e_n30)) | (with_reducible intro _) | (refine And.intro ?_ ?_) | (with_reducible refine e_sw_nil ?_) | fail)
    all_goals first | (with_reducible refine e_goK ?_) | (with_reducible refine e_ctK ?_) | (with_reducible refine vp_inK ?_; (try simp (disch := omega) only [mI_rM0, mI_rM1, mI_rM2, mI_rM3, mI_rM4, mI_rM5, mI_rM6, mI_rM7, mI_rM8, mI_rM9, mI_rM10, mI_rM11, mI_rM12, mI_rM13, sI_rM0, sI_rM1, sI_rM2, sI_rM3, sI_rM4, sI_rM5, sI_rM6, sI_rM7, sI_rM8, sI_rM9, sI_rM10, sI_rM11, sI_rM12, sI_rM13, ix_0, ix_1, ix_2, ix_3, ix_4, ix_5, ix_6, ix_7, ix_8, ix_9, ix_10, ix_11, ix_12, ix_13, ix_14, ix_15, ix_16, ix_20, ix_23, ix_24, ix_30, ix_36, ix_46, ix_76, mx_4, mx_6, mx_30, mx_136, mx_1100, mx_3324, xi_1, xi_30, nI_pred, eAt, zAt, tc_0, tc_1, tc_2, tc_3, tc_7, tc_15, tc_23, tc_30, nI_add, pk_mul, nI_clamp]); exact vp_in_nI (by omega) (by omega)) | rfl | exact trivial | exact Nat.zero_le _ | exact (e_fit_01 _).1 | exact (e_fit_01 _).2 | (with_reducible refine vp_in_iff.mpr ?_; decide +kernel) | (with_reducible refine e_nz _ (by decide)) | decide | skip
    all_goals (try simp (disch := omega) only [mI_rM0, mI_rM1, mI_rM2, mI_rM3, mI_rM4, mI_rM5, mI_rM6, mI_rM7, mI_rM8, mI_rM9, mI_rM10, mI_rM11, mI_rM12, mI_rM13, sI_rM0, sI_rM1, sI_rM2, sI_rM3, sI_rM4, sI_rM5, sI_rM6, sI_rM7, sI_rM8, sI_rM9, sI_rM10, sI_rM11, sI_rM12, sI_rM13, ix_0, ix_1, ix_2, ix_3, ix_4, ix_5, ix_6, ix_7, ix_8, ix_9, ix_10, ix_11, ix_12, ix_13, ix_14, ix_15, ix_16, ix_20, ix_23, ix_24, ix_30, ix_36, ix_46, ix_76, mx_4, mx_6, mx_30, mx_136, mx_1100, mx_3324, xi_1, xi_30, nI_pred, eAt, zAt, tc_0, tc_1, tc_2, tc_3, tc_7, tc_15, tc_23, tc_30, nI_add, nI_clamp, pk_mul, Nat.add_zero, e_01_n, e_01_p, Classical.not_not] at *)
    all_goals first | exact vp_in_nI (by omega) (by omega) | skip
    refine ⟨_, rfl, (h1.u (by decide)).u (by decide) |>.u (by decide) |>.u (by decide) |>.z, ?_, ?_⟩
    · rw [upF_s, agIns_len, ← nI_1]
      simp (disch := omega) only [upF_n]
      rw [h2]
    · intro i hi1 hi2 j hj
      rw [agIns_len] at hj
      show _ = agC ln i (agG (agI A (agPos A mo A.length) _) j)
      rw [hp]
      rw [upF_r (show ¬ i = 0 by omega)]
      by_cases hjk : j = k
      · subst hjk
        rw [agI_eq hk]
        rcases (show i = 8 ∨ i = 9 ∨ i = 10 ∨ i = 11 by omega) with rfl | rfl | rfl | rfl <;> simp (disch := omega) only [upF_n, upF_s] <;> rfl
      · have e4 : upF (upF (upF (upF F1 8 k (nI e)) 9 k (nI d)) 10 k mo) 11 k (ln e) i j = F1 i j := by simp (disch := omega) only [upF_n]
        rw [e4]
        by_cases hjl : j < k
        · rw [agI_lt hk hjl]; exact (h3 i hi1 hi2).1 j hjl
        · rw [agI_gt hk (by omega)]; exact (h3 i hi1 hi2).2 j (by omega) (by omega)
  have loop : ∀ (zn : Nat) (k : Nat) (F1 : FM), k = zn → k ≤ A.length → agPos A mo A.length = agPos A mo k → rKq F F1 → F1 0 25 = nI A.length → (∀ i, 8 ≤ i → i ≤ 11 → (∀ j, j < k → F1 i j = agC ln i (agG A j)) ∧ ∀ j, k < j → j ≤ A.length → F1 i j = agC ln i (agG A (j - 1))) → K 6 [some (.inr (.inr (.inr (.inr (30, m))))), some (.inl (nI e)), some (.inl (nI d)), some (.inl mo), some (.inl (ln e)), some (.inl (nI k))] [] (rM M m F1) 0 0 := by
    intro zn
    induction zn with
    | zero =>
      intro k F1 hz hk hp h1 h2 h3
      subst hz
      refine e_step rfl hc 60 [6, 11, 97] ?_
      repeat' (first | (with_reducible (intro h9; exact absurd rfl h9)) | (with_reducible (intro h9; exact absurd h9 e_10)) | (with_reducible (intro h9; first | exact absurd e_00 h9 | exact absurd h9 e_n10 | exact absurd h9 e_n20 | exact absurd h9 e_n30)) | (with_reducible intro _) | (refine And.intro ?_ ?_) | (with_reducible refine e_sw_nil ?_) | fail)
      · exact fin 0 F1 (by omega) hp h1 h2 h3
      · rename_i g1; exact absurd (show nI 0 ≤ 0 by decide) g1
    | succ zn ih =>
      intro k F1 hz hk hp h1 h2 h3
      subst hz
      have hpos := (nI_nle (n := zn + 1) (by omega) (by omega))
      have hc10 : F1 10 zn = (agG A zn).1 := (h3 10 (by omega) (by omega)).1 zn (by omega)
      refine e_step rfl hc 60 [11, 97] ?_
      repeat' (first | (with_reducible (intro h9; exact absurd rfl h9)) | (with_reducible (intro h9; exact absurd h9 e_10)) | (with_reducible (intro h9; first | exact absurd e_00 h9 | exact absurd h9 e_n10 | exact absurd h9 e_n20 | exact absurd h9 e_n30)) | (with_reducible intro _) | (refine And.intro ?_ ?_) | (with_reducible refine e_sw_nil ?_) | fail)
      · rename_i g1; exact absurd g1 hpos
      refine e_kk (K := K) ?_
      refine e_step rfl hc 60 [24, 97] ?_
      repeat' (first | (with_reducible (intro h9; exact absurd rfl h9)) | (with_reducible (intro h9; exact absurd h9 e_10)) | (with_reducible (intro h9; first | exact absurd e_00 h9 | exact absurd h9 e_n10 | exact absurd h9 e_n20 | exact absurd h9 e_n30)) | (with_reducible intro _) | (refine And.intro ?_ ?_) | (with_reducible refine e_sw_nil ?_) | fail)
      all_goals first | (with_reducible refine e_goK ?_) | (with_reducible refine e_ctK ?_) | (with_reducible refine vp_inK ?_; (try simp (disch := omega) only [mI_rM0, mI_rM1, mI_rM2, mI_rM3, mI_rM4, mI_rM5, mI_rM6, mI_rM7, mI_rM8, mI_rM9, mI_rM10, mI_rM11, mI_rM12, mI_rM13, sI_rM0, sI_rM1, sI_rM2, sI_rM3, sI_rM4, sI_rM5, sI_rM6, sI_rM7, sI_rM8, sI_rM9, sI_rM10, sI_rM11, sI_rM12, sI_rM13, ix_0, ix_1, ix_2, ix_3, ix_4, ix_5, ix_6, ix_7, ix_8, ix_9, ix_10, ix_11, ix_12, ix_13, ix_14, ix_15, ix_16, ix_20, ix_23, ix_24, ix_30, ix_36, ix_46, ix_76, mx_4, mx_6, mx_30, mx_136, mx_1100, mx_3324, xi_1, xi_30, nI_pred, eAt, zAt, tc_0, tc_1, tc_2, tc_3, tc_7, tc_15, tc_23, tc_30, nI_add, pk_mul, nI_clamp]); exact vp_in_nI (by omega) (by omega)) | rfl | exact trivial | exact Nat.zero_le _ | exact (e_fit_01 _).1 | exact (e_fit_01 _).2 | (with_reducible refine vp_in_iff.mpr ?_; decide +kernel) | (with_reducible refine e_nz _ (by decide)) | decide | skip
      all_goals (try simp (disch := omega) only [mI_rM0, mI_rM1, mI_rM2, mI_rM3, mI_rM4, mI_rM5, mI_rM6, mI_rM7, mI_rM8, mI_rM9, mI_rM10, mI_rM11, mI_rM12, mI_rM13, sI_rM0, sI_rM1, sI_rM2, sI_rM3, sI_rM4, sI_rM5, sI_rM6, sI_rM7, sI_rM8, sI_rM9, sI_rM10, sI_rM11, sI_rM12, sI_rM13, ix_0, ix_1, ix_2, ix_3, ix_4, ix_5, ix_6, ix_7, ix_8, ix_9, ix_10, ix_11, ix_12, ix_13, ix_14, ix_15, ix_16, ix_20, ix_23, ix_24, ix_30, ix_36, ix_46, ix_76, mx_4, mx_6, mx_30, mx_136, mx_1100, mx_3324, xi_1, xi_30, nI_pred, eAt, zAt, tc_0, tc_1, tc_2, tc_3, tc_7, tc_15, tc_23, tc_30, nI_add, nI_clamp, pk_mul, Nat.add_zero, e_01_n, e_01_p, Classical.not_not, hc10] at *)
      · rename_i g1 g2
        exact fin (zn + 1) F1 hk (hp.trans (if_neg (Int32.not_lt.mpr g2))) h1 h2 h3
      · rename_i g1 g2
        refine e_kk (K := K) ?_
        refine e_step rfl hc 60 [6] ?_
        repeat' (first | (with_reducible (intro h9; exact absurd rfl h9)) | (with_reducible (intro h9; exact absurd h9 e_10)) | (with_reducible (intro h9; first | exact absurd e_00 h9 | exact absurd h9 e_n10 | exact absurd h9 e_n20 | exact absurd h9 e_n30)) | (with_reducible intro _) | (refine And.intro ?_ ?_) | (with_reducible refine e_sw_nil ?_) | fail)
        all_goals first | (with_reducible refine e_goK ?_) | (with_reducible refine e_ctK ?_) | (with_reducible refine vp_inK ?_; (try simp (disch := omega) only [mI_rM0, mI_rM1, mI_rM2, mI_rM3, mI_rM4, mI_rM5, mI_rM6, mI_rM7, mI_rM8, mI_rM9, mI_rM10, mI_rM11, mI_rM12, mI_rM13, sI_rM0, sI_rM1, sI_rM2, sI_rM3, sI_rM4, sI_rM5, sI_rM6, sI_rM7, sI_rM8, sI_rM9, sI_rM10, sI_rM11, sI_rM12, sI_rM13, ix_0, ix_1, ix_2, ix_3, ix_4, ix_5, ix_6, ix_7, ix_8, ix_9, ix_10, ix_11, ix_12, ix_13, ix_14, ix_15, ix_16, ix_20, ix_23, ix_24, ix_30, ix_36, ix_46, ix_76, mx_4, mx_6, mx_30, mx_136, mx_1100, mx_3324, xi_1, xi_30, nI_pred, eAt, zAt, tc_0, tc_1, tc_2, tc_3, tc_7, tc_15, tc_23, tc_30, nI_add, pk_mul, nI_clamp]); exact vp_in_nI (by omega) (by omega)) | rfl | exact trivial | exact Nat.zero_le _ | exact (e_fit_01 _).1 | exact (e_fit_01 _).2 | (with_reducible refine vp_in_iff.mpr ?_; decide +kernel) | (with_reducible refine e_nz _ (by decide)) | decide | skip
        have e4 : ∀ i j, 8 ≤ i → i ≤ 11 → upF (upF (upF (upF F1 8 (zn + 1) (F1 8 zn)) 9 (zn + 1) (F1 9 zn)) 10 (zn + 1) (F1 10 zn)) 11 (zn + 1) (F1 11 zn) i j = if j = zn + 1 then F1 i zn else F1 i j := by
          intro i j hi1 hi2
          by_cases hj : j = zn + 1
          · subst hj
            rw [if_pos rfl]
            rcases (show i = 8 ∨ i = 9 ∨ i = 10 ∨ i = 11 by omega) with rfl | rfl | rfl | rfl <;> simp (disch := omega) only [upF_n, upF_s]
          · rw [if_neg hj]; simp (disch := omega) only [upF_n]
        have key := ih zn _ rfl (by omega) (hp.trans (if_pos (Int32.not_le.mp g2))) ((((h1.u (i := 8) (k := zn + 1) (v := F1 8 zn) (by decide)).u (i := 9) (k := zn + 1) (v := F1 9 zn) (by decide)).u (i := 10) (k := zn + 1) (v := F1 10 zn) (by decide)).u (i := 11) (k := zn + 1) (v := F1 11 zn) (by decide)) (by simp (disch := omega) only [upF_n]; exact h2) (fun i hi1 hi2 => ⟨fun j hj => by rw [e4 i j hi1 hi2, if_neg (by omega)]; exact (h3 i hi1 hi2).1 j (by omega), fun j hj1 hj2 => by
          rw [e4 i j hi1 hi2]
          by_cases hj : j = zn + 1
          · rw [if_pos hj, hj]; exact (h3 i hi1 hi2).1 zn (by omega)
          · rw [if_neg hj]; exact (h3 i hi1 hi2).2 j (by omega) hj2⟩)
        refine e_kk (K := K) ?_; refine e_kc (key) (by (repeat' (first | (refine e_cc ?_ ?_) | (with_reducible rfl) | (simp (disch := omega) only [mI_rM0, mI_rM1, mI_rM2, mI_rM3, mI_rM4, mI_rM5, mI_rM6, mI_rM7, mI_rM8, mI_rM9, mI_rM10, mI_rM11, mI_rM12, mI_rM13, sI_rM0, sI_rM1, sI_rM2, sI_rM3, sI_rM4, sI_rM5, sI_rM6, sI_rM7, sI_rM8, sI_rM9, sI_rM10, sI_rM11, sI_rM12, sI_rM13, n_lit, ↓pk_rem, pk_div, pk_mul, pk_sub, nI_add, nI_clamp, nmod, Nat.add_sub_cancel, eAt, zAt, e_clI, e_clP, upF_n]; done) | ((try simp (disch := omega) only [mI_rM0, mI_rM1, mI_rM2, mI_rM3, mI_rM4, mI_rM5, mI_rM6, mI_rM7, mI_rM8, mI_rM9, mI_rM10, mI_rM11, mI_rM12, mI_rM13, sI_rM0, sI_rM1, sI_rM2, sI_rM3, sI_rM4, sI_rM5, sI_rM6, sI_rM7, sI_rM8, sI_rM9, sI_rM10, sI_rM11, sI_rM12, sI_rM13, n_lit, ↓pk_rem, pk_div, pk_mul, pk_sub, nI_add, nI_clamp, nmod, Nat.add_sub_cancel, eAt, zAt, e_clI, e_clP, upF_n]); exact e_cnI (by omega)) | rfl))) (by (repeat' (first | (refine e_cc ?_ ?_) | (with_reducible rfl) | (simp (disch := omega) only [mI_rM0, mI_rM1, mI_rM2, mI_rM3, mI_rM4, mI_rM5, mI_rM6, mI_rM7, mI_rM8, mI_rM9, mI_rM10, mI_rM11, mI_rM12, mI_rM13, sI_rM0, sI_rM1, sI_rM2, sI_rM3, sI_rM4, sI_rM5, sI_rM6, sI_rM7, sI_rM8, sI_rM9, sI_rM10, sI_rM11, sI_rM12, sI_rM13, n_lit, ↓pk_rem, pk_div, pk_mul, pk_sub, nI_add, nI_clamp, nmod, Nat.add_sub_cancel, eAt, zAt, e_clI, e_clP, upF_n]; done) | ((try simp (disch := omega) only [mI_rM0, mI_rM1, mI_rM2, mI_rM3, mI_rM4, mI_rM5, mI_rM6, mI_rM7, mI_rM8, mI_rM9, mI_rM10, mI_rM11, mI_rM12, mI_rM13, sI_rM0, sI_rM1, sI_rM2, sI_rM3, sI_rM4, sI_rM5, sI_rM6, sI_rM7, sI_rM8, sI_rM9, sI_rM10, sI_rM11, sI_rM12, sI_rM13, n_lit, ↓pk_rem, pk_div, pk_mul, pk_sub, nI_add, nI_clamp, nmod, Nat.add_sub_cancel, eAt, zAt, e_clI, e_clP, upF_n]); exact e_cnI (by omega)) | rfl))) (by first | (with_reducible rfl) | (simp (disch := omega) only [mI_rM0, mI_rM1, mI_rM2, mI_rM3, mI_rM4, mI_rM5, mI_rM6, mI_rM7, mI_rM8, mI_rM9, mI_rM10, mI_rM11, mI_rM12, mI_rM13, sI_rM0, sI_rM1, sI_rM2, sI_rM3, sI_rM4, sI_rM5, sI_rM6, sI_rM7, sI_rM8, sI_rM9, sI_rM10, sI_rM11, sI_rM12, sI_rM13, n_lit, ↓pk_rem, pk_div, pk_mul, pk_sub, nI_add, nI_clamp, nmod, Nat.add_sub_cancel, eAt, zAt, e_clI, e_clP, upF_n]; done) | rfl | fail)
  
  refine e_step rfl hc 60 [6] ?_
  repeat' (first | (with_reducible (intro h9; exact absurd rfl h9)) | (with_reducible (intro h9; exact absurd h9 e_10)) | (with_reducible (intro h9; first | exact absurd e_00 h9 | exact absurd h9 e_n10 | exact absurd h9 e_n20 | exact absurd h9 e_n30)) | (with_reducible intro _) | (refine And.intro ?_ ?_) | (with_reducible refine e_sw_nil ?_) | fail)
  all_goals first | (with_reducible refine e_goK ?_) | (with_reducible refine e_ctK ?_) | (with_reducible refine vp_inK ?_; (try simp (disch := omega) only [mI_rM0, mI_rM1, mI_rM2, mI_rM3, mI_rM4, mI_rM5, mI_rM6, mI_rM7, mI_rM8, mI_rM9, mI_rM10, mI_rM11, mI_rM12, mI_rM13, sI_rM0, sI_rM1, sI_rM2, sI_rM3, sI_rM4, sI_rM5, sI_rM6, sI_rM7, sI_rM8, sI_rM9, sI_rM10, sI_rM11, sI_rM12, sI_rM13, ix_0, ix_1, ix_2, ix_3, ix_4, ix_5, ix_6, ix_7, ix_8, ix_9, ix_10, ix_11, ix_12, ix_13, ix_14, ix_15, ix_16, ix_20, ix_23, ix_24, ix_30, ix_36, ix_46, ix_76, mx_4, mx_6, mx_30, mx_136, mx_1100, mx_3324, xi_1, xi_30, nI_pred, eAt, zAt, tc_0, tc_1, tc_2, tc_3, tc_7, tc_15, tc_23, tc_30, nI_add, pk_mul, nI_clamp]); exact vp_in_nI (by omega) (by omega)) | rfl | exact trivial | exact Nat.zero_le _ | exact (e_fit_01 _).1 | exact (e_fit_01 _).2 | (with_reducible refine vp_in_iff.mpr ?_; decide +kernel) | (with_reducible refine e_nz _ (by decide)) | decide | skip
  refine e_kk (K := K) ?_; refine e_kc (loop A.length A.length F rfl (Nat.le_refl _) rfl rKq.rf hA.1 (fun i h1 h2 => ⟨hA.2 i h1 h2, fun j h3 h4 => absurd h3 (by omega)⟩)) (by (repeat' (first | (refine e_cc ?_ ?_) | (with_reducible rfl) | (simp (disch := omega) only [mI_rM0, mI_rM1, mI_rM2, mI_rM3, mI_rM4, mI_rM5, mI_rM6, mI_rM7, mI_rM8, mI_rM9, mI_rM10, mI_rM11, mI_rM12, mI_rM13, sI_rM0, sI_rM1, sI_rM2, sI_rM3, sI_rM4, sI_rM5, sI_rM6, sI_rM7, sI_rM8, sI_rM9, sI_rM10, sI_rM11, sI_rM12, sI_rM13, n_lit, ↓pk_rem, pk_div, pk_mul, pk_sub, nI_add, nI_clamp, nmod, Nat.add_sub_cancel, eAt, zAt, e_clI, e_clP, hA.1]; done) | ((try simp (disch := omega) only [mI_rM0, mI_rM1, mI_rM2, mI_rM3, mI_rM4, mI_rM5, mI_rM6, mI_rM7, mI_rM8, mI_rM9, mI_rM10, mI_rM11, mI_rM12, mI_rM13, sI_rM0, sI_rM1, sI_rM2, sI_rM3, sI_rM4, sI_rM5, sI_rM6, sI_rM7, sI_rM8, sI_rM9, sI_rM10, sI_rM11, sI_rM12, sI_rM13, n_lit, ↓pk_rem, pk_div, pk_mul, pk_sub, nI_add, nI_clamp, nmod, Nat.add_sub_cancel, eAt, zAt, e_clI, e_clP, hA.1]); exact e_cnI (by omega)) | rfl))) (by (repeat' (first | (refine e_cc ?_ ?_) | (with_reducible rfl) | (simp (disch := omega) only [mI_rM0, mI_rM1, mI_rM2, mI_rM3, mI_rM4, mI_rM5, mI_rM6, mI_rM7, mI_rM8, mI_rM9, mI_rM10, mI_rM11, mI_rM12, mI_rM13, sI_rM0, sI_rM1, sI_rM2, sI_rM3, sI_rM4, sI_rM5, sI_rM6, sI_rM7, sI_rM8, sI_rM9, sI_rM10, sI_rM11, sI_rM12, sI_rM13, n_lit, ↓pk_rem, pk_div, pk_mul, pk_sub, nI_add, nI_clamp, nmod, Nat.add_sub_cancel, eAt, zAt, e_clI, e_clP, hA.1]; done) | ((try simp (disch := omega) only [mI_rM0, mI_rM1, mI_rM2, mI_rM3, mI_rM4, mI_rM5, mI_rM6, mI_rM7, mI_rM8, mI_rM9, mI_rM10, mI_rM11, mI_rM12, mI_rM13, sI_rM0, sI_rM1, sI_rM2, sI_rM3, sI_rM4, sI_rM5, sI_rM6, sI_rM7, sI_rM8, sI_rM9, sI_rM10, sI_rM11, sI_rM12, sI_rM13, n_lit, ↓pk_rem, pk_div, pk_mul, pk_sub, nI_add, nI_clamp, nmod, Nat.add_sub_cancel, eAt, zAt, e_clI, e_clP, hA.1]); exact e_cnI (by omega)) | rfl))) (by first | (with_reducible rfl) | (simp (disch := omega) only [mI_rM0, mI_rM1, mI_rM2, mI_rM3, mI_rM4, mI_rM5, mI_rM6, mI_rM7, mI_rM8, mI_rM9, mI_rM10, mI_rM11, mI_rM12, mI_rM13, sI_rM0, sI_rM1, sI_rM2, sI_rM3, sI_rM4, sI_rM5, sI_rM6, sI_rM7, sI_rM8, sI_rM9, sI_rM10, sI_rM11, sI_rM12, sI_rM13, n_lit, ↓pk_rem, pk_div, pk_mul, pk_sub, nI_add, nI_clamp, nmod, Nat.add_sub_cancel, eAt, zAt, e_clI, e_clP, hA.1]; done) | rfl | fail)
end
