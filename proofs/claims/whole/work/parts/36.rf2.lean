/-! THE REFERENCE: days, the dates of a rule. -/
section
variable {l : Launch} {g : EG}
theorem e_dim_all : ∀ k, 1 ≤ k → k ≤ 12 → (if k = 2 then 28 else if k = 4 ∨ k = 6 ∨ k = 9 ∨ k = 11 then 30 else 31) = e_mst k - e_mst (k - 1) := by
  intro k h1 h2
  have : k - 1 < 12 := by omega
  rcases (show k = 1 ∨ k = 2 ∨ k = 3 ∨ k = 4 ∨ k = 5 ∨ k = 6 ∨ k = 7 ∨ k = 8 ∨ k = 9 ∨ k = 10 ∨ k = 11 ∨ k = 12 by omega) with rfl | rfl | rfl | rfl | rfl | rfl | rfl | rfl | rfl | rfl | rfl | rfl <;> decide
theorem e_mst_mono : ∀ a, a < 12 → e_mst a + (e_mst (a + 1) - e_mst a) = e_mst (a + 1) := by decide +kernel
set_option maxRecDepth 20000 in
theorem cr_daysOf (hl0 : l.stackTraces = false) (M : EM) {k : Nat} (h1 : 1 ≤ k) (h2 : k ≤ 12) : Ct l g sg_X11_daysOf [.inl (nI k)] M (fun o M' => M' = M ∧ o = .inl (some (.inl (nI (e_mst k - e_mst (k - 1)))))) := by
  refine sem_of hl0 mt_X11_daysOf ok_X11_daysOf rfl (fun K hc hw => e_step rfl hc 80 [] ?_)
  clear hc hw
  repeat' (first | (with_reducible (intro h9; exact absurd rfl h9)) | (with_reducible (intro h9; exact absurd h9 e_10)) | (with_reducible (intro h9; first | exact absurd e_00 h9 | exact absurd h9 e_n10 | exact absurd h9 e_n20 | exact absurd h9 e_n30)) | (with_reducible intro _) | (refine And.intro ?_ ?_) | (with_reducible refine e_sw_nil ?_) | fail)
  all_goals first | (with_reducible refine e_goK ?_) | (with_reducible refine e_ctK ?_) | (with_reducible refine vp_inK ?_; (try simp (disch := omega) only [mI_rM0, mI_rM1, mI_rM2, mI_rM3, mI_rM4, mI_rM5, mI_rM6, mI_rM7, mI_rM8, mI_rM9, mI_rM10, mI_rM11, mI_rM12, mI_rM13, sI_rM0, sI_rM1, sI_rM2, sI_rM3, sI_rM4, sI_rM5, sI_rM6, sI_rM7, sI_rM8, sI_rM9, sI_rM10, sI_rM11, sI_rM12, sI_rM13, ix_0, ix_1, ix_2, ix_3, ix_4, ix_5, ix_6, ix_7, ix_8, ix_9, ix_10, ix_11, ix_12, ix_13, ix_14, ix_15, ix_16, ix_20, ix_23, ix_24, ix_30, ix_36, ix_46, ix_76, mx_4, mx_6, mx_30, mx_136, mx_1100, mx_3324, xi_1, xi_30, nI_pred, eAt, zAt, tc_0, tc_1, tc_2, tc_3, tc_7, tc_15, tc_23, tc_30, nI_add, pk_mul, nI_clamp]); exact vp_in_nI (by omega) (by omega)) | rfl | exact trivial | exact Nat.zero_le _ | exact (e_fit_01 _).1 | exact (e_fit_01 _).2 | (with_reducible refine vp_in_iff.mpr ?_; decide +kernel) | (with_reducible refine e_nz _ (by decide)) | decide | skip
  all_goals (rw [← e_dim_all k h1 h2])
  all_goals simp only [nI_toInt (show k < 2 ^ 31 by omega)] at *
  all_goals (first | (rw [if_pos (show k = 2 by omega)]; rfl) | (rw [if_neg (show ¬ k = 2 by omega), if_pos (show k = 4 ∨ k = 6 ∨ k = 9 ∨ k = 11 by omega)]; rfl) | (rw [if_neg (show ¬ k = 2 by omega), if_neg (show ¬ (k = 4 ∨ k = 6 ∨ k = 9 ∨ k = 11) by omega)]; rfl))
set_option maxRecDepth 20000 in
theorem cr_beginOf (hl0 : l.stackTraces = false) (M : EM) {n : Nat} (h1 : 1 ≤ n) (h2 : n ≤ 13) : Ct l g sg_X11_beginOf [.inl (nI n)] M (fun o M' => M' = M ∧ o = .inl (some (.inl (nI (e_mst (n - 1)))))) := by
  refine sem_of hl0 mt_X11_beginOf ok_X11_beginOf rfl (fun K hc hw => ?_)
  have loop : ∀ (zn : Nat) (k : Nat), k + zn = n → 1 ≤ k → K 4 [some (.inl (nI n)), some (.inl (nI (e_mst (k - 1)))), some (.inl (nI k))] [] M 0 0 := by
    intro zn
    induction zn with
    | zero =>
      intro k hk hk1
      obtain rfl : k = n := by omega
      refine e_step rfl hc 60 [4] ?_
      repeat' (first | (with_reducible (intro h9; exact absurd rfl h9)) | (with_reducible (intro h9; exact absurd h9 e_10)) | (with_reducible intro _) | (refine And.intro ?_ ?_))
      all_goals first | (with_reducible refine e_goK ?_) | (with_reducible refine e_ctK ?_) | rfl | exact trivial | exact Nat.zero_le _ | exact (e_fit_01 _).1 | exact (e_fit_01 _).2 | (with_reducible refine vp_in_iff.mpr ?_; decide +kernel) | (with_reducible refine e_nz _ (by decide)) | decide | skip
      all_goals (exfalso; rename_i g1; exact g1 (nI_le (by omega) (by omega)))
    | succ zn ih =>
      intro k hk hk1
      refine e_step rfl hc 60 [4] ?_
      repeat' (first | (with_reducible (intro h9; exact absurd rfl h9)) | (with_reducible (intro h9; exact absurd h9 e_10)) | (with_reducible (intro h9; first | exact absurd e_00 h9 | exact absurd h9 e_n10 | exact absurd h9 e_n20 | exact absurd h9 e_n30)) | (with_reducible intro _) | (refine And.intro ?_ ?_) | (with_reducible refine e_sw_nil ?_) | (refine e_ctK ?_; first | (refine Ct.mono (cr_daysOf hl0 _ (k := k) (by omega) (by omega)) ?_; intro o M' h8; obtain ⟨h9, rfl⟩ := h8; replace h9 := h9.symm; subst h9) | fail) | fail)
      all_goals first | (with_reducible refine e_goK ?_) | (with_reducible refine e_ctK ?_) | rfl | exact trivial | exact Nat.zero_le _ | exact (e_fit_01 _).1 | exact (e_fit_01 _).2 | (with_reducible refine vp_in_iff.mpr ?_; decide +kernel) | (with_reducible refine e_nz _ (by decide)) | decide | skip
      · rename_i g1; exact absurd g1 (nI_ge (by omega) (by omega))
      · show K 4 [some (.inl (nI n)), some (.inl (nI (e_mst (k - 1)) + nI (e_mst k - e_mst (k - 1)))), some (.inl (nI k + 1))] [] M 0 0
        have h3 := e_mst_mono (k - 1) (by omega)
        rw [nI_1, nI_add, show e_mst (k - 1) + (e_mst k - e_mst (k - 1)) = e_mst (k + 1 - 1) by rw [show k - 1 + 1 = k by omega] at h3; rw [h3]; rfl]
        exact ih (k + 1) (by omega) (by omega)
  
  refine e_step rfl hc 60 [4] ?_
  exact loop (n - 1) 1 (by omega) (by omega)
set_option maxRecDepth 20000 in
theorem cr_monthOf (hl0 : l.stackTraces = false) (M : EM) {d : Nat} (hd : d < 1095) : Ct l g sg_X11_monthOf [.inl (nI d)] M (fun o M' => M' = M ∧ o = .inl (some (.inl (nI (e_mon (d % 365) + 1))))) := by
  refine sem_of hl0 mt_X11_monthOf ok_X11_monthOf rfl (fun K hc hw => ?_)
  have hd2 : d % 365 < 365 := Nat.mod_lt _ (by decide)
  obtain ⟨⟨e1, e2, e3⟩, e4⟩ := e_mon_all _ hd2
  have loop : ∀ (zn : Nat) (k : Nat), k + zn = 11 → e_mst k ≤ d % 365 → K 2 [some (.inl (nI d)), some (.inl (nI (k + 1)))] [] M 0 0 := by
    intro zn
    induction zn with
    | zero =>
      intro k hk h1
      obtain rfl : k = 11 := by omega
      refine e_step rfl hc 60 [2] ?_
      repeat' (first | (with_reducible (intro h9; exact absurd rfl h9)) | (with_reducible (intro h9; exact absurd h9 e_10)) | (with_reducible (intro h9; first | exact absurd e_00 h9 | exact absurd h9 e_n10 | exact absurd h9 e_n20 | exact absurd h9 e_n30)) | (with_reducible intro _) | (refine And.intro ?_ ?_) | (with_reducible refine e_sw_nil ?_) | (refine e_ctK ?_; first | (refine Ct.mono (cr_beginOf hl0 _ (n := 12) (by omega) (by omega)) ?_; intro o M' h8; obtain ⟨h9, rfl⟩ := h8; replace h9 := h9.symm; subst h9) | (refine Ct.mono (cr_daysOf hl0 _ (k := 12) (by omega) (by omega)) ?_; intro o M' h8; obtain ⟨h9, rfl⟩ := h8; replace h9 := h9.symm; subst h9) | fail) | fail)
      all_goals first | (with_reducible refine e_goK ?_) | (with_reducible refine e_ctK ?_) | rfl | exact trivial | exact Nat.zero_le _ | exact (e_fit_01 _).1 | exact (e_fit_01 _).2 | (with_reducible refine vp_in_iff.mpr ?_; decide +kernel) | (with_reducible refine e_nz _ (by decide)) | decide | skip
      all_goals (try dsimp only at *)
      · rename_i g1
        show Sum.inl (some (Sum.inl (nI (11 + 1)))) = _
        rw [← e4 11 (by omega) h1 (Or.inl rfl)]
      · rename_i g1
        exfalso
        refine g1 ?_
        show nI d - nI d / nI 365 * nI 365 < nI 334 + nI 31
        rw [pk_rem (by omega) (by omega) (by omega), nI_add]
        exact nI_lt hd2 (by omega)
    | succ zn ih =>
      intro k hk h1
      have h3 := e_mst_mono k (by omega)
      have h4 := e_mst_le (k + 1) (by omega)
      have key : nI (e_mst (k + 1 - 1)) + nI (e_mst (k + 1) - e_mst (k + 1 - 1)) = nI (e_mst (k + 1)) := by
        rw [nI_add, show k + 1 - 1 = k by omega, h3]
      refine e_step rfl hc 60 [2] ?_
      repeat' (first | (with_reducible (intro h9; exact absurd rfl h9)) | (with_reducible (intro h9; exact absurd h9 e_10)) | (with_reducible (intro h9; first | exact absurd e_00 h9 | exact absurd h9 e_n10 | exact absurd h9 e_n20 | exact absurd h9 e_n30)) | (with_reducible intro _) | (refine And.intro ?_ ?_) | (with_reducible refine e_sw_nil ?_) | (refine e_ctK ?_; first | (refine Ct.mono (cr_beginOf hl0 _ (n := k + 1) (by omega) (by omega)) ?_; intro o M' h8; obtain ⟨h9, rfl⟩ := h8; replace h9 := h9.symm; subst h9) | (refine Ct.mono (cr_daysOf hl0 _ (k := k + 1) (by omega) (by omega)) ?_; intro o M' h8; obtain ⟨h9, rfl⟩ := h8; replace h9 := h9.symm; subst h9) | fail) | fail)
      all_goals first | (with_reducible refine e_goK ?_) | (with_reducible refine e_ctK ?_) | rfl | exact trivial | exact Nat.zero_le _ | exact (e_fit_01 _).1 | exact (e_fit_01 _).2 | (with_reducible refine vp_in_iff.mpr ?_; decide +kernel) | (with_reducible refine e_nz _ (by decide)) | decide | skip
      all_goals (try dsimp only at *)
      · rename_i g2
        rw [key, show (365 : Int32) = nI 365 from rfl, pk_rem (by omega) (by omega) (by omega), nI_ltI (by omega) (by omega)] at g2
        rw [← e4 k (by omega) h1 (Or.inr g2)]
      · rename_i g2
        rw [key, show (365 : Int32) = nI 365 from rfl, pk_rem (by omega) (by omega) (by omega), nI_ltI (by omega) (by omega)] at g2
        show K 2 [some (.inl (nI d)), some (.inl (nI (k + 1) + 1))] [] M 0 0
        rw [nI_1]
        exact ih (k + 1) (by omega) (by omega)
  
  refine e_step rfl hc 60 [2] ?_
  exact loop 11 0 (by omega) (Nat.zero_le _)
set_option maxRecDepth 20000 in
theorem cr_dayOfMonth (hl0 : l.stackTraces = false) (M : EM) {d : Nat} (hd : d < 1095) : Ct l g sg_X11_dayOfMonth [.inl (nI d)] M (fun o M' => M' = M ∧ o = .inl (some (.inl (nI (d % 365 - e_mst (e_mon (d % 365)) + 1))))) := by
  refine sem_of hl0 mt_X11_dayOfMonth ok_X11_dayOfMonth rfl (fun K hc hw => e_step rfl hc 80 [] ?_)
  clear hc hw
  repeat' (first | (with_reducible (intro h9; exact absurd rfl h9)) | (with_reducible (intro h9; exact absurd h9 e_10)) | (with_reducible (intro h9; first | exact absurd e_00 h9 | exact absurd h9 e_n10 | exact absurd h9 e_n20 | exact absurd h9 e_n30)) | (with_reducible intro _) | (refine And.intro ?_ ?_) | (with_reducible refine e_sw_nil ?_) | (refine e_ctK ?_; first | (refine Ct.mono (cr_monthOf hl0 _ hd) ?_; intro o M' h8; obtain ⟨h9, rfl⟩ := h8; replace h9 := h9.symm; subst h9) | (refine Ct.mono (cr_beginOf hl0 _ (n := e_mon (d % 365) + 1) (by omega) (by have := (e_mon_all (d % 365) (Nat.mod_lt _ (by decide))).1.1; omega)) ?_; intro o M' h8; obtain ⟨h9, rfl⟩ := h8; replace h9 := h9.symm; subst h9) | fail) | fail)
  all_goals first | (with_reducible refine e_goK ?_) | (with_reducible refine e_ctK ?_) | (with_reducible refine vp_inK ?_; (try simp (disch := omega) only [mI_rM0, mI_rM1, mI_rM2, mI_rM3, mI_rM4, mI_rM5, mI_rM6, mI_rM7, mI_rM8, mI_rM9, mI_rM10, mI_rM11, mI_rM12, mI_rM13, sI_rM0, sI_rM1, sI_rM2, sI_rM3, sI_rM4, sI_rM5, sI_rM6, sI_rM7, sI_rM8, sI_rM9, sI_rM10, sI_rM11, sI_rM12, sI_rM13, ix_0, ix_1, ix_2, ix_3, ix_4, ix_5, ix_6, ix_7, ix_8, ix_9, ix_10, ix_11, ix_12, ix_13, ix_14, ix_15, ix_16, ix_20, ix_23, ix_24, ix_30, ix_36, ix_46, ix_76, mx_4, mx_6, mx_30, mx_136, mx_1100, mx_3324, xi_1, xi_30, nI_pred, eAt, zAt, tc_0, tc_1, tc_2, tc_3, tc_7, tc_15, tc_23, tc_30, nI_add, pk_mul, nI_clamp]); exact vp_in_nI (by omega) (by omega)) | rfl | exact trivial | exact Nat.zero_le _ | exact (e_fit_01 _).1 | exact (e_fit_01 _).2 | (with_reducible refine vp_in_iff.mpr ?_; decide +kernel) | (with_reducible refine e_nz _ (by decide)) | decide | skip
  all_goals have hd2 : d % 365 < 365 := Nat.mod_lt _ (by decide)
  all_goals obtain ⟨⟨e1, e2, e3⟩, e4⟩ := e_mon_all _ hd2
  · show Sum.inl (some (Sum.inl (nI d - nI d / nI 365 * nI 365 - nI (e_mst (e_mon (d % 365) + 1 - 1)) + nI 1))) = _
    rw [pk_rem (by omega) (by omega) (by omega), show e_mon (d % 365) + 1 - 1 = e_mon (d % 365) by omega, pk_sub e2, nI_add]
end
