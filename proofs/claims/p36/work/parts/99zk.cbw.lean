/-! THE EXCHANGE begins with a place. -/
section
variable {l : Launch} {g : EG}
/-- an exchange that begins with a place -/
def xBg (M' : EM) (a : Nat) (M : EM) (q : Nat) : Prop := mI M' a 0 = 0 ∧ qP M' (a + 1) M q ∧ ∀ s, s < 2 → (∀ j, 1 ≤ j → j < 4 → mI M' (a + 48 + 48 * s) j = 0) ∧ qP M' (a + 49 + 48 * s) M q ∧ ∀ j, j < 6 → mI M' (a + 48 + 48 * s + 47) j = 0
set_option maxRecDepth 20000 in
theorem c_xbegin (hl0 : l.stackTraces = false) {a q : Nat} (M : EM) (hb : bP M q) (hab : a + 145 ≤ q ∨ q + 46 ≤ a) : Ct l g sg_X3_beginWith [.inr (.inr (.inr (.inr (14, a)))), .inr (.inr (.inr (.inr (5, q))))] M (fun o M' => BX ((e_fr M M' a (a + 145) ∧ xBg M' a M q) ∧ o = .inl none)) := by
  refine sem_of hl0 mt_X3_beginWith ok_X3_beginWith rfl (fun K hc hw => ?_)
  clear hw
  have loop : ∀ (zn : Nat) (k : Nat) (M1 : EM), k + zn = 2 → e_fr M M1 a (a + 144) → mI M1 a 0 = 0 → qP M1 (a + 1) M q → (∀ s, s < k → (∀ j, 1 ≤ j → j < 4 → mI M1 (a + 48 + 48 * s) j = 0) ∧ qP M1 (a + 49 + 48 * s) M q ∧ ∀ j, j < 6 → mI M1 (a + 48 + 48 * s + 47) j = 0) → K 15 [some (.inr (.inr (.inr (.inr (14, a))))), some (.inr (.inr (.inr (.inr (5, q))))), some (.inl (nI k))] [] M1 0 0 := by
    intro zn
    induction zn with
    | zero =>
      intro k M1 hk h1 h2 h3 h4
      obtain rfl : k = 2 := by omega
      refine e_step rfl hc 60 [15] ?_
      repeat' (first | (with_reducible (intro h9; exact absurd rfl h9)) | (with_reducible (intro h9; exact absurd h9 e_10)) | (with_reducible intro _) | (refine And.intro ?_ ?_))
      all_goals first | (with_reducible refine e_goK ?_) | (with_reducible refine e_ctK ?_) | rfl | exact trivial | exact Nat.zero_le _ | exact (e_fit_01 _).1 | exact (e_fit_01 _).2 | (with_reducible refine vp_in_iff.mpr ?_; decide +kernel) | (with_reducible refine e_nz _ (by decide)) | decide | skip
      · exact BX.mk ⟨⟨h1.wd (by omega) (by omega), h2, h3, h4⟩, rfl⟩
      all_goals (exfalso; first | (rename_i g1; exact g1 (by decide)) | (rename_i g1 g2; exact g1 (by decide)) | (rename_i g1 g2 g3; exact g1 (by decide)))
    | succ zn ih =>
      intro k M1 hk h1 h2 h3 h4
      refine e_step rfl hc 60 [15, 36] ?_
      repeat' (first | (with_reducible (intro h9; exact absurd rfl h9)) | (with_reducible (intro h9; exact absurd h9 e_10)) | (with_reducible intro _) | (refine And.intro ?_ ?_))
      all_goals first | (with_reducible refine e_goK ?_) | (with_reducible refine e_ctK ?_) | rfl | exact trivial | exact Nat.zero_le _ | exact (e_fit_01 _).1 | exact (e_fit_01 _).2 | (with_reducible refine vp_in_iff.mpr ?_; decide +kernel) | (with_reducible refine e_nz _ (by decide)) | decide | skip
      · rename_i g1; exact absurd g1 (nI_ge (b := 2) (by omega) (by omega))
      · exact vp_in_nI (by omega) (by omega)
      · have hk1 : bP M1 q := hb.q (h1.qP (by omega))
        refine Ct.mono (Ct.c1 (e_a15 a (by omega)) (c_sbeginWith hl0 M1 (a := a + 48 + 48 * k) hk1 (by omega))) ?_
        rintro o M2 ⟨h5, rfl⟩
        obtain ⟨h5, h6, h7, h8⟩ := h5.out
        repeat' (first | (with_reducible (intro h9; exact absurd rfl h9)) | (with_reducible (intro h9; exact absurd h9 e_10)) | (with_reducible intro _) | (refine And.intro ?_ ?_))
        show K 15 [some (.inr (.inr (.inr (.inr (14, a))))), some (.inr (.inr (.inr (.inr (5, q))))), some (.inl (nI k + 1))] [] M2 0 0
        rw [nI_1]
        have hq : qP M1 q M q := h1.qP (by omega)
        refine ih (k + 1) M2 (by omega) (h1.tr (h5.wd (by omega) (by omega))) (by rw [h5.i (by omega)]; exact h2) ((h5.qP (by omega)).tr h3) (fun z hz => ?_)
        by_cases hzk : z = k
        · subst hzk
          exact ⟨h6, (show a + 48 + 48 * z + 1 = a + 49 + 48 * z by omega) ▸ h7.tr hq, h8⟩
        · obtain ⟨y1, y2, y3⟩ := h4 z (by omega)
          exact ⟨fun j j1 j2 => by rw [h5.i (by omega)]; exact y1 j j1 j2, (h5.qP (by omega)).tr y2, fun j hj => by rw [h5.i (by omega)]; exact y3 j hj⟩
  refine e_step rfl hc 60 [15] ?_
  repeat' (first | (with_reducible (intro h9; exact absurd rfl h9)) | (with_reducible (intro h9; exact absurd h9 e_10)) | (with_reducible intro _) | (refine And.intro ?_ ?_))
  all_goals first | (with_reducible refine e_goK ?_) | (with_reducible refine e_ctK ?_) | rfl | exact trivial | exact Nat.zero_le _ | exact (e_fit_01 _).1 | exact (e_fit_01 _).2 | (with_reducible refine vp_in_iff.mpr ?_; decide +kernel) | (with_reducible refine e_nz _ (by decide)) | decide | skip
  refine Ct.mono (c_pbecome hl0 (p := a + 1) (q := q) (sI M a 0 0) (hb.q (qP.loc (fun c j hc1 hc2 => ⟨by (try simp (disch := omega) only [mI_sI2, mI_sL, mI_sP, mI_sN, mI_sIr, mI_sLr, mL_sI, mL_sL2, mL_sP, mL_sN, mL_sIr, mL_sLr, mP_sI, mP_sL, mP_sN, mP_sIr, mP_sLr, mP_sP, if_pos, if_neg, and_self, if_true, and_true, true_and]), rfl⟩))) (by omega)) ?_
  rintro o M1 ⟨h1, rfl⟩
  obtain ⟨h1, h2⟩ := h1.out
  repeat' (first | (with_reducible (intro h9; exact absurd rfl h9)) | (with_reducible (intro h9; exact absurd h9 e_10)) | (with_reducible intro _) | (refine And.intro ?_ ?_))
  refine loop 2 0 _ (by omega) (e_fr.tr (M' := sI M a 0 0) ⟨rfl, fun c j hc => ⟨by (try simp (disch := omega) only [mI_sI2, mI_sL, mI_sP, mI_sN, mI_sIr, mI_sLr, mL_sI, mL_sL2, mL_sP, mL_sN, mL_sIr, mL_sLr, mP_sI, mP_sL, mP_sN, mP_sIr, mP_sLr, mP_sP, if_pos, if_neg, and_self, if_true, and_true, true_and]), rfl⟩⟩ (h1.wd (by omega) (by omega))) ?_ (h2.tr (qP.loc (fun c j hc1 hc2 => ⟨by (try simp (disch := omega) only [mI_sI2, mI_sL, mI_sP, mI_sN, mI_sIr, mI_sLr, mL_sI, mL_sL2, mL_sP, mL_sN, mL_sIr, mL_sLr, mP_sI, mP_sL, mP_sN, mP_sIr, mP_sLr, mP_sP, if_pos, if_neg, and_self, if_true, and_true, true_and]), rfl⟩))) (fun z hz => absurd hz (by omega))
  rw [h1.i (by omega)]
  (try simp (disch := omega) only [mI_sI2, mI_sL, mI_sP, mI_sN, mI_sIr, mI_sLr, mL_sI, mL_sL2, mL_sP, mL_sN, mL_sIr, mL_sLr, mP_sI, mP_sL, mP_sN, mP_sIr, mP_sLr, mP_sP, if_pos, if_neg, and_self, if_true, and_true, true_and])
end
