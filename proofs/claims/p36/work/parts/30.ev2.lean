/-! CONTRACTS: rules of an event, its copy, its bits. -/
section
variable {l : Launch} {g : EG}
def e_dts (kd d n t : Nat) (w : Int32) : List Nat := match kd with
  | 0 => [d]
  | 1 => e_fold (nI t) (fun k => nI d + nI k * nI n) t
  | 2 => e_fold (nI t) (fun k => e_wk1 (nI d) (nI n) w (nI (d + k))) (1095 - d)
  | _ => e_fold (nI t) (fun k => e_mo1 d n k) 36
/-- a rule is laid: these fields, these dates, nothing cancelled, moved or answered -/
def e_er (M M' : EM) (a : Nat) (kd n w t : Int32) (L : List Nat) : Prop := e_fr M M' a (a + 5) ∧ (∀ c j, c = a + 2 ∨ c = a + 3 → mI M' c j = mI M c j) ∧ (∀ j, j < 5 ∨ j = 9 → mI M' a j = mI M a j) ∧ (mI M' a 5 = kd ∧ mI M' a 6 = n ∧ mI M' a 7 = w ∧ mI M' a 8 = t ∧ mI M' a 11 = 0 ∧ mI M' a 12 = 0) ∧ (∀ s, s < 2 → mL M' (a + 4) s = 0) ∧ eDt M' a L
theorem e_sd.o {M M' : EM} {a : Nat} (h : e_sd M M' a) {c : Nat} (hc : ¬ c = a + 1) (hc2 : ¬ c = a) (j : Nat) : mI M' c j = mI M c j := h.2.2 c j hc (by omega)
theorem eDt_nil {M : EM} {a : Nat} (h : mI M a 10 = 0) : eDt M a [] := ⟨by simp, h, fun j hj => absurd hj (by simp)⟩
theorem e_addx1 {d : Nat} (hd : d < 1095) : e_addx 1 [] (nI d) = [d] := by
  unfold e_addx
  rw [if_pos ⟨by decide, by decide, nI_pos' (by omega), nI_le (b := 1094) (by omega) (by omega)⟩, nI_clamp (by omega)]
  rfl
set_option maxRecDepth 20000 in
theorem c_setOnce (hl0 : l.stackTraces = false) {a d : Nat} (M : EM) (hd : d < 1095) (v1 : mI M a 1 = nI d) : Ct l g sg_X2_setOnce [.inr (.inr (.inr (.inr (9, a))))] M (fun o M' => BX (e_er M M' a 0 0 0 1 [d]) ∧ o = .inl none) := by
  refine sem_of hl0 mt_X2_setOnce ok_X2_setOnce rfl (fun K hc hw => e_step rfl hc 80 [] ?_)
  repeat' (first | (with_reducible (intro h9; exact absurd rfl h9)) | (with_reducible (intro h9; exact absurd h9 e_10)) | (with_reducible intro _) | (refine And.intro ?_ ?_) | (refine e_fa (fun _ => ?_)))
  all_goals first | rfl | exact trivial | exact Nat.zero_le _ | exact (e_fit_01 _).1 | exact (e_fit_01 _).2 | exact vp_in_iff.mpr (by decide +kernel) | (with_reducible refine e_nz _ (by decide)) | skip
  refine Ct.mono (c_forgetDates hl0 _ _) ?_
  rintro o M1 ⟨rfl, rfl⟩
  repeat' (first | (with_reducible (intro h9; exact absurd rfl h9)) | (with_reducible (intro h9; exact absurd h9 e_10)) | (with_reducible intro _) | (refine And.intro ?_ ?_) | (refine e_fa (fun _ => ?_)))
  refine Ct.mono (c_addDate hl0 (L := []) _ _ (eDt_nil (by (try simp (disch := omega) only [mI_sI2, mI_sL, mI_sP, mI_sN, mI_sIr, mI_sLr, mL_sI, mL_sL2, mL_sP, mL_sN, mL_sIr, mL_sLr, mP_sI, mP_sL, mP_sN, mP_sIr, mP_sLr, mP_sP, if_pos, if_neg, and_self, if_true, and_true, true_and])))) ?_
  rintro o M2 ⟨⟨h1, h2⟩, rfl⟩
  repeat' (first | (with_reducible (intro h9; exact absurd rfl h9)) | (with_reducible (intro h9; exact absurd h9 e_10)) | (with_reducible intro _) | (refine And.intro ?_ ?_) | (refine e_fa (fun _ => ?_)))
  all_goals first | rfl | exact trivial | exact Nat.zero_le _ | exact (e_fit_01 _).1 | exact (e_fit_01 _).2 | exact vp_in_iff.mpr (by decide +kernel) | (with_reducible refine e_nz _ (by decide)) | skip
  have e8 : e_addx 1 [] (nI d) = [d] := e_addx1 hd
  simp (disch := omega) only [mI_sI2, mI_sL, mI_sP, mI_sN, mI_sIr, mI_sLr, mL_sI, mL_sL2, mL_sP, mL_sN, mL_sIr, mL_sLr, mP_sI, mP_sL, mP_sN, mP_sIr, mP_sLr, mP_sP, if_pos, if_neg, and_self, if_true, v1] at h2
  rw [e8] at h2
  refine ⟨⟨⟨h1.1, fun c j hc => ⟨?_, ?_⟩⟩, fun c j hc => ?_, fun j hj => ?_, ⟨?_, ?_, ?_, ?_, ?_, ?_⟩, fun s hs => ?_, h2⟩⟩
  · rw [h1.o (by omega) (by omega)]; (try simp (disch := omega) only [mI_sI2, mI_sL, mI_sP, mI_sN, mI_sIr, mI_sLr, mL_sI, mL_sL2, mL_sP, mL_sN, mL_sIr, mL_sLr, mP_sI, mP_sL, mP_sN, mP_sIr, mP_sLr, mP_sP, if_pos, if_neg, and_self, if_true, and_true, true_and])
  · rw [h1.2.1]; (try simp (disch := omega) only [mI_sI2, mI_sL, mI_sP, mI_sN, mI_sIr, mI_sLr, mL_sI, mL_sL2, mL_sP, mL_sN, mL_sIr, mL_sLr, mP_sI, mP_sL, mP_sN, mP_sIr, mP_sLr, mP_sP, if_pos, if_neg, and_self, if_true, and_true, true_and])
  · rw [h1.o (by omega) (by omega)]; (try simp (disch := omega) only [mI_sI2, mI_sL, mI_sP, mI_sN, mI_sIr, mI_sLr, mL_sI, mL_sL2, mL_sP, mL_sN, mL_sIr, mL_sLr, mP_sI, mP_sL, mP_sN, mP_sIr, mP_sLr, mP_sP, if_pos, if_neg, and_self, if_true, and_true, true_and])
  · rw [h1.f (by omega)]; (try simp (disch := omega) only [mI_sI2, mI_sL, mI_sP, mI_sN, mI_sIr, mI_sLr, mL_sI, mL_sL2, mL_sP, mL_sN, mL_sIr, mL_sLr, mP_sI, mP_sL, mP_sN, mP_sIr, mP_sLr, mP_sP, if_pos, if_neg, and_self, if_true, and_true, true_and])
  all_goals first | (rw [h1.f (by omega)]; (try simp (disch := omega) only [mI_sI2, mI_sL, mI_sP, mI_sN, mI_sIr, mI_sLr, mL_sI, mL_sL2, mL_sP, mL_sN, mL_sIr, mL_sLr, mP_sI, mP_sL, mP_sN, mP_sIr, mP_sLr, mP_sP, if_pos, if_neg, and_self, if_true, and_true, true_and]); done) | skip
  · rw [h1.2.1]
    rcases (show s = 0 ∨ s = 1 by omega) with rfl | rfl <;> (try simp (disch := omega) only [mI_sI2, mI_sL, mI_sP, mI_sN, mI_sIr, mI_sLr, mL_sI, mL_sL2, mL_sP, mL_sN, mL_sIr, mL_sLr, mP_sI, mP_sL, mP_sN, mP_sIr, mP_sLr, mP_sP, if_pos, if_neg, and_self, if_true, and_true, true_and])
set_option maxRecDepth 20000 in
theorem c_setRule0 (hl0 : l.stackTraces = false) {a d : Nat} (n w t : Int32) (M : EM) (hd : d < 1095) (v1 : mI M a 1 = nI d) : Ct l g sg_X2_setRule [.inr (.inr (.inr (.inr (9, a)))), .inl 0, .inl n, .inl w, .inl t] M (fun o M' => BX (e_er M M' a 0 0 0 1 [d]) ∧ o = .inl none) := by
  refine sem_of hl0 mt_X2_setRule ok_X2_setRule rfl (fun K hc hw => e_step rfl hc 80 [] ?_)
  repeat' (first | (with_reducible (intro h9; exact absurd rfl h9)) | (with_reducible (intro h9; exact absurd h9 e_10)) | (with_reducible intro _) | (refine And.intro ?_ ?_) | (refine e_fa (fun _ => ?_)))
  all_goals first | rfl | exact trivial | exact Nat.zero_le _ | exact (e_fit_01 _).1 | exact (e_fit_01 _).2 | exact vp_in_iff.mpr (by decide +kernel) | (with_reducible refine e_nz _ (by decide)) | skip
  refine Ct.mono (c_setOnce hl0 _ hd v1) ?_
  rintro o M1 ⟨h1, rfl⟩
  repeat' (first | (with_reducible (intro h9; exact absurd rfl h9)) | (with_reducible (intro h9; exact absurd h9 e_10)) | (with_reducible intro _) | (refine And.intro ?_ ?_) | (refine e_fa (fun _ => ?_)))
  all_goals first | rfl | exact trivial | exact Nat.zero_le _ | exact (e_fit_01 _).1 | exact (e_fit_01 _).2 | exact vp_in_iff.mpr (by decide +kernel) | (with_reducible refine e_nz _ (by decide)) | skip
  exact h1
set_option maxRecDepth 20000 in
theorem c_setRule (hl0 : l.stackTraces = false) {a d n t kd : Nat} (w : Int32) (M : EM) (hd : d < 1095) (v1 : mI M a 1 = nI d) (hk : 1 ≤ kd) (hk3 : kd ≤ 3) (hn0 : 1 ≤ n) (hn : n ≤ 9) (ht : t ≤ 30) : Ct l g sg_X2_setRule [.inr (.inr (.inr (.inr (9, a)))), .inl (nI kd), .inl (nI n), .inl w, .inl (nI t)] M (fun o M' => BX (e_er M M' a (nI kd) (nI n) (if kd = 2 then w else 0) (nI t) (e_dts kd d n t w)) ∧ o = .inl none) := by
  refine sem_of hl0 mt_X2_setRule ok_X2_setRule rfl (fun K hc hw => e_step rfl hc 80 [] ?_)
  have fin : ∀ (M1 M2 : EM) (w0 : Int32) (L : List Nat), M1 = sL (sL (sI (sI (sI (sI (sI (sI (sI M a 5 (nI kd)) a 6 (nI n)) a 7 w0) a 8 (nI t)) a 10 0) a 11 0) a 12 0) (a + 4) 0 0) (a + 4) 1 0 → e_sd M1 M2 a → eDt M2 a L → e_er M M2 a (nI kd) (nI n) w0 (nI t) L := by
    intro M1 M2 w0 L e h1 h2
    subst e
    refine ⟨⟨h1.1, fun c j hc => ⟨?_, ?_⟩⟩, fun c j hc => ?_, fun j hj => ?_, ⟨?_, ?_, ?_, ?_, ?_, ?_⟩, fun s hs => ?_, h2⟩
    · rw [h1.o (by omega) (by omega)]; (try simp (disch := omega) only [mI_sI2, mI_sL, mI_sP, mI_sN, mI_sIr, mI_sLr, mL_sI, mL_sL2, mL_sP, mL_sN, mL_sIr, mL_sLr, mP_sI, mP_sL, mP_sN, mP_sIr, mP_sLr, mP_sP, if_pos, if_neg, and_self, if_true, and_true, true_and])
    · rw [h1.2.1]; (try simp (disch := omega) only [mI_sI2, mI_sL, mI_sP, mI_sN, mI_sIr, mI_sLr, mL_sI, mL_sL2, mL_sP, mL_sN, mL_sIr, mL_sLr, mP_sI, mP_sL, mP_sN, mP_sIr, mP_sLr, mP_sP, if_pos, if_neg, and_self, if_true, and_true, true_and])
    · rw [h1.o (by omega) (by omega)]; (try simp (disch := omega) only [mI_sI2, mI_sL, mI_sP, mI_sN, mI_sIr, mI_sLr, mL_sI, mL_sL2, mL_sP, mL_sN, mL_sIr, mL_sLr, mP_sI, mP_sL, mP_sN, mP_sIr, mP_sLr, mP_sP, if_pos, if_neg, and_self, if_true, and_true, true_and])
    · rw [h1.f (by omega)]; (try simp (disch := omega) only [mI_sI2, mI_sL, mI_sP, mI_sN, mI_sIr, mI_sLr, mL_sI, mL_sL2, mL_sP, mL_sN, mL_sIr, mL_sLr, mP_sI, mP_sL, mP_sN, mP_sIr, mP_sLr, mP_sP, if_pos, if_neg, and_self, if_true, and_true, true_and])
    all_goals first | (rw [h1.f (by omega)]; (try simp (disch := omega) only [mI_sI2, mI_sL, mI_sP, mI_sN, mI_sIr, mI_sLr, mL_sI, mL_sL2, mL_sP, mL_sN, mL_sIr, mL_sLr, mP_sI, mP_sL, mP_sN, mP_sIr, mP_sLr, mP_sP, if_pos, if_neg, and_self, if_true, and_true, true_and]); done) | skip
    · rw [h1.2.1]
      rcases (show s = 0 ∨ s = 1 by omega) with rfl | rfl <;> (try simp (disch := omega) only [mI_sI2, mI_sL, mI_sP, mI_sN, mI_sIr, mI_sLr, mL_sI, mL_sL2, mL_sP, mL_sN, mL_sIr, mL_sLr, mP_sI, mP_sL, mP_sN, mP_sIr, mP_sLr, mP_sP, if_pos, if_neg, and_self, if_true, and_true, true_and])
  obtain rfl | rfl | rfl : kd = 1 ∨ kd = 2 ∨ kd = 3 := by omega
  · repeat' (first | (with_reducible (intro h9; exact absurd rfl h9)) | (with_reducible (intro h9; exact absurd h9 e_10)) | (with_reducible intro _) | (refine And.intro ?_ ?_) | (refine e_fa (fun _ => ?_)))
    all_goals first | rfl | exact trivial | exact Nat.zero_le _ | exact (e_fit_01 _).1 | exact (e_fit_01 _).2 | exact vp_in_iff.mpr (by decide +kernel) | (with_reducible refine e_nz _ (by decide)) | skip
    all_goals (try (rename_i x9; first | exact absurd x9 (by decide) | exact x9 (by decide)))
    refine Ct.mono (c_forgetDates hl0 _ _) ?_
    rintro o M1 ⟨rfl, rfl⟩
    repeat' (first | (with_reducible (intro h9; exact absurd rfl h9)) | (with_reducible (intro h9; exact absurd h9 e_10)) | (with_reducible intro _) | (refine And.intro ?_ ?_) | (refine e_fa (fun _ => ?_)))
    all_goals (try (rename_i x9; first | exact absurd x9 (by decide) | exact x9 (by decide)))
    refine Ct.mono (c_listDays hl0 (d := d) (n := n) (t := t) _ hd hn ht (by (try simp (disch := omega) only [mI_sI2, mI_sL, mI_sP, mI_sN, mI_sIr, mI_sLr, mL_sI, mL_sL2, mL_sP, mL_sN, mL_sIr, mL_sLr, mP_sI, mP_sL, mP_sN, mP_sIr, mP_sLr, mP_sP, if_pos, if_neg, and_self, if_true, and_true, true_and]); exact v1) (by (try simp (disch := omega) only [mI_sI2, mI_sL, mI_sP, mI_sN, mI_sIr, mI_sLr, mL_sI, mL_sL2, mL_sP, mL_sN, mL_sIr, mL_sLr, mP_sI, mP_sL, mP_sN, mP_sIr, mP_sLr, mP_sP, if_pos, if_neg, and_self, if_true, and_true, true_and])) (by (try simp (disch := omega) only [mI_sI2, mI_sL, mI_sP, mI_sN, mI_sIr, mI_sLr, mL_sI, mL_sL2, mL_sP, mL_sN, mL_sIr, mL_sLr, mP_sI, mP_sL, mP_sN, mP_sIr, mP_sLr, mP_sP, if_pos, if_neg, and_self, if_true, and_true, true_and])) (eDt_nil (by (try simp (disch := omega) only [mI_sI2, mI_sL, mI_sP, mI_sN, mI_sIr, mI_sLr, mL_sI, mL_sL2, mL_sP, mL_sN, mL_sIr, mL_sLr, mP_sI, mP_sL, mP_sN, mP_sIr, mP_sLr, mP_sP, if_pos, if_neg, and_self, if_true, and_true, true_and])))) ?_
    rintro o M2 ⟨h3, rfl⟩
    repeat' (first | (with_reducible (intro h9; exact absurd rfl h9)) | (with_reducible (intro h9; exact absurd h9 e_10)) | (with_reducible intro _) | (refine And.intro ?_ ?_) | (refine e_fa (fun _ => ?_)))
    all_goals first | rfl | exact trivial | exact Nat.zero_le _ | exact (e_fit_01 _).1 | exact (e_fit_01 _).2 | exact vp_in_iff.mpr (by decide +kernel) | (with_reducible refine e_nz _ (by decide)) | skip
    have h4 := h3.out
    exact ⟨⟨fin _ _ _ _ rfl h4.1 (by exact h4.2)⟩⟩
  · repeat' (first | (with_reducible (intro h9; exact absurd rfl h9)) | (with_reducible (intro h9; exact absurd h9 e_10)) | (with_reducible intro _) | (refine And.intro ?_ ?_) | (refine e_fa (fun _ => ?_)))
    all_goals first | rfl | exact trivial | exact Nat.zero_le _ | exact (e_fit_01 _).1 | exact (e_fit_01 _).2 | exact vp_in_iff.mpr (by decide +kernel) | (with_reducible refine e_nz _ (by decide)) | skip
    all_goals (try (rename_i x9; first | exact absurd x9 (by decide) | exact x9 (by decide)))
    refine Ct.mono (c_forgetDates hl0 _ _) ?_
    rintro o M1 ⟨rfl, rfl⟩
    repeat' (first | (with_reducible (intro h9; exact absurd rfl h9)) | (with_reducible (intro h9; exact absurd h9 e_10)) | (with_reducible intro _) | (refine And.intro ?_ ?_) | (refine e_fa (fun _ => ?_)))
    all_goals (try (rename_i x9; first | exact absurd x9 (by decide) | exact x9 (by decide)))
    refine Ct.mono (c_listWeeks hl0 (d := d) (n := n) (t := t) _ hd hn ht (by (try simp (disch := omega) only [mI_sI2, mI_sL, mI_sP, mI_sN, mI_sIr, mI_sLr, mL_sI, mL_sL2, mL_sP, mL_sN, mL_sIr, mL_sLr, mP_sI, mP_sL, mP_sN, mP_sIr, mP_sLr, mP_sP, if_pos, if_neg, and_self, if_true, and_true, true_and]); exact v1) hn0 (by (try simp (disch := omega) only [mI_sI2, mI_sL, mI_sP, mI_sN, mI_sIr, mI_sLr, mL_sI, mL_sL2, mL_sP, mL_sN, mL_sIr, mL_sLr, mP_sI, mP_sL, mP_sN, mP_sIr, mP_sLr, mP_sP, if_pos, if_neg, and_self, if_true, and_true, true_and])) (by (try simp (disch := omega) only [mI_sI2, mI_sL, mI_sP, mI_sN, mI_sIr, mI_sLr, mL_sI, mL_sL2, mL_sP, mL_sN, mL_sIr, mL_sLr, mP_sI, mP_sL, mP_sN, mP_sIr, mP_sLr, mP_sP, if_pos, if_neg, and_self, if_true, and_true, true_and])) (eDt_nil (by (try simp (disch := omega) only [mI_sI2, mI_sL, mI_sP, mI_sN, mI_sIr, mI_sLr, mL_sI, mL_sL2, mL_sP, mL_sN, mL_sIr, mL_sLr, mP_sI, mP_sL, mP_sN, mP_sIr, mP_sLr, mP_sP, if_pos, if_neg, and_self, if_true, and_true, true_and])))) ?_
    rintro o M2 ⟨h3, rfl⟩
    repeat' (first | (with_reducible (intro h9; exact absurd rfl h9)) | (with_reducible (intro h9; exact absurd h9 e_10)) | (with_reducible intro _) | (refine And.intro ?_ ?_) | (refine e_fa (fun _ => ?_)))
    all_goals first | rfl | exact trivial | exact Nat.zero_le _ | exact (e_fit_01 _).1 | exact (e_fit_01 _).2 | exact vp_in_iff.mpr (by decide +kernel) | (with_reducible refine e_nz _ (by decide)) | skip
    have h4 := h3.out
    exact ⟨⟨fin _ _ _ _ rfl h4.1 (by have h5 := h4.2; simp (disch := omega) only [mI_sI2, mI_sL, mI_sP, mI_sN, mI_sIr, mI_sLr, mL_sI, mL_sL2, mL_sP, mL_sN, mL_sIr, mL_sLr, mP_sI, mP_sL, mP_sN, mP_sIr, mP_sLr, mP_sP, if_pos, if_neg, and_self, if_true] at h5; exact h5)⟩⟩
  · repeat' (first | (with_reducible (intro h9; exact absurd rfl h9)) | (with_reducible (intro h9; exact absurd h9 e_10)) | (with_reducible intro _) | (refine And.intro ?_ ?_) | (refine e_fa (fun _ => ?_)))
    all_goals first | rfl | exact trivial | exact Nat.zero_le _ | exact (e_fit_01 _).1 | exact (e_fit_01 _).2 | exact vp_in_iff.mpr (by decide +kernel) | (with_reducible refine e_nz _ (by decide)) | skip
    all_goals (try (rename_i x9; first | exact absurd x9 (by decide) | exact x9 (by decide)))
    refine Ct.mono (c_forgetDates hl0 _ _) ?_
    rintro o M1 ⟨rfl, rfl⟩
    repeat' (first | (with_reducible (intro h9; exact absurd rfl h9)) | (with_reducible (intro h9; exact absurd h9 e_10)) | (with_reducible intro _) | (refine And.intro ?_ ?_) | (refine e_fa (fun _ => ?_)))
    all_goals (try (rename_i x9; first | exact absurd x9 (by decide) | exact x9 (by decide)))
    refine Ct.mono (c_listMonths hl0 (d := d) (n := n) (t := t) _ hd hn ht (by (try simp (disch := omega) only [mI_sI2, mI_sL, mI_sP, mI_sN, mI_sIr, mI_sLr, mL_sI, mL_sL2, mL_sP, mL_sN, mL_sIr, mL_sLr, mP_sI, mP_sL, mP_sN, mP_sIr, mP_sLr, mP_sP, if_pos, if_neg, and_self, if_true, and_true, true_and]); exact v1) (by (try simp (disch := omega) only [mI_sI2, mI_sL, mI_sP, mI_sN, mI_sIr, mI_sLr, mL_sI, mL_sL2, mL_sP, mL_sN, mL_sIr, mL_sLr, mP_sI, mP_sL, mP_sN, mP_sIr, mP_sLr, mP_sP, if_pos, if_neg, and_self, if_true, and_true, true_and])) (by (try simp (disch := omega) only [mI_sI2, mI_sL, mI_sP, mI_sN, mI_sIr, mI_sLr, mL_sI, mL_sL2, mL_sP, mL_sN, mL_sIr, mL_sLr, mP_sI, mP_sL, mP_sN, mP_sIr, mP_sLr, mP_sP, if_pos, if_neg, and_self, if_true, and_true, true_and])) (eDt_nil (by (try simp (disch := omega) only [mI_sI2, mI_sL, mI_sP, mI_sN, mI_sIr, mI_sLr, mL_sI, mL_sL2, mL_sP, mL_sN, mL_sIr, mL_sLr, mP_sI, mP_sL, mP_sN, mP_sIr, mP_sLr, mP_sP, if_pos, if_neg, and_self, if_true, and_true, true_and])))) ?_
    rintro o M2 ⟨h3, rfl⟩
    repeat' (first | (with_reducible (intro h9; exact absurd rfl h9)) | (with_reducible (intro h9; exact absurd h9 e_10)) | (with_reducible intro _) | (refine And.intro ?_ ?_) | (refine e_fa (fun _ => ?_)))
    all_goals first | rfl | exact trivial | exact Nat.zero_le _ | exact (e_fit_01 _).1 | exact (e_fit_01 _).2 | exact vp_in_iff.mpr (by decide +kernel) | (with_reducible refine e_nz _ (by decide)) | skip
    have h4 := h3.out
    exact ⟨⟨fin _ _ _ _ rfl h4.1 (by exact h4.2)⟩⟩
end
