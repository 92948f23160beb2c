/-! CONTRACTS: sides, exchanges: their copies. -/
section
variable {l : Launch} {g : EG}
theorem e_goK {ret : EO → EM → Nat → Nat → Prop} {K : Nat → EK} {cuts : List Nat} {prog : List (Nat × ES)} {n : Nat} {L : List (Nat × ES)} {ls : List (Option EV)} {st : List EV} {M : EM} {nc ns : Nat} (h : e_go ret K cuts prog n L ls st M nc ns) : e_go ret K cuts prog n L ls st M nc ns := h
theorem e_ctK {σ : SG} {av : List EV} {M : EM} {Q : EO → EM → Prop} (h : Ct l g σ av M Q) : Ct l g σ av M Q := h
theorem qE.loc {M M' : EM} {a : Nat} (h : ∀ c j, a ≤ c → c < a + 5 → mI M' c j = mI M c j ∧ mL M' c j = mL M c j) : qE M' a M a := ⟨fun j _ => (h _ j (by omega) (by omega)).1, fun j _ => (h _ j (by omega) (by omega)).1, fun j _ => (h _ j (by omega) (by omega)).1, fun j _ => (h _ j (by omega) (by omega)).1, fun j _ => (h _ j (by omega) (by omega)).2⟩
theorem qP.loc {M M' : EM} {a : Nat} (h : ∀ c j, a ≤ c → c < a + 46 → mI M' c j = mI M c j ∧ mL M' c j = mL M c j) : qP M' a M a := ⟨(h _ 0 (by omega) (by omega)).1, fun z hz j _ => (h _ j (by omega) (by omega)).1, fun e he => qE.loc (fun c j h1 h2 => h c j (by omega) (by omega))⟩
theorem qP.tl {M M1 M' : EM} {a b : Nat} (h : qP M a M' b) (hl : ∀ c j, a ≤ c → c < a + 46 → mI M1 c j = mI M c j ∧ mL M1 c j = mL M c j) : qP M1 a M' b := (qP.loc hl).tr h
theorem qS.loc {M M' : EM} {a : Nat} (h : ∀ c j, a ≤ c → c < a + 48 → mI M' c j = mI M c j ∧ mL M' c j = mL M c j) : qS M' a M a := ⟨fun j _ _ => (h _ j (by omega) (by omega)).1, qP.loc (fun c j h1 h2 => h c j (by omega) (by omega)), fun j _ => (h _ j (by omega) (by omega)).1⟩
theorem qS.tl {M M1 M' : EM} {a b : Nat} (h : qS M a M' b) (hl : ∀ c j, a ≤ c → c < a + 48 → mI M1 c j = mI M c j ∧ mL M1 c j = mL M c j) : qS M1 a M' b := (qS.loc hl).tr h
theorem qX.loc {M M' : EM} {a : Nat} (h : ∀ c j, a ≤ c → c < a + 145 → mI M' c j = mI M c j ∧ mL M' c j = mL M c j) : qX M' a M a := ⟨(h _ 0 (by omega) (by omega)).1, qP.loc (fun c j h1 h2 => h c j (by omega) (by omega)), fun s hs => qS.loc (fun c j h1 h2 => h c j (by omega) (by omega)), fun j _ => (h _ j (by omega) (by omega)).1⟩
set_option maxRecDepth 20000 in
theorem c_clear (hl0 : l.stackTraces = false) (p : Nat) (M : EM) : Ct l g sg_X5_clear [.inr (.inr (.inr (.inr (5, p))))] M (fun o M' => BX (e_fr M M' p (p + 46) ∧ mI M' p 0 = 0 ∧ (∀ z, z < 3 → mI M' (p + 2 + z) 0 = 0 ∧ mI M' (p + 2 + z) 1 = -1 ∧ mI M' (p + 2 + z) 2 = -1 ∧ mI M' (p + 2 + z) 3 = mI M (p + 2 + z) 3) ∧ ∀ e, e < 8 → mI M' (p + 6 + 5 * e) 0 = 0 ∧ mI M' (p + 6 + 5 * e) 9 = -1) ∧ o = .inl none) := by
  refine sem_of hl0 mt_X5_clear ok_X5_clear rfl (fun K hc hw => ?_)
  have loop : ∀ (zn : Nat) (k : Nat) (M1 : EM), k + zn = 8 → e_fr M M1 p (p + 46) → mI M1 p 0 = 0 → (∀ z, z < 3 → mI M1 (p + 2 + z) 0 = 0 ∧ mI M1 (p + 2 + z) 1 = -1 ∧ mI M1 (p + 2 + z) 2 = -1 ∧ mI M1 (p + 2 + z) 3 = mI M (p + 2 + z) 3) → (∀ e, e < k → mI M1 (p + 6 + 5 * e) 0 = 0 ∧ mI M1 (p + 6 + 5 * e) 9 = -1) → K 32 [some (.inr (.inr (.inr (.inr (5, p))))), some (.inl (nI k))] [] M1 0 0 := by
    intro zn
    induction zn with
    | zero =>
      intro k M1 hk h1 h2 h3 h4
      obtain rfl : k = 8 := by omega
      refine e_step rfl hc 60 [32] ?_
      repeat' (first | (with_reducible (intro h9; exact absurd rfl h9)) | (with_reducible (intro h9; exact absurd h9 e_10)) | (with_reducible intro _) | (refine And.intro ?_ ?_))
      all_goals first | (with_reducible refine e_goK ?_) | (with_reducible refine e_ctK ?_) | rfl | exact trivial | exact Nat.zero_le _ | exact (e_fit_01 _).1 | exact (e_fit_01 _).2 | (with_reducible refine vp_in_iff.mpr ?_; decide +kernel) | (with_reducible refine e_nz _ (by decide)) | decide | skip
      · exact ⟨⟨h1, h2, h3, h4⟩⟩
      all_goals (exfalso; first | (rename_i g1; exact g1 (by decide)) | (rename_i g1 g2; exact g1 (by decide)) | (rename_i g1 g2 g3; exact g1 (by decide)))
    | succ zn ih =>
      intro k M1 hk h1 h2 h3 h4
      refine e_step rfl hc 60 [32] ?_
      repeat' (first | (with_reducible (intro h9; exact absurd rfl h9)) | (with_reducible (intro h9; exact absurd h9 e_10)) | (with_reducible intro _) | (refine And.intro ?_ ?_))
      all_goals first | (with_reducible refine e_goK ?_) | (with_reducible refine e_ctK ?_) | rfl | exact trivial | exact Nat.zero_le _ | exact (e_fit_01 _).1 | exact (e_fit_01 _).2 | (with_reducible refine vp_in_iff.mpr ?_; decide +kernel) | (with_reducible refine e_nz _ (by decide)) | decide | skip
      · rename_i g1; exact absurd g1 (nI_ge (b := 8) (by omega) (by omega))
      · exact vp_in_nI (by omega) (by omega)
      · refine Ct.mono (Ct.c1 (e_a8 p (by omega)) (c_vanish hl0 (p + 6 + 5 * k) M1)) ?_
        rintro o M2 ⟨rfl, rfl⟩
        repeat' (first | (with_reducible (intro h9; exact absurd rfl h9)) | (with_reducible (intro h9; exact absurd h9 e_10)) | (with_reducible intro _) | (refine And.intro ?_ ?_))
        show K 32 [some (.inr (.inr (.inr (.inr (5, p))))), some (.inl (nI k + 1))] [] _ 0 0
        rw [nI_1]
        refine ih (k + 1) _ (by omega) (h1.tr ⟨rfl, fun c j hc => ⟨by (try simp (disch := omega) only [mI_sI2, mI_sL, mI_sP, mI_sN, mI_sIr, mI_sLr, mL_sI, mL_sL2, mL_sP, mL_sN, mL_sIr, mL_sLr, mP_sI, mP_sL, mP_sN, mP_sIr, mP_sLr, mP_sP, if_pos, if_neg, and_self, if_true, and_true, true_and]), rfl⟩⟩) (by (try simp (disch := omega) only [mI_sI2, mI_sL, mI_sP, mI_sN, mI_sIr, mI_sLr, mL_sI, mL_sL2, mL_sP, mL_sN, mL_sIr, mL_sLr, mP_sI, mP_sL, mP_sN, mP_sIr, mP_sLr, mP_sP, if_pos, if_neg, and_self, if_true, and_true, true_and]); exact h2) (fun z hz => ?_) (fun e he => ?_)
        · (try simp (disch := omega) only [mI_sI2, mI_sL, mI_sP, mI_sN, mI_sIr, mI_sLr, mL_sI, mL_sL2, mL_sP, mL_sN, mL_sIr, mL_sLr, mP_sI, mP_sL, mP_sN, mP_sIr, mP_sLr, mP_sP, if_pos, if_neg, and_self, if_true, and_true, true_and])
          exact h3 z hz
        · by_cases hek : e = k
          · subst hek
            (try simp (disch := omega) only [mI_sI2, mI_sL, mI_sP, mI_sN, mI_sIr, mI_sLr, mL_sI, mL_sL2, mL_sP, mL_sN, mL_sIr, mL_sLr, mP_sI, mP_sL, mP_sN, mP_sIr, mP_sLr, mP_sP, if_pos, if_neg, and_self, if_true, and_true, true_and])
          · (try simp (disch := omega) only [mI_sI2, mI_sL, mI_sP, mI_sN, mI_sIr, mI_sLr, mL_sI, mL_sL2, mL_sP, mL_sN, mL_sIr, mL_sLr, mP_sI, mP_sL, mP_sN, mP_sIr, mP_sLr, mP_sP, if_pos, if_neg, and_self, if_true, and_true, true_and])
            exact h4 e (by omega)
  have loop0 : ∀ (zn : Nat) (k : Nat) (M1 : EM), k + zn = 3 → e_fr M M1 p (p + 5) → mI M1 p 0 = 0 → (∀ z, z < k → mI M1 (p + 2 + z) 0 = 0 ∧ mI M1 (p + 2 + z) 1 = -1 ∧ mI M1 (p + 2 + z) 2 = -1) → (∀ z, z < 3 → mI M1 (p + 2 + z) 3 = mI M (p + 2 + z) 3) → K 7 [some (.inr (.inr (.inr (.inr (5, p))))), some (.inl (nI k))] [] M1 0 0 := by
    intro zn
    induction zn with
    | zero =>
      intro k M1 hk h1 h2 h3 h4
      obtain rfl : k = 3 := by omega
      refine e_step rfl hc 60 [7, 32] ?_
      repeat' (first | (with_reducible (intro h9; exact absurd rfl h9)) | (with_reducible (intro h9; exact absurd h9 e_10)) | (with_reducible intro _) | (refine And.intro ?_ ?_))
      all_goals first | (with_reducible refine e_goK ?_) | (with_reducible refine e_ctK ?_) | rfl | exact trivial | exact Nat.zero_le _ | exact (e_fit_01 _).1 | exact (e_fit_01 _).2 | (with_reducible refine vp_in_iff.mpr ?_; decide +kernel) | (with_reducible refine e_nz _ (by decide)) | decide | skip
      · exact loop 8 0 M1 (by omega) (h1.wd (by omega) (by omega)) h2 (fun z hz => ⟨(h3 z hz).1, (h3 z hz).2.1, (h3 z hz).2.2, h4 z hz⟩) (fun e he => absurd he (by omega))
      all_goals (exfalso; first | (rename_i g1; exact g1 (by decide)) | (rename_i g1 g2; exact g1 (by decide)) | (rename_i g1 g2 g3; exact g1 (by decide)))
    | succ zn ih =>
      intro k M1 hk h1 h2 h3 h4
      refine e_step rfl hc 60 [7, 32] ?_
      repeat' (first | (with_reducible (intro h9; exact absurd rfl h9)) | (with_reducible (intro h9; exact absurd h9 e_10)) | (with_reducible intro _) | (refine And.intro ?_ ?_))
      all_goals first | (with_reducible refine e_goK ?_) | (with_reducible refine e_ctK ?_) | rfl | exact trivial | exact Nat.zero_le _ | exact (e_fit_01 _).1 | exact (e_fit_01 _).2 | (with_reducible refine vp_in_iff.mpr ?_; decide +kernel) | (with_reducible refine e_nz _ (by decide)) | decide | skip
      · rename_i g1; exact absurd g1 (nI_ge (b := 3) (by omega) (by omega))
      · exact vp_in_nI (by omega) (by omega)
      · refine Ct.mono (Ct.c1 (e_a6 p (by omega)) (c_setTo hl0 (p + 2 + k) 0 (-1) (-1) M1)) ?_
        rintro o M2 ⟨rfl, rfl⟩
        repeat' (first | (with_reducible (intro h9; exact absurd rfl h9)) | (with_reducible (intro h9; exact absurd h9 e_10)) | (with_reducible intro _) | (refine And.intro ?_ ?_))
        show K 7 [some (.inr (.inr (.inr (.inr (5, p))))), some (.inl (nI k + 1))] [] _ 0 0
        rw [nI_1]
        refine ih (k + 1) _ (by omega) (h1.tr ⟨rfl, fun c j hc => ⟨by (try simp (disch := omega) only [mI_sI2, mI_sL, mI_sP, mI_sN, mI_sIr, mI_sLr, mL_sI, mL_sL2, mL_sP, mL_sN, mL_sIr, mL_sLr, mP_sI, mP_sL, mP_sN, mP_sIr, mP_sLr, mP_sP, if_pos, if_neg, and_self, if_true, and_true, true_and]), rfl⟩⟩) (by (try simp (disch := omega) only [mI_sI2, mI_sL, mI_sP, mI_sN, mI_sIr, mI_sLr, mL_sI, mL_sL2, mL_sP, mL_sN, mL_sIr, mL_sLr, mP_sI, mP_sL, mP_sN, mP_sIr, mP_sLr, mP_sP, if_pos, if_neg, and_self, if_true, and_true, true_and]); exact h2) (fun z hz => ?_) (fun z hz => ?_)
        · by_cases hek : z = k
          · subst hek
            (try simp (disch := omega) only [mI_sI2, mI_sL, mI_sP, mI_sN, mI_sIr, mI_sLr, mL_sI, mL_sL2, mL_sP, mL_sN, mL_sIr, mL_sLr, mP_sI, mP_sL, mP_sN, mP_sIr, mP_sLr, mP_sP, if_pos, if_neg, and_self, if_true, and_true, true_and])
          · (try simp (disch := omega) only [mI_sI2, mI_sL, mI_sP, mI_sN, mI_sIr, mI_sLr, mL_sI, mL_sL2, mL_sP, mL_sN, mL_sIr, mL_sLr, mP_sI, mP_sL, mP_sN, mP_sIr, mP_sLr, mP_sP, if_pos, if_neg, and_self, if_true, and_true, true_and])
            exact h3 z (by omega)
        · (try simp (disch := omega) only [mI_sI2, mI_sL, mI_sP, mI_sN, mI_sIr, mI_sLr, mL_sI, mL_sL2, mL_sP, mL_sN, mL_sIr, mL_sLr, mP_sI, mP_sL, mP_sN, mP_sIr, mP_sLr, mP_sP, if_pos, if_neg, and_self, if_true, and_true, true_and])
          exact h4 z hz
  
  refine e_step rfl hc 60 [7, 32] ?_
  repeat' (first | (with_reducible (intro h9; exact absurd rfl h9)) | (with_reducible (intro h9; exact absurd h9 e_10)) | (with_reducible intro _) | (refine And.intro ?_ ?_))
  all_goals first | (with_reducible refine e_goK ?_) | (with_reducible refine e_ctK ?_) | rfl | exact trivial | exact Nat.zero_le _ | exact (e_fit_01 _).1 | exact (e_fit_01 _).2 | (with_reducible refine vp_in_iff.mpr ?_; decide +kernel) | (with_reducible refine e_nz _ (by decide)) | decide | skip
  refine loop0 3 0 _ (by omega) ⟨rfl, fun c j hc => ⟨?_, rfl⟩⟩ ?_ (fun z hz => absurd hz (by omega)) (fun z hz => ?_)
  · show mI (sI M p 0 0) c j = _
    (try simp (disch := omega) only [mI_sI2, mI_sL, mI_sP, mI_sN, mI_sIr, mI_sLr, mL_sI, mL_sL2, mL_sP, mL_sN, mL_sIr, mL_sLr, mP_sI, mP_sL, mP_sN, mP_sIr, mP_sLr, mP_sP, if_pos, if_neg, and_self, if_true, and_true, true_and])
  · show mI (sI M p 0 0) p 0 = _
    (try simp (disch := omega) only [mI_sI2, mI_sL, mI_sP, mI_sN, mI_sIr, mI_sLr, mL_sI, mL_sL2, mL_sP, mL_sN, mL_sIr, mL_sLr, mP_sI, mP_sL, mP_sN, mP_sIr, mP_sLr, mP_sP, if_pos, if_neg, and_self, if_true, and_true, true_and])
  · show mI (sI M p 0 0) (p + 2 + z) 3 = _
    (try simp (disch := omega) only [mI_sI2, mI_sL, mI_sP, mI_sN, mI_sIr, mI_sLr, mL_sI, mL_sL2, mL_sP, mL_sN, mL_sIr, mL_sLr, mP_sI, mP_sL, mP_sN, mP_sIr, mP_sLr, mP_sP, if_pos, if_neg, and_self, if_true, and_true, true_and])
set_option maxRecDepth 20000 in
theorem c_sbecome (hl0 : l.stackTraces = false) {a b : Nat} (M : EM) (hb : bP M (b + 1)) (hab : a + 48 ≤ b ∨ b + 48 ≤ a) : Ct l g sg_X7_become [.inr (.inr (.inr (.inr (16, a)))), .inr (.inr (.inr (.inr (16, b))))] M (fun o M' => BX (e_fr M M' a (a + 48) ∧ qS M' a M b) ∧ o = .inl none) := by
  refine sem_of hl0 mt_X7_become ok_X7_become rfl (fun K hc hw => e_step rfl hc 80 [] ?_)
  repeat' (first | (with_reducible (intro h9; exact absurd rfl h9)) | (with_reducible (intro h9; exact absurd h9 e_10)) | (with_reducible intro _) | (refine And.intro ?_ ?_))
  refine Ct.mono (c_pbecome hl0 (p := a + 1) (q := b + 1) M hb (by omega)) ?_
  rintro o M1 ⟨h1, rfl⟩
  obtain ⟨h1, h2⟩ := h1.out
  repeat' (first | (with_reducible (intro h9; exact absurd rfl h9)) | (with_reducible (intro h9; exact absurd h9 e_10)) | (with_reducible intro _) | (refine And.intro ?_ ?_))
  all_goals first | (with_reducible refine e_goK ?_) | (with_reducible refine e_ctK ?_) | rfl | exact trivial | exact Nat.zero_le _ | exact (e_fit_01 _).1 | exact (e_fit_01 _).2 | (with_reducible refine vp_in_iff.mpr ?_; decide +kernel) | (with_reducible refine e_nz _ (by decide)) | decide | skip
  refine ⟨⟨(h1.wd (by omega) (by omega)).tr ⟨rfl, fun c j hc => ⟨?_, rfl⟩⟩, fun j hj1 hj => ?_, ?_, fun j hj => ?_⟩⟩
  · (try simp (disch := omega) only [mI_sI2, mI_sL, mI_sP, mI_sN, mI_sIr, mI_sLr, mL_sI, mL_sL2, mL_sP, mL_sN, mL_sIr, mL_sLr, mP_sI, mP_sL, mP_sN, mP_sIr, mP_sLr, mP_sP, if_pos, if_neg, and_self, if_true, and_true, true_and])
  · rcases (show j = 1 ∨ j = 2 ∨ j = 3 by omega) with rfl | rfl | rfl
    · (try simp (disch := omega) only [mI_sI2, mI_sL, mI_sP, mI_sN, mI_sIr, mI_sLr, mL_sI, mL_sL2, mL_sP, mL_sN, mL_sIr, mL_sLr, mP_sI, mP_sL, mP_sN, mP_sIr, mP_sLr, mP_sP, if_pos, if_neg, and_self, if_true, and_true, true_and])
      exact h1.i (by omega) _
    · (try simp (disch := omega) only [mI_sI2, mI_sL, mI_sP, mI_sN, mI_sIr, mI_sLr, mL_sI, mL_sL2, mL_sP, mL_sN, mL_sIr, mL_sLr, mP_sI, mP_sL, mP_sN, mP_sIr, mP_sLr, mP_sP, if_pos, if_neg, and_self, if_true, and_true, true_and])
      exact h1.i (by omega) _
    · (try simp (disch := omega) only [mI_sI2, mI_sL, mI_sP, mI_sN, mI_sIr, mI_sLr, mL_sI, mL_sL2, mL_sP, mL_sN, mL_sIr, mL_sLr, mP_sI, mP_sL, mP_sN, mP_sIr, mP_sLr, mP_sP, if_pos, if_neg, and_self, if_true, and_true, true_and])
      exact h1.i (by omega) _
  · exact h2.tl (fun c j hc1 hc2 => ⟨by (try simp (disch := omega) only [mI_sI2, mI_sL, mI_sP, mI_sN, mI_sIr, mI_sLr, mL_sI, mL_sL2, mL_sP, mL_sN, mL_sIr, mL_sLr, mP_sI, mP_sL, mP_sN, mP_sIr, mP_sLr, mP_sP, if_pos, if_neg, and_self, if_true, and_true, true_and]), rfl⟩)
  · (try simp (disch := omega) only [mI_sI2, mI_sL, mI_sP, mI_sN, mI_sIr, mI_sLr, mL_sI, mL_sL2, mL_sP, mL_sN, mL_sIr, mL_sLr, mP_sI, mP_sL, mP_sN, mP_sIr, mP_sLr, mP_sP, if_pos, if_neg, and_self, if_true, and_true, true_and])
    rw [if_pos (by show j < 6; exact hj)]
    exact h1.i (by omega) _
set_option maxRecDepth 20000 in
theorem c_sbeginWith (hl0 : l.stackTraces = false) {a q : Nat} (M : EM) (hb : bP M q) (hab : a + 48 ≤ q ∨ q + 46 ≤ a) : Ct l g sg_X7_beginWith [.inr (.inr (.inr (.inr (16, a)))), .inr (.inr (.inr (.inr (5, q))))] M (fun o M' => BX (e_fr M M' a (a + 48) ∧ (∀ j, 1 ≤ j → j < 4 → mI M' a j = 0) ∧ qP M' (a + 1) M q ∧ ∀ j, j < 6 → mI M' (a + 47) j = 0) ∧ o = .inl none) := by
  refine sem_of hl0 mt_X7_beginWith ok_X7_beginWith rfl (fun K hc hw => ?_)
  have loop : ∀ (zn : Nat) (k : Nat) (M1 : EM), k + zn = 6 → e_fr M M1 a (a + 48) → (∀ j, 1 ≤ j → j < 4 → mI M1 a j = 0) → qP M1 (a + 1) M q → (∀ j, j < k → mI M1 (a + 47) j = 0) → K 25 [some (.inr (.inr (.inr (.inr (16, a))))), some (.inr (.inr (.inr (.inr (5, q))))), some (.inl (nI k))] [] M1 0 0 := by
    intro zn
    induction zn with
    | zero =>
      intro k M1 hk h1 h2 h3 h4
      obtain rfl : k = 6 := by omega
      refine e_step rfl hc 60 [25] ?_
      repeat' (first | (with_reducible (intro h9; exact absurd rfl h9)) | (with_reducible (intro h9; exact absurd h9 e_10)) | (with_reducible intro _) | (refine And.intro ?_ ?_))
      all_goals first | (with_reducible refine e_goK ?_) | (with_reducible refine e_ctK ?_) | rfl | exact trivial | exact Nat.zero_le _ | exact (e_fit_01 _).1 | exact (e_fit_01 _).2 | (with_reducible refine vp_in_iff.mpr ?_; decide +kernel) | (with_reducible refine e_nz _ (by decide)) | decide | skip
      · exact ⟨⟨h1, h2, h3, h4⟩⟩
      all_goals (exfalso; first | (rename_i g1; exact g1 (by decide)) | (rename_i g1 g2; exact g1 (by decide)) | (rename_i g1 g2 g3; exact g1 (by decide)))
    | succ zn ih =>
      intro k M1 hk h1 h2 h3 h4
      refine e_step rfl hc 60 [25] ?_
      repeat' (first | (with_reducible (intro h9; exact absurd rfl h9)) | (with_reducible (intro h9; exact absurd h9 e_10)) | (with_reducible intro _) | (refine And.intro ?_ ?_))
      all_goals first | (with_reducible refine e_goK ?_) | (with_reducible refine e_ctK ?_) | rfl | exact trivial | exact Nat.zero_le _ | exact (e_fit_01 _).1 | exact (e_fit_01 _).2 | (with_reducible refine vp_in_iff.mpr ?_; decide +kernel) | (with_reducible refine e_nz _ (by decide)) | decide | skip
      · rename_i g1; exact absurd g1 (nI_ge (b := 6) (by omega) (by omega))
      · exact vp_in_nI (by omega) (by omega)
      · show K 25 [some (.inr (.inr (.inr (.inr (16, a))))), some (.inr (.inr (.inr (.inr (5, q))))), some (.inl (nI k + 1))] [] (sI M1 (a + 47) (nI k).toNatClampNeg 0) 0 0
        rw [nI_1, nI_clamp (by omega)]
        refine ih (k + 1) _ (by omega) (h1.tr ⟨rfl, fun c j hc => ⟨by (try simp (disch := omega) only [mI_sI2, mI_sL, mI_sP, mI_sN, mI_sIr, mI_sLr, mL_sI, mL_sL2, mL_sP, mL_sN, mL_sIr, mL_sLr, mP_sI, mP_sL, mP_sN, mP_sIr, mP_sLr, mP_sP, if_pos, if_neg, and_self, if_true, and_true, true_and]), rfl⟩⟩) (fun j hj1 hj2 => by (try simp (disch := omega) only [mI_sI2, mI_sL, mI_sP, mI_sN, mI_sIr, mI_sLr, mL_sI, mL_sL2, mL_sP, mL_sN, mL_sIr, mL_sLr, mP_sI, mP_sL, mP_sN, mP_sIr, mP_sLr, mP_sP, if_pos, if_neg, and_self, if_true, and_true, true_and]); exact h2 j hj1 hj2) (h3.tl (fun c j hc1 hc2 => ⟨by (try simp (disch := omega) only [mI_sI2, mI_sL, mI_sP, mI_sN, mI_sIr, mI_sLr, mL_sI, mL_sL2, mL_sP, mL_sN, mL_sIr, mL_sLr, mP_sI, mP_sL, mP_sN, mP_sIr, mP_sLr, mP_sP, if_pos, if_neg, and_self, if_true, and_true, true_and]), rfl⟩)) (fun z hz => ?_)
        by_cases hek : z = k
        · subst hek
          (try simp (disch := omega) only [mI_sI2, mI_sL, mI_sP, mI_sN, mI_sIr, mI_sLr, mL_sI, mL_sL2, mL_sP, mL_sN, mL_sIr, mL_sLr, mP_sI, mP_sL, mP_sN, mP_sIr, mP_sLr, mP_sP, if_pos, if_neg, and_self, if_true, and_true, true_and])
        · (try simp (disch := omega) only [mI_sI2, mI_sL, mI_sP, mI_sN, mI_sIr, mI_sLr, mL_sI, mL_sL2, mL_sP, mL_sN, mL_sIr, mL_sLr, mP_sI, mP_sL, mP_sN, mP_sIr, mP_sLr, mP_sP, if_pos, if_neg, and_self, if_true, and_true, true_and])
          exact h4 z (by omega)
  
  refine e_step rfl hc 60 [25] ?_
  repeat' (first | (with_reducible (intro h9; exact absurd rfl h9)) | (with_reducible (intro h9; exact absurd h9 e_10)) | (with_reducible intro _) | (refine And.intro ?_ ?_))
  refine Ct.mono (c_pbecome hl0 (p := a + 1) (q := q) M hb (by omega)) ?_
  rintro o M1 ⟨h1, rfl⟩
  obtain ⟨h1, h2⟩ := h1.out
  repeat' (first | (with_reducible (intro h9; exact absurd rfl h9)) | (with_reducible (intro h9; exact absurd h9 e_10)) | (with_reducible intro _) | (refine And.intro ?_ ?_))
  all_goals first | (with_reducible refine e_goK ?_) | (with_reducible refine e_ctK ?_) | rfl | exact trivial | exact Nat.zero_le _ | exact (e_fit_01 _).1 | exact (e_fit_01 _).2 | (with_reducible refine vp_in_iff.mpr ?_; decide +kernel) | (with_reducible refine e_nz _ (by decide)) | decide | skip
  refine loop 6 0 (sI (sI (sI M1 a 1 0) a 2 0) a 3 0) (by omega) ((h1.wd (by omega) (by omega)).tr ⟨rfl, fun c j hc => ⟨by (try simp (disch := omega) only [mI_sI2, mI_sL, mI_sP, mI_sN, mI_sIr, mI_sLr, mL_sI, mL_sL2, mL_sP, mL_sN, mL_sIr, mL_sLr, mP_sI, mP_sL, mP_sN, mP_sIr, mP_sLr, mP_sP, if_pos, if_neg, and_self, if_true, and_true, true_and]), rfl⟩⟩) (fun j hj1 hj2 => ?_) (h2.tl (fun c j hc1 hc2 => ⟨by (try simp (disch := omega) only [mI_sI2, mI_sL, mI_sP, mI_sN, mI_sIr, mI_sLr, mL_sI, mL_sL2, mL_sP, mL_sN, mL_sIr, mL_sLr, mP_sI, mP_sL, mP_sN, mP_sIr, mP_sLr, mP_sP, if_pos, if_neg, and_self, if_true, and_true, true_and]), rfl⟩)) (fun z hz => absurd hz (by omega))
  rcases (show j = 1 ∨ j = 2 ∨ j = 3 by omega) with rfl | rfl | rfl
  · (try simp (disch := omega) only [mI_sI2, mI_sL, mI_sP, mI_sN, mI_sIr, mI_sLr, mL_sI, mL_sL2, mL_sP, mL_sN, mL_sIr, mL_sLr, mP_sI, mP_sL, mP_sN, mP_sIr, mP_sLr, mP_sP, if_pos, if_neg, and_self, if_true, and_true, true_and])
  · (try simp (disch := omega) only [mI_sI2, mI_sL, mI_sP, mI_sN, mI_sIr, mI_sLr, mL_sI, mL_sL2, mL_sP, mL_sN, mL_sIr, mL_sLr, mP_sI, mP_sL, mP_sN, mP_sIr, mP_sLr, mP_sP, if_pos, if_neg, and_self, if_true, and_true, true_and])
  · (try simp (disch := omega) only [mI_sI2, mI_sL, mI_sP, mI_sN, mI_sIr, mI_sLr, mL_sI, mL_sL2, mL_sP, mL_sN, mL_sIr, mL_sLr, mP_sI, mP_sL, mP_sN, mP_sIr, mP_sLr, mP_sP, if_pos, if_neg, and_self, if_true, and_true, true_and])
set_option maxRecDepth 20000 in
theorem c_xbecome (hl0 : l.stackTraces = false) {a b : Nat} (M : EM) (hb : bX M b) (hab : a + 145 ≤ b ∨ b + 145 ≤ a) : Ct l g sg_X3_become [.inr (.inr (.inr (.inr (14, a)))), .inr (.inr (.inr (.inr (14, b))))] M (fun o M' => BX (e_fr M M' a (a + 145) ∧ qX M' a M b) ∧ o = .inl none) := by
  refine sem_of hl0 mt_X3_become ok_X3_become rfl (fun K hc hw => ?_)
  have loop : ∀ (zn : Nat) (k : Nat) (M1 : EM), k + zn = 2 → e_fr M M1 a (a + 144) → mI M1 a 0 = mI M b 0 → qP M1 (a + 1) M (b + 1) → (∀ s, s < k → qS M1 (a + 48 + 48 * s) M (b + 48 + 48 * s)) → K 21 [some (.inr (.inr (.inr (.inr (14, a))))), some (.inr (.inr (.inr (.inr (14, b))))), some (.inl (nI k))] [] M1 0 0 := by
    intro zn
    induction zn with
    | zero =>
      intro k M1 hk h1 h2 h3 h4
      obtain rfl : k = 2 := by omega
      refine e_step rfl hc 60 [21] ?_
      repeat' (first | (with_reducible (intro h9; exact absurd rfl h9)) | (with_reducible (intro h9; exact absurd h9 e_10)) | (with_reducible intro _) | (refine And.intro ?_ ?_))
      all_goals first | (with_reducible refine e_goK ?_) | (with_reducible refine e_ctK ?_) | rfl | exact trivial | exact Nat.zero_le _ | exact (e_fit_01 _).1 | exact (e_fit_01 _).2 | (with_reducible refine vp_in_iff.mpr ?_; decide +kernel) | (with_reducible refine e_nz _ (by decide)) | decide | skip
      · refine ⟨⟨(h1.wd (by omega) (by omega)).tr ⟨rfl, fun c j hc => ⟨by (try simp (disch := omega) only [mI_sI2, mI_sL, mI_sP, mI_sN, mI_sIr, mI_sLr, mL_sI, mL_sL2, mL_sP, mL_sN, mL_sIr, mL_sLr, mP_sI, mP_sL, mP_sN, mP_sIr, mP_sLr, mP_sP, if_pos, if_neg, and_self, if_true, and_true, true_and]), rfl⟩⟩, by (try simp (disch := omega) only [mI_sI2, mI_sL, mI_sP, mI_sN, mI_sIr, mI_sLr, mL_sI, mL_sL2, mL_sP, mL_sN, mL_sIr, mL_sLr, mP_sI, mP_sL, mP_sN, mP_sIr, mP_sLr, mP_sP, if_pos, if_neg, and_self, if_true, and_true, true_and]); exact h2, h3.tl (fun c j hc1 hc2 => ⟨by (try simp (disch := omega) only [mI_sI2, mI_sL, mI_sP, mI_sN, mI_sIr, mI_sLr, mL_sI, mL_sL2, mL_sP, mL_sN, mL_sIr, mL_sLr, mP_sI, mP_sL, mP_sN, mP_sIr, mP_sLr, mP_sP, if_pos, if_neg, and_self, if_true, and_true, true_and]), rfl⟩), fun s hs => (h4 s hs).tl (fun c j hc1 hc2 => ⟨by (try simp (disch := omega) only [mI_sI2, mI_sL, mI_sP, mI_sN, mI_sIr, mI_sLr, mL_sI, mL_sL2, mL_sP, mL_sN, mL_sIr, mL_sLr, mP_sI, mP_sL, mP_sN, mP_sIr, mP_sLr, mP_sP, if_pos, if_neg, and_self, if_true, and_true, true_and]), rfl⟩), fun j hj => ?_⟩⟩
        (try simp (disch := omega) only [mI_sI2, mI_sL, mI_sP, mI_sN, mI_sIr, mI_sLr, mL_sI, mL_sL2, mL_sP, mL_sN, mL_sIr, mL_sLr, mP_sI, mP_sL, mP_sN, mP_sIr, mP_sLr, mP_sP, if_pos, if_neg, and_self, if_true, and_true, true_and])
        rw [if_pos (by show j < 8; exact hj)]
        exact h1.i (by omega) _
      all_goals (exfalso; first | (rename_i g1; exact g1 (by decide)) | (rename_i g1 g2; exact g1 (by decide)) | (rename_i g1 g2 g3; exact g1 (by decide)))
    | succ zn ih =>
      intro k M1 hk h1 h2 h3 h4
      refine e_step rfl hc 60 [21, 47] ?_
      repeat' (first | (with_reducible (intro h9; exact absurd rfl h9)) | (with_reducible (intro h9; exact absurd h9 e_10)) | (with_reducible intro _) | (refine And.intro ?_ ?_))
      all_goals first | (with_reducible refine e_goK ?_) | (with_reducible refine e_ctK ?_) | rfl | exact trivial | exact Nat.zero_le _ | exact (e_fit_01 _).1 | exact (e_fit_01 _).2 | (with_reducible refine vp_in_iff.mpr ?_; decide +kernel) | (with_reducible refine e_nz _ (by decide)) | decide | skip
      · rename_i g1; exact absurd g1 (nI_ge (b := 2) (by omega) (by omega))
      · exact vp_in_nI (by omega) (by omega)
      · exact vp_in_nI (by omega) (by omega)
      · have hk1 : bP M1 (b + 48 + 48 * k + 1) := (hb.2 k (by omega)).q (h1.qP (by omega))
        have hk2 : a + 48 + 48 * k + 48 ≤ b + 48 + 48 * k ∨ b + 48 + 48 * k + 48 ≤ a + 48 + 48 * k := by omega
        refine Ct.mono (Ct.c2 (e_a15 a (by omega)) (e_a15 b (by omega)) (c_sbecome hl0 M1 hk1 hk2)) ?_
        rintro o M2 ⟨h5, rfl⟩
        obtain ⟨h5, h6⟩ := h5.out
        repeat' (first | (with_reducible (intro h9; exact absurd rfl h9)) | (with_reducible (intro h9; exact absurd h9 e_10)) | (with_reducible intro _) | (refine And.intro ?_ ?_))
        show K 21 [some (.inr (.inr (.inr (.inr (14, a))))), some (.inr (.inr (.inr (.inr (14, b))))), some (.inl (nI k + 1))] [] M2 0 0
        rw [nI_1]
        refine ih (k + 1) M2 (by omega) (h1.tr (h5.wd (by omega) (by omega))) (by rw [h5.i (by omega)]; exact h2) ((h5.qP (by omega)).tr h3) (fun z hz => ?_)
        by_cases hzk : z = k
        · subst hzk
          exact h6.tr (h1.qS (by omega))
        · exact (h5.qS (by omega)).tr (h4 z (by omega))
  
  refine e_step rfl hc 60 [21] ?_
  repeat' (first | (with_reducible (intro h9; exact absurd rfl h9)) | (with_reducible (intro h9; exact absurd h9 e_10)) | (with_reducible intro _) | (refine And.intro ?_ ?_))
  all_goals first | (with_reducible refine e_goK ?_) | (with_reducible refine e_ctK ?_) | rfl | exact trivial | exact Nat.zero_le _ | exact (e_fit_01 _).1 | exact (e_fit_01 _).2 | (with_reducible refine vp_in_iff.mpr ?_; decide +kernel) | (with_reducible refine e_nz _ (by decide)) | decide | skip
  refine Ct.mono (c_pbecome hl0 (p := a + 1) (q := b + 1) (sI M a 0 (mI M b 0)) (hb.1.q (qP.loc (fun c j hc1 hc2 => ⟨by (try simp (disch := omega) only [mI_sI2, mI_sL, mI_sP, mI_sN, mI_sIr, mI_sLr, mL_sI, mL_sL2, mL_sP, mL_sN, mL_sIr, mL_sLr, mP_sI, mP_sL, mP_sN, mP_sIr, mP_sLr, mP_sP, if_pos, if_neg, and_self, if_true, and_true, true_and]), rfl⟩))) (by omega)) ?_
  rintro o M1 ⟨h1, rfl⟩
  obtain ⟨h1, h2⟩ := h1.out
  repeat' (first | (with_reducible (intro h9; exact absurd rfl h9)) | (with_reducible (intro h9; exact absurd h9 e_10)) | (with_reducible intro _) | (refine And.intro ?_ ?_))
  refine loop 2 0 _ (by omega) (e_fr.tr (M' := sI M a 0 (mI M b 0)) ⟨rfl, fun c j hc => ⟨by (try simp (disch := omega) only [mI_sI2, mI_sL, mI_sP, mI_sN, mI_sIr, mI_sLr, mL_sI, mL_sL2, mL_sP, mL_sN, mL_sIr, mL_sLr, mP_sI, mP_sL, mP_sN, mP_sIr, mP_sLr, mP_sP, if_pos, if_neg, and_self, if_true, and_true, true_and]), rfl⟩⟩ (h1.wd (by omega) (by omega))) ?_ (h2.tr (qP.loc (fun c j hc1 hc2 => ⟨by (try simp (disch := omega) only [mI_sI2, mI_sL, mI_sP, mI_sN, mI_sIr, mI_sLr, mL_sI, mL_sL2, mL_sP, mL_sN, mL_sIr, mL_sLr, mP_sI, mP_sL, mP_sN, mP_sIr, mP_sLr, mP_sP, if_pos, if_neg, and_self, if_true, and_true, true_and]), rfl⟩))) (fun z hz => absurd hz (by omega))
  rw [h1.i (by omega)]
  (try simp (disch := omega) only [mI_sI2, mI_sL, mI_sP, mI_sN, mI_sIr, mI_sLr, mL_sI, mL_sL2, mL_sP, mL_sN, mL_sIr, mL_sLr, mP_sI, mP_sL, mP_sN, mP_sIr, mP_sLr, mP_sP, if_pos, if_neg, and_self, if_true, and_true, true_and])
end
