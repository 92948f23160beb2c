/-! THE CLASS: the history. -/
section
variable {l : Launch} {g : EG}
theorem Rx.q {M M' : EM} {a b nz : Nat} {s : Nat → Int32} (h : Rx M b s nz) (hnz : nz ≤ 3) (q : qX M' a M b) : Rx M' a s nz := by
  obtain ⟨q0, qs, qd, ql⟩ := q
  obtain ⟨⟨hG, hZ, hV, hA⟩, hB⟩ := h
  have pl : ∀ p, p < 3 → qP M' (pAd a p) M (pAd b p) := by
    intro p hp
    by_cases c : p = 2
    · subst c; exact qs
    · have := (qd p (by omega)).2.1
      rw [pAd_q (by omega), pAd_q (by omega)]
      rw [show a + 48 + 48 * p + 1 = a + 49 + 48 * p by omega, show b + 48 + 48 * p + 1 = b + 49 + 48 * p by omega] at this
      exact this
  refine ⟨⟨?_, fun p hp => ⟨(pl p hp).1.trans (hZ p hp).1, fun z hz j hj => ((pl p hp).2.1 z (by omega) j hj).trans ((hZ p hp).2 z hz j hj)⟩, fun p hp e he => (hV p hp e he).q ((pl p hp).2.2 e he), fun q' hq' => ⟨((qd q' hq').1 1 (by omega) (by omega)).trans (hA q' hq').1, fun w hw => ((qd q' hq').2.2 w hw).trans ((hA q' hq').2 w hw)⟩⟩, fun q' hq' => ⟨((qd q' hq').1 2 (by omega) (by omega)).trans (hB q' hq').1, ((qd q' hq').1 3 (by omega) (by omega)).trans (hB q' hq').2⟩⟩
  obtain ⟨c, L, z1, z2, z3, z4, z5, z6, z7⟩ := hG
  exact ⟨c, L, z1, z2, z3, z4, z5, q0.trans z6, fun i hi => (z7 i hi).trans (ql _ (by omega)).symm⟩
def svP (M M' : EM) (h x a c : Nat) : Prop := ∃ M1, e_fr M M1 (h + 2 + 145 * a) (h + 2 + 145 * a + 145) ∧ qX M1 (h + 2 + 145 * a) M x ∧ M' = sI (sI M1 h 1 (nI ((a + 1) % 12))) h 0 (nI (min 12 (c + 1)))
def bbP (M M' : EM) (h x a c : Nat) : Prop := ∃ M1, M1 = sI (sI M h 1 (nI ((a + 11) % 12))) h 0 (nI (c - 1)) ∧ e_fr M1 M' x (x + 145) ∧ qX M' x M1 (h + 2 + 145 * ((a + 11) % 12))
set_option maxRecDepth 20000 in
theorem c_forget (hl0 : l.stackTraces = false) {h : Nat} (M : EM) : Ct l g sg_X4_forget [.inr (.inr (.inr (.inr (19, h))))] M (fun o M' => M' = sI M h 0 (nI 0) ∧ o = .inl none) := by
  refine sem_of hl0 mt_X4_forget ok_X4_forget rfl (fun K hc hw => e_step rfl hc 80 [] ?_)
  repeat' (first | (with_reducible (intro h9; exact absurd rfl h9)) | (with_reducible (intro h9; exact absurd h9 e_10)) | (with_reducible (intro h9; first | exact absurd e_00 h9 | exact absurd h9 e_n10 | exact absurd h9 e_n20 | exact absurd h9 e_n30)) | (with_reducible intro _) | (refine And.intro ?_ ?_) | (with_reducible refine e_sw_nil ?_) | fail)
  all_goals first | (with_reducible refine e_goK ?_) | (with_reducible refine e_ctK ?_) | (with_reducible refine vp_inK ?_; (try simp (disch := omega) only [mI_sI2, mI_sL, mI_sP, mI_sN, mI_sIr, mI_sLr, mL_sI, mL_sL2, mL_sP, mL_sN, mL_sIr, mL_sLr, mP_sI, mP_sL, mP_sN, mP_sIr, mP_sLr, nI_add, nI_clamp]); exact vp_in_nI (by omega) (by omega)) | rfl | exact trivial | exact Nat.zero_le _ | exact (e_fit_01 _).1 | exact (e_fit_01 _).2 | (with_reducible refine vp_in_iff.mpr ?_; decide +kernel) | (with_reducible refine e_nz _ (by decide)) | decide | skip
set_option maxRecDepth 20000 in
theorem c_save (hl0 : l.stackTraces = false) {h x a c : Nat} (M : EM) (ha : mI M h 1 = nI a) (ha2 : a < 12) (hc : mI M h 0 = nI c) (hc2 : c ≤ 12) (hb : bX M x) (hx : x + 145 ≤ h ∨ h + 1742 ≤ x) : Ct l g sg_X4_save [.inr (.inr (.inr (.inr (19, h)))), .inr (.inr (.inr (.inr (14, x))))] M (fun o M' => BX (svP M M' h x a c) ∧ o = .inl none) := by
  refine sem_of hl0 mt_X4_save ok_X4_save rfl (fun K hcc hw => ?_)
  refine e_step rfl hcc 60 [13] ?_
  repeat' (first | (with_reducible (intro h9; exact absurd rfl h9)) | (with_reducible (intro h9; exact absurd h9 e_10)) | (with_reducible (intro h9; first | exact absurd e_00 h9 | exact absurd h9 e_n10 | exact absurd h9 e_n20 | exact absurd h9 e_n30)) | (with_reducible intro _) | (refine And.intro ?_ ?_) | (with_reducible refine e_sw_nil ?_) | (refine e_ctK ?_; first | (refine Ct.mono (Ct.ar (by first | with_reducible rfl | ((repeat' (first | (refine e_cc ?_ ?_) | (with_reducible rfl) | (refine e_pp ?_; (try simp (disch := omega) only [e_po5, e_po8, e_po15, e_po20, e_po21, nI_clamp, ha]); (try dsimp only [e_pt, e_po]); (try simp (disch := omega) only [nI_clamp]); omega) | (refine e_pps ?_; (try simp (disch := omega) only [e_po5, e_po8, e_po15, e_po20, e_po21, nI_clamp, ha]); (try dsimp only [e_pt, e_po]); (try simp (disch := omega) only [nI_clamp]); omega) | (simp (disch := omega) only [mI_sI2, mI_sL, mI_sP, mI_sN, mI_sIr, mI_sLr, mL_sI, mL_sL2, mL_sP, mL_sN, mL_sIr, mL_sLr, mP_sI, mP_sL, mP_sN, mP_sIr, mP_sLr, e_po5, e_po8, e_po15, e_po20, e_po21, nI_clamp, n_lit, nI_add, if_pos, if_neg, and_self, if_true, e_clI, e_clP, ha]; done) | ((try simp (disch := omega) only [mI_sI2, mI_sL, mI_sP, mI_sN, mI_sIr, mI_sLr, mL_sI, mL_sL2, mL_sP, mL_sN, mL_sIr, mL_sLr, mP_sI, mP_sL, mP_sN, mP_sIr, mP_sLr, e_po5, e_po8, e_po15, e_po20, e_po21, nI_clamp, n_lit, nI_add, if_pos, if_neg, and_self, if_true, e_clI, e_clP, ha]); exact e_cnI (by omega)) | rfl | fail)); done) | fail) (by first | with_reducible rfl | (simp (disch := omega) only [mI_sI2, mI_sL, mI_sP, mI_sN, mI_sIr, mI_sLr, mL_sI, mL_sL2, mL_sP, mL_sN, mL_sIr, mL_sLr, mP_sI, mP_sL, mP_sN, mP_sIr, mP_sLr, e_po5, e_po8, e_po15, e_po20, e_po21, nI_clamp, n_lit, nI_add, if_pos, if_neg, and_self, if_true, e_clI, e_clP, ha]; done) | rfl | fail) (c_xbecome hl0 (a := (h + 2 + 145 * a)) (b := x) M hb (by omega))) ?_; intro o M1 h8; obtain ⟨h9, rfl⟩ := h8; obtain ⟨f1, f2⟩ := h9.out) | fail) | fail)
  all_goals first | (with_reducible refine e_goK ?_) | (with_reducible refine e_ctK ?_) | (with_reducible refine vp_inK ?_; (try simp (disch := omega) only [mI_sI2, mI_sL, mI_sP, mI_sN, mI_sIr, mI_sLr, mL_sI, mL_sL2, mL_sP, mL_sN, mL_sIr, mL_sLr, mP_sI, mP_sL, mP_sN, mP_sIr, mP_sLr, nI_add, nI_clamp]); exact vp_in_nI (by omega) (by omega)) | rfl | exact trivial | exact Nat.zero_le _ | exact (e_fit_01 _).1 | exact (e_fit_01 _).2 | (with_reducible refine vp_in_iff.mpr ?_; decide +kernel) | (with_reducible refine e_nz _ (by decide)) | decide | skip
  all_goals trace_state
  all_goals sorry
set_option maxRecDepth 20000 in
theorem c_bringBack (hl0 : l.stackTraces = false) {h x a c : Nat} (M : EM) (ha : mI M h 1 = nI a) (ha2 : a < 12) (hc : mI M h 0 = nI c) (hc2 : c ≤ 12) (hc1 : 1 ≤ c) (hb : bX M (h + 2 + 145 * ((a + 11) % 12))) (hx : x + 145 ≤ h ∨ h + 1742 ≤ x) : Ct l g sg_X4_bringBack [.inr (.inr (.inr (.inr (19, h)))), .inr (.inr (.inr (.inr (14, x))))] M (fun o M' => BX (bbP M M' h x a c) ∧ o = .inl none) := by
  refine sem_of hl0 mt_X4_bringBack ok_X4_bringBack rfl (fun K hcc hw => ?_)
  refine e_step rfl hcc 60 [19] ?_
  repeat' (first | (with_reducible (intro h9; exact absurd rfl h9)) | (with_reducible (intro h9; exact absurd h9 e_10)) | (with_reducible (intro h9; first | exact absurd e_00 h9 | exact absurd h9 e_n10 | exact absurd h9 e_n20 | exact absurd h9 e_n30)) | (with_reducible intro _) | (refine And.intro ?_ ?_) | (with_reducible refine e_sw_nil ?_) | fail)
  all_goals first | (with_reducible refine e_goK ?_) | (with_reducible refine e_ctK ?_) | (with_reducible refine vp_inK ?_; (try simp (disch := omega) only [mI_sI2, mI_sL, mI_sP, mI_sN, mI_sIr, mI_sLr, mL_sI, mL_sL2, mL_sP, mL_sN, mL_sIr, mL_sLr, mP_sI, mP_sL, mP_sN, mP_sIr, mP_sLr, nI_add, nI_clamp]); exact vp_in_nI (by omega) (by omega)) | rfl | exact trivial | exact Nat.zero_le _ | exact (e_fit_01 _).1 | exact (e_fit_01 _).2 | (with_reducible refine vp_in_iff.mpr ?_; decide +kernel) | (with_reducible refine e_nz _ (by decide)) | decide | skip
  all_goals trace_state
  all_goals sorry
end
