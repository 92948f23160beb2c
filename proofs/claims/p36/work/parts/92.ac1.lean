/-! THE CLASS: the acts, 1: remove, cancel. -/
section
variable {l : Launch} {g : EG}
theorem evB_cnt {s : Nat → Int32} {q : Nat} : e_cnt (evB s q) 32 = e_cnt (evB s q) 30 := e_cnt_30 (by unfold evB; rw [e_bits_lsb 8 (by omega) 30 (by omega)]; rfl) (by unfold evB; rw [e_bits_lsb 8 (by omega) 31 (by omega)]; rfl)
theorem evB_rel {M : EM} {x nz q : Nat} {s : Nat → Int32} (h : Rx0 M x s nz) (hq : q < 3) (h01 : ∀ e, e < 8 → s (eAt q e) = 0 ∨ s (eAt q e) = 1) : e_bits (e_thr M (pAd x q)) 8 = evB s q := by
  refine e_bits_c 8 (fun e he => ?_)
  have r0 := (h.2.2.1 q hq e he).1
  unfold e_thr
  rw [show mI M (pAd x q + 6 + 5 * e) 0 = s (eAt q e) from r0]
  rcases h01 e he with c | c <;> rw [c] <;> rfl
theorem QH.sx {M : EM} {x q e : Nat} (hq : q < 2) : pAd (x + 50) q = sAd (x + 50) q + 1 ∧ vAd (x + 50) q e = sAd (x + 50) q + 1 + 6 + 5 * e := by
  have : pAd (x + 50) q = sAd (x + 50) q + 1 := by rw [pAd_q hq]; show _ = x + 50 + 48 + 48 * q + 1; omega
  exact ⟨this, by unfold vAd; rw [this]⟩
/-- behind the save: the row is held still -/
theorem QH.sv {M M1 : EM} {x nz a c : Nat} {F : FM} (h : QH M x F nz) (hs : svP M M1 (x + 195) (x + 50) a c) (ha : a < 12) : Rx M1 (x + 50) (F 1) nz := h.1.fr h.2.1.2.2.2.2.2.2 (hs.fr ha) (Or.inl (by omega))
theorem sRm_01 {s : Nat → Int32} {q e e' nz : Nat} (h : sIv s nz) (hq : q < 2) (he : e < 8) (he' : e' < 8) : sRm s (eAt q e) (eAt q e') = 0 ∨ sRm s (eAt q e) (eAt q e') = 1 := by
  have rE := eAt_rng (p := q) (e := e) (by omega) he
  by_cases z : e' = e
  · subst z; left
    show sRm s (eAt q e') (eAt q e' + 0) = 0
    unfold sRm; rw [wS_o (by omega), wS_e]
  · unfold sRm
    have r2 := eAt_ne (p := q) (p' := q) (e := e') (e' := e) (i := 0) (by omega) (by omega) he' he (by omega) (Or.inl z)
    rw [wS_o (by omega), wS_o (by omega)]
    exact (h.2.1 q (by omega) e' he').1
theorem rngS {x q : Nat} (hq : q < 2) : x + 98 ≤ sAd (x + 50) q ∧ sAd (x + 50) q + 48 ≤ x + 194 := by
  show x + 98 ≤ x + 50 + 48 + 48 * q ∧ x + 50 + 48 + 48 * q + 48 ≤ x + 194
  omega
set_option maxRecDepth 20000 in
theorem ca_remove (hl0 : l.stackTraces = false) {x nz a c q e : Nat} {F : FM} (M : EM) (h : QH M x F nz) (hh : HH M x a c) (hq : q < 2) (he : e < 8) (h1 : F 1 (eAt q e) = 1) : Ct l g sg_X10_remove [.inr (.inr (.inr (.inr (1, x)))), .inl (nI q), .inl (nI e)] M (fun o M' => AQ M x a c nz (sRm (F 1) (eAt q e)) (nI (e_cnt (evB (sRm (F 1) (eAt q e)) q) 30)) o M') := by
  refine sem_of hl0 mt_X10_remove ok_X10_remove rfl (fun K hc hw => ?_)
  clear hw
  
  obtain ⟨epq, eva⟩ := QH.sx (M := M) (x := x) (e := e) hq
  have hb := h.bP (p := q) (by omega)
  rw [epq] at hb
  have hr := h.ev (p := q) (by omega) he
  rw [epq] at hr
  have hT : ¬ mI M (sAd (x + 50) q + 1 + 6 + 5 * e) 0 = 0 := by rw [hr.1, show rowE (F 1) q e 0 = F 1 (eAt q e) from rfl, h1]; decide
  have L := hr.2.2 h1
  have rg := rngS (x := x) hq
  have rE := eAt_rng (p := q) (e := e) (by omega) he
  have hnz := h.2.1.2.2.2.2.2.2
  have k27 : ∀ M1, svP M M1 (x + 195) (x + 50) a c → K 27 [some (.inr (.inr (.inr (.inr (1, x))))), some (.inl (nI q)), some (.inl (nI e)), some (.inr (.inr (.inr (.inr (16, sAd (x + 50) q))))), some (.inr (.inr (.inr (.inr (9, (sAd (x + 50) q + 1 + 6 + 5 * e))))))] [] M1 2 12 := by
    intro M1 hsv
    have RX := h.sv hsv hh.2.1
    have fS := hsv.fr hh.2.1
    have hr1 := RX.1.2.2.1 q (by omega) e he
    rw [eva] at hr1
    have X : Rx (sI (sI (sI M1 (sAd (x + 50) q + 1 + 6 + 5 * e) 0 0) (sAd (x + 50) q) 2 (mI (sI M1 (sAd (x + 50) q + 1 + 6 + 5 * e) 0 0) (sAd (x + 50) q) 2 ||| (1 <<< (nI e &&& 31)))) (sAd (x + 50) q) 3 (mI (sI M1 (sAd (x + 50) q + 1 + 6 + 5 * e) 0 0) (sAd (x + 50) q) 3 ||| (1 <<< (nI e &&& 31)))) (x + 50) (sRm (F 1) (eAt q e)) nz := by
      refine Rx.act (M := M1) (q := q) (e := e) RX hnz hq he (fun cc j k1 k2 k3 k4 => ?_) (fun cc j k1 k2 k3 => rfl) (fun j k1 k2 => ?_) ⟨?_, ?_, fun z => ?_⟩ ?_ (Or.inl ⟨?_, ?_, ?_⟩)
      · rw [eva] at k3
        simp (disch := omega) only [mI_sI2, mI_sL, mL_sI, if_neg, if_pos, and_self, if_true]
      · unfold sRm; rw [wS_o (by omega), wS_o (by omega)]
      · rw [eva]; show _ = sRm (F 1) (eAt q e) (eAt q e + 0)
        unfold sRm; rw [wS_o (by omega), wS_e]; simp (disch := omega) only [mI_sI2, mI_sL, mL_sI, if_neg, if_pos, and_self, if_true]
      · rw [eva]; show _ = sRm (F 1) (eAt q e) (eAt q e + 9)
        unfold sRm; rw [wS_o (by omega), wS_o (by omega)]; simp (disch := omega) only [mI_sI2, mI_sL, mL_sI, if_neg, if_pos, and_self, if_true]; exact hr1.2.1
      · exfalso
        replace z : sRm (F 1) (eAt q e) (eAt q e + 0) = 1 := z
        unfold sRm at z; rw [wS_o (by omega), wS_e] at z; exact absurd z (by decide)
      · simp (disch := omega) only [mI_sI2, mI_sL, mL_sI, if_neg, if_pos, and_self, if_true]
      · unfold sRm; rw [wS_e]
      · unfold sRm; rw [wS_o (by omega), wS_o (by omega)]
      · simp (disch := omega) only [mI_sI2, mI_sL, mL_sI, if_neg, if_pos, and_self, if_true]
    have fE : e_fr M1 (sI (sI (sI M1 (sAd (x + 50) q + 1 + 6 + 5 * e) 0 0) (sAd (x + 50) q) 2 (mI (sI M1 (sAd (x + 50) q + 1 + 6 + 5 * e) 0 0) (sAd (x + 50) q) 2 ||| (1 <<< (nI e &&& 31)))) (sAd (x + 50) q) 3 (mI (sI M1 (sAd (x + 50) q + 1 + 6 + 5 * e) 0 0) (sAd (x + 50) q) 3 ||| (1 <<< (nI e &&& 31)))) (x + 50) (x + 195) := ⟨rfl, fun cc j hc => ⟨by simp (disch := omega) only [mI_sI2, mI_sL, mL_sI, if_neg, if_pos, and_self, if_true], rfl⟩⟩
    have k38 : ∀ M3, e_fr M1 M3 (x + 50) (x + 195) → Rx M3 (x + 50) (sRm (F 1) (eAt q e)) nz → K 38 [some (.inr (.inr (.inr (.inr (1, x))))), some (.inl (nI q)), some (.inl (nI e)), some (.inr (.inr (.inr (.inr (16, sAd (x + 50) q))))), some (.inr (.inr (.inr (.inr (9, (sAd (x + 50) q + 1 + 6 + 5 * e))))))] [] M3 2 12 := by
      intro M3 fE X
      have hv := evB_rel X.1 (q := q) (by omega) (fun e' he' => sRm_01 h.2.1 hq he he')
      rw [epq] at hv
      refine e_step rfl hc 60 [] ?_
      repeat' (first | (with_reducible (intro h9; exact absurd rfl h9)) | (with_reducible (intro h9; exact absurd h9 e_10)) | (with_reducible (intro h9; first | exact absurd e_00 h9 | exact absurd h9 e_n10 | exact absurd h9 e_n20 | exact absurd h9 e_n30)) | (with_reducible intro _) | (refine And.intro ?_ ?_) | (with_reducible refine e_sw_nil ?_) | (refine e_fa (fun _ => ?_)) | (refine e_ctK ?_; first | (refine Ct.mono (Ct.ar rfl rfl (c_eventBits hl0 (sAd (x + 50) q + 1) M3)) ?_; intro o M' h8; obtain ⟨h9, rfl⟩ := h8; replace h9 := h9.symm; subst h9) | (refine Ct.mono (Ct.ar rfl rfl (c_bitCount_0f7a4 hl0 M3 _)) ?_; intro o M' h8; obtain ⟨h9, rfl⟩ := h8; replace h9 := h9.symm; subst h9) | fail) | fail)
      all_goals first | (with_reducible refine e_goK ?_) | (with_reducible refine e_ctK ?_) | (with_reducible refine vp_inK ?_; (try simp (disch := omega) only [mI_sI2, mI_sL, mI_sP, mI_sN, mI_sIr, mI_sLr, mL_sI, mL_sL2, mL_sP, mL_sN, mL_sIr, mL_sLr, mP_sI, mP_sL, mP_sN, mP_sIr, mP_sLr, nI_add, nI_clamp]); exact vp_in_nI (by omega) (by omega)) | rfl | exact trivial | exact Nat.zero_le _ | exact (e_fit_01 _).1 | exact (e_fit_01 _).2 | (with_reducible refine vp_in_iff.mpr ?_; decide +kernel) | (with_reducible refine e_nz _ (by decide)) | decide | skip
      exact AQ.mk hsv fE X (by rw [hv, evB_cnt])
    have k33 : ∀ M2, M2 = (sI M1 (sAd (x + 50) q + 1 + 6 + 5 * e) 0 0) → K 33 [some (.inr (.inr (.inr (.inr (1, x))))), some (.inl (nI q)), some (.inl (nI e)), some (.inr (.inr (.inr (.inr (16, sAd (x + 50) q))))), some (.inr (.inr (.inr (.inr (9, (sAd (x + 50) q + 1 + 6 + 5 * e))))))] [] M2 2 12 := by
      intro M2 e2
      rw [← e2] at fE X
      refine e_step rfl hc 60 [38] ?_
      repeat' (first | (with_reducible (intro h9; exact absurd rfl h9)) | (with_reducible (intro h9; exact absurd h9 e_10)) | (with_reducible (intro h9; first | exact absurd e_00 h9 | exact absurd h9 e_n10 | exact absurd h9 e_n20 | exact absurd h9 e_n30)) | (with_reducible intro _) | (refine And.intro ?_ ?_) | (with_reducible refine e_sw_nil ?_) | (refine e_fa (fun _ => ?_)) | (refine e_ctK ?_; first | (refine Ct.mono (Ct.ar rfl rfl (c_noteContent hl0 (a := sAd (x + 50) q) M2 (nI e))) ?_; intro o M' h8; obtain ⟨h9, rfl⟩ := h8; replace h9 := h9.symm; subst h9) | fail) | fail)
      all_goals first | (with_reducible refine e_goK ?_) | (with_reducible refine e_ctK ?_) | (with_reducible refine vp_inK ?_; (try simp (disch := omega) only [mI_sI2, mI_sL, mI_sP, mI_sN, mI_sIr, mI_sLr, mL_sI, mL_sL2, mL_sP, mL_sN, mL_sIr, mL_sLr, mP_sI, mP_sL, mP_sN, mP_sIr, mP_sLr, nI_add, nI_clamp]); exact vp_in_nI (by omega) (by omega)) | rfl | exact trivial | exact Nat.zero_le _ | exact (e_fit_01 _).1 | exact (e_fit_01 _).2 | (with_reducible refine vp_in_iff.mpr ?_; decide +kernel) | (with_reducible refine e_nz _ (by decide)) | decide | skip
      exact k38 _ fE X
    refine e_step rfl hc 60 [33] ?_
    repeat' (first | (with_reducible (intro h9; exact absurd rfl h9)) | (with_reducible (intro h9; exact absurd h9 e_10)) | (with_reducible (intro h9; first | exact absurd e_00 h9 | exact absurd h9 e_n10 | exact absurd h9 e_n20 | exact absurd h9 e_n30)) | (with_reducible intro _) | (refine And.intro ?_ ?_) | (with_reducible refine e_sw_nil ?_) | (refine e_fa (fun _ => ?_)) | fail)
    all_goals first | (with_reducible refine e_goK ?_) | (with_reducible refine e_ctK ?_) | (with_reducible refine vp_inK ?_; (try simp (disch := omega) only [mI_sI2, mI_sL, mI_sP, mI_sN, mI_sIr, mI_sLr, mL_sI, mL_sL2, mL_sP, mL_sN, mL_sIr, mL_sLr, mP_sI, mP_sL, mP_sN, mP_sIr, mP_sLr, nI_add, nI_clamp]); exact vp_in_nI (by omega) (by omega)) | rfl | exact trivial | exact Nat.zero_le _ | exact (e_fit_01 _).1 | exact (e_fit_01 _).2 | (with_reducible refine vp_in_iff.mpr ?_; decide +kernel) | (with_reducible refine e_nz _ (by decide)) | decide | skip
    exact k33 _ rfl
  have k16 : K 16 [some (.inr (.inr (.inr (.inr (1, x))))), some (.inl (nI q)), some (.inl (nI e)), some (.inr (.inr (.inr (.inr (16, sAd (x + 50) q))))), some (.inr (.inr (.inr (.inr (9, (sAd (x + 50) q + 1 + 6 + 5 * e))))))] [] M 2 12 := by
    refine e_step rfl hc 60 [27] ?_
    repeat' (first | (with_reducible (intro h9; exact absurd rfl h9)) | (with_reducible (intro h9; exact absurd h9 e_10)) | (with_reducible (intro h9; first | exact absurd e_00 h9 | exact absurd h9 e_n10 | exact absurd h9 e_n20 | exact absurd h9 e_n30)) | (with_reducible intro _) | (refine And.intro ?_ ?_) | (with_reducible refine e_sw_nil ?_) | (refine e_fa (fun _ => ?_)) | (refine e_ctK ?_; first | (refine Ct.mono (Ct.ar rfl rfl (c_save hl0 (h := x + 195) (x := x + 50) (a := a) (c := c) M hh.1 hh.2.1 hh.2.2.1 hh.2.2.2 h.bX (Or.inl (by omega)))) ?_; intro o M1 h8; obtain ⟨h9, rfl⟩ := h8; have hsv := h9.out) | fail) | fail)
    all_goals first | (with_reducible refine e_goK ?_) | (with_reducible refine e_ctK ?_) | (with_reducible refine vp_inK ?_; (try simp (disch := omega) only [mI_sI2, mI_sL, mI_sP, mI_sN, mI_sIr, mI_sLr, mL_sI, mL_sL2, mL_sP, mL_sN, mL_sIr, mL_sLr, mP_sI, mP_sL, mP_sN, mP_sIr, mP_sLr, nI_add, nI_clamp]); exact vp_in_nI (by omega) (by omega)) | rfl | exact trivial | exact Nat.zero_le _ | exact (e_fit_01 _).1 | exact (e_fit_01 _).2 | (with_reducible refine vp_in_iff.mpr ?_; decide +kernel) | (with_reducible refine e_nz _ (by decide)) | decide | skip
    refine e_kk (K := K) ?_; refine e_kc (k27 M1 hsv) (by (repeat' (first | (refine e_cc ?_ ?_) | (with_reducible rfl) | (refine e_pp ?_; (try simp (disch := omega) only [e_po5, e_po8, e_po15, e_po20, e_po21, nI_clamp]); (try dsimp only [e_pt, e_po]); (try simp (disch := omega) only [nI_clamp]); omega) | (refine e_pps ?_; (try simp (disch := omega) only [e_po5, e_po8, e_po15, e_po20, e_po21, nI_clamp]); (try dsimp only [e_pt, e_po]); (try simp (disch := omega) only [nI_clamp]); omega) | (simp (disch := omega) only [mI_sI2, mI_sL, mI_sP, mI_sN, mI_sIr, mI_sLr, mL_sI, mL_sL2, mL_sP, mL_sN, mL_sIr, mL_sLr, mP_sI, mP_sL, mP_sN, mP_sIr, mP_sLr, e_po5, e_po8, e_po15, e_po20, e_po21, nI_clamp, n_lit, nI_add, if_pos, if_neg, and_self, if_true, e_clI, e_clP]; done) | ((try simp (disch := omega) only [mI_sI2, mI_sL, mI_sP, mI_sN, mI_sIr, mI_sLr, mL_sI, mL_sL2, mL_sP, mL_sN, mL_sIr, mL_sLr, mP_sI, mP_sL, mP_sN, mP_sIr, mP_sLr, e_po5, e_po8, e_po15, e_po20, e_po21, nI_clamp, n_lit, nI_add, if_pos, if_neg, and_self, if_true, e_clI, e_clP]); exact e_cnI (by omega)) | rfl | fail))) (by (repeat' (first | (refine e_cc ?_ ?_) | (with_reducible rfl) | (refine e_pp ?_; (try simp (disch := omega) only [e_po5, e_po8, e_po15, e_po20, e_po21, nI_clamp]); (try dsimp only [e_pt, e_po]); (try simp (disch := omega) only [nI_clamp]); omega) | (refine e_pps ?_; (try simp (disch := omega) only [e_po5, e_po8, e_po15, e_po20, e_po21, nI_clamp]); (try dsimp only [e_pt, e_po]); (try simp (disch := omega) only [nI_clamp]); omega) | (simp (disch := omega) only [mI_sI2, mI_sL, mI_sP, mI_sN, mI_sIr, mI_sLr, mL_sI, mL_sL2, mL_sP, mL_sN, mL_sIr, mL_sLr, mP_sI, mP_sL, mP_sN, mP_sIr, mP_sLr, e_po5, e_po8, e_po15, e_po20, e_po21, nI_clamp, n_lit, nI_add, if_pos, if_neg, and_self, if_true, e_clI, e_clP]; done) | ((try simp (disch := omega) only [mI_sI2, mI_sL, mI_sP, mI_sN, mI_sIr, mI_sLr, mL_sI, mL_sL2, mL_sP, mL_sN, mL_sIr, mL_sLr, mP_sI, mP_sL, mP_sN, mP_sIr, mP_sLr, e_po5, e_po8, e_po15, e_po20, e_po21, nI_clamp, n_lit, nI_add, if_pos, if_neg, and_self, if_true, e_clI, e_clP]); exact e_cnI (by omega)) | rfl | fail))) (by first | with_reducible rfl | (simp (disch := omega) only [mI_sI2, mI_sL, mI_sP, mI_sN, mI_sIr, mI_sLr, mL_sI, mL_sL2, mL_sP, mL_sN, mL_sIr, mL_sLr, mP_sI, mP_sL, mP_sN, mP_sIr, mP_sLr, e_po5, e_po8, e_po15, e_po20, e_po21, nI_clamp, n_lit, nI_add, if_pos, if_neg, and_self, if_true, e_clI, e_clP]; done) | rfl | fail)
  refine e_step rfl hc 60 [16] ?_
  repeat' (first | (with_reducible (intro h9; exact absurd rfl h9)) | (with_reducible (intro h9; exact absurd h9 e_10)) | (with_reducible (intro h9; first | exact absurd e_00 h9 | exact absurd h9 e_n10 | exact absurd h9 e_n20 | exact absurd h9 e_n30)) | (with_reducible intro _) | (refine And.intro ?_ ?_) | (with_reducible refine e_sw_nil ?_) | (refine e_fa (fun _ => ?_)) | (refine e_ctK ?_; first | (refine Ct.mono (Ct.ar rfl rfl (c_sideAt1 hl0 M hq)) ?_; intro o M' h8; obtain ⟨h9, rfl⟩ := h8; replace h9 := h9.symm; subst h9) | (refine Ct.mono (Ct.ar rfl rfl (c_sideAt0 hl0 M _ hS)) ?_; intro o M' h8; obtain ⟨⟨n, h9⟩, rfl⟩ := h8; subst h9) | (refine Ct.mono (Ct.ar rfl rfl (c_eventAt1 hl0 (p := (sAd (x + 50) q + 1)) M he hb hT)) ?_; intro o M' h8; obtain ⟨h9, rfl⟩ := h8; replace h9 := h9.symm; subst h9) | (refine Ct.mono (Ct.ar rfl rfl (c_eventAt0 hl0 (p := (sAd (x + 50) q + 1)) M _ hb hT)) ?_; intro o M' h8; obtain ⟨⟨n, h9⟩, rfl⟩ := h8; subst h9) | fail) | fail)
  all_goals first | (with_reducible refine e_goK ?_) | (with_reducible refine e_ctK ?_) | (with_reducible refine vp_inK ?_; (try simp (disch := omega) only [mI_sI2, mI_sL, mI_sP, mI_sN, mI_sIr, mI_sLr, mL_sI, mL_sL2, mL_sP, mL_sN, mL_sIr, mL_sLr, mP_sI, mP_sL, mP_sN, mP_sIr, mP_sLr, nI_add, nI_clamp]); exact vp_in_nI (by omega) (by omega)) | rfl | exact trivial | exact Nat.zero_le _ | exact (e_fit_01 _).1 | exact (e_fit_01 _).2 | (with_reducible refine vp_in_iff.mpr ?_; decide +kernel) | (with_reducible refine e_nz _ (by decide)) | decide | skip
  refine e_kk (K := K) ?_; refine e_kc (k16) (by (repeat' (first | (refine e_cc ?_ ?_) | (with_reducible rfl) | (refine e_pp ?_; (try simp (disch := omega) only [e_po5, e_po8, e_po15, e_po20, e_po21, nI_clamp]); (try dsimp only [e_pt, e_po]); (try simp (disch := omega) only [nI_clamp]); omega) | (refine e_pps ?_; (try simp (disch := omega) only [e_po5, e_po8, e_po15, e_po20, e_po21, nI_clamp]); (try dsimp only [e_pt, e_po]); (try simp (disch := omega) only [nI_clamp]); omega) | (simp (disch := omega) only [mI_sI2, mI_sL, mI_sP, mI_sN, mI_sIr, mI_sLr, mL_sI, mL_sL2, mL_sP, mL_sN, mL_sIr, mL_sLr, mP_sI, mP_sL, mP_sN, mP_sIr, mP_sLr, e_po5, e_po8, e_po15, e_po20, e_po21, nI_clamp, n_lit, nI_add, if_pos, if_neg, and_self, if_true, e_clI, e_clP]; done) | ((try simp (disch := omega) only [mI_sI2, mI_sL, mI_sP, mI_sN, mI_sIr, mI_sLr, mL_sI, mL_sL2, mL_sP, mL_sN, mL_sIr, mL_sLr, mP_sI, mP_sL, mP_sN, mP_sIr, mP_sLr, e_po5, e_po8, e_po15, e_po20, e_po21, nI_clamp, n_lit, nI_add, if_pos, if_neg, and_self, if_true, e_clI, e_clP]); exact e_cnI (by omega)) | rfl | fail))) (by (repeat' (first | (refine e_cc ?_ ?_) | (with_reducible rfl) | (refine e_pp ?_; (try simp (disch := omega) only [e_po5, e_po8, e_po15, e_po20, e_po21, nI_clamp]); (try dsimp only [e_pt, e_po]); (try simp (disch := omega) only [nI_clamp]); omega) | (refine e_pps ?_; (try simp (disch := omega) only [e_po5, e_po8, e_po15, e_po20, e_po21, nI_clamp]); (try dsimp only [e_pt, e_po]); (try simp (disch := omega) only [nI_clamp]); omega) | (simp (disch := omega) only [mI_sI2, mI_sL, mI_sP, mI_sN, mI_sIr, mI_sLr, mL_sI, mL_sL2, mL_sP, mL_sN, mL_sIr, mL_sLr, mP_sI, mP_sL, mP_sN, mP_sIr, mP_sLr, e_po5, e_po8, e_po15, e_po20, e_po21, nI_clamp, n_lit, nI_add, if_pos, if_neg, and_self, if_true, e_clI, e_clP]; done) | ((try simp (disch := omega) only [mI_sI2, mI_sL, mI_sP, mI_sN, mI_sIr, mI_sLr, mL_sI, mL_sL2, mL_sP, mL_sN, mL_sIr, mL_sLr, mP_sI, mP_sL, mP_sN, mP_sIr, mP_sLr, e_po5, e_po8, e_po15, e_po20, e_po21, nI_clamp, n_lit, nI_add, if_pos, if_neg, and_self, if_true, e_clI, e_clP]); exact e_cnI (by omega)) | rfl | fail))) (by first | with_reducible rfl | (simp (disch := omega) only [mI_sI2, mI_sL, mI_sP, mI_sN, mI_sIr, mI_sLr, mL_sI, mL_sL2, mL_sP, mL_sN, mL_sIr, mL_sLr, mP_sI, mP_sL, mP_sN, mP_sIr, mP_sLr, e_po5, e_po8, e_po15, e_po20, e_po21, nI_clamp, n_lit, nI_add, if_pos, if_neg, and_self, if_true, e_clI, e_clP]; done) | rfl | fail)
end
