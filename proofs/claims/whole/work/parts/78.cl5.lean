/-! THE CLASS: a pull. -/
section
variable {l : Launch} {g : EG}
theorem tc3 : Int32.toNatClampNeg 3 = 3 := by decide
theorem tc4 : Int32.toNatClampNeg 4 = 4 := by decide
theorem tc5 : Int32.toNatClampNeg 5 = 5 := by decide
theorem e_cnt_30 {b : Int32} (h0 : b.toBitVec.getLsbD 30 = false) (h1 : b.toBitVec.getLsbD 31 = false) : e_cnt b 32 = e_cnt b 30 := by
  rw [e_cnt_t b 32 (by omega), e_cnt_t b 30 (by omega)]
  show (if b.toBitVec.getLsbD 31 = true then (if b.toBitVec.getLsbD 30 = true then _ + 1 else _) + 1 else (if b.toBitVec.getLsbD 30 = true then _ + 1 else _)) = _
  rw [h0, h1]
  rfl
theorem rTb_lsb {f : Nat → Int32} : ∀ n, (∀ k, k < n → f k = -1 ∨ ∃ e, e < 8 ∧ f k = nI e) → ∀ j, 8 ≤ j → j < 32 → (rTb f n).toBitVec.getLsbD j = false
  | 0, _, j, _, _ => by rw [show rTb f 0 = 0 from rfl]; simp
  | n + 1, h, j, h8, hj => by
    have ih := rTb_lsb n (fun k hk => h k (by omega)) j h8 hj
    show (if f n = -1 then rTb f n else rTb f n ||| (1 <<< (f n &&& 31))).toBitVec.getLsbD j = false
    split
    · exact ih
    · rename_i hn
      obtain ⟨e, he, ee⟩ := (h n (by omega)).resolve_left hn
      rw [ee, Int32.toBitVec_or, BitVec.getLsbD_or, ih, one_lsb e (by omega) j hj]
      simp
      omega
theorem sTold_lsb {s : Nat → Int32} {nz q : Nat} (hv : sIv s nz) (hq : q < 2) {j : Nat} (h8 : 8 ≤ j) (hj : j < 32) : (sTold s q).toBitVec.getLsbD j = false := by
  show (if s (1 + q) < s 0 - 8 then e_bits (fun e => s (eAt 2 e) == 1) 8 else rTb (fun k => s (15 + ((s 23).toNatClampNeg - ((s 0).toNatClampNeg - (s (1 + q)).toNatClampNeg) + k))) ((s 0).toNatClampNeg - (s (1 + q)).toNatClampNeg)).toBitVec.getLsbD j = false
  obtain ⟨c2, L2, a1, a2, a3, a4, a5, a6⟩ := hv.1
  replace a1 : s 0 = nI c2 := a1
  replace a3 : s 23 = nI L2 := a3
  obtain ⟨t, t1, t2⟩ := a6 q hq
  replace t1 : s (1 + q) = nI t := t1
  by_cases cc : s (1 + q) < s 0 - 8
  · rw [if_pos cc, e_bits_lsb 8 (by omega) j hj]
    simp
    omega
  · rw [if_neg cc, a1, a3, t1, nI_clamp (by omega), nI_clamp (by omega), nI_clamp (by omega)]
    have hn : c2 - t ≤ 8 := by
      by_cases h8 : c2 < 8
      · omega
      · rw [t1, a1, show (8 : Int32) = nI 8 from rfl, Int32.lt_iff_toInt_lt, pk_sub_toInt (by omega) (by omega), nI_toInt (by omega)] at cc
        omega
    exact rTb_lsb _ (fun k hk => hv.2.2.2.2.1 _ L2 a3 (by omega) a4) j h8 hj
theorem sTold_cnt {s : Nat → Int32} {nz q : Nat} (hv : sIv s nz) (hq : q < 2) : e_cnt (sTold s q) 32 = e_cnt (sTold s q) 30 := e_cnt_30 (sTold_lsb hv hq (by omega) (by omega)) (sTold_lsb hv hq (by omega) (by omega))
theorem pPe_o {s : Nat → Int32} {q : Nat} (hq : q < 2) {j : Nat} : ∀ k, k ≤ 8 → (∀ e, e < k → j < eAt q e ∨ eAt q e + 136 ≤ j) → pPe s q k j = s j
  | 0, _, _ => rfl
  | k + 1, hk, h => by
    have ih := pPe_o (s := s) (j := j) hq k (by omega) (fun e he => h e (by omega))
    by_cases cc : pCh (pPe s q k) q k
    · rw [show pPe s q (k + 1) = _ from e_it cc]; exact ih
    · rw [show pPe s q (k + 1) = _ from e_if cc, rCpy_o (h k (by omega))]; exact ih
theorem pPe_r {s : Nat → Int32} {q : Nat} (hq : q < 2) {k p e i : Nat} (hk : k ≤ 8) (hp : p < 3) (he : e < 8) (hi : i < 136) (h : ¬ p = q ∨ k ≤ e) : pPe s q k (eAt p e + i) = s (eAt p e + i) := pPe_o hq k hk (fun e' he' => eAt_ne hp (by omega) he (by omega) hi (by omega))
theorem pPe_fl {s : Nat → Int32} {q : Nat} (hq : q < 2) {e i : Nat} (he : e < 8) (hi : i = 10 ∨ i = 11) : ∀ k, k ≤ 8 → (pPe s q k (eAt q e + i) = 1 ↔ s (eAt q e + i) = 1)
  | 0, _ => Iff.rfl
  | k + 1, hk => by
    have ih := pPe_fl (s := s) (i := i) hq he hi k (by omega)
    by_cases cc : pCh (pPe s q k) q k
    · rw [show pPe s q (k + 1) = _ from e_it cc]; exact ih
    · rw [show pPe s q (k + 1) = _ from e_if cc]
      by_cases ek : e = k
      · subst ek
        rw [rCpy_f hi]
        refine ⟨fun h => absurd h (by decide), fun h => absurd (ih.mpr h) (fun h => cc ?_)⟩
        rcases hi with rfl | rfl
        · exact Or.inl h
        · exact Or.inr h
      · rw [rCpy_o (eAt_ne (by omega) (by omega) he (by omega) (by omega) (Or.inl ek))]; exact ih
theorem pPcz_o {s : Nat → Int32} {q j : Nat} (hq : q < 2) (h : j = 0 ∨ 15 ≤ j) (h2 : j < 24 + 1100 * q ∨ 36 + 1100 * q ≤ j) : pPz (pPc s q) q 12 j = s j := by
  rw [pPz_o (by omega)]
  unfold pPc pCnt
  rw [wS_o (by omega), wS_o (by omega), wS_o (by omega)]
theorem pPcz_r {s : Nat → Int32} {q p e i : Nat} (hq : q < 2) (hp : p < 3) (he : e < 8) (hi : i < 136) : pPz (pPc s q) q 12 (eAt p e + i) = s (eAt p e + i) := pPcz_o hq (by unfold eAt; omega) (by
  unfold eAt
  rcases (show p = 0 ∨ p = 1 ∨ p = 2 by omega) with rfl | rfl | rfl <;> rcases (show q = 0 ∨ q = 1 by omega) with rfl | rfl <;> omega)
def plP (M M' : EM) (x q nz : Nat) (s : Nat → Int32) : Prop := Rx M' x (pPl s q) nz ∧ e_fr M M' x (x + 145)
set_option maxRecDepth 20000 in
theorem c_pullTo (hl0 : l.stackTraces = false) {x q c nz : Nat} {s : Nat → Int32} (M : EM) (h : Rx M x s nz) (hv : sIv s nz) (hq : q < 2) (hc : s 0 = nI c) (hcb : c < 2 ^ 20) : Ct l g sg_X3_pullTo [.inr (.inr (.inr (.inr (14, x)))), .inl (nI q)] M (fun o M' => BX (plP M M' x q nz s) ∧ o = .inl (some (.inl (nI (e_cnt (sTold s q) 30))))) := by
  refine sem_of hl0 mt_X3_pullTo ok_X3_pullTo rfl (fun K hcc hw => ?_)
  have es : sAd x q = x + 47 + (1 + 48 * q) := by show x + 48 + 48 * q = _; omega
  have es2 : sAd x q = x + 48 + 48 * q := rfl
  have epq : pAd x q = sAd x q + 1 := by rw [pAd_q hq]; show _ = x + 48 + 48 * q + 1; omega
  have hL := hv.Lg
  have hnz := hv.2.2.2.2.2
  obtain ⟨t, ht, htc⟩ : ∃ t, s (1 + q) = nI t ∧ t ≤ c := by
    obtain ⟨c2, L2, a1, a2, a3, a4, a5, a6⟩ := hv.1
    obtain ⟨t, t1, t2⟩ := a6 q hq
    have ec2 : c2 = c := (nI_eq (by omega) (by omega)).mp (Eq.trans (Eq.symm a1) hc)
    exact ⟨t, t1, by omega⟩
  have hx0 : mI M x 0 = nI c := by
    obtain ⟨c', L, e0, c1, eL, hL8, hLc, hx, hl⟩ := h.1.1
    exact hx.trans (e0.symm.trans hc)
  have htk : mI M (sAd x q) 1 = nI t := (h.1.2.2.2 q hq).1.trans ht
  have hold : e_01 (nI t < nI c - 8) = sOld s q := by unfold sOld; rw [ht, hc]
  have k54 : K 54 [some (.inr (.inr (.inr (.inr (14, x))))), some (.inl (nI q)), some (.inr (.inr (.inr (.inr (16, sAd x q))))), some (.inl (nI (e_cnt (sTold s q) 30))), none] [] (sI (sI M (sAd x q + 47) 3 (mI M (sAd x q + 47) 3 + 1)) (sAd x q + 47) 4 (mI (sI M (sAd x q + 47) 3 (mI M (sAd x q + 47) 3 + 1)) (sAd x q + 47) 4 + sOld s q)) 0 0 := by
    sorry
  have hmx : mI (sI M (sAd x q + 47) 3 (mI M (sAd x q + 47) 3 + 1)) x 0 = nI c := by rw [mI_sI2, if_neg (by omega)]; exact hx0
  have k19 : K 19 [some (.inr (.inr (.inr (.inr (14, x))))), some (.inl (nI q)), some (.inr (.inr (.inr (.inr (16, sAd x q))))), some (.inl (nI (e_cnt (sTold s q) 30))), none] [] M 0 0 := by
    by_cases cc : nI t < nI c - 8
    · have hso : sOld s q = 1 := hold.symm.trans (e_01_t cc)
      rw [hso] at k54
      refine e_step rfl hcc 60 [54] ?_
      repeat' (first | (with_reducible (intro h9; exact absurd rfl h9)) | (with_reducible (intro h9; exact absurd h9 e_10)) | (with_reducible (intro h9; first | exact absurd e_00 h9 | exact absurd h9 e_n10 | exact absurd h9 e_n20 | exact absurd h9 e_n30)) | (with_reducible intro _) | (refine And.intro ?_ ?_) | (with_reducible refine e_sw_nil ?_) | (refine e_ctK ?_; first | (refine Ct.mono (Ct.ar (by (repeat' (first | (refine e_cc ?_ ?_) | (with_reducible rfl) | ((try dsimp only [e_pt, e_po]); simp (disch := omega) only [mI_sI2, tc3, tc4, tc5, e_po5, e_po8, e_po15, e_po20, e_po21, if_pos, if_neg, nI_clamp, and_self, if_true, htk]; done) | ((try dsimp only [e_pt, e_po]); (try simp (disch := omega) only [mI_sI2, tc3, tc4, tc5, e_po5, e_po8, e_po15, e_po20, e_po21, if_pos, if_neg, nI_clamp, and_self, if_true]); exact congrArg Sum.inl (by first | rfl | assumption)) | fail))) (by first | with_reducible rfl | ((try dsimp only [e_pt, e_po]); simp (disch := omega) only [mI_sI2, tc3, tc4, tc5, e_po5, e_po8, e_po15, e_po20, e_po21, if_pos, if_neg, nI_clamp, and_self, if_true]; done) | rfl | fail) (c_xisTooOld hl0 (x := x) (sI M (sAd x q + 47) 3 (mI M (sAd x q + 47) 3 + 1)) (nI t))) ?_; intro o M' h8; obtain ⟨h9, rfl⟩ := h8; replace h9 := h9.symm; subst h9) | fail) | fail)
      all_goals first | (with_reducible refine e_goK ?_) | (with_reducible refine e_ctK ?_) | (with_reducible refine vp_inK ?_; (try simp (disch := omega) only [mI_sI2, mI_sL, mI_sP, mI_sN, mI_sIr, mI_sLr, mL_sI, mL_sL2, mL_sP, mL_sN, mL_sIr, mL_sLr, mP_sI, mP_sL, mP_sN, mP_sIr, mP_sLr, nI_add, nI_clamp]); exact vp_in_nI (by omega) (by omega)) | rfl | exact trivial | exact Nat.zero_le _ | exact (e_fit_01 _).1 | exact (e_fit_01 _).2 | (with_reducible refine vp_in_iff.mpr ?_; decide +kernel) | (with_reducible refine e_nz _ (by decide)) | decide | skip
      · rename_i g1; rw [hmx, e_01_t cc] at g1; exact absurd g1 (by decide)
      · refine e_kk (K := K) ?_; refine e_kc (k54) (by (repeat' (first | (refine e_cc ?_ ?_) | (with_reducible rfl) | (refine e_pp ?_; (try simp (disch := omega) only [e_po5, e_po8, e_po15, e_po20, e_po21, nI_clamp]); (try dsimp only [e_pt, e_po]); (try simp (disch := omega) only [nI_clamp]); omega) | (refine e_pps ?_; (try simp (disch := omega) only [e_po5, e_po8, e_po15, e_po20, e_po21, nI_clamp]); (try dsimp only [e_pt, e_po]); (try simp (disch := omega) only [nI_clamp]); omega) | (simp (disch := omega) only [mI_sI2, mI_sL, mI_sP, mI_sN, mI_sIr, mI_sLr, mL_sI, mL_sL2, mL_sP, mL_sN, mL_sIr, mL_sLr, mP_sI, mP_sL, mP_sN, mP_sIr, mP_sLr, e_po5, e_po8, e_po15, e_po20, e_po21, nI_clamp, n_lit, nI_add, if_pos, if_neg, and_self, if_true, e_clI, e_clP]; done) | ((try simp (disch := omega) only [mI_sI2, mI_sL, mI_sP, mI_sN, mI_sIr, mI_sLr, mL_sI, mL_sL2, mL_sP, mL_sN, mL_sIr, mL_sLr, mP_sI, mP_sL, mP_sN, mP_sIr, mP_sLr, e_po5, e_po8, e_po15, e_po20, e_po21, nI_clamp, n_lit, nI_add, if_pos, if_neg, and_self, if_true, e_clI, e_clP]); exact e_cnI (by omega)) | rfl | fail))) (by (repeat' (first | (refine e_cc ?_ ?_) | (with_reducible rfl) | (refine e_pp ?_; (try simp (disch := omega) only [e_po5, e_po8, e_po15, e_po20, e_po21, nI_clamp]); (try dsimp only [e_pt, e_po]); (try simp (disch := omega) only [nI_clamp]); omega) | (refine e_pps ?_; (try simp (disch := omega) only [e_po5, e_po8, e_po15, e_po20, e_po21, nI_clamp]); (try dsimp only [e_pt, e_po]); (try simp (disch := omega) only [nI_clamp]); omega) | (simp (disch := omega) only [mI_sI2, mI_sL, mI_sP, mI_sN, mI_sIr, mI_sLr, mL_sI, mL_sL2, mL_sP, mL_sN, mL_sIr, mL_sLr, mP_sI, mP_sL, mP_sN, mP_sIr, mP_sLr, e_po5, e_po8, e_po15, e_po20, e_po21, nI_clamp, n_lit, nI_add, if_pos, if_neg, and_self, if_true, e_clI, e_clP]; done) | ((try simp (disch := omega) only [mI_sI2, mI_sL, mI_sP, mI_sN, mI_sIr, mI_sLr, mL_sI, mL_sL2, mL_sP, mL_sN, mL_sIr, mL_sLr, mP_sI, mP_sL, mP_sN, mP_sIr, mP_sLr, e_po5, e_po8, e_po15, e_po20, e_po21, nI_clamp, n_lit, nI_add, if_pos, if_neg, and_self, if_true, e_clI, e_clP]); exact e_cnI (by omega)) | rfl | fail))) (by first | with_reducible rfl | ((try dsimp only [e_pt, e_po]); simp (disch := omega) only [mI_sI2, tc3, tc4, tc5, e_po5, e_po8, e_po15, e_po20, e_po21, if_pos, if_neg, nI_clamp, and_self, if_true]; done) | rfl | fail)
    · have hso : sOld s q = 0 := hold.symm.trans (e_01_f cc)
      rw [hso] at k54
      refine e_step rfl hcc 60 [54] ?_
      repeat' (first | (with_reducible (intro h9; exact absurd rfl h9)) | (with_reducible (intro h9; exact absurd h9 e_10)) | (with_reducible (intro h9; first | exact absurd e_00 h9 | exact absurd h9 e_n10 | exact absurd h9 e_n20 | exact absurd h9 e_n30)) | (with_reducible intro _) | (refine And.intro ?_ ?_) | (with_reducible refine e_sw_nil ?_) | (refine e_ctK ?_; first | (refine Ct.mono (Ct.ar (by (repeat' (first | (refine e_cc ?_ ?_) | (with_reducible rfl) | ((try dsimp only [e_pt, e_po]); simp (disch := omega) only [mI_sI2, tc3, tc4, tc5, e_po5, e_po8, e_po15, e_po20, e_po21, if_pos, if_neg, nI_clamp, and_self, if_true, htk]; done) | ((try dsimp only [e_pt, e_po]); (try simp (disch := omega) only [mI_sI2, tc3, tc4, tc5, e_po5, e_po8, e_po15, e_po20, e_po21, if_pos, if_neg, nI_clamp, and_self, if_true]); exact congrArg Sum.inl (by first | rfl | assumption)) | fail))) (by first | with_reducible rfl | ((try dsimp only [e_pt, e_po]); simp (disch := omega) only [mI_sI2, tc3, tc4, tc5, e_po5, e_po8, e_po15, e_po20, e_po21, if_pos, if_neg, nI_clamp, and_self, if_true]; done) | rfl | fail) (c_xisTooOld hl0 (x := x) (sI M (sAd x q + 47) 3 (mI M (sAd x q + 47) 3 + 1)) (nI t))) ?_; intro o M' h8; obtain ⟨h9, rfl⟩ := h8; replace h9 := h9.symm; subst h9) | fail) | fail)
      all_goals first | (with_reducible refine e_goK ?_) | (with_reducible refine e_ctK ?_) | (with_reducible refine vp_inK ?_; (try simp (disch := omega) only [mI_sI2, mI_sL, mI_sP, mI_sN, mI_sIr, mI_sLr, mL_sI, mL_sL2, mL_sP, mL_sN, mL_sIr, mL_sLr, mP_sI, mP_sL, mP_sN, mP_sIr, mP_sLr, nI_add, nI_clamp]); exact vp_in_nI (by omega) (by omega)) | rfl | exact trivial | exact Nat.zero_le _ | exact (e_fit_01 _).1 | exact (e_fit_01 _).2 | (with_reducible refine vp_in_iff.mpr ?_; decide +kernel) | (with_reducible refine e_nz _ (by decide)) | decide | skip
      · refine e_kk (K := K) ?_; refine e_kc (k54) (by (repeat' (first | (refine e_cc ?_ ?_) | (with_reducible rfl) | (refine e_pp ?_; (try simp (disch := omega) only [e_po5, e_po8, e_po15, e_po20, e_po21, nI_clamp]); (try dsimp only [e_pt, e_po]); (try simp (disch := omega) only [nI_clamp]); omega) | (refine e_pps ?_; (try simp (disch := omega) only [e_po5, e_po8, e_po15, e_po20, e_po21, nI_clamp]); (try dsimp only [e_pt, e_po]); (try simp (disch := omega) only [nI_clamp]); omega) | (simp (disch := omega) only [mI_sI2, mI_sL, mI_sP, mI_sN, mI_sIr, mI_sLr, mL_sI, mL_sL2, mL_sP, mL_sN, mL_sIr, mL_sLr, mP_sI, mP_sL, mP_sN, mP_sIr, mP_sLr, e_po5, e_po8, e_po15, e_po20, e_po21, nI_clamp, n_lit, nI_add, if_pos, if_neg, and_self, if_true, e_clI, e_clP]; done) | ((try simp (disch := omega) only [mI_sI2, mI_sL, mI_sP, mI_sN, mI_sIr, mI_sLr, mL_sI, mL_sL2, mL_sP, mL_sN, mL_sIr, mL_sLr, mP_sI, mP_sL, mP_sN, mP_sIr, mP_sLr, e_po5, e_po8, e_po15, e_po20, e_po21, nI_clamp, n_lit, nI_add, if_pos, if_neg, and_self, if_true, e_clI, e_clP]); exact e_cnI (by omega)) | rfl | fail))) (by (repeat' (first | (refine e_cc ?_ ?_) | (with_reducible rfl) | (refine e_pp ?_; (try simp (disch := omega) only [e_po5, e_po8, e_po15, e_po20, e_po21, nI_clamp]); (try dsimp only [e_pt, e_po]); (try simp (disch := omega) only [nI_clamp]); omega) | (refine e_pps ?_; (try simp (disch := omega) only [e_po5, e_po8, e_po15, e_po20, e_po21, nI_clamp]); (try dsimp only [e_pt, e_po]); (try simp (disch := omega) only [nI_clamp]); omega) | (simp (disch := omega) only [mI_sI2, mI_sL, mI_sP, mI_sN, mI_sIr, mI_sLr, mL_sI, mL_sL2, mL_sP, mL_sN, mL_sIr, mL_sLr, mP_sI, mP_sL, mP_sN, mP_sIr, mP_sLr, e_po5, e_po8, e_po15, e_po20, e_po21, nI_clamp, n_lit, nI_add, if_pos, if_neg, and_self, if_true, e_clI, e_clP]; done) | ((try simp (disch := omega) only [mI_sI2, mI_sL, mI_sP, mI_sN, mI_sIr, mI_sLr, mL_sI, mL_sL2, mL_sP, mL_sN, mL_sIr, mL_sLr, mP_sI, mP_sL, mP_sN, mP_sIr, mP_sLr, e_po5, e_po8, e_po15, e_po20, e_po21, nI_clamp, n_lit, nI_add, if_pos, if_neg, and_self, if_true, e_clI, e_clP]); exact e_cnI (by omega)) | rfl | fail))) (by first | with_reducible rfl | ((try dsimp only [e_pt, e_po]); simp (disch := omega) only [mI_sI2, tc3, tc4, tc5, e_po5, e_po8, e_po15, e_po20, e_po21, if_pos, if_neg, nI_clamp, and_self, if_true]; done) | rfl | fail)
      · rename_i g1; rw [hmx, e_01_f cc] at g1; exact absurd rfl g1
  have hn : e_cnt (if nI t < nI c - 8 then e_bits (e_thr M (x + 1)) 8 else cTb (fun b => mI M (x + 144) ((c - b) % 8)) (c - t)) 32 = e_cnt (sTold s q) 30 := by
    rw [told_v h.1 hv hq hc ht htc hcb, sTold_cnt hv hq]
  have k7 : K 7 [some (.inr (.inr (.inr (.inr (14, x))))), some (.inl (nI q)), some (.inr (.inr (.inr (.inr (16, sAd x q))))), none, none] [] M 0 0 := by
    rw [← hn] at k19
    refine e_step rfl hcc 60 [19] ?_
    repeat' (first | (with_reducible (intro h9; exact absurd rfl h9)) | (with_reducible (intro h9; exact absurd h9 e_10)) | (with_reducible (intro h9; first | exact absurd e_00 h9 | exact absurd h9 e_n10 | exact absurd h9 e_n20 | exact absurd h9 e_n30)) | (with_reducible intro _) | (refine And.intro ?_ ?_) | (with_reducible refine e_sw_nil ?_) | (refine e_ctK ?_; first | (refine Ct.mono (Ct.ar (by (repeat' (first | (refine e_cc ?_ ?_) | (with_reducible rfl) | ((try dsimp only [e_pt, e_po]); simp (disch := omega) only [mI_sI2, tc3, tc4, tc5, e_po5, e_po8, e_po15, e_po20, e_po21, if_pos, if_neg, nI_clamp, and_self, if_true, htk]; done) | ((try dsimp only [e_pt, e_po]); (try simp (disch := omega) only [mI_sI2, tc3, tc4, tc5, e_po5, e_po8, e_po15, e_po20, e_po21, if_pos, if_neg, nI_clamp, and_self, if_true]); exact congrArg Sum.inl (by first | rfl | assumption)) | fail))) (by first | with_reducible rfl | ((try dsimp only [e_pt, e_po]); simp (disch := omega) only [mI_sI2, tc3, tc4, tc5, e_po5, e_po8, e_po15, e_po20, e_po21, if_pos, if_neg, nI_clamp, and_self, if_true]; done) | rfl | fail) (c_toldBehind hl0 (x := x) (c := c) (t := t) M hx0 hcb htc)) ?_; intro o M' h8; obtain ⟨h9, rfl⟩ := h8; replace h9 := h9.symm; subst h9) | (refine Ct.mono (c_bitCount_0f7a4 hl0 M _) ?_; intro o M' h8; obtain ⟨h9, rfl⟩ := h8; replace h9 := h9.symm; subst h9) | fail) | fail)
    all_goals first | (with_reducible refine e_goK ?_) | (with_reducible refine e_ctK ?_) | (with_reducible refine vp_inK ?_; (try simp (disch := omega) only [mI_sI2, mI_sL, mI_sP, mI_sN, mI_sIr, mI_sLr, mL_sI, mL_sL2, mL_sP, mL_sN, mL_sIr, mL_sLr, mP_sI, mP_sL, mP_sN, mP_sIr, mP_sLr, nI_add, nI_clamp]); exact vp_in_nI (by omega) (by omega)) | rfl | exact trivial | exact Nat.zero_le _ | exact (e_fit_01 _).1 | exact (e_fit_01 _).2 | (with_reducible refine vp_in_iff.mpr ?_; decide +kernel) | (with_reducible refine e_nz _ (by decide)) | decide | skip
    refine e_kk (K := K) ?_; refine e_kc (k19) (by (repeat' (first | (refine e_cc ?_ ?_) | (with_reducible rfl) | (refine e_pp ?_; (try simp (disch := omega) only [e_po5, e_po8, e_po15, e_po20, e_po21, nI_clamp]); (try dsimp only [e_pt, e_po]); (try simp (disch := omega) only [nI_clamp]); omega) | (refine e_pps ?_; (try simp (disch := omega) only [e_po5, e_po8, e_po15, e_po20, e_po21, nI_clamp]); (try dsimp only [e_pt, e_po]); (try simp (disch := omega) only [nI_clamp]); omega) | (simp (disch := omega) only [mI_sI2, mI_sL, mI_sP, mI_sN, mI_sIr, mI_sLr, mL_sI, mL_sL2, mL_sP, mL_sN, mL_sIr, mL_sLr, mP_sI, mP_sL, mP_sN, mP_sIr, mP_sLr, e_po5, e_po8, e_po15, e_po20, e_po21, nI_clamp, n_lit, nI_add, if_pos, if_neg, and_self, if_true, e_clI, e_clP]; done) | ((try simp (disch := omega) only [mI_sI2, mI_sL, mI_sP, mI_sN, mI_sIr, mI_sLr, mL_sI, mL_sL2, mL_sP, mL_sN, mL_sIr, mL_sLr, mP_sI, mP_sL, mP_sN, mP_sIr, mP_sLr, e_po5, e_po8, e_po15, e_po20, e_po21, nI_clamp, n_lit, nI_add, if_pos, if_neg, and_self, if_true, e_clI, e_clP]); exact e_cnI (by omega)) | rfl | fail))) (by (repeat' (first | (refine e_cc ?_ ?_) | (with_reducible rfl) | (refine e_pp ?_; (try simp (disch := omega) only [e_po5, e_po8, e_po15, e_po20, e_po21, nI_clamp]); (try dsimp only [e_pt, e_po]); (try simp (disch := omega) only [nI_clamp]); omega) | (refine e_pps ?_; (try simp (disch := omega) only [e_po5, e_po8, e_po15, e_po20, e_po21, nI_clamp]); (try dsimp only [e_pt, e_po]); (try simp (disch := omega) only [nI_clamp]); omega) | (simp (disch := omega) only [mI_sI2, mI_sL, mI_sP, mI_sN, mI_sIr, mI_sLr, mL_sI, mL_sL2, mL_sP, mL_sN, mL_sIr, mL_sLr, mP_sI, mP_sL, mP_sN, mP_sIr, mP_sLr, e_po5, e_po8, e_po15, e_po20, e_po21, nI_clamp, n_lit, nI_add, if_pos, if_neg, and_self, if_true, e_clI, e_clP]; done) | ((try simp (disch := omega) only [mI_sI2, mI_sL, mI_sP, mI_sN, mI_sIr, mI_sLr, mL_sI, mL_sL2, mL_sP, mL_sN, mL_sIr, mL_sLr, mP_sI, mP_sL, mP_sN, mP_sIr, mP_sLr, e_po5, e_po8, e_po15, e_po20, e_po21, nI_clamp, n_lit, nI_add, if_pos, if_neg, and_self, if_true, e_clI, e_clP]); exact e_cnI (by omega)) | rfl | fail))) (by first | with_reducible rfl | ((try dsimp only [e_pt, e_po]); simp (disch := omega) only [mI_sI2, tc3, tc4, tc5, e_po5, e_po8, e_po15, e_po20, e_po21, if_pos, if_neg, nI_clamp, and_self, if_true]; done) | rfl | fail)
  refine e_step rfl hcc 60 [7] ?_
  repeat' (first | (with_reducible (intro h9; exact absurd rfl h9)) | (with_reducible (intro h9; exact absurd h9 e_10)) | (with_reducible (intro h9; first | exact absurd e_00 h9 | exact absurd h9 e_n10 | exact absurd h9 e_n20 | exact absurd h9 e_n30)) | (with_reducible intro _) | (refine And.intro ?_ ?_) | (with_reducible refine e_sw_nil ?_) | fail)
  all_goals first | (with_reducible refine e_goK ?_) | (with_reducible refine e_ctK ?_) | (with_reducible refine vp_inK ?_; (try simp (disch := omega) only [mI_sI2, mI_sL, mI_sP, mI_sN, mI_sIr, mI_sLr, mL_sI, mL_sL2, mL_sP, mL_sN, mL_sIr, mL_sLr, mP_sI, mP_sL, mP_sN, mP_sIr, mP_sLr, nI_add, nI_clamp]); exact vp_in_nI (by omega) (by omega)) | rfl | exact trivial | exact Nat.zero_le _ | exact (e_fit_01 _).1 | exact (e_fit_01 _).2 | (with_reducible refine vp_in_iff.mpr ?_; decide +kernel) | (with_reducible refine e_nz _ (by decide)) | decide | skip
  refine e_kk (K := K) ?_; refine e_kc (k7) (by (repeat' (first | (refine e_cc ?_ ?_) | (with_reducible rfl) | (refine e_pp ?_; (try simp (disch := omega) only [e_po5, e_po8, e_po15, e_po20, e_po21, nI_clamp]); (try dsimp only [e_pt, e_po]); (try simp (disch := omega) only [nI_clamp]); omega) | (refine e_pps ?_; (try simp (disch := omega) only [e_po5, e_po8, e_po15, e_po20, e_po21, nI_clamp]); (try dsimp only [e_pt, e_po]); (try simp (disch := omega) only [nI_clamp]); omega) | (simp (disch := omega) only [mI_sI2, mI_sL, mI_sP, mI_sN, mI_sIr, mI_sLr, mL_sI, mL_sL2, mL_sP, mL_sN, mL_sIr, mL_sLr, mP_sI, mP_sL, mP_sN, mP_sIr, mP_sLr, e_po5, e_po8, e_po15, e_po20, e_po21, nI_clamp, n_lit, nI_add, if_pos, if_neg, and_self, if_true, e_clI, e_clP]; done) | ((try simp (disch := omega) only [mI_sI2, mI_sL, mI_sP, mI_sN, mI_sIr, mI_sLr, mL_sI, mL_sL2, mL_sP, mL_sN, mL_sIr, mL_sLr, mP_sI, mP_sL, mP_sN, mP_sIr, mP_sLr, e_po5, e_po8, e_po15, e_po20, e_po21, nI_clamp, n_lit, nI_add, if_pos, if_neg, and_self, if_true, e_clI, e_clP]); exact e_cnI (by omega)) | rfl | fail))) (by (repeat' (first | (refine e_cc ?_ ?_) | (with_reducible rfl) | (refine e_pp ?_; (try simp (disch := omega) only [e_po5, e_po8, e_po15, e_po20, e_po21, nI_clamp]); (try dsimp only [e_pt, e_po]); (try simp (disch := omega) only [nI_clamp]); omega) | (refine e_pps ?_; (try simp (disch := omega) only [e_po5, e_po8, e_po15, e_po20, e_po21, nI_clamp]); (try dsimp only [e_pt, e_po]); (try simp (disch := omega) only [nI_clamp]); omega) | (simp (disch := omega) only [mI_sI2, mI_sL, mI_sP, mI_sN, mI_sIr, mI_sLr, mL_sI, mL_sL2, mL_sP, mL_sN, mL_sIr, mL_sLr, mP_sI, mP_sL, mP_sN, mP_sIr, mP_sLr, e_po5, e_po8, e_po15, e_po20, e_po21, nI_clamp, n_lit, nI_add, if_pos, if_neg, and_self, if_true, e_clI, e_clP]; done) | ((try simp (disch := omega) only [mI_sI2, mI_sL, mI_sP, mI_sN, mI_sIr, mI_sLr, mL_sI, mL_sL2, mL_sP, mL_sN, mL_sIr, mL_sLr, mP_sI, mP_sL, mP_sN, mP_sIr, mP_sLr, e_po5, e_po8, e_po15, e_po20, e_po21, nI_clamp, n_lit, nI_add, if_pos, if_neg, and_self, if_true, e_clI, e_clP]); exact e_cnI (by omega)) | rfl | fail))) (by first | with_reducible rfl | (simp (disch := omega) only [mI_sI2, mI_sL, mI_sP, mI_sN, mI_sIr, mI_sLr, mL_sI, mL_sL2, mL_sP, mL_sN, mL_sIr, mL_sLr, mP_sI, mP_sL, mP_sN, mP_sIr, mP_sLr, e_po5, e_po8, e_po15, e_po20, e_po21, nI_clamp, n_lit, nI_add, if_pos, if_neg, and_self, if_true, e_clI, e_clP]; done) | rfl | fail)
end
