/-! THE RELATION: merged, refused. -/
section
variable {l : Launch} {g : EG}
theorem nSA {x p q e : Nat} (hp : p < 3) (hq : q < 2) (he : e < 8) : sAd x q + 47 < vAd x p e ∨ vAd x p e + 5 ≤ sAd x q + 47 := by
  show x + 48 + 48 * q + 47 < _ ∨ _ ≤ x + 48 + 48 * q + 47
  unfold vAd pAd
  rcases (show p = 0 ∨ p = 1 ∨ p = 2 by omega) with rfl | rfl | rfl <;> rcases (show q = 0 ∨ q = 1 by omega) with rfl | rfl <;> simp <;> omega
def cRf (M M' : EM) (a b S w : Nat) : Prop := ∃ M3, e_fr M M3 a (a + 5) ∧ qE M3 a M b ∧ M' = sI M3 (S + 47) w (mI M3 (S + 47) w + 1)
/-- a side's event becomes the store's, over a memory M1 that holds the row s1 but for that event -/
theorem Rx0.ref {M M' : EM} {x nz q e w : Nat} {s : Nat → Int32} (h : Rx0 M x s nz) (hnz : nz ≤ 3) (hq : q < 2) (he : e < 8) (hw : w < 6) (hst : s (eAt 2 e) = 0 → s (eAt 2 e + 9) = -1) (hM : cRf M M' (vAd x q e) (vAd x 2 e) (sAd x q) w) : Rx0 M' x (pCnt (rCpy s (eAt 2 e) (eAt q e)) q w 1) nz := by
  have ra := vAd_rng (x := x) (p := q) (e := e) (by omega) he
  have rb := vAd_rng (x := x) (p := 2) (e := e) (by omega) he
  have hab := vAd_ne (x := x) (p := q) (e := e) (p' := 2) (e' := e) (by omega) he (by omega) he (by omega)
  have nSa := nSA (x := x) (p := q) (q := q) (e := e) (by omega) hq he
  have nSb := nSA (x := x) (p := 2) (q := q) (e := e) (by omega) hq he
  have eS : sAd x q + 47 = x + 95 + 48 * q := by show x + 48 + 48 * q + 47 = _; omega
  have rA := eAt_rng (p := q) (e := e) (by omega) he
  have rB := eAt_rng (p := 2) (e := e) (by omega) he
  have hap : eAt q e + 136 ≤ eAt 2 e := by unfold eAt; omega
  obtain ⟨M3, f1, f2, rfl⟩ := hM
  have f1i := fun cc (hcc : cc < vAd x q e ∨ vAd x q e + 5 ≤ cc) j => f1.i hcc j
  have f1k := fun cc (hcc : cc < vAd x q e ∨ vAd x q e + 5 ≤ cc) j => f1.k hcc j
  have row : ∀ j, j < 136 → ¬ j = 10 → ¬ j = 11 → pCnt (rCpy s (eAt 2 e) (eAt q e)) q w 1 (eAt q e + j) = s (eAt 2 e + j) := by
    intro j hj h10 h11
    rw [pCnt_lo (by omega) hq hw]
    by_cases h9 : j = 9 ∧ s (eAt 2 e) = 0
    · obtain ⟨rfl, h0⟩ := h9
      rw [rCpy_9 h0, hst h0]
    · exact rCpy_i hj h10 h11 h9
  have hb := h.2.2.1 2 (by omega) e he
  refine Rx0.mod h hnz hq he (h.1.c ?_ ?_ ?_) ?_ ?_ ?_ ?_ ?_ ?_ ?_
  · rw [mI_sI2, if_neg (by omega), f1i x (by omega)]
  · intro j; rw [mI_sI2, if_neg (by omega), f1i (x + 144) (by omega)]
  · intro j hj; rw [pCnt_lo (by omega) hq hw, rCpy_o (by omega)]
  · intro cc j h1 h2 h3 h4 h5
    exact ⟨by rw [mI_sI2, if_neg (by omega), f1i cc h3], by rw [show mL (sI M3 (sAd x q + 47) w (mI M3 (sAd x q + 47) w + 1)) = mL M3 from rfl, f1k cc h3]⟩
  · intro j h1 h2 h3 h4
    rw [pCnt_o hq hw h1, rCpy_o h3]
  · intro t ht
    rw [pCnt_lo (by omega) hq hw, rCpy_o (by omega)]
  · intro w' hw'
    have e2 : ∀ w', w' < 6 → mI M3 (sAd x q + 47) w' = s (3 + 6 * q + w') := fun w' hw' => by rw [f1i _ nSa]; exact (h.2.2.2 q hq).2 w' hw'
    unfold pCnt
    rw [rCpy_o (by omega), mI_sI2]
    by_cases h0 : w' = w
    · subst h0
      rw [if_pos ⟨rfl, rfl⟩, wS_e, e2 _ hw']
    · rw [if_neg (by omega), wS_o (by omega), rCpy_o (by omega)]
      exact e2 w' hw'
  · intro q' w' hq' hqq hw'
    unfold pCnt
    rw [wS_o (by omega), rCpy_o (by omega)]
  · refine ((hb.q f2).loc (M' := sI M3 (sAd x q + 47) w (mI M3 (sAd x q + 47) w + 1)) (fun cc j h1 h2 => ⟨?_, rfl⟩)).c (fun j hj h10 h11 => row j hj h10 h11)
    rw [mI_sI2, if_neg (by omega)]
  · refine (hb.loc (M' := sI M3 (sAd x q + 47) w (mI M3 (sAd x q + 47) w + 1)) (fun cc j h1 h2 => ⟨?_, ?_⟩)).c (fun j hj h10 h11 => ?_)
    · rw [mI_sI2, if_neg (by omega), f1i cc (by omega)]
    · rw [show mL (sI M3 (sAd x q + 47) w (mI M3 (sAd x q + 47) w + 1)) = mL M3 from rfl, f1k cc (by omega)]
    · show pCnt (rCpy s (eAt 2 e) (eAt q e)) q w 1 (eAt 2 e + j) = s (eAt 2 e + j)
      rw [pCnt_o hq hw (by omega), rCpy_o (by omega)]
/-- the store's event takes the answers of a side's, and a new version -/
def cMg (M M2 : EM) (x a b q e c : Nat) : Prop := M2 = sI (sI (sI (sL (sI M (b + 3) q (mI M (a + 3) q)) (b + 4) q (mL M (a + 4) q &&& (((1 <<< ((2 * mI M b 10).toInt64 &&& 63))) - 1))) x 0 (nI (c + 1))) (x + 144) ((c + 1) % 8) (nI e)) b 9 (nI (c + 1))
theorem Rx0.mg {M M2 : EM} {x nz q e c : Nat} {s : Nat → Int32} (h : Rx0 M x s nz) (hnz : nz ≤ 3) (hq : q < 2) (he : e < 8) (hL : sLg s) (hA1 : s (eAt q e) = 1) (hB1 : s (eAt 2 e) = 1) (hc : s 0 = nI c) (hcb : c + 1 < 2 ^ 20) (hM : cMg M M2 x (vAd x q e) (vAd x 2 e) q e c) : Rx0 M2 x (pMg2 (pMg1 (rChg s (nI e)) q e (rDt (fun j => rChg s (nI e) (eAt 2 e + j))).length) q e) nz := by
  have ra := vAd_rng (x := x) (p := q) (e := e) (by omega) he
  have rb := vAd_rng (x := x) (p := 2) (e := e) (by omega) he
  have hab := vAd_ne (x := x) (p := q) (e := e) (p' := 2) (e' := e) (by omega) he (by omega) he (by omega)
  have rA := eAt_rng (p := q) (e := e) (by omega) he
  have rB := eAt_rng (p := 2) (e := e) (by omega) he
  have hap : eAt q e + 136 ≤ eAt 2 e := by unfold eAt; omega
  have eS : sAd x q + 47 = x + 95 + 48 * q := by show x + 48 + 48 * q + 47 = _; omega
  have nSb := nSA (x := x) (p := 2) (q := q) (e := e) (by omega) hq he
  have hr : (fun j => rChg s (nI e) (eAt 2 e + j)) = rowE s 2 e := by funext j; exact rChg_lo (by omega) hL
  rw [hr]
  have hlen := rDt_le (rowE s 2 e)
  generalize hn : (rDt (rowE s 2 e)).length = n at *
  have ha := h.2.2.1 q (by omega) e he
  have hb := h.2.2.1 2 (by omega) e he
  obtain ⟨a1, a2, a3, a4, a5, a6, a7⟩ := ha.2.2 hA1
  obtain ⟨b1, b2, b3, b4, b5, b6, b7⟩ := hb.2.2 hB1
  have hd : mI M (vAd x 2 e) 10 = nI n := by rw [b2.2.1, hn]
  have z0 : ∀ j, j < 24 → pMg1 (rChg s (nI e)) q e n j = rChg s (nI e) j := fun j hj => pMg1_o (by omega) hq
  have lo : ∀ j, j < 24 → pMg2 (pMg1 (rChg s (nI e)) q e n) q e j = rChg s (nI e) j := fun j hj => by rw [pMg2_o (by omega) hq, z0 j hj]
  have f1 : ∀ j, 24 ≤ j → rChg s (nI e) j = s j := fun j h => rChg_lo h hL
  have g2 : ∀ j, j < 136 → pMg2 (pMg1 (rChg s (nI e)) q e n) q e (eAt 2 e + j) = if j = 9 then nI (c + 1) else if j = 14 + q then s (eAt q e + (14 + q)) else if 76 + 30 * q ≤ j ∧ j < 76 + 30 * q + 30 then (if j - (76 + 30 * q) < n then s (eAt q e + j) else 0) else s (eAt 2 e + j) := by
    intro j hj
    unfold pMg2
    by_cases h9 : j = 9
    · subst h9
      rw [wS_e, z0 0 (by omega), if_pos rfl]
      show s 0 + 1 = _
      rw [hc, nI_1]
    · rw [if_neg h9, wS_o (by omega)]
      by_cases h14 : j = 14 + q
      · subst h14
        rw [if_pos rfl, show eAt 2 e + (14 + q) = eAt 2 e + 14 + q by omega, wS_e, pMg1_o (by omega) hq, f1 _ (by omega), show eAt q e + 14 + q = eAt q e + (14 + q) by omega]
      · rw [if_neg h14, wS_o (by omega)]
        unfold pMg1
        by_cases hg : 76 + 30 * q ≤ j ∧ j < 76 + 30 * q + 30
        · rw [if_pos hg, if_pos (by omega), show eAt 2 e + j - (eAt 2 e + (76 + 30 * q)) = j - (76 + 30 * q) by omega, f1 _ (by omega), show eAt q e + (76 + 30 * q) + (j - (76 + 30 * q)) = eAt q e + j by omega]
        · rw [if_neg hg, if_neg (by omega), f1 _ (by omega)]
  unfold cMg at hM
  subst hM
  refine Rx0.mod h hnz hq he (h.1.chg (ev := nI e) hc hcb ?_ ?_ ?_ ?_) ?_ ?_ ?_ ?_ ?_ ?_ ?_
  · simp (disch := omega) only [mI_sI2, mI_sL, if_neg, if_pos, and_self, if_true]
  · simp (disch := omega) only [mI_sI2, mI_sL, if_neg, if_pos, and_self, if_true]
  · intro j hj; simp (disch := omega) only [mI_sI2, mI_sL, if_neg]
  · intro j hj; exact lo j (by omega)
  · intro cc j h1 h2 h3 h4 h5
    refine ⟨by simp (disch := omega) only [mI_sI2, mI_sL, if_neg], ?_⟩
    simp (disch := omega) only [mL_sI, mL_sL2, if_neg]
  · intro j h1 h2 h3 h4
    rw [pMg2_o h4 hq, pMg1_o h4 hq, f1 j h1]
  · intro t ht; rw [lo (1 + t) (by omega), rChg_lt (by omega)]
  · intro w hw
    rw [lo _ (by omega), rChg_lt (by omega)]
    simp (disch := omega) only [mI_sI2, mI_sL, if_neg]
    exact (h.2.2.2 q hq).2 w hw
  · intro q' w hq' hqq hw
    rw [lo _ (by omega), rChg_lt (by omega)]
  · refine (ha.loc (M' := _) (fun cc j h1 h2 => ⟨?_, ?_⟩)).c (fun j hj h10 h11 => ?_)
    · simp (disch := omega) only [mI_sI2, mI_sL, if_neg]
    · simp (disch := omega) only [mL_sI, mL_sL2, if_neg]
    · show pMg2 (pMg1 (rChg s (nI e)) q e n) q e (eAt q e + j) = s (eAt q e + j)
      rw [pMg2_o (by omega) hq, pMg1_o (by omega) hq, f1 _ (by omega)]
  · have r0 : rowE (pMg2 (pMg1 (rChg s (nI e)) q e n) q e) 2 e 0 = 1 := by
      show pMg2 (pMg1 (rChg s (nI e)) q e n) q e (eAt 2 e + 0) = 1
      rw [g2 0 (by omega), if_neg (by omega), if_neg (by omega), if_neg (by omega)]; exact hB1
    have rl : ∀ j, j ≤ 8 → rowE (pMg2 (pMg1 (rChg s (nI e)) q e n) q e) 2 e j = rowE s 2 e j := by
      intro j hj
      show pMg2 (pMg1 (rChg s (nI e)) q e n) q e (eAt 2 e + j) = s (eAt 2 e + j)
      rw [g2 j (by omega), if_neg (by omega), if_neg (by omega), if_neg (by omega)]
    have rm : ∀ j, j < 136 → ¬ j = 9 → ¬ j = 14 + q → ¬ (76 + 30 * q ≤ j ∧ j < 76 + 30 * q + 30) → rowE (pMg2 (pMg1 (rChg s (nI e)) q e n) q e) 2 e j = s (eAt 2 e + j) := by
      intro j hj h1 h2 h3
      show pMg2 (pMg1 (rChg s (nI e)) q e n) q e (eAt 2 e + j) = s (eAt 2 e + j)
      rw [g2 j hj, if_neg h1, if_neg h2, if_neg h3]
    refine ⟨?_, ?_, fun _ => ⟨fun j j1 j8 => ?_, ⟨?_, ?_, fun j hj => ?_⟩, ?_, ?_, fun k hk hbit => ?_, fun t ht => ?_, fun t k ht hk => ?_⟩⟩
    · rw [r0]; simp (disch := omega) only [mI_sI2, mI_sL, if_neg]; exact hb.1.trans hB1
    · show _ = pMg2 (pMg1 (rChg s (nI e)) q e n) q e (eAt 2 e + 9)
      rw [g2 9 (by omega), if_pos rfl]; simp (disch := omega) only [mI_sI2, if_pos, and_self, if_true]
    · rw [rl j j8]; simp (disch := omega) only [mI_sI2, mI_sL, if_neg]; exact b1 j j1 j8
    · rw [rDt_c rl]; exact b2.1
    · rw [rDt_c rl]; simp (disch := omega) only [mI_sI2, mI_sL, if_neg]; exact b2.2.1
    · rw [rDt_c rl] at hj ⊢; simp (disch := omega) only [mI_sI2, mI_sL, if_neg]; exact b2.2.2 j hj
    · rw [rm 12 (by omega) (by omega) (by omega) (by omega)]; simp (disch := omega) only [mI_sI2, mI_sL, if_neg]; exact b3
    · rw [rm 13 (by omega) (by omega) (by omega) (by omega)]; simp (disch := omega) only [mI_sI2, mI_sL, if_neg]; exact b4
    · rw [rm 13 (by omega) (by omega) (by omega) (by omega)] at hbit
      rw [rm (16 + k) (by omega) (by omega) (by omega) (by omega), rm (46 + k) (by omega) (by omega) (by omega) (by omega)]
      simp (disch := omega) only [mI_sI2, mI_sL, if_neg]; exact b5 k hk hbit
    · by_cases htq : t = q
      · subst htq
        show _ = pMg2 (pMg1 (rChg s (nI e)) t e n) t e (eAt 2 e + (14 + t))
        rw [g2 _ (by omega), if_neg (by omega), if_pos rfl]
        simp (disch := omega) only [mI_sI2, mI_sL, if_neg, if_pos, and_self, if_true]
        exact a6 t ht
      · rw [rm (14 + t) (by omega) (by omega) (by omega) (by omega)]
        simp (disch := omega) only [mI_sI2, mI_sL, if_neg]
        exact b6 t ht
    · by_cases htq : t = q
      · subst htq
        show _ = pMg2 (pMg1 (rChg s (nI e)) t e n) t e (eAt 2 e + (76 + 30 * t + k))
        rw [g2 _ (by omega), if_neg (by omega), if_neg (by omega), if_pos (by omega), show 76 + 30 * t + k - (76 + 30 * t) = k by omega]
        simp (disch := omega) only [mL_sI, mL_sL2, if_pos, and_self, if_true]
        rw [hd, giv_take _ hlen hk, a7 t k ht hk]
        rfl
      · rw [rm (76 + 30 * t + k) (by omega) (by omega) (by omega) (by omega)]
        simp (disch := omega) only [mL_sI, mL_sL2, if_neg]
        exact b7 t k ht hk
end
