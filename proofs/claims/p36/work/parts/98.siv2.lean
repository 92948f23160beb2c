/-! THE ROW: its invariant, over pushes, pulls, zones. -/
section
variable {l : Launch} {g : EG}
section
variable {s s' : Nat → Int32} {q e nz : Nat}
/-- the same log, or one with an entry more -/
def sLgs (s s' : Nat → Int32) (nz : Nat) : Prop := sLog s' ∧ ∀ i L, s' 23 = nI L → i < L → L ≤ 8 → s' (15 + i) = -1 ∨ ∃ e, e < 8 ∧ s' (15 + i) = nI e
theorem rEv.cg {r r' : Nat → Int32} (h : rEv r nz) (hr : ∀ i, i < 136 → ¬ i = 9 → ¬ i = 10 → ¬ i = 11 → r' i = r i) : rEv r' nz := by
  refine h.c (fun j hj => hr j (by omega) (by omega) (by omega) (by omega)) ?_ (fun k hk hb => ?_) (fun w hw => ?_) (fun w k hw hk => ?_)
  · rw [hr 12 (by omega) (by omega) (by omega) (by omega)]; exact h.2.2.2.2.1
  · rw [hr 13 (by omega) (by omega) (by omega) (by omega)] at hb
    rw [hr (16 + k) (by omega) (by omega) (by omega) (by omega), hr (46 + k) (by omega) (by omega) (by omega) (by omega)]; exact h.2.2.2.2.2.1 k hk hb
  · rw [hr (14 + w) (by omega) (by omega) (by omega) (by omega)]; exact h.2.2.2.2.2.2.1 w hw
  · rw [hr (76 + 30 * w + k) (by omega) (by omega) (by omega) (by omega)]; exact h.2.2.2.2.2.2.2 w k hw hk
/-- an event of a side and of the store change -/
theorem sIv.mod (h : sIv s nz) (hq : q < 2) (he : e < 8) (hl : sLgs s s' nz) (hs : ∀ j, 24 ≤ j → j < 3324 → (j < eAt q e ∨ eAt q e + 136 ≤ j) → (j < eAt 2 e ∨ eAt 2 e + 136 ≤ j) → s' j = s j)
    (a01 : s' (eAt q e) = 0 ∨ s' (eAt q e) = 1) (aev : s' (eAt q e) = 1 → rEv (rowE s' q e) nz) (b01 : s' (eAt 2 e) = 0 ∨ s' (eAt 2 e) = 1) (bev : s' (eAt 2 e) = 1 → rEv (rowE s' 2 e) nz) (b9 : s' (eAt 2 e) = 0 → s' (eAt 2 e + 9) = -1)
    (f0 : s' (eAt q e + 10) = 0) (f1 : s' (eAt q e + 11) = 0) : sIv s' nz := by
  obtain ⟨_, b, st, fl, lg, nn⟩ := h
  have o : ∀ p e' i, p < 3 → e' < 8 → i < 136 → ¬ (p = q ∧ e' = e) → ¬ (p = 2 ∧ e' = e) → s' (eAt p e' + i) = s (eAt p e' + i) := fun p e' i h1 h2 h3 h4 h5 => by
    have := eAt_rng h1 h2
    exact hs _ (by omega) (by omega) (eAt_ne h1 (by omega) h2 he h3 (by omega)) (eAt_ne h1 (by omega) h2 he h3 (by omega))
  refine ⟨hl.1, fun p hp e' he' => ?_, fun e' he' => ?_, fun q' hq' e' he' => ?_, hl.2, nn⟩
  · by_cases c : p = q ∧ e' = e
    · obtain ⟨rfl, rfl⟩ := c; exact ⟨a01, aev⟩
    · by_cases c2 : p = 2 ∧ e' = e
      · obtain ⟨rfl, rfl⟩ := c2; exact ⟨b01, bev⟩
      · have o0 := o p e' 0 hp he' (by omega) c c2
        rw [Nat.add_zero] at o0
        rw [o0]
        exact ⟨(b p hp e' he').1, fun z => ((b p hp e' he').2 z).cg (fun i hi _ _ _ => o p e' i hp he' hi c c2)⟩
  · by_cases c2 : e' = e
    · subst c2; exact b9
    · have o0 := o 2 e' 0 (by omega) he' (by omega) (by omega) (by omega)
      rw [Nat.add_zero] at o0
      rw [o0, o 2 e' 9 (by omega) he' (by omega) (by omega) (by omega)]
      exact st e' he'
  · by_cases c : q' = q ∧ e' = e
    · obtain ⟨rfl, rfl⟩ := c
      exact ⟨Or.inl f0, Or.inl f1, fun z => absurd (f1.symm.trans z) (by decide)⟩
    · have o0 := o q' e' 0 (by omega) he' (by omega) c (by omega)
      rw [Nat.add_zero] at o0
      rw [o0, o q' e' 10 (by omega) he' (by omega) c (by omega), o q' e' 11 (by omega) he' (by omega) c (by omega)]
      exact fl q' hq' e' he'
/-- nothing of the events changes -/
theorem sIv.cg (h : sIv s nz) (hl : sLgs s s' nz) (hs : ∀ p e i, p < 3 → e < 8 → i < 136 → s' (eAt p e + i) = s (eAt p e + i)) : sIv s' nz := by
  obtain ⟨_, b, st, fl, lg, nn⟩ := h
  have o0 : ∀ p e, p < 3 → e < 8 → s' (eAt p e) = s (eAt p e) := fun p e hp he => hs p e 0 hp he (by omega)
  refine ⟨hl.1, fun p hp e' he' => ?_, fun e' he' => ?_, fun q' hq' e' he' => ?_, hl.2, nn⟩
  · rw [o0 p e' hp he']
    exact ⟨(b p hp e' he').1, fun z => ((b p hp e' he').2 z).cg (fun i hi _ _ _ => hs p e' i hp he' hi)⟩
  · rw [o0 2 e' (by omega) he', hs 2 e' 9 (by omega) he' (by omega)]
    exact st e' he'
  · rw [o0 q' e' (by omega) he', hs q' e' 10 (by omega) he' (by omega), hs q' e' 11 (by omega) he' (by omega)]
    exact fl q' hq' e' he'
theorem sLgs.same (h : sIv s nz) (h0 : s' 0 = s 0) (h23 : s' 23 = s 23) (h15 : ∀ i, i < 8 → s' (15 + i) = s (15 + i)) (ht : ∀ t, t < 2 → s' (1 + t) = s (1 + t) ∨ s' (1 + t) = s 0) : sLgs s s' nz := by
  obtain ⟨⟨c, L, a1, a2, a3, a4, a5, a6⟩, _, _, _, lg, _⟩ := h
  refine ⟨⟨c, L, h0.trans a1, a2, h23.trans a3, a4, a5, fun t hh => ?_⟩, fun i L' z1 z2 z3 => ?_⟩
  · rcases ht t hh with k | k
    · obtain ⟨u, u1, u2⟩ := a6 t hh
      exact ⟨u, k.trans u1, u2⟩
    · exact ⟨c, k.trans a1, Nat.le_refl _⟩
  · rw [h15 i (by omega)]; exact lg i L' (h23.symm.trans z1) z2 z3
theorem sLgs.chg {ev : Int32} (h : sIv s nz) {c : Nat} (hc : s 0 = nI c) (hcb : c + 1 < 2 ^ 20) (hev : ev = -1 ∨ ∃ e, e < 8 ∧ ev = nI e) (hs : ∀ j, (j < 3 ∨ 15 ≤ j) → j < 24 → s' j = rChg s ev j) : sLgs s s' nz := by
  have hL0 := h.1
  obtain ⟨⟨c', L, a1, a2, a3, a4, a5, a6⟩, _, _, _, lg, _⟩ := h
  refine ⟨sLog_chg (q := 0) hL0 (hs 0 (by omega) (by omega)) (hs 23 (by omega) (by omega)) (fun t ht => hs _ (by omega) (by omega)) ⟨c, hc, hcb⟩, fun i L' z1 z2 z3 => ?_⟩
  replace a3 : s 23 = nI L := a3
  rw [hs 23 (by omega) (by omega)] at z1
  rw [hs (15 + i) (by omega) (by omega)]
  unfold rChg at z1 ⊢
  rw [if_neg (by omega)] at z1 ⊢
  by_cases h8 : s 23 = 8
  · rw [if_pos h8] at z1 ⊢
    rw [if_neg (by omega), if_neg (by omega), h8] at z1
    have e8 : L' = 8 := (nI_eq (b := 8) (by omega) (by omega)).mp z1.symm
    subst e8
    by_cases q7 : i = 7
    · subst q7; rw [if_neg (by omega), if_pos rfl]; exact hev
    · rw [if_pos (by omega), show 15 + i + 1 = 15 + (i + 1) by omega]
      exact lg (i + 1) 8 h8 (by omega) (by omega)
  · rw [if_neg h8] at z1 ⊢
    rw [if_pos rfl, a3, nI_1] at z1
    have eL : L + 1 = L' := (nI_eq (by omega) (by omega)).mp z1
    rw [if_neg (by omega), a3, nI_clamp (by omega)]
    by_cases q7 : i = L
    · rw [if_pos (by omega)]; exact hev
    · rw [if_neg (by omega)]
      exact lg i L a3 (by omega) a4
theorem pCnt_iv {w : Nat} {k : Int32} (h : sIv s nz) (hq : q < 2) (hw : w < 6) : sIv (pCnt s q w k) nz := by
  refine h.cg (sLgs.same h (pCnt_lo (by omega) hq hw) (pCnt_lo (by omega) hq hw) (fun i hi => pCnt_lo (by omega) hq hw) (fun t ht => Or.inl (pCnt_lo (by omega) hq hw))) (fun p e i hp he hi => pCnt_lo (by have := eAt_rng hp he; omega) hq hw)
/-- a side's event becomes the store's -/
theorem rCpy_iv (h : sIv s nz) (hq : q < 2) (he : e < 8) : sIv (rCpy s (eAt 2 e) (eAt q e)) nz := by
  have rA := eAt_rng (p := q) (e := e) (by omega) he
  have rB := eAt_rng (p := 2) (e := e) (by omega) he
  have hap : eAt q e + 136 ≤ eAt 2 e := by unfold eAt; omega
  have ii : ∀ i, i < 136 → ¬ i = 9 → ¬ i = 10 → ¬ i = 11 → rCpy s (eAt 2 e) (eAt q e) (eAt q e + i) = s (eAt 2 e + i) := fun i h1 h2 h3 h4 => rCpy_i h1 h3 h4 (by omega)
  have i0 : rCpy s (eAt 2 e) (eAt q e) (eAt q e) = s (eAt 2 e) := ii 0 (by omega) (by omega) (by omega) (by omega)
  have b := h.2.1 2 (by omega) e he
  refine h.mod hq he (sLgs.same h (rCpy_o (by omega)) (rCpy_o (by omega)) (fun i hi => rCpy_o (by omega)) (fun t ht => Or.inl (rCpy_o (by omega)))) (fun j h1 h2 h3 h4 => rCpy_o h3) (by rw [i0]; exact b.1) (fun z => ?_) (by rw [rCpy_o (by omega)]; exact b.1) (fun z => ?_) (by rw [rCpy_o (by omega), rCpy_o (by omega)]; exact h.2.2.1 e he) (rCpy_f (Or.inl rfl)) (rCpy_f (Or.inr rfl))
  · rw [i0] at z
    exact (b.2 z).cg (fun i h1 h2 h3 h4 => ii i h1 h2 h3 h4)
  · rw [rCpy_o (by omega)] at z
    exact (b.2 z).cg (fun i h1 h2 h3 h4 => rCpy_o (by omega))
theorem pRef_iv (h : sIv s nz) (hq : q < 2) (he : e < 8) : sIv (pRef s q e) nz := pCnt_iv (rCpy_iv h hq he) hq (by omega)
theorem pAcc_iv {c : Nat} (h : sIv s nz) (hq : q < 2) (he : e < 8) (hc : s 0 = nI c) (hcb : c + 1 < 2 ^ 20) : sIv (pAcc s q e) nz := by
  have rA := eAt_rng (p := q) (e := e) (by omega) he
  have rB := eAt_rng (p := 2) (e := e) (by omega) he
  have hap : eAt q e + 136 ≤ eAt 2 e := by unfold eAt; omega
  by_cases hn : ¬ s (eAt q e) = 1 ∧ ¬ s (eAt 2 e) = 1
  · unfold pAcc; rw [if_pos hn]; exact rCpy_iv h hq he
  · have a := h.2.1 q (by omega) e he
    have B := fun j hj => pAc_B (j := j) hq he h.Lg hj a.1 hn
    have a0 := (B 0 (by omega)).1 (by omega) (by omega) (by omega)
    rw [Nat.add_zero, Nat.add_zero] at a0
    have lo : ∀ j, (j < 3 ∨ 15 ≤ j) → j < 24 → pAcc s q e j = rChg s (nI e) j := by
      intro j h1 h2
      unfold pAcc
      rw [if_neg hn, pCnt_lo (by omega) hq (by omega), rCpy_o (by omega)]
      unfold pAc2 pAc1
      rw [wS_o (by omega), rCpy_o (by omega)]
    have f : ∀ j, j = 10 ∨ j = 11 → pAcc s q e (eAt q e + j) = 0 := by
      intro j hj
      unfold pAcc
      rw [if_neg hn, pCnt_lo (by omega) hq (by omega)]
      exact rCpy_f hj
    refine h.mod hq he (sLgs.chg h hc hcb (Or.inr ⟨e, he, rfl⟩) lo) (fun j h1 h2 h3 h4 => ?_) (by rw [a0.2]; exact a.1) (fun z => ?_) (by rw [a0.1]; exact a.1) (fun z => ?_) (fun z => ?_) (f 10 (Or.inl rfl)) (f 11 (Or.inr rfl))
    · unfold pAcc
      rw [if_neg hn, pCnt_o hq (by omega) h1, rCpy_o h3]
      unfold pAc2 pAc1
      rw [wS_o (by omega), rCpy_o h4, rChg_lo h1 h.Lg]
    · rw [a0.2] at z
      exact (a.2 z).cg (fun i h1 h2 h3 h4 => ((B i h1).1 h2 h3 h4).2)
    · rw [a0.1] at z
      exact (a.2 z).cg (fun i h1 h2 h3 h4 => ((B i h1).1 h2 h3 h4).1)
    · have b9 := (B 9 (by omega)).2.1 rfl
      rw [a0.1] at z
      have : pAcc s q e (eAt 2 e + 9) = -1 := by
        first
          | (rw [b9.1, if_neg (by rw [z]; decide)]; done)
          | (rw [b9.1]; simp [z]; done)
          | exact (b9.1).trans (if_neg (by rw [z]; decide))
      exact this
theorem pMrg_iv {c : Nat} (h : sIv s nz) (hq : q < 2) (he : e < 8) (hc : s 0 = nI c) (hcb : c + 1 < 2 ^ 20) (hA1 : s (eAt q e) = 1) (hB1 : s (eAt 2 e) = 1) : sIv (pMrg s q e) nz := by
  have rA := eAt_rng (p := q) (e := e) (by omega) he
  have rB := eAt_rng (p := 2) (e := e) (by omega) he
  have hap : eAt q e + 136 ≤ eAt 2 e := by unfold eAt; omega
  have hr : (fun j => rChg s (nI e) (eAt 2 e + j)) = rowE s 2 e := by funext j; exact rChg_lo (by omega) h.Lg
  have a := (h.2.1 q (by omega) e he).2 hA1
  have b := (h.2.1 2 (by omega) e he).2 hB1
  unfold pMrg
  rw [hr]
  generalize (rDt (rowE s 2 e)).length = n
  have f1 : ∀ j, 24 ≤ j → rChg s (nI e) j = s j := fun j hj => rChg_lo hj h.Lg
  have z0 : ∀ j, (j < 24 ∨ eAt 2 e + 136 ≤ j ∨ (24 ≤ j ∧ j < eAt 2 e)) → pMg2 (pMg1 (rChg s (nI e)) q e n) q e j = rChg s (nI e) j := fun j hj => by rw [pMg2_o (by omega) hq, pMg1_o (by omega) hq]
  have g2 : ∀ j, j < 136 → ¬ j = 9 → ¬ j = 10 → ¬ j = 11 → rowE (pMg2 (pMg1 (rChg s (nI e)) q e n) q e) 2 e j = if j = 14 + q then s (eAt q e + (14 + q)) else if 76 + 30 * q ≤ j ∧ j < 76 + 30 * q + 30 then (if j - (76 + 30 * q) < n then s (eAt q e + j) else 0) else s (eAt 2 e + j) := by
    intro j hj h9 h10 h11
    rw [rowE_at]
    unfold pMg2
    rw [wS_o (by omega)]
    by_cases h14 : j = 14 + q
    · subst h14
      rw [if_pos rfl, show eAt 2 e + (14 + q) = eAt 2 e + 14 + q by omega, wS_e, pMg1_o (by omega) hq, f1 _ (by omega), show eAt q e + 14 + q = eAt q e + (14 + q) by omega]
    · rw [if_neg h14, wS_o (by omega)]
      unfold pMg1
      by_cases hg : 76 + 30 * q ≤ j ∧ j < 76 + 30 * q + 30
      · rw [if_pos hg, if_pos (by omega), show eAt 2 e + j - (eAt 2 e + (76 + 30 * q)) = j - (76 + 30 * q) by omega, f1 _ (by omega), show eAt q e + (76 + 30 * q) + (j - (76 + 30 * q)) = eAt q e + j by omega]
      · rw [if_neg hg, if_neg (by omega), f1 _ (by omega)]
  have ivM : sIv (pMg2 (pMg1 (rChg s (nI e)) q e n) q e) nz := by
    have m0 : pMg2 (pMg1 (rChg s (nI e)) q e n) q e (eAt 2 e) = 1 := by
      have := g2 0 (by omega) (by omega) (by omega) (by omega)
      rw [if_neg (by omega), if_neg (by omega)] at this
      exact this.trans hB1
    have o : ∀ p' e' i, p' < 3 → e' < 8 → i < 136 → ¬ (p' = 2 ∧ e' = e) → pMg2 (pMg1 (rChg s (nI e)) q e n) q e (eAt p' e' + i) = s (eAt p' e' + i) := fun p' e' i h1 h2 h3 h4 => by
      have := eAt_rng h1 h2
      have := eAt_ne (p := p') (p' := 2) (e := e') (e' := e) (i := i) h1 (by omega) h2 he h3 (by omega)
      rw [z0 _ (by omega), f1 _ (by omega)]
    obtain ⟨_, bb, st, fl, lg, nn⟩ := h
    have hl : sLgs s (pMg2 (pMg1 (rChg s (nI e)) q e n) q e) nz := sLgs.chg ⟨by assumption, bb, st, fl, lg, nn⟩ hc hcb (Or.inr ⟨e, he, rfl⟩) (fun j h1 h2 => z0 j (by omega))
    refine ⟨hl.1, fun p' hp e' he' => ?_, fun e' he' => ?_, fun q' hq' e' he' => ?_, hl.2, nn⟩
    · by_cases c : p' = 2 ∧ e' = e
      · obtain ⟨rfl, rfl⟩ := c
        refine ⟨Or.inr m0, fun _ => ?_⟩
        have gg : ∀ j, j < 76 → ¬ j = 9 → ¬ j = 10 → ¬ j = 11 → ¬ j = 14 + q → rowE (pMg2 (pMg1 (rChg s (nI e')) q e' n) q e') 2 e' j = rowE s 2 e' j := fun j h1 h2 h3 h4 h5 => by
          rw [g2 j (by omega) h2 h3 h4, if_neg h5, if_neg (by omega)]; rfl
        refine b.c (fun j hj => gg j (by omega) (by omega) (by omega) (by omega) (by omega)) ?_ (fun k hk hb => ?_) (fun w hw => ?_) (fun w k hw hk => ?_)
        · rw [gg 12 (by omega) (by omega) (by omega) (by omega) (by omega)]; exact b.2.2.2.2.1
        · rw [gg 13 (by omega) (by omega) (by omega) (by omega) (by omega)] at hb
          rw [gg (16 + k) (by omega) (by omega) (by omega) (by omega) (by omega), gg (46 + k) (by omega) (by omega) (by omega) (by omega) (by omega)]; exact b.2.2.2.2.2.1 k hk hb
        · by_cases hw2 : w = q
          · subst hw2
            rw [g2 _ (by omega) (by omega) (by omega) (by omega), if_pos rfl]; exact a.2.2.2.2.2.2.1 w hw
          · rw [gg (14 + w) (by omega) (by omega) (by omega) (by omega) (by omega)]; exact b.2.2.2.2.2.2.1 w hw
        · rw [g2 _ (by omega) (by omega) (by omega) (by omega), if_neg (by omega)]
          by_cases hw2 : w = q
          · subst hw2
            rw [if_pos (by omega)]
            split
            · exact a.2.2.2.2.2.2.2 w k hw hk
            · exact ⟨0, by omega, rfl⟩
          · rw [if_neg (by omega)]; exact b.2.2.2.2.2.2.2 w k hw hk
      · have o0 := o p' e' 0 hp he' (by omega) c
        rw [Nat.add_zero] at o0
        rw [o0]
        exact ⟨(bb p' hp e' he').1, fun z => ((bb p' hp e' he').2 z).cg (fun i hi _ _ _ => o p' e' i hp he' hi c)⟩
    · by_cases c : e' = e
      · subst c; exact fun z => absurd (m0.symm.trans z) (by decide)
      · have o0 := o 2 e' 0 (by omega) he' (by omega) (by omega)
        rw [Nat.add_zero] at o0
        rw [o0, o 2 e' 9 (by omega) he' (by omega) (by omega)]
        exact st e' he'
    · have o0 := o q' e' 0 (by omega) he' (by omega) (by omega)
      rw [Nat.add_zero] at o0
      rw [o0, o q' e' 10 (by omega) he' (by omega) (by omega), o q' e' 11 (by omega) he' (by omega) (by omega)]
      exact fl q' hq' e' he'
  exact pCnt_iv (rCpy_iv ivM hq he) hq (by omega)
theorem pOne_iv {c : Nat} (h : sIv s nz) (hq : q < 2) (he : e < 8) (hc : s 0 = nI c) (hcb : c + 1 < 2 ^ 20) (hch : pCh s q e) : sIv (pOne s q e) nz := by
  unfold pOne
  by_cases c1 : pAcp s q e
  · rw [e_it c1]; exact pAcc_iv h hq he hc hcb
  · rw [e_if c1]
    by_cases c2 : pMg s q e
    · rw [e_it c2]
      have f := h.2.2.2.1 q hq e he
      have f11 : s (eAt q e + 11) = 1 := by
        rcases hch with z | z
        · exact absurd (c2.2.symm.trans z) (by decide)
        · exact z
      exact pMrg_iv h hq he hc hcb (f.2.2 f11 c2.2) c2.1
    · rw [e_if c2]; exact pRef_iv h hq he
theorem pPu_iv {c : Nat} (h : sIv s nz) (hq : q < 2) (hc : s 0 = nI c) (hcb : c + 9 < 2 ^ 20) : ∀ k, k ≤ 8 → sIv (pPu s q k).1 nz
  | 0, _ => h
  | k + 1, hk => by
    have ih := pPu_iv h hq hc hcb k (by omega)
    obtain ⟨d, d1, d2, d3⟩ := pPu_clk h.Lg hq hc (by omega) k (by omega)
    by_cases cc : pCh (pPu s q k).1 q k
    · rw [show pPu s q (k + 1) = _ from e_it cc]
      exact pOne_iv ih hq (by omega) d3 (by omega) cc
    · rw [show pPu s q (k + 1) = _ from e_if cc]
      exact ih
theorem pPe_iv (h : sIv s nz) (hq : q < 2) : ∀ k, k ≤ 8 → sIv (pPe s q k) nz
  | 0, _ => h
  | k + 1, hk => by
    have ih := pPe_iv h hq k (by omega)
    by_cases cc : pCh (pPe s q k) q k
    · rw [show pPe s q (k + 1) = _ from e_it cc]; exact ih
    · rw [show pPe s q (k + 1) = _ from e_if cc]; exact rCpy_iv ih hq (by omega)
theorem pPl_iv (h : sIv s nz) (hq : q < 2) : sIv (pPl s q) nz := by
  have h1 : sIv (pPc s q) nz := pCnt_iv (pCnt_iv (pCnt_iv h hq (by omega)) hq (by omega)) hq (by omega)
  have h2 : sIv (pPz (pPc s q) q 12) nz := by
    refine h1.cg (sLgs.same h1 (pPz_o (by omega)) (pPz_o (by omega)) (fun i hi => pPz_o (by omega)) (fun t ht => Or.inl (pPz_o (by omega)))) (fun p e i hp he hi => pPz_o ?_)
    unfold eAt
    rcases (show p = 0 ∨ p = 1 ∨ p = 2 by omega) with rfl | rfl | rfl <;> rcases (show q = 0 ∨ q = 1 by omega) with rfl | rfl <;> omega
  have h3 := pPe_iv h2 hq 8 (Nat.le_refl _)
  unfold pPl
  refine h3.cg (sLgs.same h3 (wS_o (by omega)) (wS_o (by omega)) (fun i hi => wS_o (by omega)) (fun t ht => ?_)) (fun p e i hp he hi => wS_o (by have := eAt_rng hp he; omega))
  by_cases z : t = q
  · subst z; exact Or.inr wS_e
  · exact Or.inl (wS_o (by omega))
end
end
