/-! THE RELATION: accepted, refused. -/
section
variable {l : Launch} {g : EG}
/-- another version -/
theorem Re.v {M M' : EM} {a : Nat} {r r' : Nat → Int32} {v : Int32} (h : Re M a r) (hv : mI M' a 9 = v) (hr9 : r' 9 = v) (hi : ∀ j, ¬ j = 9 → mI M' a j = mI M a j) (hc : ∀ c j, a < c → c < a + 5 → mI M' c j = mI M c j ∧ mL M' c j = mL M c j) (hr : ∀ j, j < 136 → ¬ j = 9 → ¬ j = 10 → ¬ j = 11 → r' j = r j) : Re M' a r' := by
  refine ⟨by rw [hi 0 (by omega), hr 0 (by omega) (by omega) (by omega) (by omega)]; exact h.1, hv.trans hr9.symm, fun h0 => ?_⟩
  rw [hr 0 (by omega) (by omega) (by omega) (by omega)] at h0
  obtain ⟨h1, h2, h3, h4, h5, h6, h7⟩ := h.2.2 h0
  refine ⟨fun j j1 j8 => ?_, ⟨?_, ?_, fun j hj => ?_⟩, ?_, ?_, fun k hk hb => ?_, fun s hs => ?_, fun s k hs hk => ?_⟩
  · rw [hi j (by omega), hr j (by omega) (by omega) (by omega) (by omega)]; exact h1 j j1 j8
  · rw [rDt_c (fun j hj => hr j (by omega) (by omega) (by omega) (by omega))]; exact h2.1
  · rw [rDt_c (fun j hj => hr j (by omega) (by omega) (by omega) (by omega)), hi 10 (by omega)]; exact h2.2.1
  · rw [rDt_c (fun j hj => hr j (by omega) (by omega) (by omega) (by omega))] at hj ⊢
    rw [(hc (a + 1) j (by omega) (by omega)).1]; exact h2.2.2 j hj
  · rw [hi 11 (by omega), hr 12 (by omega) (by omega) (by omega) (by omega)]; exact h3
  · rw [hi 12 (by omega), hr 13 (by omega) (by omega) (by omega) (by omega)]; exact h4
  · rw [hr 13 (by omega) (by omega) (by omega) (by omega)] at hb
    rw [(hc (a + 2) k (by omega) (by omega)).1, hr (16 + k) (by omega) (by omega) (by omega) (by omega), hr (46 + k) (by omega) (by omega) (by omega) (by omega)]; exact h5 k hk hb
  · rw [(hc (a + 3) s (by omega) (by omega)).1, hr (14 + s) (by omega) (by omega) (by omega) (by omega)]; exact h6 s hs
  · rw [(hc (a + 4) s (by omega) (by omega)).2, hr (76 + 30 * s + k) (by omega) (by omega) (by omega) (by omega)]; exact h7 s k hs hk
theorem rCpy_i {s : Nat → Int32} {a b j : Nat} (h : j < 136) (h10 : ¬ j = 10) (h11 : ¬ j = 11) (h9 : ¬ (j = 9 ∧ s a = 0)) : rCpy s a b (b + j) = s (a + j) := by
  unfold rCpy
  rw [if_pos (by omega), if_neg (by omega), if_neg (fun q => h9 ⟨by omega, q.2⟩), show b + j - b = j by omega]
theorem rCpy_9 {s : Nat → Int32} {a b : Nat} (h : s a = 0) : rCpy s a b (b + 9) = -1 := by
  unfold rCpy
  rw [if_pos (by omega), if_neg (by omega), if_pos ⟨rfl, h⟩]
theorem rCpy_f {s : Nat → Int32} {a b j : Nat} (h : j = 10 ∨ j = 11) : rCpy s a b (b + j) = 0 := by
  unfold rCpy
  rw [if_pos (by omega), if_pos (by omega)]
theorem rChg_lt {s : Nat → Int32} {ev : Int32} {j : Nat} (h : 1 ≤ j ∧ j < 15) : rChg s ev j = s j := by
  unfold rChg
  rw [if_neg (by omega)]
  by_cases h8 : s 23 = 8
  · rw [if_pos h8, if_neg (by omega), if_neg (by omega)]
  · rw [if_neg h8, if_neg (by omega), if_neg (by omega)]
theorem pAc_B {s : Nat → Int32} {q e j : Nat} (hq : q < 2) (he : e < 8) (hL : sLg s) (hj : j < 136) (h01 : s (eAt q e) = 0 ∨ s (eAt q e) = 1) (hn : ¬ (¬ s (eAt q e) = 1 ∧ ¬ s (eAt 2 e) = 1)) : (¬ j = 9 → ¬ j = 10 → ¬ j = 11 → pAcc s q e (eAt 2 e + j) = s (eAt q e + j) ∧ pAcc s q e (eAt q e + j) = s (eAt q e + j)) ∧ (j = 9 → pAcc s q e (eAt 2 e + j) = (if s (eAt q e) = 1 then s 0 + 1 else -1) ∧ pAcc s q e (eAt q e + j) = (if s (eAt q e) = 1 then s 0 + 1 else -1)) ∧ ((j = 10 ∨ j = 11) → pAcc s q e (eAt q e + j) = 0) := by
  have rA := eAt_rng (p := q) (e := e) (by omega) he
  have rB := eAt_rng (p := 2) (e := e) (by omega) he
  have hap : eAt q e + 136 ≤ eAt 2 e := by unfold eAt; omega
  generalize hA : eAt q e = A at *
  generalize hB : eAt 2 e = B at *
  have e0 : pAcc s q e = pCnt (rCpy (pAc2 (pAc1 s q e) e) B A) q 0 1 := by unfold pAcc; rw [hA, hB]; exact if_neg hn
  have f1 : ∀ j, 24 ≤ j → rChg s (nI e) j = s j := fun j h => rChg_lo h hL
  have f2 : ∀ j, pAc1 s q e j = rCpy (rChg s (nI e)) A B j := fun j => by unfold pAc1; rw [hA, hB]
  have z1 : pAc1 s q e B = s A := by rw [f2]; exact (rCpy_i (s := rChg s (nI e)) (a := A) (b := B) (j := 0) (by omega) (by omega) (by omega) (by omega)).trans (f1 A (by omega))
  have z0 : pAc1 s q e 0 = s 0 + 1 := by rw [f2, rCpy_o (by omega)]; rfl
  have f3 : ∀ j, pAc2 (pAc1 s q e) e j = wS (pAc1 s q e) (B + 9) (if s A = 1 then s 0 + 1 else -1) j := fun j => by unfold pAc2; rw [hB, z1, z0]
  have z3 : pAc2 (pAc1 s q e) e B = s A := by rw [f3, wS_o (by omega), z1]
  have f4 : ∀ j, 24 ≤ j → pAcc s q e j = rCpy (pAc2 (pAc1 s q e) e) B A j := fun j h => by rw [e0, pCnt_lo (by omega) hq (by omega)]
  have f5 : ∀ j, j < 136 → ¬ j = 9 → ¬ j = 10 → ¬ j = 11 → pAc2 (pAc1 s q e) e (B + j) = s (A + j) := fun j hj h9 h10 h11 => by rw [f3, wS_o (by omega), f2, rCpy_i hj h10 h11 (by omega), f1 _ (by omega)]
  refine ⟨fun h9 h10 h11 => ⟨?_, ?_⟩, fun h9 => ⟨?_, ?_⟩, fun h => ?_⟩
  · rw [f4 _ (by omega), rCpy_o (by omega), f5 j hj h9 h10 h11]
  · rw [f4 _ (by omega), rCpy_i hj h10 h11 (by omega), f5 j hj h9 h10 h11]
  · subst h9; rw [f4 _ (by omega), rCpy_o (by omega), f3]; exact wS_e
  · subst h9
    rw [f4 _ (by omega)]
    rcases h01 with h | h
    · rw [rCpy_9 (by rw [z3]; exact h), h]; rfl
    · rw [rCpy_i (by omega) (by omega) (by omega) (by rw [z3, h]; decide), f3, wS_e]
  · rw [f4 _ (by omega), rCpy_f h]
theorem Rx0.acc {M M' : EM} {x nz q e c : Nat} {s : Nat → Int32} (h : Rx0 M x s nz) (hnz : nz ≤ 3) (hq : q < 2) (he : e < 8) (hL : sLg s) (h01 : s (eAt q e) = 0 ∨ s (eAt q e) = 1) (h02 : s (eAt 2 e) = 0 ∨ s (eAt 2 e) = 1) (hc : s 0 = nI c) (hcb : c + 1 < 2 ^ 20) (hn : ¬ (mI M (vAd x q e) 0 = 0 ∧ mI M (vAd x 2 e) 0 = 0)) (hM : cAc M M' x (vAd x q e) (vAd x 2 e) (sAd x q) e c) : Rx0 M' x (pAcc s q e) nz := by
  have ha := h.2.2.1 q (by omega) e he
  have hb := h.2.2.1 2 (by omega) e he
  have na : mI M (vAd x q e) 0 = s (eAt q e) := ha.1
  have nb : mI M (vAd x 2 e) 0 = s (eAt 2 e) := hb.1
  have hn1 : ¬ (¬ s (eAt q e) = 1 ∧ ¬ s (eAt 2 e) = 1) := fun k => hn ⟨by rw [na]; exact h01.resolve_right k.1, by rw [nb]; exact h02.resolve_right k.2⟩
  have ra := vAd_rng (x := x) (p := q) (e := e) (by omega) he
  have rb := vAd_rng (x := x) (p := 2) (e := e) (by omega) he
  have hab := vAd_ne (x := x) (p := q) (e := e) (p' := 2) (e' := e) (by omega) he (by omega) he (by omega)
  have eS : sAd x q + 47 = x + 95 + 48 * q := by show x + 48 + 48 * q + 47 = _; omega
  have nS : ∀ p, p < 3 → sAd x q + 47 < vAd x p e ∨ vAd x p e + 5 ≤ sAd x q + 47 := by
    intro p hp
    rw [eS]
    unfold vAd pAd
    rcases (show p = 0 ∨ p = 1 ∨ p = 2 by omega) with rfl | rfl | rfl <;> rcases (show q = 0 ∨ q = 1 by omega) with rfl | rfl <;> simp <;> omega
  have nSa := nS q (by omega)
  have nSb := nS 2 (by omega)
  have rA := eAt_rng (p := q) (e := e) (by omega) he
  have rB := eAt_rng (p := 2) (e := e) (by omega) he
  have key := fun j hj => pAc_B (j := j) hq he hL hj h01 hn1
  have hv : (if mI M (vAd x q e) 0 = 0 then (-1 : Int32) else nI (c + 1)) = if s (eAt q e) = 1 then s 0 + 1 else -1 := by
    rw [na, hc, nI_1]
    rcases h01 with k | k <;> rw [k] <;> rfl
  obtain ⟨M3, f1, f2, rfl⟩ := hM
  rw [hv] at f1 f2
  have esq : pAcc s q e = pCnt (rCpy (pAc2 (pAc1 s q e) e) (eAt 2 e) (eAt q e)) q 0 1 := if_neg hn1
  have lo : ∀ j, j < 24 → ¬ (3 ≤ j ∧ j < 15) → pAcc s q e j = rChg s (nI e) j := fun j hj h3 => by
    rw [esq, pCnt_lo (by omega) hq (by omega), rCpy_o (by omega)]
    unfold pAc2 pAc1
    rw [wS_o (by omega), rCpy_o (by omega)]
  have lo2 : ∀ j, j < 24 → rCpy (pAc2 (pAc1 s q e) e) (eAt 2 e) (eAt q e) j = rChg s (nI e) j := fun j hj => by
    rw [rCpy_o (by omega)]
    unfold pAc2 pAc1
    rw [wS_o (by omega), rCpy_o (by omega)]
  have f1i := fun cc (hcc : cc < vAd x 2 e ∨ vAd x 2 e + 5 ≤ cc) j => f1.i hcc j
  have f1k := fun cc (hcc : cc < vAd x 2 e ∨ vAd x 2 e + 5 ≤ cc) j => f1.k hcc j
  refine Rx0.mod h hnz hq he (h.1.chg (ev := nI e) hc hcb ?_ ?_ ?_ ?_) ?_ ?_ ?_ ?_ ?_ ?_ ?_
  · rw [mI_sI2, if_neg (by omega), f1i x (by omega)]; simp (disch := omega) only [mI_sI2, if_neg, if_pos, and_self, if_true]
  · rw [mI_sI2, if_neg (by omega), f1i (x + 144) (by omega)]; simp (disch := omega) only [mI_sI2, if_neg, if_pos, and_self, if_true]
  · intro j hj
    rw [mI_sI2, if_neg (by omega), f1i (x + 144) (by omega)]; simp (disch := omega) only [mI_sI2, if_neg]
  · intro j hj; exact lo j (by omega) (by omega)
  · intro cc j h1 h2 h3 h4 h5
    refine ⟨?_, ?_⟩
    · rw [mI_sI2, if_neg (by omega), f1i cc h4]; simp (disch := omega) only [mI_sI2, if_neg]
    · rw [show mL (sI M3 (sAd x q + 47) 0 (mI M3 (sAd x q + 47) 0 + 1)) = mL M3 from rfl, f1k cc h4]; rfl
  · intro j h1 h2 h3 h4
    rw [esq, pCnt_o hq (by omega) h1, rCpy_o h3]
    unfold pAc2 pAc1
    rw [wS_o (by omega), rCpy_o h4, rChg_lo h1 hL]
  · intro t ht
    rw [lo (1 + t) (by omega) (by omega), rChg_lt (by omega)]
  · intro w hw
    have e1 : ∀ w, mI M3 (sAd x q + 47) w = s (3 + 6 * q + w) ∨ ¬ w < 6 := fun w => by
      by_cases hw : w < 6
      · left
        rw [f1i _ nSb]
        simp (disch := omega) only [mI_sI2, if_neg]
        exact (h.2.2.2 q hq).2 w hw
      · exact Or.inr hw
    have e2 : ∀ w, w < 6 → mI M3 (sAd x q + 47) w = s (3 + 6 * q + w) := fun w hw => (e1 w).resolve_right (not_not_intro hw)
    rw [esq]
    unfold pCnt
    rw [lo2 _ (by omega), mI_sI2]
    by_cases h0 : w = 0
    · subst h0
      rw [if_pos ⟨rfl, rfl⟩, wS_e, e2 0 (by omega), rChg_lt (by omega)]
    · rw [if_neg (by omega), wS_o (by omega), lo2 _ (by omega), rChg_lt (by omega)]
      exact e2 w hw
  · intro q' w hq' hqq hw
    rw [esq, pCnt, wS_o (by omega), lo2 _ (by omega), rChg_lt (by omega)]
  · refine Re.v (v := if s (eAt q e) = 1 then s 0 + 1 else -1) ha ?_ ?_ ?_ ?_ ?_
    · rw [mI_sI2, if_neg (by omega), f1i _ (by omega)]; simp (disch := omega) only [mI_sI2, if_pos, and_self, if_true]
    · exact ((key 9 (by omega)).2.1 rfl).2
    · intro j hj
      rw [mI_sI2, if_neg (by omega), f1i _ (by omega)]; simp (disch := omega) only [mI_sI2, if_neg]
    · intro cc j h1 h2
      refine ⟨?_, ?_⟩
      · rw [mI_sI2, if_neg (by omega), f1i cc (by omega)]; simp (disch := omega) only [mI_sI2, if_neg]
      · rw [show mL (sI M3 (sAd x q + 47) 0 (mI M3 (sAd x q + 47) 0 + 1)) = mL M3 from rfl, f1k cc (by omega)]; rfl
    · intro j hj h9 h10 h11
      exact ((key j hj).1 h9 h10 h11).2
  · have r2 : Re (sI (sI (sI M x 0 (nI (c + 1))) (x + 144) ((c + 1) % 8) (nI e)) (vAd x q e) 9 (if s (eAt q e) = 1 then s 0 + 1 else -1)) (vAd x q e) (fun j => if j = 10 ∨ j = 11 then 0 else pAcc s q e (eAt 2 e + j)) := by
      refine Re.v (v := if s (eAt q e) = 1 then s 0 + 1 else -1) ha ?_ ?_ ?_ ?_ ?_
      · simp (disch := omega) only [mI_sI2, if_pos, and_self, if_true]
      · exact ((key 9 (by omega)).2.1 rfl).1
      · intro j hj; simp (disch := omega) only [mI_sI2, if_neg]
      · intro cc j h1 h2
        refine ⟨?_, rfl⟩
        simp (disch := omega) only [mI_sI2, if_neg]
      · intro j hj h9 h10 h11
        show (if j = 10 ∨ j = 11 then 0 else pAcc s q e (eAt 2 e + j)) = _
        rw [if_neg (by omega)]
        exact ((key j hj).1 h9 h10 h11).1
    refine ((r2.q f2).loc (M' := sI M3 (sAd x q + 47) 0 (mI M3 (sAd x q + 47) 0 + 1)) (fun cc j h1 h2 => ⟨?_, rfl⟩)).c (fun j hj h10 h11 => ?_)
    · rw [mI_sI2, if_neg (by omega)]
    · show _ = (if j = 10 ∨ j = 11 then 0 else pAcc s q e (eAt 2 e + j))
      rw [if_neg (by omega)]
      rfl
end
