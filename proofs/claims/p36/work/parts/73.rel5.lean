/-! THE RELATION: what a push does to the row, part by part. -/
section
variable {l : Launch} {g : EG}
theorem pOne_lt {s : Nat → Int32} {q e j : Nat} (hL : sLg s) (hq : q < 2) (he : e < 8) (h1 : 1 ≤ j) (h2 : j < 15) : pOne s q e j = e_ite (pAcp s q e) (if ¬ s (eAt q e) = 1 ∧ ¬ s (eAt 2 e) = 1 then s j else wS s (3 + 6 * q + 0) (s (3 + 6 * q + 0) + 1) j) (e_ite (pMg s q e) (wS s (3 + 6 * q + 1) (s (3 + 6 * q + 1) + 1) j) (wS s (3 + 6 * q + 2) (s (3 + 6 * q + 2) + 1) j)) := by
  have rA := eAt_rng (p := q) (e := e) (by omega) he
  have rB := eAt_rng (p := 2) (e := e) (by omega) he
  have g : ∀ (f f' : Nat → Int32) w, w < 6 → f j = f' j → f (3 + 6 * q + w) = f' (3 + 6 * q + w) → pCnt f q w 1 j = wS f' (3 + 6 * q + w) (f' (3 + 6 * q + w) + 1) j := by
    intro f f' w hw a b
    unfold pCnt wS
    by_cases c : j = 3 + 6 * q + w
    · rw [if_pos c, if_pos c, b]
    · rw [if_neg c, if_neg c, a]
  unfold pOne
  by_cases c1 : pAcp s q e
  · rw [e_it c1, e_it c1]
    unfold pAcc
    split
    · exact rCpy_o (by omega)
    · have k : ∀ i, 1 ≤ i → i < 15 → rCpy (pAc2 (pAc1 s q e) e) (eAt 2 e) (eAt q e) i = s i := by
        intro i i1 i2
        rw [rCpy_o (by omega)]
        unfold pAc2 pAc1
        rw [wS_o (by omega), rCpy_o (by omega), rChg_lt ⟨i1, i2⟩]
      exact g _ _ 0 (by omega) (k j h1 h2) (k _ (by omega) (by omega))
  · rw [e_if c1, e_if c1]
    by_cases c2 : pMg s q e
    · rw [e_it c2, e_it c2]
      unfold pMrg
      have k : ∀ i, 1 ≤ i → i < 15 → rCpy (pMg2 (pMg1 (rChg s (nI e)) q e (rDt (fun j => rChg s (nI e) (eAt 2 e + j))).length) q e) (eAt 2 e) (eAt q e) i = s i := by
        intro i i1 i2
        rw [rCpy_o (by omega), pMg2_o (by omega) hq, pMg1_o (by omega) hq, rChg_lt ⟨i1, i2⟩]
      exact g _ _ 1 (by omega) (k j h1 h2) (k _ (by omega) (by omega))
    · rw [e_if c2, e_if c2]
      unfold pRef
      have k : ∀ i, 1 ≤ i → i < 15 → rCpy s (eAt 2 e) (eAt q e) i = s i := fun i i1 i2 => rCpy_o (by omega)
      exact g _ _ 2 (by omega) (k j h1 h2) (k _ (by omega) (by omega))
theorem pOne_ref {s : Nat → Int32} {q e : Nat} (hL : sLg s) (hq : q < 2) (he : e < 8) : pOne s q e (3 + 6 * q + 2) = s (3 + 6 * q + 2) + e_p01 (pRf s q e) := by
  rw [pOne_lt hL hq he (by omega) (by omega)]
  by_cases c1 : pAcp s q e
  · rw [e_it c1, e_p0 (fun h => h.1 c1), Int32.add_zero]
    split
    · rfl
    · rw [wS_o (by omega)]
  · rw [e_if c1]
    by_cases c2 : pMg s q e
    · rw [e_it c2, e_p0 (fun h => h.2 c2), Int32.add_zero, wS_o (by omega)]
    · rw [e_if c2, e_p1 ⟨c1, c2⟩, wS_e]
theorem pOne_clk {s : Nat → Int32} {q e : Nat} (hL : sLg s) (hq : q < 2) (he : e < 8) : pOne s q e 0 = s 0 ∨ pOne s q e 0 = s 0 + 1 := by
  have rA := eAt_rng (p := q) (e := e) (by omega) he
  have rB := eAt_rng (p := 2) (e := e) (by omega) he
  have k : ∀ ev, rChg s ev 0 = s 0 + 1 := fun ev => if_pos rfl
  unfold pOne
  by_cases c1 : pAcp s q e
  · rw [e_it c1]
    unfold pAcc
    split
    · exact Or.inl (rCpy_o (by omega))
    · refine Or.inr ?_
      unfold pCnt
      rw [wS_o (by omega), rCpy_o (by omega)]
      unfold pAc2 pAc1
      rw [wS_o (by omega), rCpy_o (by omega), k]
  · rw [e_if c1]
    by_cases c2 : pMg s q e
    · rw [e_it c2]
      refine Or.inr ?_
      unfold pMrg pCnt
      rw [wS_o (by omega), rCpy_o (by omega), pMg2_o (by omega) hq, pMg1_o (by omega) hq, k]
    · rw [e_if c2]
      refine Or.inl ?_
      unfold pRef pCnt
      rw [wS_o (by omega), rCpy_o (by omega)]
theorem pOne_fl {s : Nat → Int32} {q e j : Nat} (hL : sLg s) (hq : q < 2) (he : e < 8) (hj : j = 10 ∨ j = 11) : pOne s q e (eAt q e + j) = 0 := by
  have rA := eAt_rng (p := q) (e := e) (by omega) he
  have hap : eAt q e + 136 ≤ eAt 2 e := by unfold eAt; omega
  unfold pOne
  by_cases c1 : pAcp s q e
  · rw [e_it c1]
    unfold pAcc
    split
    · rename_i hh
      exact rCpy_f hj
    · unfold pCnt
      rw [wS_o (by omega)]
      exact rCpy_f hj
  · rw [e_if c1]
    by_cases c2 : pMg s q e
    · rw [e_it c2]
      unfold pMrg pCnt
      rw [wS_o (by omega)]
      exact rCpy_f hj
    · rw [e_if c2]
      unfold pRef pCnt
      rw [wS_o (by omega)]
      exact rCpy_f hj
theorem pPu_clk {s : Nat → Int32} {q : Nat} (hL : sLg s) (hq : q < 2) {c : Nat} (hc : s 0 = nI c) (hcb : c + 8 < 2 ^ 20) : ∀ k, k ≤ 8 → ∃ d, c ≤ d ∧ d ≤ c + k ∧ (pPu s q k).1 0 = nI d
  | 0, _ => ⟨c, Nat.le_refl _, by omega, hc⟩
  | k + 1, hk => by
    obtain ⟨d, h1, h2, h3⟩ := pPu_clk hL hq hc hcb k (by omega)
    by_cases cc : pCh (pPu s q k).1 q k
    · rw [show pPu s q (k + 1) = _ from e_it cc]
      rcases pOne_clk (pPu_inv hL hq k (by omega)).1 hq (e := k) (by omega) with h | h
      · exact ⟨d, h1, by omega, h.trans h3⟩
      · exact ⟨d + 1, by omega, by omega, h.trans (by rw [h3, nI_1])⟩
    · rw [show pPu s q (k + 1) = _ from e_if cc]
      exact ⟨d, h1, by omega, h3⟩
theorem pPu_ref {s : Nat → Int32} {q : Nat} (hL : sLg s) (hq : q < 2) : ∀ k, k ≤ 8 → (pPu s q k).1 (3 + 6 * q + 2) = s (3 + 6 * q + 2) + nI (pPu s q k).2
  | 0, _ => (Int32.add_zero _).symm
  | k + 1, hk => by
    have ih := pPu_ref hL hq k (by omega)
    have iv := pPu_inv hL hq k (by omega)
    by_cases cc : pCh (pPu s q k).1 q k
    · rw [show pPu s q (k + 1) = _ from e_it cc]
      show pOne _ q k _ = _ + nI (e_ite _ _ _)
      rw [pOne_ref iv.1 hq (by omega), ih]
      by_cases c2 : pRf (pPu s q k).1 q k
      · rw [e_p1 c2, e_it c2, Int32.add_assoc, nI_1]
      · rw [e_p0 c2, e_if c2, Int32.add_zero]
    · rw [show pPu s q (k + 1) = _ from e_if cc]
      exact ih
theorem pPu_fl {s : Nat → Int32} {q : Nat} (hL : sLg s) (hq : q < 2) (hf : ∀ e, e < 8 → (s (eAt q e + 10) = 0 ∨ s (eAt q e + 10) = 1) ∧ (s (eAt q e + 11) = 0 ∨ s (eAt q e + 11) = 1)) : ∀ k, k ≤ 8 → ∀ e, e < k → (pPu s q k).1 (eAt q e + 10) = 0 ∧ (pPu s q k).1 (eAt q e + 11) = 0
  | 0, _, e, h => absurd h (by omega)
  | k + 1, hk, e, he => by
    have iv := pPu_inv hL hq k (by omega)
    by_cases ek : e = k
    · subst ek
      by_cases cc : pCh (pPu s q e).1 q e
      · rw [show pPu s q (e + 1) = _ from e_it cc]
        exact ⟨pOne_fl iv.1 hq (by omega) (Or.inl rfl), pOne_fl iv.1 hq (by omega) (Or.inr rfl)⟩
      · rw [show pPu s q (e + 1) = _ from e_if cc]
        have a := iv.2.1 e q 10 (Nat.le_refl _) (by omega) (by omega) (by omega)
        have b := iv.2.1 e q 11 (Nat.le_refl _) (by omega) (by omega) (by omega)
        have hh := hf e (by omega)
        unfold pCh at cc
        rw [a, b] at cc
        exact ⟨a.trans (hh.1.resolve_right (fun q => cc (Or.inl q))), b.trans (hh.2.resolve_right (fun q => cc (Or.inr q)))⟩
    · have ih := pPu_fl hL hq hf k (by omega) e (by omega)
      by_cases cc : pCh (pPu s q k).1 q k
      · rw [show pPu s q (k + 1) = _ from e_it cc]
        have o : ∀ i, i < 136 → pOne (pPu s q k).1 q k (eAt q e + i) = (pPu s q k).1 (eAt q e + i) := fun i hi => pOne_o iv.1 hq (by unfold eAt; omega) (eAt_ne (by omega) (by omega) (by omega) (by omega) hi (Or.inl (by omega))) (eAt_ne (by omega) (by omega) (by omega) (by omega) hi (Or.inl (by omega)))
        exact ⟨(o 10 (by omega)).trans ih.1, (o 11 (by omega)).trans ih.2⟩
      · rw [show pPu s q (k + 1) = _ from e_if cc]
        exact ih
theorem pPu_ot {s : Nat → Int32} {q q' : Nat} (hL : sLg s) (hq : q < 2) (hq' : q' < 2) (hqq : ¬ q' = q) {e i : Nat} (he : e < 8) (hi : i < 136) : ∀ k, k ≤ 8 → (pPu s q k).1 (eAt q' e + i) = s (eAt q' e + i)
  | 0, _ => rfl
  | k + 1, hk => by
    have iv := pPu_inv hL hq k (by omega)
    have ih := pPu_ot hL hq hq' hqq he hi k (by omega)
    by_cases cc : pCh (pPu s q k).1 q k
    · rw [show pPu s q (k + 1) = _ from e_it cc]
      exact (pOne_o iv.1 hq (by unfold eAt; omega) (eAt_ne (by omega) (by omega) he (by omega) hi (Or.inr hqq)) (eAt_ne (by omega) (by omega) he (by omega) hi (Or.inr (by omega)))).trans ih
    · rw [show pPu s q (k + 1) = _ from e_if cc]
      exact ih
theorem e_bits_c {f f' : Nat → Bool} : ∀ n, (∀ k, k < n → f k = f' k) → e_bits f n = e_bits f' n
  | 0, _ => rfl
  | n + 1, h => by
    have ih := e_bits_c n (fun k hk => h k (by omega))
    unfold e_bits
    rw [h n (by omega), ih]
theorem e_bits_0 : ∀ n, e_bits (fun _ => false) n = 0
  | 0 => rfl
  | n + 1 => by rw [e_bits_f rfl, e_bits_0 n]
end
