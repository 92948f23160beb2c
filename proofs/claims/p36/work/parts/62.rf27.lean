/-! THE REFERENCE: pushes and pulls. -/
section
variable {l : Launch} {g : EG}
noncomputable def e_ite {α : Type} (p : Prop) (a b : α) : α := @ite _ p (Classical.propDecidable p) a b
theorem e_it {α : Type} {p : Prop} {a b : α} (h : p) : e_ite p a b = a := @if_pos p (Classical.propDecidable p) h _ _ _
theorem e_if {α : Type} {p : Prop} {a b : α} (h : ¬ p) : e_ite p a b = b := @if_neg p (Classical.propDecidable p) h _ _ _
def pMg (s : Nat → Int32) (q e : Nat) : Prop := s (eAt 2 e) = 1 ∧ s (eAt q e + 10) = 0
noncomputable def pOne (s : Nat → Int32) (q e : Nat) : Nat → Int32 := e_ite (pAcp s q e) (pAcc s q e) (e_ite (pMg s q e) (pMrg s q e) (pRef s q e))
def pRf (s : Nat → Int32) (q e : Nat) : Prop := ¬ pAcp s q e ∧ ¬ pMg s q e
def pCh (s : Nat → Int32) (q e : Nat) : Prop := s (eAt q e + 10) = 1 ∨ s (eAt q e + 11) = 1
noncomputable def pPu (s : Nat → Int32) (q : Nat) : Nat → (Nat → Int32) × Nat
  | 0 => (s, 0)
  | k + 1 => e_ite (pCh (pPu s q k).1 q k) (pOne (pPu s q k).1 q k, e_ite (pRf (pPu s q k).1 q k) ((pPu s q k).2 + 1) (pPu s q k).2) (pPu s q k)
theorem pCnt_o {s : Nat → Int32} {q w j : Nat} {k : Int32} (hq : q < 2) (hw : w < 6) (h : 24 ≤ j) : pCnt s q w k j = s j := wS_o (by omega)
theorem sLg.of {s s' : Nat → Int32} (h : sLg s) (e : s' 23 = s 23) : sLg s' := by obtain ⟨L, h1, h2⟩ := h; exact ⟨L, by rw [e]; exact h1, h2⟩
theorem pMg1_o {s : Nat → Int32} {q e n j : Nat} (h : j < eAt 2 e ∨ eAt 2 e + 136 ≤ j) (hq : q < 2) : pMg1 s q e n j = s j := if_neg (by omega)
theorem pMg2_o {s : Nat → Int32} {q e j : Nat} (h : j < eAt 2 e ∨ eAt 2 e + 136 ≤ j) (hq : q < 2) : pMg2 s q e j = s j := by unfold pMg2; rw [wS_o (by omega), wS_o (by omega)]
theorem pOne_o {s : Nat → Int32} {q e j : Nat} (hL : sLg s) (hq : q < 2) (h : 24 ≤ j) (h1 : j < eAt q e ∨ eAt q e + 136 ≤ j) (h2 : j < eAt 2 e ∨ eAt 2 e + 136 ≤ j) : pOne s q e j = s j := by
  unfold pOne
  by_cases c1 : pAcp s q e
  · rw [e_it c1]
    unfold pAcc
    split
    · exact rCpy_o h1
    · rw [pCnt_o hq (by omega) h, rCpy_o h1]
      unfold pAc2 pAc1
      rw [wS_o (by omega), rCpy_o h2, rChg_lo h hL]
  · rw [e_if c1]
    by_cases c2 : pMg s q e
    · rw [e_it c2]
      unfold pMrg
      rw [pCnt_o hq (by omega) h, rCpy_o h1, pMg2_o h2 hq, pMg1_o h2 hq, rChg_lo h hL]
    · rw [e_if c2]
      unfold pRef
      rw [pCnt_o hq (by omega) h, rCpy_o h1]
theorem pCnt_Lg {s : Nat → Int32} {q w : Nat} {k : Int32} (hq : q < 2) (hw : w < 6) (h : sLg s) : sLg (pCnt s q w k) := h.of (wS_o (by omega))
theorem pOne_Lg {s : Nat → Int32} {q e : Nat} (hL : sLg s) (hq : q < 2) : sLg (pOne s q e) := by
  have hA : 36 ≤ eAt q e := by unfold eAt; omega
  have hB : 36 ≤ eAt 2 e := by unfold eAt; omega
  unfold pOne
  by_cases c1 : pAcp s q e
  · rw [e_it c1]
    unfold pAcc
    split
    · exact hL.of (rCpy_o (by omega))
    · exact pCnt_Lg hq (by omega) (((rChg_Lg hL).of (rCpy_o (b := eAt 2 e) (a := eAt q e) (by omega))).of (wS_o (by omega)) |>.of (rCpy_o (by omega)))
  · rw [e_if c1]
    by_cases c2 : pMg s q e
    · rw [e_it c2]
      exact pCnt_Lg hq (by omega) (((rChg_Lg (ev := nI e) hL).of (pMg1_o (by omega) hq)).of (pMg2_o (by omega) hq) |>.of (rCpy_o (by omega)))
    · rw [e_if c2]
      exact pCnt_Lg hq (by omega) (hL.of (rCpy_o (by omega)))
theorem eAt_ne {p p' e e' i : Nat} (hp : p < 3) (hp' : p' < 3) (he : e < 8) (he' : e' < 8) (hi : i < 136) (h : e ≠ e' ∨ p ≠ p') : eAt p e + i < eAt p' e' ∨ eAt p' e' + 136 ≤ eAt p e + i := by
  unfold eAt
  rcases (show p = 0 ∨ p = 1 ∨ p = 2 by omega) with rfl | rfl | rfl <;> rcases (show p' = 0 ∨ p' = 1 ∨ p' = 2 by omega) with rfl | rfl | rfl <;> omega
theorem pPu_inv {s : Nat → Int32} {q : Nat} (hL : sLg s) (hq : q < 2) : ∀ k, k ≤ 8 → sLg (pPu s q k).1 ∧ (∀ e p i, k ≤ e → e < 8 → p < 3 → i < 136 → (pPu s q k).1 (eAt p e + i) = s (eAt p e + i)) ∧ (pPu s q k).2 ≤ k
  | 0, _ => ⟨hL, fun _ _ _ _ _ _ _ => rfl, Nat.le_refl _⟩
  | k + 1, hk => by
    obtain ⟨h1, h2, h3⟩ := pPu_inv hL hq k (by omega)
    by_cases c : pCh (pPu s q k).1 q k
    · rw [show pPu s q (k + 1) = _ from e_it c]
      refine ⟨pOne_Lg h1 hq, fun e p i he1 he hp hi => ?_, ?_⟩
      · refine Eq.trans (pOne_o h1 hq (j := eAt p e + i) (by unfold eAt; omega) (eAt_ne hp (by omega) he (by omega) hi (Or.inl (by omega))) (eAt_ne hp (by omega) he (by omega) hi (Or.inl (by omega)))) ?_
        exact h2 e p i (by omega) he hp hi
      · show e_ite _ _ _ ≤ k + 1
        by_cases c2 : pRf (pPu s q k).1 q k
        · rw [e_it c2]; omega
        · rw [e_if c2]; omega
    · rw [show pPu s q (k + 1) = _ from e_if c]
      exact ⟨h1, fun e p i he1 he hp hi => h2 e p i (by omega) he hp hi, by omega⟩
end
