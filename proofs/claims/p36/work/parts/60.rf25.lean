/-! THE REFERENCE: pushes. -/
section
variable {l : Launch} {g : EG}
theorem rTh.mk {F : FM} {p e : Nat} (he : e < 8) (h : F 1 (eAt p e) = 1) : rTh F p (nI e) := ⟨nI_pos' (by omega), nI_le (b := 7) (by omega) (by omega), by rw [nI_clamp (by omega)]; exact h⟩
def pAcp (s : Nat → Int32) (q e : Nat) : Prop := if s (eAt 2 e) = 1 then s (eAt 2 e + 9) = s (eAt q e + 9) else s (eAt q e + 9) = -1
def pCnt (s : Nat → Int32) (q w : Nat) (k : Int32) : Nat → Int32 := wS s (3 + 6 * q + w) (s (3 + 6 * q + w) + k)
def pAc1 (s : Nat → Int32) (q e : Nat) : Nat → Int32 := rCpy (rChg s (nI e)) (eAt q e) (eAt 2 e)
def pAc2 (s : Nat → Int32) (e : Nat) : Nat → Int32 := wS s (eAt 2 e + 9) (if s (eAt 2 e) = 1 then s 0 else -1)
def pAcc (s : Nat → Int32) (q e : Nat) : Nat → Int32 := if ¬ s (eAt q e) = 1 ∧ ¬ s (eAt 2 e) = 1 then rCpy s (eAt 2 e) (eAt q e) else pCnt (rCpy (pAc2 (pAc1 s q e) e) (eAt 2 e) (eAt q e)) q 0 1
def pMg1 (s : Nat → Int32) (q e n : Nat) : Nat → Int32 := fun j => if eAt 2 e + (76 + 30 * q) ≤ j ∧ j < eAt 2 e + (76 + 30 * q) + 30 then (if j - (eAt 2 e + (76 + 30 * q)) < n then s (eAt q e + (76 + 30 * q) + (j - (eAt 2 e + (76 + 30 * q)))) else 0) else s j
def pMg2 (s : Nat → Int32) (q e : Nat) : Nat → Int32 := wS (wS s (eAt 2 e + 14 + q) (s (eAt q e + 14 + q))) (eAt 2 e + 9) (s 0)
def pMrg (s : Nat → Int32) (q e : Nat) : Nat → Int32 := pCnt (rCpy (pMg2 (pMg1 (rChg s (nI e)) q e (rDt (fun j => rChg s (nI e) (eAt 2 e + j))).length) q e) (eAt 2 e) (eAt q e)) q 1 1
def pRef (s : Nat → Int32) (q e : Nat) : Nat → Int32 := pCnt (rCpy s (eAt 2 e) (eAt q e)) q 2 1
def sLg (s : Nat → Int32) : Prop := ∃ L, s 23 = nI L ∧ L ≤ 8
theorem rChg_lo {s : Nat → Int32} {ev : Int32} {j : Nat} (h : 24 ≤ j) (hL : sLg s) : rChg s ev j = s j := by
  obtain ⟨L, eL, hL⟩ := hL
  unfold rChg
  rw [if_neg (by omega)]
  by_cases h8 : s 23 = 8
  · rw [if_pos h8, if_neg (by omega), if_neg (by omega)]
  · rw [if_neg h8, if_neg (by omega), eL, nI_clamp (by omega), if_neg (by omega)]
theorem rChg_Lg {s : Nat → Int32} {ev : Int32} (hL : sLg s) : sLg (rChg s ev) := by
  obtain ⟨L, eL, hL⟩ := hL
  by_cases h8 : s 23 = 8
  · exact ⟨8, by unfold rChg; rw [if_neg (by omega), if_pos h8, if_neg (by omega), if_neg (by omega)]; exact h8, Nat.le_refl _⟩
  · have : L ≠ 8 := fun h => h8 (by rw [eL, h]; rfl)
    exact ⟨L + 1, by unfold rChg; rw [if_neg (by omega), if_neg h8, if_pos rfl, eL, nI_1], by omega⟩
theorem rCpy_o {s : Nat → Int32} {a b j : Nat} (h : j < b ∨ b + 136 ≤ j) : rCpy s a b j = s j := if_neg (by omega)
theorem wS_o {s : Nat → Int32} {k j : Nat} {v : Int32} (h : ¬ j = k) : wS s k v j = s j := if_neg h
theorem wS_e {s : Nat → Int32} {k : Nat} {v : Int32} : wS s k v k = v := if_pos rfl
end
