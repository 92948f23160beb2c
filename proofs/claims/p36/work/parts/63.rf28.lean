/-! THE REFERENCE: pulls; push, pull, sync. -/
section
variable {l : Launch} {g : EG}
def sTold (s : Nat → Int32) (q : Nat) : Int32 := rTold (fun _ => s) q
def sOld (s : Nat → Int32) (q : Nat) : Int32 := e_01 (s (1 + q) < s 0 - 8)
def sLog (s : Nat → Int32) : Prop := rLog (fun _ => s)
def pPz (s : Nat → Int32) (q : Nat) (k : Nat) : Nat → Int32 := fun j => if 24 + 1100 * q ≤ j ∧ j < 24 + 1100 * q + k then s (2224 + (j - (24 + 1100 * q))) else s j
noncomputable def pPe (s : Nat → Int32) (q : Nat) : Nat → (Nat → Int32)
  | 0 => s
  | k + 1 => e_ite (pCh (pPe s q k) q k) (pPe s q k) (rCpy (pPe s q k) (eAt 2 k) (eAt q k))
def pPc (s : Nat → Int32) (q : Nat) : Nat → Int32 := pCnt (pCnt (pCnt s q 3 1) q 4 (sOld s q)) q 5 (nI (e_cnt (sTold s q) 30))
noncomputable def pPl (s : Nat → Int32) (q : Nat) : Nat → Int32 := wS (pPe (pPz (pPc s q) q 12) q 8) (1 + q) (pPe (pPz (pPc s q) q 12) q 8 0)
theorem rTold_s {F : FM} {q : Nat} : rTold F q = sTold (F 1) q := rfl
theorem sLog.lg {s : Nat → Int32} (h : sLog s) : sLg s := by obtain ⟨c, L, h1, h2, h3, h4, h5⟩ := h; exact ⟨L, h3, h4⟩
theorem pCnt_lo {s : Nat → Int32} {q w j : Nat} {k : Int32} (h : j < 3 ∨ 15 ≤ j) (hq : q < 2) (hw : w < 6) : pCnt s q w k j = s j := wS_o (by omega)
theorem sLog_chg {s s' : Nat → Int32} {ev : Int32} {q : Nat} (h : sLog s) (h0 : s' 0 = rChg s ev 0) (h23 : s' 23 = rChg s ev 23) (h1 : ∀ t, t < 2 → s' (1 + t) = rChg s ev (1 + t)) (hc : ∃ c, s 0 = nI c ∧ c + 1 < 2 ^ 20) : sLog s' := by
  obtain ⟨c, L, e0, c1, eL, hL, hcL, ht⟩ := h
  obtain ⟨c', e0', c1'⟩ := hc
  have hcc : c = c' := by
    have : nI c = nI c' := e0.symm.trans e0'
    exact (nI_eq (by omega) (by omega)).mp this
  subst hcc
  have g1 : ∀ t, t < 2 → s' (1 + t) = s (1 + t) := by
    intro t ht2
    rw [h1 t ht2]
    unfold rChg
    rw [if_neg (by omega)]
    by_cases h8 : s 23 = 8
    · rw [if_pos h8, if_neg (by omega), if_neg (by omega)]
    · rw [if_neg h8, if_neg (by omega), if_neg (by omega)]
  have g0 : s' 0 = nI (c + 1) := by rw [h0]; show s 0 + 1 = _; rw [show s 0 = nI c from e0, nI_1]
  refine ⟨c + 1, (if L = 8 then 8 else L + 1), g0, c1', ?_, by split <;> omega, ?_, fun t ht2 => ?_⟩
  · show s' 23 = _
    rw [h23]
    unfold rChg
    rw [if_neg (by omega)]
    by_cases h8 : L = 8
    · have e8 : s 23 = 8 := by rw [show s 23 = nI L from eL, h8]; rfl
      rw [if_pos e8, if_neg (by omega), if_neg (by omega), if_pos h8, e8]
      rfl
    · have e8 : ¬ s 23 = 8 := by rw [show s 23 = nI L from eL]; exact fun h => h8 ((nI_eq (b := 8) (by omega) (by omega)).mp h)
      rw [if_neg e8, if_pos rfl, if_neg h8, show s 23 = nI L from eL, nI_1]
  · by_cases h8 : L = 8
    · rw [if_pos h8]; right; omega
    · rw [if_neg h8]; left; omega
  · obtain ⟨t', e, hle⟩ := ht t ht2
    exact ⟨t', (g1 t ht2).trans e, by omega⟩
end
