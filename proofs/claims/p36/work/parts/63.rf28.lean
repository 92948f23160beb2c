/-! THE REFERENCE: pulls; push, pull, sync. -/
section
variable {l : Launch} {g : EG}
def sTold (s : Nat → Int32) (q : Nat) : Int32 := rTold (fun _ => s) q
def sOld (s : Nat → Int32) (q : Nat) : Int32 := e_01 (s (1 + q) < s 0 - 8)
def sLog (s : Nat → Int32) : Prop := rLog (fun _ => s)
def pPz (s : Nat → Int32) (q : Nat) (k : Nat) : Nat → Int32 := fun j => if 24 + 1100 * q ≤ j ∧ j < 24 + 1100 * q + k then s (2224 + (j - (24 + 1100 * q))) else s j
noncomputable def pPe (s : Nat → Int32) (q : Nat) : Nat → (Nat → Int32)
  | 0 => s
  | k + 1 => e_ite (pCh (pPe s q k) q k) (pPe s q k) (rCpy (pPe s q k) (eAt 2 k) (eAt q k))
def pPc (s : Nat → Int32) (q : Nat) : Nat → Int32 := pCnt (pCnt (pCnt s q 3 1) q 4 (sOld s q)) q 5 (nI (e_cnt (sTold s q) 30))
noncomputable def pPl (s : Nat → Int32) (q : Nat) : Nat → Int32 := wS (pPe (pPz (pPc s q) q 12) q 8) (1 + q) (pPe (pPz (pPc s q) q 12) q 8 0)
theorem rTold_s {F : FM} {q : Nat} : rTold F q = sTold (F 1) q := rfl
theorem sLog.lg {s : Nat → Int32} (h : sLog s) : sLg s := by obtain ⟨c, L, h1, h2, h3, h4, h5⟩ := h; exact ⟨L, h3, h4⟩
theorem pCnt_lo {s : Nat → Int32} {q w j : Nat} {k : Int32} (h : j < 3 ∨ 15 ≤ j) (hq : q < 2) (hw : w < 6) : pCnt s q w k j = s j := wS_o (by omega)
end
