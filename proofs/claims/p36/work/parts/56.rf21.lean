/-! THE REFERENCE: acts: cancel, move. -/
section
variable {l : Launch} {g : EG}
def sCa (s : Nat → Int32) (a d : Nat) : Nat → Int32 := wS (wS s (a + 12) (s (a + 12) ^^^ (1 <<< (nI d &&& 31)))) (a + 10) 1
theorem rRm.d {F F1 : FM} {u : Nat} (h : rRm F F1 u) : F1 0 8 = F 0 8 := h.2.2.2.2 8 (by decide)
def rGM (dy mi : Int32) : Prop := dy = -1 ∨ (0 ≤ dy ∧ dy ≤ 1094) ∧ (0 ≤ mi ∧ mi ≤ 1439)
def sMv (s : Nat → Int32) (a d : Nat) (dy mi : Int32) : Nat → Int32 := wS (wS (wS (wS s (a + 10) 1) (a + 13) (if dy = -1 then s (a + 13) &&& ((1 <<< (nI d &&& 31)) ^^^ (-1)) else s (a + 13) ||| (1 <<< (nI d &&& 31)))) (a + 16 + d) (if dy = -1 then 0 else dy)) (a + 46 + d) (if dy = -1 then 0 else mi)
end
