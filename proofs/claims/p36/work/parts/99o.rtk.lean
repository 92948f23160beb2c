/-! THE REFERENCE: what was read is taken. -/
section
variable {l : Launch} {g : EG}
def dZn (D : Nat → Int32) (nz : Nat) : Nat → Int32 := fun j => if nz = 0 ∧ (j = 1 ∨ j = 2) then -1 else D j
def dEv (D : Nat → Int32) (ne k : Nat) : Nat → Int32 := fun j => if 21 + 136 * ne ≤ j ∧ j < 21 + 136 * k ∧ (j - 21) % 136 = 0 then -1 else D j
def dTk (D : Nat → Int32) (nz ne : Nat) : Nat → Int32 := dEv (dZn D nz) ne 8
def sCp (s D : Nat → Int32) (k : Nat) : Nat → Int32 := fun j => if j < 24 then 0 else if j < 24 + k then D (j - 24) else if 1124 ≤ j ∧ j < 1124 + k then D (j - 1124) else if 2224 ≤ j ∧ j < 2224 + k then D (j - 2224) else s j
/-- the reference after a calendar is taken -/
def fTk (F : FM) (nz ne : Nat) : FM := upF (upF (upF (rwF (rwF (upF F 0 1 (nI (if nz = 0 then 1 else nz))) 7 (dTk (F 7) nz ne)) 1 (sCp (F 1) (dTk (F 7) nz ne) 1100)) 0 6 0) 4 0 0) 4 1 0
end
