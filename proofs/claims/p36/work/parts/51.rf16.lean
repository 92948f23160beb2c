/-! THE REFERENCE: the exchange, what is written. -/
section
variable {l : Launch} {g : EG}
/-- an event's dates are cleared -/
def rClr (s : Nat → Int32) (a : Nat) : Nat → Int32 := fun j => if (a + 12 ≤ j ∧ j < a + 14) ∨ (a + 16 ≤ j ∧ j < a + 136) then 0 else s j
def wS (s : Nat → Int32) (k : Nat) (v : Int32) : Nat → Int32 := fun j => if j = k then v else s j
theorem rwF_s {F : FM} {i : Nat} {f : Nat → Int32} : rwF F i f i = f := if_pos rfl
theorem rwF_n {F : FM} {i k : Nat} {f : Nat → Int32} (h : ¬ k = i) : rwF F i f k = F k := if_neg h
/-- the store's change: the clock, the log -/
def rChg (s : Nat → Int32) (ev : Int32) : Nat → Int32 := fun j => if j = 0 then s 0 + 1 else if s 23 = 8 then (if 15 ≤ j ∧ j < 22 then s (j + 1) else if j = 22 then ev else s j) else (if j = 23 then s 23 + 1 else if j = 15 + (s 23).toNatClampNeg then ev else s j)
end
