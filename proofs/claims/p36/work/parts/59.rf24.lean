/-! THE REFERENCE: acts: setZone. -/
section
variable {l : Launch} {g : EG}
def rGZ (of f l : Int32) : Prop := (-720 ≤ of ∧ of ≤ 720) ∧ (f = -1 ∨ (0 ≤ f ∧ f ≤ 364) ∧ (f ≤ l ∧ l ≤ 364))
def sZn (s : Nat → Int32) (z : Nat) (of f l : Int32) : Nat → Int32 := wS (wS (wS (wS s (zAt 2 z + 0) of) (zAt 2 z + 1) f) (zAt 2 z + 2) (if f = -1 then -1 else l)) (zAt 2 z + 3) (s 0)
end
