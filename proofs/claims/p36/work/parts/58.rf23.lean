/-! THE REFERENCE: acts: reply, setZone. -/
section
variable {l : Launch} {g : EG}
def sRe (s : Nat → Int32) (a k : Nat) (v : Int32) : Nat → Int32 := wS (wS s (a + k) v) (a + 11) 1
end
