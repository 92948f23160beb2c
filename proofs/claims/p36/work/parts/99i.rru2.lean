/-! THE REFERENCE: a rule is read, 2. -/
section
variable {l : Launch} {g : EG}
theorem pWd_s {B : Nat → Nat} {n f t : Nat} {w : Int32} : pWd B n (f + 1) w t = if wdN B n t = 7 then .inr (w, t) else if e_bit w (nI (wdN B n t)) then .inl (3, t) else pWd B n f (w ||| (1 <<< (nI (wdN B n t) &&& 31))) (nx B n t) := rfl
theorem wdV_7 {k : Nat} (h : k = 7) : wdV k = -1 := if_pos h
theorem wdV_n {k : Nat} (h : ¬ k = 7) : wdV k = nI k := if_neg h
theorem nI_m1 {k : Nat} (h : k < 2 ^ 31) : ¬ nI k = -1 := fun z => by
  have := congrArg Int32.toInt z
  rw [nI_toInt h, show (-1 : Int32).toInt = -1 from rfl] at this
  omega
end
