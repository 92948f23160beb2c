/-! THE REFERENCE: acts: repeat. -/
section
variable {l : Launch} {g : EG}
def rGR (S kd n w t : Int32) : Prop := (0 ≤ S ∧ S ≤ 1) ∧ (0 ≤ kd ∧ kd ≤ 3) ∧ (kd = 0 ∨ (1 ≤ n ∧ n ≤ 9) ∧ (1 ≤ t ∧ t ≤ 30)) ∧ (¬ kd = 2 ∨ (1 ≤ w ∧ w ≤ 127))
end
