/-! THE REFERENCE: the dates of a rule. -/
section
variable {l : Launch} {g : EG}
/-- the reference's dates are L -/
def dF (F : FM) (L : List Nat) : FM := fun a b => if a = 0 ∧ b = 8 then nI L.length else if a = 5 ∧ b < L.length then nI (L.getD b 0) else F a b
theorem dF_5 {F : FM} {L : List Nat} {k : Nat} (h : k < L.length) : dF F L 5 k = nI (L.getD k 0) := by simp [dF, h]
theorem dF_r {F : FM} {L : List Nat} {i : Nat} (h : ¬ i = 0) (h5 : ¬ i = 5) : dF F L i = F i := by funext b; simp [dF, h, h5]
theorem e_addx_le {t : Int32} {L : List Nat} {x : Int32} (hL : L.length ≤ 30) : (e_addx t L x).length ≤ 30 := by
  unfold e_addx; split
  · rw [List.length_append, List.length_singleton]; omega
  · exact hL
theorem e_fold_le {t : Int32} {f : Nat → Int32} : ∀ k, (e_fold t f k).length ≤ 30
  | 0 => Nat.zero_le _
  | k + 1 => e_addx_le (e_fold_le k)
/-- a rule's fields are in their ranges -/
def rOk (r : Nat → Int32) : Prop := ∃ d kd n t, r 1 = nI d ∧ r 5 = nI kd ∧ r 6 = nI n ∧ r 8 = nI t ∧ d < 1095 ∧ kd ≤ 3 ∧ n ≤ 9 ∧ (kd = 0 ∨ 1 ≤ n) ∧ 1 ≤ t ∧ t ≤ 30
/-- the dates of a rule -/
def rDt (r : Nat → Int32) : List Nat := e_dts (r 5).toNatClampNeg (r 1).toNatClampNeg (r 6).toNatClampNeg (r 8).toNatClampNeg (r 7)
theorem rDt_le (r : Nat → Int32) : (rDt r).length ≤ 30 := by
  unfold rDt e_dts
  split
  · exact Nat.le_add_left 1 29
  · exact e_fold_le _
  · exact e_fold_le _
  · exact e_fold_le _
end
