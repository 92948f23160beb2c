/-! THE REFERENCE: what is the same, 2. -/
section
variable {l : Launch} {g : EG}
def smD (F : FM) (s e d : Nat) : Prop := rMm F s e d = rMm F 2 e d ∧ F 1 (eAt s e + 3) = F 1 (eAt 2 e + 3) ∧ rAn F (eAt s e) 0 d = rAn F (eAt 2 e) 0 d ∧ rAn F (eAt s e) 1 d = rAn F (eAt 2 e) 1 d
def smE (F : FM) (s e : Nat) : Prop := ∀ d, d < 30 → rSh F s e d = rSh F 2 e d ∧ (rSh F s e d = true → smD F s e d)
def smA (F : FM) (s : Nat) : Prop := ∀ e, e < 8 → smE F s e
noncomputable def sp_isSame (F : FM) (S : Int32) : Int32 × Int32 := if 0 ≤ S ∧ S ≤ 1 then (0, e_p01 (smA F S.toNatClampNeg)) else (1, 0)
end
