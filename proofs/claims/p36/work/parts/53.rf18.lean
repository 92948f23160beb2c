/-! THE REFERENCE: undo and slots. -/
section
variable {l : Launch} {g : EG}
/-- refused -/
def RN (M : EM) (m : Nat) (F : FM) (k : Int32) : EO → EM → Prop := fun o M' => ∃ F', M' = rM M m F' ∧ rKp F F' ∧ F' 0 0 = k ∧ ∃ w, o = .inl (some (.inl w))
theorem RN.mk {M : EM} {m : Nat} {F F' : FM} {k w : Int32} (h : rKp F F') : RN M m F k (.inl (some (.inl w))) (rM M m (upF F' 0 0 k)) := ⟨_, rfl, h.th, upF_s, w, rfl⟩
/-- the present row is taken from elsewhere -/
def rTk (F F' : FM) (r o : Nat) : Prop := (∀ j, j < 3324 → F' 1 j = F r (o + j)) ∧ (∀ i, ¬ i = 0 → ¬ i = 1 → F' i = F i) ∧ ∀ j, ¬ j = 0 → ¬ j = 6 → F' 0 j = F 0 j
end
