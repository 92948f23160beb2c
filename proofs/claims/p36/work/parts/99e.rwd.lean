/-! THE REFERENCE: words, numbers. -/
section
variable {l : Launch} {g : EG}
/-- the scanner's cells, the number and the error -/
def kR (F F' : FM) : Prop := (∀ i, ¬ i = 0 → F' i = F i) ∧ ∀ j, ¬ j = 11 → ¬ (13 ≤ j ∧ j ≤ 17) → F' 0 j = F 0 j
theorem kT.r {F F' : FM} (h : kT F F') : kR F F' := ⟨h.1, fun j h1 h2 => h.2 j h1 (by omega) (by omega)⟩
theorem kR.rf {F : FM} : kR F F := ⟨fun _ _ => rfl, fun _ _ _ => rfl⟩
theorem kR.tr {F F' F'' : FM} (h : kR F F') (h' : kR F' F'') : kR F F'' := ⟨fun i h1 => (h'.1 i h1).trans (h.1 i h1), fun j h1 h2 => (h'.2 j h1 h2).trans (h.2 j h1 h2)⟩
theorem kR.u {F F' : FM} {j : Nat} {v : Int32} (h : kR F F') (hj : j = 11 ∨ (13 ≤ j ∧ j ≤ 17)) : kR F (upF F' 0 j v) := h.tr ⟨fun i h1 => upF_r h1, fun k h1 h2 => upF_n (by omega)⟩
theorem TX.r {F F' : FM} {B : Nat → Nat} {n : Nat} (h : TX F B n) (k : kR F F') : TX F' B n := ⟨(k.2 12 (by omega) (by omega)).trans h.1, h.2.1, fun j hj => by rw [k.1 6 (by omega)]; exact h.2.2 j hj⟩
/-- a number in its range: an error and its place, or the number and the next token -/
def pN (B : Nat → Nat) (n : Nat) (lo hi : Int32) (t : Nat) : (Nat × Nat) ⊕ (Nat × Nat) := if okN B n t = true then (if lo ≤ nI (tN B n t) ∧ nI (tN B n t) ≤ hi then .inr (tN B n t, nx B n t) else .inl (2, t)) else .inl (1, t)
theorem pN_r {B : Nat → Nat} {n t v t' : Nat} {lo hi : Int32} (h : pN B n lo hi t = .inr (v, t')) : okN B n t = true ∧ (lo ≤ nI v ∧ nI v ≤ hi) ∧ v = tN B n t ∧ t' = nx B n t ∧ t < n ∧ v < 10000 := by
  unfold pN at h
  split at h
  · rename_i c
    split at h
    · rename_i c2
      simp only [Sum.inr.injEq, Prod.mk.injEq] at h
      obtain ⟨rfl, rfl⟩ := h
      refine ⟨c, c2, rfl, rfl, ?_, tN_lt c⟩
      unfold okN tDi at c
      simp at c
      exact c.1.1
    · cases h
  · cases h
def erAt (F' : FM) (c q : Nat) : Prop := F' 0 16 = nI c ∧ F' 0 17 = nI q
def okR (F F' : FM) : Prop := F' 0 16 = F 0 16 ∧ F' 0 17 = F 0 17
theorem kT.o {F F' : FM} (h : kT F F') : okR F F' := ⟨h.2 16 (by omega) (by omega) (by omega), h.2 17 (by omega) (by omega) (by omega)⟩
theorem okR.tr {F F' F'' : FM} (h : okR F F') (h' : okR F' F'') : okR F F'' := ⟨h'.1.trans h.1, h'.2.trans h.2⟩
end
