/-! THE REFERENCE: its text, token by token. -/
section
variable {l : Launch} {g : EG}
def TX (F : FM) (B : Nat → Nat) (n : Nat) : Prop := F 0 12 = nI n ∧ n ≤ 800 ∧ ∀ j, j < n → F 6 j = nI (B j) ∧ B j < 256
/-- only the scanner's own cells are written -/
def kT (F F' : FM) : Prop := (∀ i, ¬ i = 0 → F' i = F i) ∧ ∀ j, ¬ j = 11 → ¬ j = 13 → ¬ j = 14 → F' 0 j = F 0 j
theorem kT.rf {F : FM} : kT F F := ⟨fun _ _ => rfl, fun _ _ _ _ => rfl⟩
theorem kT.tr {F F' F'' : FM} (h : kT F F') (h' : kT F' F'') : kT F F'' := ⟨fun i h1 => (h'.1 i h1).trans (h.1 i h1), fun j h1 h2 h3 => (h'.2 j h1 h2 h3).trans (h.2 j h1 h2 h3)⟩
theorem kT.u {F F' : FM} {j : Nat} {v : Int32} (h : kT F F') (hj : j = 11 ∨ j = 13 ∨ j = 14) : kT F (upF F' 0 j v) := h.tr ⟨fun i h1 => upF_r h1, fun k h1 h2 h3 => upF_n (by omega)⟩
theorem TX.k {F F' : FM} {B : Nat → Nat} {n : Nat} (h : TX F B n) (k : kT F F') : TX F' B n := ⟨(k.2 12 (by omega) (by omega) (by omega)).trans h.1, h.2.1, fun j hj => by rw [k.1 6 (by omega)]; exact h.2.2 j hj⟩
/-- the next token starts at t -/
def PS (F : FM) (B : Nat → Nat) (n t : Nat) : Prop := TX F B n ∧ ∃ p, p ≤ n ∧ F 0 11 = nI p ∧ tS B n p = t
/-- it is looked at -/
def PK (F : FM) (B : Nat → Nat) (n t : Nat) : Prop := TX F B n ∧ t ≤ n ∧ F 0 11 = nI t ∧ tS B n t = t ∧ F 0 13 = nI t ∧ F 0 14 = nI (tE B n t)
theorem PK.s {F : FM} {B : Nat → Nat} {n t : Nat} (h : PK F B n t) : PS F B n t := ⟨h.1, t, h.2.1, h.2.2.1, h.2.2.2.1⟩
theorem PS.le {F : FM} {B : Nat → Nat} {n t : Nat} (h : PS F B n t) : t ≤ n ∧ tS B n t = t := by
  obtain ⟨_, p, hp, _, rfl⟩ := h
  exact ⟨(tS_le (B := B)).2 hp, tS_id⟩
end
