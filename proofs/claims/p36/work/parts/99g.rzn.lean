/-! THE REFERENCE: a zone is read. -/
section
variable {l : Launch} {g : EG}
/-- what reading into the draft keeps -/
def kD (F F' : FM) : Prop := (∀ i, ¬ i = 0 → ¬ i = 5 → ¬ i = 7 → F' i = F i) ∧ ∀ j, ¬ j = 8 → ¬ j = 11 → ¬ (13 ≤ j ∧ j ≤ 17) → ¬ j = 19 → ¬ j = 20 → F' 0 j = F 0 j
theorem kD.rf {F : FM} : kD F F := ⟨fun _ _ _ _ => rfl, fun _ _ _ _ _ _ => rfl⟩
theorem kD.tr {F F' F'' : FM} (h : kD F F') (h' : kD F' F'') : kD F F'' := ⟨fun i h1 h2 h3 => (h'.1 i h1 h2 h3).trans (h.1 i h1 h2 h3), fun j h1 h2 h3 h4 h5 => (h'.2 j h1 h2 h3 h4 h5).trans (h.2 j h1 h2 h3 h4 h5)⟩
theorem kR.d {F F' : FM} (h : kR F F') : kD F F' := ⟨fun i h1 _ _ => h.1 i h1, fun j _ h2 h3 _ _ => h.2 j h2 h3⟩
theorem PS.cg {F F' : FM} {B : Nat → Nat} {n t : Nat} (h : PS F B n t) (h11 : F' 0 11 = F 0 11) (h12 : F' 0 12 = F 0 12) (h6 : F' 6 = F 6) : PS F' B n t := by
  obtain ⟨⟨a, b, c⟩, p, h1, h2, h3⟩ := h
  exact ⟨⟨h12.trans a, b, fun j hj => by rw [h6]; exact c j hj⟩, p, h1, h11.trans h2, h3⟩
theorem okR.rf {F : FM} : okR F F := ⟨rfl, rfl⟩
theorem kR.z {F F' : FM} (h : kR F F') {j : Nat} (hj : ¬ j = 11) (h2 : ¬ (13 ≤ j ∧ j ≤ 17)) : F' 0 j = F 0 j := h.2 j hj h2
/-- a zone: its offset, first and last; the next token -/
def pZn (B : Nat → Nat) (n t : Nat) : (Nat × Nat) ⊕ ((Int32 × Int32 × Int32) × Nat) :=
  match pN B n 0 720 (if tIs B n t 45 = true then nx B n t else t) with
  | .inl e => .inl e
  | .inr (v, t2) =>
    if tH B n t2 = 659993778 then
      match pN B n 0 364 (nx B n t2) with
      | .inl e => .inl e
      | .inr (a, t3) => match pN B n (nI a) 364 t3 with
        | .inl e => .inl e
        | .inr (b, t4) => .inr ((if tIs B n t 45 = true then -(nI v) else nI v, nI a, nI b), t4)
    else .inr ((if tIs B n t 45 = true then -(nI v) else nI v, -1, -1), t2)
theorem tH_n {B : Nat → Nat} {n t W : Nat} (h : tH B n t = W) (h0 : 0 < W) : t < n := by
  unfold tH at h
  split at h
  · rename_i c
    have := c.1
    unfold tLe at this
    simp at this
    exact this.1
  · omega
/-- the end of a reading: an error, or what P says -/
def RD {α : Type} (M : EM) (m : Nat) (F : FM) (r : (Nat × Nat) ⊕ (α × Nat)) (P : FM → α → Nat → Prop) : EO → EM → Prop := fun o M' => match r with
  | .inl (c, q) => BX (∃ F', M' = rM M m F' ∧ (kD F F' ∧ erAt F' c q) ∧ o = .inl (some (.inl 0)))
  | .inr (a, t') => BX (∃ F', M' = rM M m F' ∧ (kD F F' ∧ okR F F' ∧ P F' a t') ∧ o = .inl (some (.inl 1)))
theorem RD.no {α : Type} {M : EM} {m : Nat} {F F' : FM} {r : (Nat × Nat) ⊕ (α × Nat)} {P : FM → α → Nat → Prop} {c q : Nat} (h : r = .inl (c, q)) (hk : kD F F') (he : erAt F' c q) : RD M m F r P (.inl (some (.inl 0))) (rM M m F') := by
  unfold RD; rw [h]; exact BX.mk ⟨F', rfl, ⟨hk, he⟩, rfl⟩
theorem RD.yes {α : Type} {M : EM} {m : Nat} {F F' : FM} {r : (Nat × Nat) ⊕ (α × Nat)} {P : FM → α → Nat → Prop} {a : α} {t' : Nat} (h : r = .inr (a, t')) (hk : kD F F') (ho : okR F F') (hp : P F' a t') : RD M m F r P (.inl (some (.inl 1))) (rM M m F') := by
  unfold RD; rw [h]; exact BX.mk ⟨F', rfl, ⟨hk, ho, hp⟩, rfl⟩
theorem RD.o {α : Type} {M M' : EM} {m : Nat} {F : FM} {r : (Nat × Nat) ⊕ (α × Nat)} {P : FM → α → Nat → Prop} {o : EO} {c q : Nat} (h : RD M m F r P o M') (hr : r = .inl (c, q)) : ∃ F', M' = rM M m F' ∧ (kD F F' ∧ erAt F' c q) ∧ o = .inl (some (.inl 0)) := by
  unfold RD at h; rw [hr] at h; exact h.out
theorem RD.i {α : Type} {M M' : EM} {m : Nat} {F : FM} {r : (Nat × Nat) ⊕ (α × Nat)} {P : FM → α → Nat → Prop} {o : EO} {a : α} {t' : Nat} (h : RD M m F r P o M') (hr : r = .inr (a, t')) : ∃ F', M' = rM M m F' ∧ (kD F F' ∧ okR F F' ∧ P F' a t') ∧ o = .inl (some (.inl 1)) := by
  unfold RD at h; rw [hr] at h; exact h.out
/-- a zone's cells in the draft -/
def dZ (D : Nat → Int32) (z : Nat) (a : Int32 × Int32 × Int32) : Nat → Int32 := wS (wS (wS D (4 * z) a.1) (4 * z + 1) a.2.1) (4 * z + 2) a.2.2
end
