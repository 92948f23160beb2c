/-! THE REFERENCE: an event is read. -/
section
variable {l : Launch} {g : EG}
def dE1 (D : Nat → Int32) (a : Nat) (x y z w : Nat) : Nat → Int32 := wS (wS (wS (wS (wS (wS (wS D (a + 1) (nI x)) (a + 2) (nI y)) (a + 3) (nI z)) (a + 4) (nI w)) (a + 5) 0) (a + 6) 0) (a + 8) 1
def pER (B : Nat → Nat) (n a : Nat) (D : Nat → Int32) (t : Nat) : (Nat × Nat) ⊕ ((Nat → Int32) × Nat) :=
  if tH B n t = 5969497 then
    match pRu B n (nx B n t) with
    | .inl e => .inl e
    | .inr (r, t5) => .inr (dRu D a r, t5)
  else .inr (D, t)
def pEv (B : Nat → Nat) (n a nz : Nat) (D : Nat → Int32) (t : Nat) : (Nat × Nat) ⊕ ((Nat → Int32) × Nat) :=
  match pN B n 0 1094 t with
  | .inl e => .inl e
  | .inr (x, t1) => match pN B n 0 1439 t1 with
    | .inl e => .inl e
    | .inr (y, t2) => match pN B n 1 1440 t2 with
      | .inl e => .inl e
      | .inr (z, t3) => match pN B n 0 (nI nz - 1) t3 with
        | .inl e => .inl e
        | .inr (w, t4) => match pER B n a (dE1 D a x y z w) t4 with
          | .inl e => .inl e
          | .inr (D2, t5) => match pEx B n a (rDt (fun j => D2 (a + j))).length (n + 1) D2 t5 with
            | .inl e => .inl e
            | .inr (D3, t6) => .inr (wS D3 (a + 0) 1, t6)
theorem dE1_v {D : Nat → Int32} {a x y z w : Nat} : dE1 D a x y z w (a + 1) = nI x ∧ dE1 D a x y z w (a + 5) = 0 ∧ dE1 D a x y z w (a + 6) = 0 ∧ dE1 D a x y z w (a + 8) = 1 ∧ dE1 D a x y z w (a + 7) = D (a + 7) := by
  unfold dE1
  refine ⟨?_, ?_, ?_, ?_, ?_⟩
  · rw [wS_o (by omega), wS_o (by omega), wS_o (by omega), wS_o (by omega), wS_o (by omega), wS_o (by omega), wS_e]
  · rw [wS_o (by omega), wS_o (by omega), wS_e]
  · rw [wS_o (by omega), wS_e]
  · rw [wS_e]
  · rw [wS_o (by omega), wS_o (by omega), wS_o (by omega), wS_o (by omega), wS_o (by omega), wS_o (by omega), wS_o (by omega)]
/-- what a rule's numbers are -/
theorem pRu_r {B : Nat → Nat} {n t t' : Nat} {r : Int32 × Int32 × Int32 × Int32} (h : pRu B n t = .inr (r, t')) : ∃ v u y, 1 ≤ v ∧ v ≤ 9 ∧ 1 ≤ u ∧ u ≤ 3 ∧ 1 ≤ y ∧ y ≤ 30 ∧ r.1 = nI v ∧ r.2.1 = nI u ∧ r.2.2.2 = nI y := by
  unfold pRu at h
  rcases hp : pN B n 1 9 t with e | ⟨v, t1⟩
  · rw [hp] at h; cases h
  · rw [hp] at h; dsimp only at h
    obtain ⟨_, ⟨b1, b2⟩, _, _, _, b3⟩ := pN_r hp
    have v1 := (nI_leI (a := 1) (b := v) (by omega) (by omega)).mp b1
    have v9 := (nI_leI (a := v) (b := 9) (by omega) (by omega)).mp b2
    by_cases u0 : unN B n t1 = 0
    · rw [if_pos u0] at h; cases h
    · rw [if_neg u0] at h
      have u3 := (unN_t u0).2
      rcases hw : (if unN B n t1 = 2 then pWk B n (nx B n t1) else .inr (0, nx B n t1)) with e | ⟨w, t2⟩
      · rw [hw] at h; cases h
      · rw [hw] at h; dsimp only at h
        split at h
        · rcases hp2 : pN B n 1 30 (nx B n t2) with e | ⟨y, t3⟩
          · rw [hp2] at h; cases h
          · rw [hp2] at h; dsimp only at h
            obtain ⟨_, ⟨c1, c2⟩, _, _, _, c3⟩ := pN_r hp2
            have y1 := (nI_leI (a := 1) (b := y) (by omega) (by omega)).mp c1
            have y30 := (nI_leI (a := y) (b := 30) (by omega) (by omega)).mp c2
            simp only [Sum.inr.injEq, Prod.mk.injEq] at h
            obtain ⟨rfl, _⟩ := h
            exact ⟨v, unN B n t1, y, by omega, by omega, by omega, by omega, by omega, by omega, rfl, rfl, rfl⟩
        · cases h
end
