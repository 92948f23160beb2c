/-! THE REFERENCE: a calendar is read. -/
section
variable {l : Launch} {g : EG}
def pCal (B : Nat → Nat) (n : Nat) : Nat → (Nat → Int32) → Nat → Nat → Nat → (Nat × Nat) ⊕ (((Nat → Int32) × Nat × Nat) × Nat)
  | 0, D, nz, ne, t => .inr ((D, nz, ne), t)
  | f + 1, D, nz, ne, t =>
    if t < n then
      match pSt B n D nz ne t with
      | .inl e => .inl e
      | .inr (d, t') => if tIs B n t' 59 = true then pCal B n f d.1 d.2.1 d.2.2 (nx B n t') else .inl (1, t')
    else .inr ((D, nz, ne), t)
theorem pCal_s {B : Nat → Nat} {n f nz ne t : Nat} {D : Nat → Int32} : pCal B n (f + 1) D nz ne t = if t < n then (match pSt B n D nz ne t with | .inl e => .inl e | .inr (d, t') => if tIs B n t' 59 = true then pCal B n f d.1 d.2.1 d.2.2 (nx B n t') else .inl (1, t')) else .inr ((D, nz, ne), t) := rfl
/-- the draft while it is read -/
def dOk (d : (Nat → Int32) × Nat × Nat) : Prop := d.2.1 ≤ 3 ∧ d.2.2 ≤ 8 ∧ ∀ e, d.2.2 ≤ e → e < 8 → d.1 (12 + 136 * e + 7) = 0
theorem pSt_go {B : Nat → Nat} {n nz ne t t' : Nat} {D : Nat → Int32} {d : (Nat → Int32) × Nat × Nat} (h : pSt B n D nz ne t = .inr (d, t')) (hd : dOk (D, nz, ne)) : (t + 1 ≤ t' ∧ t' ≤ n) ∧ dOk d := by
  obtain ⟨hz, he, h7⟩ := hd
  dsimp only at hz he h7
  unfold pSt at h
  split at h
  · rename_i c
    have g := nx_le (B := B) (tH_n c (by omega))
    split at h
    · cases h
    · rename_i c3
      rcases hp : pZn B n (nx B n t) with e | ⟨a, t2⟩
      · rw [hp] at h; cases h
      · rw [hp] at h; dsimp only at h
        have g2 := pZn_gt hp g.2
        simp only [Sum.inr.injEq, Prod.mk.injEq] at h
        obtain ⟨rfl, rfl⟩ := h
        exact ⟨by omega, by dsimp only; omega, he, fun e h1 h2 => (dZ_o (by omega) (by omega)).trans (h7 e h1 h2)⟩
  · split at h
    · rename_i c
      have g := nx_le (B := B) (tH_n c (by omega))
      split at h
      · cases h
      · rename_i c3
        rcases hp : pEv B n (12 + 136 * ne) nz D (nx B n t) with e | ⟨D2, t2⟩
        · rw [hp] at h; cases h
        · rw [hp] at h; dsimp only at h
          have g2 := pEv_go hp
          simp only [Sum.inr.injEq, Prod.mk.injEq] at h
          obtain ⟨rfl, rfl⟩ := h
          exact ⟨by omega, hz, by dsimp only; omega, fun e h1 h2 => (g2.2 _ (by unfold oA; dsimp only at h1; omega)).trans (h7 e (by dsimp only at h1; omega) h2)⟩
    · cases h
end
