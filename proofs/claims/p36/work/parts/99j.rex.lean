/-! THE REFERENCE: the exceptions are read. -/
section
variable {l : Launch} {g : EG}
def pNo (B : Nat → Nat) (n a nd : Nat) (D : Nat → Int32) (t : Nat) : (Nat × Nat) ⊕ ((Nat → Int32) × Nat) :=
  match pN B n 0 (nI nd - 1) t with
  | .inl e => .inl e
  | .inr (v, t1) => if e_bit (D (a + 12)) (nI v) then .inl (3, t) else .inr (wS D (a + 12) (D (a + 12) ||| (1 <<< (nI v &&& 31))), t1)
def pMo (B : Nat → Nat) (n a nd : Nat) (D : Nat → Int32) (t : Nat) : (Nat × Nat) ⊕ ((Nat → Int32) × Nat) :=
  match pN B n 0 (nI nd - 1) t with
  | .inl e => .inl e
  | .inr (d, t1) => match pN B n 0 1094 t1 with
    | .inl e => .inl e
    | .inr (y, t2) => match pN B n 0 1439 t2 with
      | .inl e => .inl e
      | .inr (m, t3) => .inr (wS (wS (wS D (a + 16 + d) (nI y)) (a + 46 + d) (nI m)) (a + 13) (D (a + 13) ||| (1 <<< (nI d &&& 31))), t3)
def pEx (B : Nat → Nat) (n a nd : Nat) : Nat → (Nat → Int32) → Nat → (Nat × Nat) ⊕ ((Nat → Int32) × Nat)
  | 0, D, t => .inr (D, t)
  | f + 1, D, t =>
    if tH B n t = 14836 then
      match pNo B n a nd D (nx B n t) with
      | .inl e => .inl e
      | .inr (D', t') => pEx B n a nd f D' t'
    else if tH B n t = 442053 then
      match pMo B n a nd D (nx B n t) with
      | .inl e => .inl e
      | .inr (D', t') => pEx B n a nd f D' t'
    else .inr (D, t)
theorem pEx_s {B : Nat → Nat} {n a nd f t : Nat} {D : Nat → Int32} : pEx B n a nd (f + 1) D t = if tH B n t = 14836 then (match pNo B n a nd D (nx B n t) with | .inl e => .inl e | .inr (D', t') => pEx B n a nd f D' t') else if tH B n t = 442053 then (match pMo B n a nd D (nx B n t) with | .inl e => .inl e | .inr (D', t') => pEx B n a nd f D' t') else .inr (D, t) := rfl
theorem pN_gt {B : Nat → Nat} {n t v t' : Nat} {lo hi : Int32} (h : pN B n lo hi t = .inr (v, t')) : t + 1 ≤ t' ∧ t' ≤ n := by
  obtain ⟨_, _, _, e, ht, _⟩ := pN_r h
  rw [e]; exact nx_le ht
theorem pNo_gt {B : Nat → Nat} {n a nd t t' : Nat} {D D' : Nat → Int32} (h : pNo B n a nd D t = .inr (D', t')) : t + 1 ≤ t' ∧ t' ≤ n := by
  unfold pNo at h
  rcases hp : pN B n 0 (nI nd - 1) t with e | ⟨v, t1⟩
  · rw [hp] at h; cases h
  · rw [hp] at h
    dsimp only at h
    split at h
    · cases h
    · simp only [Sum.inr.injEq, Prod.mk.injEq] at h
      rw [← h.2]; exact pN_gt hp
theorem pMo_gt {B : Nat → Nat} {n a nd t t' : Nat} {D D' : Nat → Int32} (h : pMo B n a nd D t = .inr (D', t')) : t + 1 ≤ t' ∧ t' ≤ n := by
  unfold pMo at h
  rcases hp : pN B n 0 (nI nd - 1) t with e | ⟨v, t1⟩
  · rw [hp] at h; cases h
  · rw [hp] at h
    dsimp only at h
    rcases hp2 : pN B n 0 1094 t1 with e | ⟨y, t2⟩
    · rw [hp2] at h; cases h
    · rw [hp2] at h
      dsimp only at h
      rcases hp3 : pN B n 0 1439 t2 with e | ⟨m, t3⟩
      · rw [hp3] at h; cases h
      · rw [hp3] at h
        simp only [Sum.inr.injEq, Prod.mk.injEq] at h
        have a1 := pN_gt hp; have a2 := pN_gt hp2; have a3 := pN_gt hp3
        rw [← h.2]; omega
theorem nd_v {v nd : Nat} (h3 : nd ≤ 30) (hv : v < 10000) (h : 0 ≤ nI v ∧ nI v ≤ nI nd - 1) : v < nd := by
  obtain ⟨e, he, ee⟩ := idt (by omega) h
  have := (nI_eq (by omega) (by omega)).mp ee
  omega
end
