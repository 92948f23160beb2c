/-! THE REFERENCE: a rule is read. -/
section
variable {l : Launch} {g : EG}
/-- the weekday that the token is; 7: none -/
def wdN (B : Nat → Nat) (n t : Nat) : Nat := if tH B n t = 431 then 0 else if tH B n t = 661 then 1 else if tH B n t = 741 then 2 else if tH B n t = 648 then 3 else if tH B n t = 210 then 4 else if tH B n t = 609 then 5 else if tH B n t = 629 then 6 else 7
def pWd (B : Nat → Nat) (n : Nat) : Nat → Int32 → Nat → (Nat × Nat) ⊕ (Int32 × Nat)
  | 0, w, t => .inr (w, t)
  | f + 1, w, t => if wdN B n t = 7 then .inr (w, t) else if e_bit w (nI (wdN B n t)) then .inl (3, t) else pWd B n f (w ||| (1 <<< (nI (wdN B n t) &&& 31))) (nx B n t)
def pWk (B : Nat → Nat) (n t : Nat) : (Nat × Nat) ⊕ (Int32 × Nat) := if wdN B n t = 7 then .inl (1, t) else pWd B n (n + 8) 0 t
/-- the rule's unit; 0: none -/
def unN (B : Nat → Nat) (n t : Nat) : Nat := if tH B n t = 132915 then 1 else if tH B n t = 24286579 then 2 else if tH B n t = 452415763 then 3 else 0
def pRu (B : Nat → Nat) (n t : Nat) : (Nat × Nat) ⊕ ((Int32 × Int32 × Int32 × Int32) × Nat) :=
  match pN B n 1 9 t with
  | .inl e => .inl e
  | .inr (v, t1) =>
    if unN B n t1 = 0 then .inl (1, t1) else
      match (if unN B n t1 = 2 then pWk B n (nx B n t1) else .inr (0, nx B n t1)) with
      | .inl e => .inl e
      | .inr (w, t2) =>
        if tH B n t2 = 21279923 then
          match pN B n 1 30 (nx B n t2) with
          | .inl e => .inl e
          | .inr (y, t3) => .inr ((nI v, nI (unN B n t1), w, nI y), t3)
        else .inl (1, t2)
def dRu (D : Nat → Int32) (a : Nat) (r : Int32 × Int32 × Int32 × Int32) : Nat → Int32 := wS (wS (wS (wS D (a + 6) r.1) (a + 5) r.2.1) (a + 7) r.2.2.1) (a + 8) r.2.2.2
theorem wdN_t {B : Nat → Nat} {n t : Nat} (h : ¬ wdN B n t = 7) : t < n ∧ wdN B n t < 7 := by
  unfold wdN at h ⊢
  by_cases c0 : tH B n t = 431
  · exact ⟨tH_n c0 (by omega), by rw [if_pos c0]; omega⟩
  by_cases c1 : tH B n t = 661
  · exact ⟨tH_n c1 (by omega), by rw [if_neg c0, if_pos c1]; omega⟩
  by_cases c2 : tH B n t = 741
  · exact ⟨tH_n c2 (by omega), by rw [if_neg c0, if_neg c1, if_pos c2]; omega⟩
  by_cases c3 : tH B n t = 648
  · exact ⟨tH_n c3 (by omega), by rw [if_neg c0, if_neg c1, if_neg c2, if_pos c3]; omega⟩
  by_cases c4 : tH B n t = 210
  · exact ⟨tH_n c4 (by omega), by rw [if_neg c0, if_neg c1, if_neg c2, if_neg c3, if_pos c4]; omega⟩
  by_cases c5 : tH B n t = 609
  · exact ⟨tH_n c5 (by omega), by rw [if_neg c0, if_neg c1, if_neg c2, if_neg c3, if_neg c4, if_pos c5]; omega⟩
  by_cases c6 : tH B n t = 629
  · exact ⟨tH_n c6 (by omega), by rw [if_neg c0, if_neg c1, if_neg c2, if_neg c3, if_neg c4, if_neg c5, if_pos c6]; omega⟩
  rw [if_neg c0, if_neg c1, if_neg c2, if_neg c3, if_neg c4, if_neg c5, if_neg c6] at h
  exact absurd rfl h
theorem unN_t {B : Nat → Nat} {n t : Nat} (h : ¬ unN B n t = 0) : t < n ∧ unN B n t < 4 := by
  unfold unN at h ⊢
  by_cases c0 : tH B n t = 132915
  · exact ⟨tH_n c0 (by omega), by rw [if_pos c0]; omega⟩
  by_cases c1 : tH B n t = 24286579
  · exact ⟨tH_n c1 (by omega), by rw [if_neg c0, if_pos c1]; omega⟩
  by_cases c2 : tH B n t = 452415763
  · exact ⟨tH_n c2 (by omega), by rw [if_neg c0, if_neg c1, if_pos c2]; omega⟩
  rw [if_neg c0, if_neg c1, if_neg c2] at h
  exact absurd rfl h
def wdV (k : Nat) : Int32 := if k = 7 then -1 else nI k
end
