/-! THE REFERENCE: a statement is read. -/
section
variable {l : Launch} {g : EG}
def pSt (B : Nat → Nat) (n : Nat) (D : Nat → Int32) (nz ne t : Nat) : (Nat × Nat) ⊕ (((Nat → Int32) × Nat × Nat) × Nat) :=
  if tH B n t = 867781 then
    if nz = 3 then .inl (4, t) else
      match pZn B n (nx B n t) with
      | .inl e => .inl e
      | .inr (a, t') => .inr ((dZ D nz a, nz + 1, ne), t')
  else if tH B n t = 5969364 then
    if ne = 8 then .inl (4, t) else
      match pEv B n (12 + 136 * ne) nz D (nx B n t) with
      | .inl e => .inl e
      | .inr (D', t') => .inr ((D', nz, ne + 1), t')
  else .inl (1, t)
end
