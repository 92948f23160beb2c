/-! THE REFERENCE: pushes, 2. -/
section
variable {l : Launch} {g : EG}
theorem rKa.d {F F' : FM} (h : rKa F F') {i : Nat} (hi : i = 3 ∨ i = 4) : F' i = F i := h.1 i (by omega)
end
