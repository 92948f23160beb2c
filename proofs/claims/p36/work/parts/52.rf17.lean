/-! THE REFERENCE: copies, what is remembered. -/
section
variable {l : Launch} {g : EG}
/-- an event's row is copied -/
def rCpy (s : Nat → Int32) (a b : Nat) : Nat → Int32 := fun j => if b ≤ j ∧ j < b + 136 then (if j = b + 10 ∨ j = b + 11 then 0 else if j = b + 9 ∧ s a = 0 then -1 else s (a + (j - b))) else s j
/-- a row is remembered: the twelfth is the latest; the first is dropped where twelve stand there -/
def rRm (F F' : FM) (u : Nat) : Prop := F' 0 6 = nI ((if u = 12 then 11 else u) + 1) ∧ (∀ i k, i < (if u = 12 then 11 else u) → k < 3324 → F' 2 (3324 * i + k) = F 2 (3324 * (i + if u = 12 then 1 else 0) + k)) ∧ (∀ k, k < 3324 → F' 2 (3324 * (if u = 12 then 11 else u) + k) = F 1 k) ∧ (∀ i, ¬ i = 0 → ¬ i = 2 → F' i = F i) ∧ ∀ j, ¬ j = 6 → F' 0 j = F 0 j
end
