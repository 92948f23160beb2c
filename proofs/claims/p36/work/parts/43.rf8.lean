/-! THE REFERENCE: agendas. -/
section
variable {l : Launch} {g : EG}
/-- nothing but the entries is written -/
def rKq (F F' : FM) : Prop := (∀ i, ¬ (8 ≤ i ∧ i ≤ 11) → ¬ i = 0 → F' i = F i) ∧ ∀ j, ¬ j = 25 → F' 0 j = F 0 j
theorem rKq.rf {F : FM} : rKq F F := ⟨fun _ _ _ => rfl, fun _ _ => rfl⟩
theorem rKq.tr {F F' F'' : FM} (h : rKq F F') (h' : rKq F' F'') : rKq F F'' := ⟨fun i h1 h2 => (h'.1 i h1 h2).trans (h.1 i h1 h2), fun j h1 => (h'.2 j h1).trans (h.2 j h1)⟩
theorem rKq.p {F F' : FM} (h : rKq F F') : rKp F F' := ⟨fun i hi => h.1 i (by omega) (by omega), fun j hj => h.2 j (by omega)⟩
theorem rKq.u {F F' : FM} {i k : Nat} {v : Int32} (h : rKq F F') (hi : 8 ≤ i ∧ i ≤ 11) : rKq F (upF F' i k v) := h.tr ⟨fun i' h1 h2 => upF_r (by omega), fun j h1 => upF_n (by omega)⟩
theorem rKq.z {F F' : FM} {v : Int32} (h : rKq F F') : rKq F (upF F' 0 25 v) := h.tr ⟨fun i' h1 h2 => upF_r h2, fun j h1 => upF_n (by omega)⟩
end
