/-! THE REFERENCE: what is the same. -/
section
variable {l : Launch} {g : EG}
noncomputable def e_p01 (p : Prop) : Int32 := @ite _ p (Classical.propDecidable p) 1 0
theorem e_p1 {p : Prop} (h : p) : e_p01 p = 1 := @if_pos p (Classical.propDecidable p) h _ _ _
theorem e_p0 {p : Prop} (h : ¬ p) : e_p01 p = 0 := @if_neg p (Classical.propDecidable p) h _ _ _
/-- nothing but the dates and what is shown is written -/
def rKt (F F' : FM) : Prop := (∀ i, ¬ i = 0 → ¬ i = 5 → ¬ i = 12 → ¬ i = 13 → F' i = F i) ∧ ∀ j, ¬ j = 8 → F' 0 j = F 0 j
theorem rKt.rf {F : FM} : rKt F F := ⟨fun _ _ _ _ _ => rfl, fun _ _ => rfl⟩
theorem rKt.tr {F F' F'' : FM} (h : rKt F F') (h' : rKt F' F'') : rKt F F'' := ⟨fun i h1 h2 h3 h4 => (h'.1 i h1 h2 h3 h4).trans (h.1 i h1 h2 h3 h4), fun j h1 => (h'.2 j h1).trans (h.2 j h1)⟩
theorem rKt.p {F F' : FM} (h : rKt F F') : rKp F F' := ⟨fun i hi => h.1 i (by omega) (by omega) (by omega) (by omega), fun j hj => h.2 j (by omega)⟩
theorem rKt.u {F F' : FM} {i k : Nat} {v : Int32} (h : rKt F F') (hi : i = 12 ∨ i = 13) : rKt F (upF F' i k v) := h.tr ⟨fun i' h1 h2 h3 h4 => upF_r (by omega), fun j h1 => upF_n (by omega)⟩
end
