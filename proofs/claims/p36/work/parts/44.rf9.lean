/-! THE REFERENCE: the agenda of a place. -/
section
variable {l : Launch} {g : EG}
def rSh (F : FM) (p e d : Nat) : Bool := decide (F 1 (eAt p e) = 1 ∧ d < (rL F (eAt p e)).length ∧ ¬ e_bit (F 1 (eAt p e + 12)) (nI d))
def rMm (F : FM) (p e d : Nat) : Int32 := rMo (dF F (rL F (eAt p e))) p (F 1 (eAt p e + 4)).toNatClampNeg (eAt p e) d
def rLn (F : FM) (p e : Nat) : Int32 := F 1 (eAt p e + 3)
def agR (F : FM) (p : Nat) : List AG := agAll (rSh F p) (rMm F p) 8
/-- nothing but the dates and the entries is written -/
def rKr (F F' : FM) : Prop := (∀ i, ¬ i = 0 → ¬ i = 5 → ¬ (8 ≤ i ∧ i ≤ 11) → F' i = F i) ∧ ∀ j, ¬ j = 8 → ¬ j = 25 → F' 0 j = F 0 j
theorem rKr.rf {F : FM} : rKr F F := ⟨fun _ _ _ _ => rfl, fun _ _ _ => rfl⟩
theorem rKr.tr {F F' F'' : FM} (h : rKr F F') (h' : rKr F' F'') : rKr F F'' := ⟨fun i h1 h2 h3 => (h'.1 i h1 h2 h3).trans (h.1 i h1 h2 h3), fun j h1 h2 => (h'.2 j h1 h2).trans (h.2 j h1 h2)⟩
theorem rKq.r {F F' : FM} (h : rKq F F') : rKr F F' := ⟨fun i h1 h2 h3 => h.1 i h3 h1, fun j h1 h2 => h.2 j h2⟩
theorem rKr.p {F F' : FM} (h : rKr F F') : rKp F F' := ⟨fun i hi => h.1 i (by omega) (by omega) (by omega), fun j hj => h.2 j (by omega) (by omega)⟩
theorem rKr.z {F F' : FM} {v : Int32} (h : rKr F F') : rKr F (upF F' 0 25 v) := h.tr ⟨fun i h1 h2 h3 => upF_r h1, fun j h1 h2 => upF_n (by omega)⟩
theorem agDs_t {sh : Nat → Bool} {mo : Nat → Int32} {e : Nat} {A : List AG} {d : Nat} (h : sh d = true) : agDs sh mo e A (d + 1) = agIns (agDs sh mo e A d) (mo d, e, d) := if_pos h
theorem agDs_f {sh : Nat → Bool} {mo : Nat → Int32} {e : Nat} {A : List AG} {d : Nat} (h : sh d = false) : agDs sh mo e A (d + 1) = agDs sh mo e A d := if_neg (by simp [h])
end
