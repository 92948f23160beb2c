/-! THE REFERENCE: busy; what is the same. -/
section
variable {l : Launch} {g : EG}
def bzV (F : FM) (p : Nat) (f t : Int32) : UInt32 := FP.fdiv (FP.i2f (agBm (rLn F p) (agR F p) f t (agR F p).length).1) (FP.i2f (t - f))
/-- a question's end, a float -/
def RQf (M : EM) (m : Nat) (F : FM) (p : Int32 × UInt32) : EO → EM → Prop := fun o M' => ∃ F', M' = rM M m F' ∧ rKp F F' ∧ F' 0 0 = p.1 ∧ ∃ w, o = .inl (some (.inr (.inr (.inl w)))) ∧ (p.1 = 0 → w = p.2)
theorem RQf.no {M : EM} {m : Nat} {F F' : FM} {p : Int32 × UInt32} {k : Int32} {w : UInt32} (h : rKp F F') (h1 : p.1 = k) (h2 : 0 < k) : RQf M m F p (.inl (some (.inr (.inr (.inl w))))) (rM M m (upF F' 0 0 k)) := ⟨_, rfl, h.th, by rw [h1]; rfl, w, rfl, fun q => by rw [h1] at q; rw [q] at h2; exact absurd h2 (by decide)⟩
theorem RQf.yes {M : EM} {m : Nat} {F F' : FM} {p : Int32 × UInt32} {w : UInt32} (h : rKp F F') (h1 : p.1 = F' 0 0) (h2 : p.2 = w) : RQf M m F p (.inl (some (.inr (.inr (.inl w))))) (rM M m F') := ⟨_, rfl, h, h1.symm, w, rfl, fun _ => h2.symm⟩
def sp_busy (F : FM) (P f t : Int32) : Int32 × UInt32 := if (0 ≤ P ∧ P ≤ 2) ∧ tmOk f t then (0, bzV F P.toNatClampNeg f t) else (1, 0)
end
