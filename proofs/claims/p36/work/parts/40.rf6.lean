/-! THE REFERENCE: what it answers of days, zones, events, dates. -/
section
variable {l : Launch} {g : EG}
/-- what lasts of the reference's state -/
def rKp (F F' : FM) : Prop := (∀ i, (1 ≤ i ∧ i ≤ 4) ∨ i = 6 → F' i = F i) ∧ ∀ j, (j = 1 ∨ j = 6 ∨ j = 10 ∨ j = 16 ∨ j = 17) → F' 0 j = F 0 j
theorem rKp.rf {F : FM} : rKp F F := ⟨fun _ _ => rfl, fun _ _ => rfl⟩
theorem rKp.tr {F F' F'' : FM} (h : rKp F F') (h' : rKp F' F'') : rKp F F'' := ⟨fun i hi => (h'.1 i hi).trans (h.1 i hi), fun j hj => (h'.2 j hj).trans (h.2 j hj)⟩
theorem rKp.th {F F' : FM} {k : Int32} (h : rKp F F') : rKp F (upF F' 0 0 k) := h.tr ⟨fun i hi => upF_r (by omega), fun j hj => upF_n (by omega)⟩
/-- a question's end: the code, and the answer where the code is 0 -/
def RQ (M : EM) (m : Nat) (F : FM) (p : Int32 × Int32) : EO → EM → Prop := fun o M' => ∃ F', M' = rM M m F' ∧ rKp F F' ∧ F' 0 0 = p.1 ∧ ∃ w, o = .inl (some (.inl w)) ∧ (p.1 = 0 → w = p.2)
theorem RQ.no {M : EM} {m : Nat} {F F' : FM} {p : Int32 × Int32} {k w : Int32} (h : rKp F F') (h1 : p.1 = k) (h2 : 0 < k) : RQ M m F p (.inl (some (.inl w))) (rM M m (upF F' 0 0 k)) := ⟨_, rfl, h.th, by rw [h1]; rfl, w, rfl, fun q => by rw [h1] at q; rw [q] at h2; exact absurd h2 (by decide)⟩
theorem RQ.yes {M : EM} {m : Nat} {F F' : FM} {p : Int32 × Int32} {w : Int32} (h : rKp F F') (h1 : p.1 = F' 0 0) (h2 : p.2 = w) : RQ M m F p (.inl (some (.inl w))) (rM M m F') := ⟨_, rfl, h, h1.symm, w, rfl, fun _ => h2.symm⟩
def dyV (D W : Nat) : Nat := match W with
  | 0 => e_mon (D % 365) + 1
  | 1 => D % 365 - e_mst (e_mon (D % 365)) + 1
  | 2 => D % 7
  | _ => D / 365
def sp_day (D W : Int32) : Int32 × Int32 := if 0 ≤ D ∧ D ≤ 1094 then (if 0 ≤ W ∧ W ≤ 3 then (0, nI (dyV D.toNatClampNeg W.toNatClampNeg)) else (1, 0)) else (1, 0)
def sp_zone (F : FM) (P z W : Int32) : Int32 × Int32 := if 0 ≤ P ∧ P ≤ 2 then (if 0 ≤ z ∧ z ≤ F 0 1 - 1 then (if 0 ≤ W ∧ W ≤ 3 then (0, F 1 (zAt P.toNatClampNeg z.toNatClampNeg + W.toNatClampNeg)) else (3, 0)) else (2, 0)) else (1, 0)
def sp_moment (F : FM) (P z d mi : Int32) : Int32 × Int32 := if (0 ≤ P ∧ P ≤ 2) ∧ (0 ≤ d ∧ d ≤ 1094) ∧ (0 ≤ mi ∧ mi ≤ 1439) then (if 0 ≤ z ∧ z ≤ F 0 1 - 1 then (0, e_mom (fun j => F 1 (zAt P.toNatClampNeg z.toNatClampNeg + j)) d mi) else (2, 0)) else (1, 0)
def sp_events (F : FM) (P : Int32) : Int32 × Int32 := if 0 ≤ P ∧ P ≤ 2 then (0, e_bits (fun e => F 1 (eAt P.toNatClampNeg e) == 1) 8) else (1, 0)
def sp_answer (F : FM) (P x S : Int32) : Int32 × Int32 := if (0 ≤ P ∧ P ≤ 2) ∧ (0 ≤ S ∧ S ≤ 1) then (if rTh F P.toNatClampNeg x then (0, F 1 (eAt P.toNatClampNeg x.toNatClampNeg + 14 + S.toNatClampNeg)) else (2, 0)) else (1, 0)
theorem i03 {x : Int32} (h : 0 ≤ x ∧ x ≤ 3) : ∃ e, e < 4 ∧ x = nI e := by obtain ⟨e, h1, h2⟩ := inN (N := 3) (by omega) h; exact ⟨e, by omega, h2⟩
theorem i1094 {x : Int32} (h : 0 ≤ x ∧ x ≤ 1094) : ∃ e, e < 1095 ∧ x = nI e := by obtain ⟨e, h1, h2⟩ := inN (N := 1094) (by omega) h; exact ⟨e, by omega, h2⟩
theorem izn {x : Int32} {nz : Nat} (h0 : 1 ≤ nz) (h3 : nz ≤ 3) (h : 0 ≤ x ∧ x ≤ nI nz - 1) : ∃ e, e < nz ∧ x = nI e := by
  rw [show nI nz - 1 = nI (nz - 1) from pk_sub (b := 1) h0] at h
  obtain ⟨e, h1, h2⟩ := inN (N := nz - 1) (by omega) h; exact ⟨e, by omega, h2⟩
end
