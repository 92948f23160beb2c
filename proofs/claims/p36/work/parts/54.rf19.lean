/-! THE REFERENCE: acts: create, repeat, remove. -/
section
variable {l : Launch} {g : EG}
/-- what an act leaves behind the present row: the row ahead is remembered -/
def rAc (F F' : FM) (u : Nat) : Prop := F' 0 6 = nI ((if u = 12 then 11 else u) + 1) ∧ (∀ i k, i < (if u = 12 then 11 else u) → k < 3324 → F' 2 (3324 * i + k) = F 2 (3324 * (i + if u = 12 then 1 else 0) + k)) ∧ (∀ k, k < 3324 → F' 2 (3324 * (if u = 12 then 11 else u) + k) = F 1 k) ∧ (∀ i, i = 3 ∨ i = 4 ∨ i = 6 → F' i = F i) ∧ ∀ j, (j = 1 ∨ j = 10 ∨ j = 16 ∨ j = 17) → F' 0 j = F 0 j
/-- but for the present row and scratch all is kept -/
def rKa (F F' : FM) : Prop := (∀ i, (2 ≤ i ∧ i ≤ 4) ∨ i = 6 → F' i = F i) ∧ ∀ j, (j = 0 ∨ j = 1 ∨ j = 6 ∨ j = 10 ∨ j = 16 ∨ j = 17) → F' 0 j = F 0 j
theorem rKa.rf {F : FM} : rKa F F := ⟨fun _ _ => rfl, fun _ _ => rfl⟩
theorem rKa.tr {F F' F'' : FM} (h : rKa F F') (h' : rKa F' F'') : rKa F F'' := ⟨fun i hi => (h'.1 i hi).trans (h.1 i hi), fun j hj => (h'.2 j hj).trans (h.2 j hj)⟩
theorem rKa.w {F F' : FM} {k : Nat} {v : Int32} (h : rKa F F') : rKa F (upF F' 1 k v) := h.tr ⟨fun i hi => upF_r (by omega), fun j hj => upF_n (by omega)⟩
theorem rAc.mk {F F0 F1 F' : FM} {u : Nat} (h0 : rKp F F0) (h1 : rRm F0 F1 u) (h : rKa F1 F') : rAc F F' u := by
  obtain ⟨a1, a2, a3, a4, a5⟩ := h1
  refine ⟨by rw [h.2 6 (by decide)]; exact a1, fun i k hi hk => ?_, fun k hk => ?_, fun i hi => ?_, fun j hj => ?_⟩
  · rw [h.1 2 (by decide), a2 i k hi hk, h0.1 2 (by decide)]
  · rw [h.1 2 (by decide), a3 k hk, h0.1 1 (by decide)]
  · rw [h.1 i (by omega), a4 i (by omega) (by omega), h0.1 i (by omega)]
  · rw [h.2 j (by omega), a5 j (by omega), h0.2 j (by omega)]
def sRm (s : Nat → Int32) (a : Nat) : Nat → Int32 := wS (wS s (a + 0) 0) (a + 10) 1
def sCr (s : Nat → Int32) (a : Nat) (d mi ln z : Int32) : Nat → Int32 := rClr (wS (wS (wS (wS (wS (wS (wS (wS (wS (wS (wS (wS s (a + 0) 1) (a + 1) d) (a + 2) mi) (a + 3) ln) (a + 4) z) (a + 5) 0) (a + 6) 0) (a + 7) 0) (a + 8) 1) (a + 10) 1) (a + 14) 0) (a + 15) 0) a
def sRp (s : Nat → Int32) (a : Nat) (kd n w t : Int32) : Nat → Int32 := rClr (wS (wS (wS (wS (wS s (a + 5) kd) (a + 6) (if kd = 0 then 0 else n)) (a + 7) (if kd = 2 then w else 0)) (a + 8) (if kd = 0 then 1 else t)) (a + 10) 1) a
def evB (s : Nat → Int32) (p : Nat) : Int32 := e_bits (fun e => s (eAt p e) == 1) 8
theorem rRm.s {F F1 : FM} {u : Nat} (h : rRm F F1 u) : F1 1 = F 1 := h.2.2.2.1 1 (by decide) (by decide)
theorem rRm.t {F F1 : FM} {u : Nat} (h : rRm F F1 u) : F1 0 0 = F 0 0 := h.2.2.2.2 0 (by decide)
def rWN (F : FM) (S x d mi ln z : Int32) : Int32 := if (0 ≤ S ∧ S ≤ 1) ∧ (0 ≤ x ∧ x ≤ 7) ∧ (0 ≤ d ∧ d ≤ 1094) ∧ (0 ≤ mi ∧ mi ≤ 1439) ∧ (1 ≤ ln ∧ ln ≤ 1440) then (if 0 ≤ z ∧ z ≤ F 0 1 - 1 then (if rTh F S.toNatClampNeg x then 3 else 0) else 2) else 1
end
