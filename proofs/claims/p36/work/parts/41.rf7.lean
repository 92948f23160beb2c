/-! THE REFERENCE: what it answers of events and dates. -/
section
variable {l : Launch} {g : EG}
/-- each event that is there has a rule and a zone -/
def rWf (F : FM) : Prop := ∀ p e, p < 3 → e < 8 → F 1 (eAt p e) = 1 → rOk (fun j => F 1 (eAt p e + j)) ∧ ∃ z, z < 3 ∧ F 1 (eAt p e + 4) = nI z
abbrev rL (F : FM) (a : Nat) : List Nat := rDt (fun j => F 1 (a + j))
def evV (F : FM) (a w : Nat) : Int32 := if w = 9 then nI (rL F a).length else F 1 (a + (if w = 8 then 9 else if w = 10 then 12 else if w = 11 then 13 else 1 + w))
def sp_wrong (F : FM) (P x : Int32) (r : Int32 × Int32) : Int32 × Int32 := if 0 ≤ P ∧ P ≤ 2 then (if rTh F P.toNatClampNeg x then r else (2, 0)) else (1, 0)
def sp_event (F : FM) (P x W : Int32) : Int32 × Int32 := sp_wrong F P x (if 0 ≤ W ∧ W ≤ 11 then (0, evV F (eAt P.toNatClampNeg x.toNatClampNeg) W.toNatClampNeg) else (3, 0))
def dtV (F : FM) (p a d w : Nat) : Int32 := match w with
  | 0 => rDy (dF F (rL F a)) a d
  | 1 => rMi F a d
  | 2 => rMo (dF F (rL F a)) p (F 1 (a + 4)).toNatClampNeg a d
  | 3 => e_01 (¬ e_bit (F 1 (a + 12)) (nI d))
  | 4 => nI ((rL F a).getD d 0)
  | w + 5 => rAn F a w d
def sp_date (F : FM) (P x D W : Int32) : Int32 × Int32 := sp_wrong F P x (if (0 ≤ D ∧ D ≤ nI (rL F (eAt P.toNatClampNeg x.toNatClampNeg)).length - 1) ∧ (0 ≤ W ∧ W ≤ 6) then (0, dtV F P.toNatClampNeg (eAt P.toNatClampNeg x.toNatClampNeg) D.toNatClampNeg W.toNatClampNeg) else (3, 0))
theorem i011 {x : Int32} (h : 0 ≤ x ∧ x ≤ 11) : ∃ e, e < 12 ∧ x = nI e := by obtain ⟨e, h1, h2⟩ := inN (N := 11) (by omega) h; exact ⟨e, by omega, h2⟩
theorem i06 {x : Int32} (h : 0 ≤ x ∧ x ≤ 6) : ∃ e, e < 7 ∧ x = nI e := by obtain ⟨e, h1, h2⟩ := inN (N := 6) (by omega) h; exact ⟨e, by omega, h2⟩
theorem idt {x : Int32} {n : Nat} (h3 : n ≤ 1000) (h : 0 ≤ x ∧ x ≤ nI n - 1) : ∃ e, e < n ∧ x = nI e := by
  rcases n with _ | n
  · exfalso
    obtain ⟨h1, h2⟩ := h
    rw [Int32.le_iff_toInt_le] at h1 h2
    have e1 : (0 : Int32).toInt = 0 := rfl
    have e2 : (nI 0 - 1).toInt = -1 := rfl
    omega
  · rw [show nI (n + 1) - 1 = nI n from pk_sub (b := 1) (by omega)] at h
    obtain ⟨e, h1, h2⟩ := inN (N := n) (by omega) h; exact ⟨e, by omega, h2⟩
theorem rTh.e {F : FM} {p : Nat} {e : Nat} (he : e < 8) (h : rTh F p (nI e)) : F 1 (eAt p e) = 1 := by
  have := h.2.2
  rwa [nI_clamp (by omega)] at this
theorem sp_wrong0 {F : FM} {q e : Nat} {r : Int32 × Int32} (hq : q < 3) (h : rTh F q (nI e)) : sp_wrong F (nI q) (nI e) r = r := by
  unfold sp_wrong
  rw [nI_clamp (by omega), if_pos ⟨nI_pos' (by omega), nI_le (b := 2) (by omega) (by omega)⟩, if_pos h]
theorem sp_wrong2 {F : FM} {q : Nat} {x : Int32} {r : Int32 × Int32} (hq : q < 3) (h : ¬ rTh F q x) : sp_wrong F (nI q) x r = (2, 0) := by
  unfold sp_wrong
  rw [nI_clamp (by omega), if_pos ⟨nI_pos' (by omega), nI_le (b := 2) (by omega) (by omega)⟩, if_neg h]
theorem sp_wrong1 {F : FM} {P x : Int32} {r : Int32 × Int32} (h : ¬ (0 ≤ P ∧ P ≤ 2)) : sp_wrong F P x r = (1, 0) := if_neg h
end
