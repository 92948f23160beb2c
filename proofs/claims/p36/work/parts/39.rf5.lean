/-! THE REFERENCE: what a place holds. -/
section
variable {l : Launch} {g : EG}
theorem e_bits_f {f : Nat → Bool} {k : Nat} (h : f k = false) : e_bits f (k + 1) = e_bits f k := by simp [e_bits, h]
theorem e_bits_t {f : Nat → Bool} {k : Nat} (h : f k = true) : e_bits f (k + 1) = e_bits f k ||| (1 <<< (nI k &&& 31)) := by simp [e_bits, h]
/-- is the event x there -/
abbrev rTh (F : FM) (p : Nat) (x : Int32) : Prop := 0 ≤ x ∧ x ≤ 7 ∧ F 1 (eAt p x.toNatClampNeg) = 1
def rDy (F : FM) (a k : Nat) : Int32 := if e_bit (F 1 (a + 13)) (nI k) then F 1 (a + 16 + k) else F 5 k
def rMi (F : FM) (a k : Nat) : Int32 := if e_bit (F 1 (a + 13)) (nI k) then F 1 (a + 46 + k) else F 1 (a + 2)
def rMo (F : FM) (p z a k : Nat) : Int32 := e_mom (fun j => F 1 (zAt p z + j)) (rDy F a k) (rMi F a k)
def rAn (F : FM) (a s k : Nat) : Int32 := e_ans (F 1 (a + 76 + 30 * s + k)) (F 1 (a + 14 + s))
theorem i07 {x : Int32} (h : 0 ≤ x ∧ x ≤ 7) : ∃ e, e < 8 ∧ x = nI e := vp_in_of (n := 8) (e_07 h) (by omega)
theorem i02 {x : Int32} (h : 0 ≤ x ∧ x ≤ 2) : ∃ e, e < 3 ∧ x = nI e := by
  obtain ⟨h1, h2⟩ := h
  rw [Int32.le_iff_toInt_le] at h1 h2
  have e1 : (0 : Int32).toInt = 0 := rfl
  have e2 : (2 : Int32).toInt = 2 := rfl
  exact vp_in_of (n := 3) (vp_in_iff.mpr (by omega)) (by omega)
theorem i01 {x : Int32} (h : 0 ≤ x ∧ x ≤ 1) : ∃ e, e < 2 ∧ x = nI e := by
  obtain ⟨h1, h2⟩ := h
  rw [Int32.le_iff_toInt_le] at h1 h2
  have e1 : (0 : Int32).toInt = 0 := rfl
  have e2 : (1 : Int32).toInt = 1 := rfl
  exact vp_in_of (n := 2) (vp_in_iff.mpr (by omega)) (by omega)
theorem inN {x : Int32} {N : Nat} (hN : N + 1 < 2 ^ 31) (h : 0 ≤ x ∧ x ≤ nI N) : ∃ e, e ≤ N ∧ x = nI e := by
  obtain ⟨h1, h2⟩ := h
  rw [Int32.le_iff_toInt_le] at h1 h2
  have e1 : (0 : Int32).toInt = 0 := rfl
  rw [nI_toInt (by omega)] at h2
  obtain ⟨e, h3, h4⟩ := vp_in_of (x := x) (n := N + 1) (vp_in_iff.mpr (by omega)) (by omega)
  exact ⟨e, by omega, h4⟩
end
