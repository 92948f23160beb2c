/-! BITS: of the flags of eight events, and of a number. -/
section
variable {l : Launch} {g : EG}
theorem sh32 : ∀ k, k < 32 → (nI k &&& 31) = nI k ∧ ((nI k).toBitVec.smod 32).toNat = k := by decide +kernel
theorem and1_lsb (x : BitVec 32) : x &&& 1#32 = 0#32 ↔ x.getLsbD 0 = false := by
  constructor
  · intro h
    have := congrArg (fun y => BitVec.getLsbD y 0) h
    simpa using this
  · intro h
    apply BitVec.eq_of_getLsbD_eq
    intro i hi
    by_cases i0 : i = 0
    · subst i0; simpa using h
    · simp [i0]
theorem e_bit_lsb (b : Int32) {k : Nat} (hk : k < 32) : e_bit b (nI k) ↔ b.toBitVec.getLsbD k = true := by
  unfold e_bit
  rw [(sh32 k hk).1]
  have e : ((b >>> nI k) &&& 1 = 0) ↔ (b.toBitVec.getLsbD k = false) := by
    rw [← Int32.toBitVec_inj, Int32.toBitVec_and, Int32.toBitVec_shiftRight]
    show (b.toBitVec.sshiftRight' ((nI k).toBitVec.smod 32)) &&& 1#32 = 0#32 ↔ _
    rw [and1_lsb, BitVec.sshiftRight', (sh32 k hk).2, BitVec.getLsbD_sshiftRight]
    simp [hk]
  rw [e]
  cases b.toBitVec.getLsbD k <;> simp
theorem one_lsb : ∀ k, k < 32 → ∀ j, j < 32 → ((1 : Int32) <<< (nI k &&& 31)).toBitVec.getLsbD j = decide (j = k) := by decide +kernel
theorem e_bits_lsb {f : Nat → Bool} : ∀ n, n ≤ 32 → ∀ j, j < 32 → (e_bits f n).toBitVec.getLsbD j = (decide (j < n) && f j)
  | 0, _, j, _ => by rw [show e_bits f 0 = 0 from rfl]; simp
  | n + 1, h, j, hj => by
    have ih := e_bits_lsb (f := f) n (by omega) j hj
    cases c : f n
    · rw [e_bits_f c, ih]
      by_cases q : j = n
      · subst q; simp [c]
      · rw [show decide (j < n) = decide (j < n + 1) from by simp; omega]
    · rw [e_bits_t c, Int32.toBitVec_or, BitVec.getLsbD_or, ih, one_lsb n (by omega) j hj]
      by_cases q : j = n
      · subst q; simp [c]
      · simp [q]
        rw [show decide (j < n) = decide (j < n + 1) from by simp; omega]
theorem e_bit_bits {f : Nat → Bool} {n k : Nat} (hn : n ≤ 32) (hk : k < n) : e_bit (e_bits f n) (nI k) ↔ f k = true := by
  rw [e_bit_lsb _ (by omega), e_bits_lsb n hn k (by omega)]
  simp [hk]
theorem i32_ext {a b : Int32} (h : ∀ j, j < 32 → a.toBitVec.getLsbD j = b.toBitVec.getLsbD j) : a = b := Int32.toBitVec_inj.mp (BitVec.eq_of_getLsbD_eq h)
theorem e_bits_or {f f' : Nat → Bool} {n k : Nat} (hn : n ≤ 32) (hk : k < n) (h : f' k = true) (ho : ∀ j, j < n → ¬ j = k → f' j = f j) : e_bits f n ||| (1 <<< (nI k &&& 31)) = e_bits f' n := by
  apply i32_ext
  intro j hj
  rw [Int32.toBitVec_or, BitVec.getLsbD_or, e_bits_lsb n hn j hj, e_bits_lsb n hn j hj, one_lsb k (by omega) j hj]
  by_cases q : j = k
  · subst q; simp [hk, h]
  · by_cases q2 : j < n
    · simp [q, q2, ho j q2 q]
    · simp [q, q2]
end
