/-! BITS: answers of two bits, sets of events. -/
section
variable {l : Launch} {g : EG}
theorem sh64 {k : Nat} (hk : k < 32) : (2 * nI k).toInt64 &&& 63 = lN (2 * k) := by
  have e : (2 : Int32) * nI k = nI (2 * k) := pk_mul 2 k
  rw [e, nI_l (by omega)]
  have h : ∀ k, k < 32 → lN (2 * k) &&& 63 = lN (2 * k) := by decide +kernel
  exact h k hk
theorem lN_bv {k : Nat} (hk : k < 2 ^ 31) : (lN k).toBitVec = BitVec.ofNat 64 k := rfl
theorem smod64 : ∀ k, k < 64 → ((BitVec.ofNat 64 k).smod 64) = BitVec.ofNat 64 k := by decide +kernel
theorem giv_bv (h : Int64) {k : Nat} (hk : k < 30) : (e_giv h (nI k)).toBitVec = ((h.toBitVec.sshiftRight (2 * k)).signExtend 32) &&& 3#32 := by
  unfold e_giv
  rw [sh64 (by omega)]
  show ((h >>> lN (2 * k)).toInt32 &&& 3).toBitVec = _
  rw [Int32.toBitVec_and, Int64.toBitVec_toInt32]
  rw [Int64.toBitVec_shiftRight]
  rw [lN_bv (by omega), smod64 _ (by omega)]
  have e : BitVec.sshiftRight' h.toBitVec (BitVec.ofNat 64 (2 * k)) = h.toBitVec.sshiftRight (2 * k) := by
    unfold BitVec.sshiftRight'
    rw [BitVec.toNat_ofNat, Nat.mod_eq_of_lt (by omega)]
  rw [e]
  rfl
theorem giv_bit (h : Int64) {k i : Nat} (hk : k < 30) (hi : i < 32) : (e_giv h (nI k)).toBitVec.getLsbD i = (decide (i < 2) && h.toBitVec.getLsbD (2 * k + i)) := by
  rw [giv_bv h hk, BitVec.getLsbD_and]
  by_cases h2 : i < 2
  · have e3 : (3#32).getLsbD i = true := by rcases (show i = 0 ∨ i = 1 by omega) with rfl | rfl <;> decide
    rw [e3, Bool.and_true, decide_eq_true h2, Bool.true_and, BitVec.getLsbD_signExtend]
    rw [decide_eq_true hi, Bool.true_and, if_pos (by omega), BitVec.getLsbD_sshiftRight]
    have : ¬ (64 ≤ i) := by omega
    simp only [this, decide_false, Bool.not_false, Bool.true_and]
    rw [if_pos (by omega)]
  · have e3 : ∀ i, i < 32 → ¬ i < 2 → (3#32).getLsbD i = false := by decide +kernel
    rw [e3 i hi h2, Bool.and_false, decide_eq_false h2, Bool.false_and]
theorem giv_c {h h' : Int64} {k k' : Nat} (hk : k < 30) (hk' : k' < 30) (h0 : h.toBitVec.getLsbD (2 * k) = h'.toBitVec.getLsbD (2 * k')) (h1 : h.toBitVec.getLsbD (2 * k + 1) = h'.toBitVec.getLsbD (2 * k' + 1)) : e_giv h (nI k) = e_giv h' (nI k') := by
  refine Int32.toBitVec_inj.mp (BitVec.eq_of_getLsbD_eq fun i hi => ?_)
  rw [giv_bit h hk hi, giv_bit h' hk' hi]
  by_cases h2 : i < 2
  · rcases (show i = 0 ∨ i = 1 by omega) with rfl | rfl
    · rw [Nat.add_zero, Nat.add_zero, h0]
    · rw [h1]
  · rw [decide_eq_false h2, Bool.false_and, Bool.false_and]
theorem msk_bit : ∀ n, n < 31 → ∀ j, j < 64 → ((((1 : Int64) <<< lN (2 * n)) - 1)).toBitVec.getLsbD j = decide (j < 2 * n) := by decide +kernel
theorem giv_take (h : Int64) {n k : Nat} (hn : n ≤ 30) (hk : k < 30) : e_giv (h &&& (((1 <<< ((2 * nI n).toInt64 &&& 63))) - 1)) (nI k) = if k < n then e_giv h (nI k) else 0 := by
  rw [sh64 (by omega)]
  by_cases hkn : k < n
  · rw [if_pos hkn]
    refine giv_c hk hk ?_ ?_
    · rw [Int64.toBitVec_and, BitVec.getLsbD_and, msk_bit n (by omega) _ (by omega), decide_eq_true (by omega), Bool.and_true]
    · rw [Int64.toBitVec_and, BitVec.getLsbD_and, msk_bit n (by omega) _ (by omega), decide_eq_true (by omega), Bool.and_true]
  · rw [if_neg hkn]
    have e0 : e_giv 0 (nI k) = 0 := by
      refine Int32.toBitVec_inj.mp (BitVec.eq_of_getLsbD_eq fun i hi => ?_)
      rw [giv_bit _ hk hi]
      show (_ && (0#64).getLsbD _) = (0#32).getLsbD _
      simp
    rw [← e0]
    refine giv_c hk hk ?_ ?_
    · rw [Int64.toBitVec_and, BitVec.getLsbD_and, msk_bit n (by omega) _ (by omega), decide_eq_false (by omega), Bool.and_false]
      show false = (0#64).getLsbD _
      simp
    · rw [Int64.toBitVec_and, BitVec.getLsbD_and, msk_bit n (by omega) _ (by omega), decide_eq_false (by omega), Bool.and_false]
      show false = (0#64).getLsbD _
      simp
theorem clr_bit : ∀ k, k < 30 → ∀ j, j < 64 → (((3 : Int64) <<< lN (2 * k)) ^^^ (-1)).toBitVec.getLsbD j = !(decide (j = 2 * k) || decide (j = 2 * k + 1)) := by decide +kernel
theorem set_bit : ∀ v, v < 4 → ∀ k, k < 30 → ∀ j, j < 64 → ((nI v).toInt64 <<< lN (2 * k)).toBitVec.getLsbD j = ((decide (j = 2 * k) && v.testBit 0) || (decide (j = 2 * k + 1) && v.testBit 1)) := by decide +kernel
theorem nI4_bit : ∀ v, v < 4 → ∀ i, i < 32 → (nI v).toBitVec.getLsbD i = (decide (i < 2) && v.testBit i) := by decide +kernel
theorem giv_give (h : Int64) {k k' v : Nat} (hk : k < 30) (hk' : k' < 30) (hv : v < 4) : e_giv (e_give h (nI k) (nI v)) (nI k') = if k' = k then nI v else e_giv h (nI k') := by
  have eb : ∀ j, j < 64 → (e_give h (nI k) (nI v)).toBitVec.getLsbD j = ((h.toBitVec.getLsbD j && !(decide (j = 2 * k) || decide (j = 2 * k + 1))) || ((decide (j = 2 * k) && v.testBit 0) || (decide (j = 2 * k + 1) && v.testBit 1))) := by
    intro j hj
    unfold e_give
    rw [sh64 (by omega), Int64.toBitVec_or, BitVec.getLsbD_or, Int64.toBitVec_and, BitVec.getLsbD_and, clr_bit k hk j hj, set_bit v hv k hk j hj]
  by_cases hkk : k' = k
  · subst hkk
    rw [if_pos rfl]
    refine Int32.toBitVec_inj.mp (BitVec.eq_of_getLsbD_eq fun i hi => ?_)
    rw [giv_bit _ hk hi, nI4_bit v hv i hi]
    by_cases h2 : i < 2
    · rw [eb _ (by omega)]
      rcases (show i = 0 ∨ i = 1 by omega) with rfl | rfl <;> simp
    · rw [decide_eq_false h2, Bool.false_and, Bool.false_and]
  · rw [if_neg hkk]
    refine giv_c hk' hk' ?_ ?_
    · rw [eb _ (by omega), decide_eq_false (by omega), decide_eq_false (by omega)]; simp
    · rw [eb _ (by omega), decide_eq_false (by omega), decide_eq_false (by omega)]; simp
theorem giv_0 {k : Nat} (hk : k < 30) : e_giv 0 (nI k) = 0 := by
  refine Int32.toBitVec_inj.mp (BitVec.eq_of_getLsbD_eq fun i hi => ?_)
  rw [giv_bit _ hk hi]
  show (_ && (0#64).getLsbD _) = (0#32).getLsbD _
  simp
end
