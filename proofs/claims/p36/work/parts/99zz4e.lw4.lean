/-! THE LAW, 4: a text is typed. -/
section
variable {l : Launch} {g : EG}
theorem n8_or {a : Nat} (b : Nat) (h : a < 2 ^ 8) : nI (b * 2 ^ 8) ||| nI a = nI (256 * b + a) := by
  have e1 : (nI (b * 2 ^ 8) ||| nI a).toBitVec = (nI (b * 2 ^ 8 ||| a)).toBitVec := by
    show BitVec.ofNat 32 (b * 2 ^ 8) ||| BitVec.ofNat 32 a = BitVec.ofNat 32 (b * 2 ^ 8 ||| a)
    refine BitVec.eq_of_getLsbD_eq (fun i hi => ?_)
    rw [BitVec.getLsbD_or, BitVec.getLsbD_ofNat, BitVec.getLsbD_ofNat, BitVec.getLsbD_ofNat, Nat.testBit_or]
    cases decide (i < 32) <;> simp
  have e2 : b * 2 ^ 8 ||| a = 256 * b + a := by
    rw [Nat.mul_comm, ← Nat.two_pow_add_eq_or_of_lt h]
  rw [e2] at e1
  exact Int32.toBitVec_inj.mp e1
theorem n8_and (m : Nat) : nI m &&& 255 = nI (m % 256) := by
  have e1 : (nI m &&& nI 255).toBitVec = (nI (m &&& 255)).toBitVec := by
    show BitVec.ofNat 32 m &&& BitVec.ofNat 32 255 = BitVec.ofNat 32 (m &&& 255)
    refine BitVec.eq_of_getLsbD_eq (fun i hi => ?_)
    rw [BitVec.getLsbD_and, BitVec.getLsbD_ofNat, BitVec.getLsbD_ofNat, BitVec.getLsbD_ofNat, Nat.testBit_and]
    cases decide (i < 32) <;> simp
  rw [show m &&& 255 = m % 256 from Nat.and_two_pow_sub_one_eq_mod m 8] at e1
  exact Int32.toBitVec_inj.mp e1
/-- a text's letters, blanks behind them -/
def pad (T : List Nat) (i : Nat) : Nat := if i < T.length then T.getD i 0 else 32
theorem pad_lt {T : List Nat} (h : tx_ok T) (i : Nat) : pad T i < 128 := by
  unfold pad
  split
  · rename_i hi
    exact h _ (by rw [List.getD_eq_getElem?_getD, List.getElem?_eq_getElem hi]; exact List.getElem_mem hi)
  · decide
/-- the first letters of a word of four -/
def pw (T : List Nat) (k : Nat) : Nat → Nat
  | 0 => 0
  | n + 1 => 256 * pw T k n + pad T (k + n)
theorem pw_lt {T : List Nat} (h : tx_ok T) (k : Nat) : pw T k 1 < 128 ∧ pw T k 2 < 32768 ∧ pw T k 3 < 8388608 ∧ pw T k 4 < 2147483648 := by
  have h0 := pad_lt h (k + 0)
  have h1 := pad_lt h (k + 1)
  have h2 := pad_lt h (k + 2)
  have h3 := pad_lt h (k + 3)
  have e1 : pw T k 1 = 256 * 0 + pad T (k + 0) := rfl
  have e2 : pw T k 2 = 256 * pw T k 1 + pad T (k + 1) := rfl
  have e3 : pw T k 3 = 256 * pw T k 2 + pad T (k + 2) := rfl
  have e4 : pw T k 4 = 256 * pw T k 3 + pad T (k + 3) := rfl
  omega
theorem pw_3 {T : List Nat} (h : tx_ok T) (k : Nat) {n : Nat} (hn : n < 4) : pw T k n < 8388608 := by
  obtain ⟨p1, p2, p3, p4⟩ := pw_lt h k
  rcases (by omega : n = 0 ∨ n = 1 ∨ n = 2 ∨ n = 3) with rfl | rfl | rfl | rfl
  · exact (by decide : 0 < 8388608)
  · omega
  · omega
  · omega
theorem pw_step {T : List Nat} (h : tx_ok T) (k : Nat) {n : Nat} (hn : n < 4) : nI (pw T k n) <<< ((8 : Int32) &&& 31) ||| nI (pad T (k + n)) = nI (pw T k (n + 1)) := by
  have hp := pw_3 h k hn
  have hc := pad_lt h (k + n)
  rw [pk_shlN (n := pw T k n) ((8 : Int32) &&& 31) 8 (by decide) (by omega)]
  exact n8_or (pw T k n) (by omega)
theorem byN_n {m k : Nat} (h : m < 2147483648) (hs : (((nI k &&& 31)).toBitVec.smod 32).toNat = k) : byN (nI m) (nI k) = m / 2 ^ k % 256 := by
  have e1 := byN_e (v := nI m) (s := nI k)
  rw [pk_shrN (by omega) (nI k &&& 31) k hs] at e1
  rw [n8_and] at e1
  have hb := byN_lt (v := nI m) (s := nI k)
  have hm : m / 2 ^ k % 256 < 256 := Nat.mod_lt _ (by decide)
  exact ((nI_eq (by omega) (by omega)).mp e1).symm
theorem in4_lo {B : Nat → Nat} {nb t : Nat} {v : Int32} (h : t < nb) : in4C B nb v t = B t := by
  unfold in4C inC
  rw [if_neg (by omega), if_neg (by omega), if_neg (by omega), if_neg (by omega)]
theorem in4_p {B : Nat → Nat} {T : List Nat} {nb k : Nat} (h : tx_ok T) : ∀ i, i < 4 → in4C B nb (nI (pw T k 4)) (nb + i) = pad T (k + i) := by
  intro i hi
  have h0 := pad_lt h (k + 0)
  have h1 := pad_lt h (k + 1)
  have h2 := pad_lt h (k + 2)
  have h3 := pad_lt h (k + 3)
  have e1 : pw T k 1 = 256 * 0 + pad T (k + 0) := rfl
  have e2 : pw T k 2 = 256 * pw T k 1 + pad T (k + 1) := rfl
  have e3 : pw T k 3 = 256 * pw T k 2 + pad T (k + 2) := rfl
  have e4 : pw T k 4 = 256 * pw T k 3 + pad T (k + 3) := rfl
  have hp := (pw_lt h k).2.2.2
  unfold in4C inC
  rcases (by omega : i = 0 ∨ i = 1 ∨ i = 2 ∨ i = 3) with rfl | rfl | rfl | rfl
  · rw [if_neg (by omega), if_neg (by omega), if_neg (by omega), if_pos (by omega)]
    show byN (nI (pw T k 4)) (nI 24) = _
    rw [byN_n hp (by decide)]
    omega
  · rw [if_neg (by omega), if_neg (by omega), if_pos (by omega)]
    show byN (nI (pw T k 4)) (nI 16) = _
    rw [byN_n hp (by decide)]
    omega
  · rw [if_neg (by omega), if_pos (by omega)]
    show byN (nI (pw T k 4)) (nI 8) = _
    rw [byN_n hp (by decide)]
    omega
  · rw [if_pos (by omega)]
    show byN (nI (pw T k 4)) (nI 0) = _
    rw [byN_n hp (by decide)]
    omega
theorem in20_lo {B : Nat → Nat} {nb t : Nat} {a b c d e : Int32} (h : t < nb) : in20C B nb a b c d e t = B t := by
  unfold in20C
  rw [in4_lo (by omega), in4_lo (by omega), in4_lo (by omega), in4_lo (by omega), in4_lo (by omega)]
theorem in20_p {B : Nat → Nat} {T : List Nat} {nb k : Nat} (h : tx_ok T) {t : Nat} (ht : t < 20) : in20C B nb (nI (pw T (k + 0) 4)) (nI (pw T (k + 4) 4)) (nI (pw T (k + 8) 4)) (nI (pw T (k + 12) 4)) (nI (pw T (k + 16) 4)) (nb + t) = pad T (k + t) := by
  unfold in20C
  rcases (by omega : t < 4 ∨ (4 ≤ t ∧ t < 8) ∨ (8 ≤ t ∧ t < 12) ∨ (12 ≤ t ∧ t < 16) ∨ 16 ≤ t) with q | q | q | q | q
  · rw [in4_lo (by omega), in4_lo (by omega), in4_lo (by omega), in4_lo (by omega), in4_p h t (by omega), Nat.add_zero]
  · obtain ⟨i, rfl⟩ : ∃ i, t = 4 + i := ⟨t - 4, by omega⟩
    rw [in4_lo (by omega), in4_lo (by omega), in4_lo (by omega), ← Nat.add_assoc, in4_p h i (by omega), Nat.add_assoc]
  · obtain ⟨i, rfl⟩ : ∃ i, t = 8 + i := ⟨t - 8, by omega⟩
    rw [in4_lo (by omega), in4_lo (by omega), ← Nat.add_assoc, in4_p h i (by omega), Nat.add_assoc]
  · obtain ⟨i, rfl⟩ : ∃ i, t = 12 + i := ⟨t - 12, by omega⟩
    rw [in4_lo (by omega), ← Nat.add_assoc, in4_p h i (by omega), Nat.add_assoc]
  · obtain ⟨i, rfl⟩ : ∃ i, t = 16 + i := ⟨t - 16, by omega⟩
    rw [← Nat.add_assoc, in4_p h i (by omega), Nat.add_assoc]
end
