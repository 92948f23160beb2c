/-! THE REFERENCE: feed. -/
section
variable {l : Launch} {g : EG}
def byN (v s : Int32) : Nat := ((v >>> (s &&& 31)).toBitVec &&& 255#32).toNat
theorem byN_lt {v s : Int32} : byN v s < 256 := by
  unfold byN
  rw [BitVec.toNat_and]
  exact Nat.lt_of_le_of_lt Nat.and_le_right (by decide)
theorem byN_e {v s : Int32} : (v >>> (s &&& 31)) &&& 255 = nI (byN v s) := by
  apply Int32.toBitVec_inj.mp
  unfold byN
  show _ = BitVec.ofNat 32 _
  rw [BitVec.ofNat_toNat, BitVec.setWidth_eq]
  rfl
/-- one byte goes in -/
def inB (F : FM) (nb k : Nat) : FM := upF (upF F 6 nb (nI k)) 0 10 (nI (nb + 1))
def inC (B : Nat → Nat) (nb k : Nat) : Nat → Nat := fun j => if j = nb then k else B j
def in4C (B : Nat → Nat) (nb : Nat) (v : Int32) : Nat → Nat := inC (inC (inC (inC B nb (byN v 24)) (nb + 1) (byN v 16)) (nb + 2) (byN v 8)) (nb + 3) (byN v 0)
/-- only the buffer and its length -/
def kB (F F' : FM) : Prop := (∀ i, ¬ i = 0 → ¬ i = 6 → F' i = F i) ∧ ∀ j, ¬ j = 10 → F' 0 j = F 0 j
theorem kB.rf {F : FM} : kB F F := ⟨fun _ _ _ => rfl, fun _ _ => rfl⟩
theorem kB.i {F F' : FM} {nb k : Nat} (h : kB F F') : kB F (inB F' nb k) := ⟨fun i h1 h2 => (upF_r h1).trans ((upF_r h2).trans (h.1 i h1 h2)), fun j hj => (upF_n (by omega)).trans ((congrFun (upF_r (by decide)) j).trans (h.2 j hj))⟩
def in20C (B : Nat → Nat) (nb : Nat) (a b c d e : Int32) : Nat → Nat := in4C (in4C (in4C (in4C (in4C B nb a) (nb + 4) b) (nb + 8) c) (nb + 12) d) (nb + 16) e
end
