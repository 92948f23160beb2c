/-! THE REFERENCE: the exchange, questions. -/
section
variable {l : Launch} {g : EG}
abbrev rCg (F : FM) (s e : Nat) : Prop := F 1 (eAt s e + 10) = 1 ∨ F 1 (eAt s e + 11) = 1
abbrev rCt (F : FM) (s e : Nat) : Prop := F 1 (eAt s e + 10) = 1
/-- the bits of events, by a row of events or NONE -/
def rTb (f : Nat → Int32) : Nat → Int32
  | 0 => 0
  | k + 1 => if f k = -1 then rTb f k else rTb f k ||| (1 <<< (f k &&& 31))
/-- the clock, its log, the tokens: in range -/
def rLog (F : FM) : Prop := ∃ c L, F 1 0 = nI c ∧ c < 2 ^ 20 ∧ F 1 23 = nI L ∧ L ≤ 8 ∧ (L = c ∨ (L = 8 ∧ 8 ≤ c)) ∧ ∀ s, s < 2 → ∃ t, F 1 (1 + s) = nI t ∧ t ≤ c
def rTold (F : FM) (s : Nat) : Int32 := if F 1 (1 + s) < F 1 0 - 8 then e_bits (fun e => F 1 (eAt 2 e) == 1) 8 else rTb (fun k => F 1 (15 + ((F 1 23).toNatClampNeg - ((F 1 0).toNatClampNeg - (F 1 (1 + s)).toNatClampNeg) + k))) ((F 1 0).toNatClampNeg - (F 1 (1 + s)).toNatClampNeg)
def sdV (F : FM) (s w : Nat) : Int32 := match w with
  | 0 => F 1 (1 + s)
  | 1 => e_bits (fun e => decide (rCg F s e)) 8
  | 2 => e_bits (fun e => decide (rCt F s e)) 8
  | 3 => e_01 (F 1 (1 + s) < F 1 0 - 8)
  | _ => rTold F s
def sp_side (F : FM) (S W : Int32) : Int32 × Int32 := if (0 ≤ S ∧ S ≤ 1) ∧ (0 ≤ W ∧ W ≤ 4) then (0, sdV F S.toNatClampNeg W.toNatClampNeg) else (1, 0)
def sp_account (F : FM) (S W : Int32) : Int32 × Int32 := if (0 ≤ S ∧ S ≤ 1) ∧ (0 ≤ W ∧ W ≤ 5) then (0, F 1 (3 + 6 * S.toNatClampNeg + W.toNatClampNeg)) else (1, 0)
theorem i04 {x : Int32} (h : 0 ≤ x ∧ x ≤ 4) : ∃ e, e < 5 ∧ x = nI e := by obtain ⟨e, h1, h2⟩ := inN (N := 4) (by omega) h; exact ⟨e, by omega, h2⟩
theorem i05 {x : Int32} (h : 0 ≤ x ∧ x ≤ 5) : ∃ e, e < 6 ∧ x = nI e := by obtain ⟨e, h1, h2⟩ := inN (N := 5) (by omega) h; exact ⟨e, by omega, h2⟩
end
