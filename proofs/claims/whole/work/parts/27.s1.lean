/-! CONTRACTS: memory read back; the small statics. -/
section
variable {l : Launch} {g : EG}
theorem mI_sI {M : EM} {a k b j : Nat} {v : Int32} : mI (sI M a k v) b j = if b = a then (if j = k then v else mI M b j) else mI M b j := rfl
theorem mI_sL {M : EM} {a k : Nat} {v : Int64} : mI (sL M a k v) = mI M := rfl
theorem mI_sP {M : EM} {a k : Nat} {v : Nat} : mI (sP M a k v) = mI M := rfl
theorem mI_sN {M : EM} {n : Nat} : mI (sN M n) = mI M := rfl
theorem mI_sLr {M : EM} {a : Nat} {v : Nat → Int64} : mI (sLr M a v) = mI M := rfl
theorem mI_sIr {M : EM} {a b j : Nat} {v : Nat → Int32} : mI (sIr M a v) b j = if b = a then v j else mI M b j := rfl
theorem mL_sI {M : EM} {a k : Nat} {v : Int32} : mL (sI M a k v) = mL M := rfl
theorem mL_sL {M : EM} {a k b j : Nat} {v : Int64} : mL (sL M a k v) b j = if b = a then (if j = k then v else mL M b j) else mL M b j := rfl
theorem mL_sP {M : EM} {a k : Nat} {v : Nat} : mL (sP M a k v) = mL M := rfl
theorem mL_sN {M : EM} {n : Nat} : mL (sN M n) = mL M := rfl
theorem mL_sIr {M : EM} {a : Nat} {v : Nat → Int32} : mL (sIr M a v) = mL M := rfl
theorem mL_sLr {M : EM} {a b j : Nat} {v : Nat → Int64} : mL (sLr M a v) b j = if b = a then v j else mL M b j := rfl
theorem mP_sI {M : EM} {a k : Nat} {v : Int32} : mP (sI M a k v) = mP M := rfl
theorem mP_sL {M : EM} {a k : Nat} {v : Int64} : mP (sL M a k v) = mP M := rfl
theorem mP_sN {M : EM} {n : Nat} : mP (sN M n) = mP M := rfl
theorem mP_sIr {M : EM} {a : Nat} {v : Nat → Int32} : mP (sIr M a v) = mP M := rfl
theorem mP_sLr {M : EM} {a : Nat} {v : Nat → Int64} : mP (sLr M a v) = mP M := rfl
theorem mP_sP {M : EM} {a k b j : Nat} {v : Nat} : mP (sP M a k v) b j = if b = a then (if j = k then some v else mP M b j) else mP M b j := rfl
theorem n_lit (n : Nat) : (OfNat.ofNat n : Int32) = nI n := rfl
def e_01 (c : Prop) [Decidable c] : Int32 := if c then 1 else 0
theorem e_01_n {c : Prop} [Decidable c] : e_01 c = 0 ↔ ¬ c := by unfold e_01; split <;> simp_all
theorem i_nle {a b : Int32} : ¬ a ≤ b ↔ b < a := Int32.not_le
theorem i_nlt {a b : Int32} : ¬ a < b ↔ b ≤ a := Int32.not_lt
set_option maxRecDepth 20000 in
theorem c_isWithin (hl0 : l.stackTraces = false) (n lo hi : Int32) (M : EM) : Ct l g sg_X10_isWithin [.inl n, .inl lo, .inl hi] M (fun o M' => M' = M ∧ o = .inl (some (.inl (e_01 (lo ≤ n ∧ n ≤ hi))))) := by
  refine sem_of hl0 mt_X10_isWithin ok_X10_isWithin rfl (fun K hc hw => e_step rfl hc 80 [] ?_)
  repeat' (first | (with_reducible intro _) | (refine And.intro ?_ ?_))
  all_goals first | rfl | exact Nat.zero_le _ | skip
  all_goals simp_all [e_01, i_nle, i_nlt, Int32.not_le, Int32.not_lt]
  all_goals trace_state
  all_goals sorry
set_option maxRecDepth 20000 in
theorem c_hasBit (hl0 : l.stackTraces = false) (b k : Int32) (M : EM) : Ct l g sg_X10_hasBit [.inl b, .inl k] M (fun o M' => M' = M ∧ o = .inl (some (.inl (e_01 (¬ (b >>> (k &&& 31)) &&& 1 = 0))))) := by
  refine sem_of hl0 mt_X10_hasBit ok_X10_hasBit rfl (fun K hc hw => e_step rfl hc 80 [] ?_)
  repeat' (first | (with_reducible intro _) | (refine And.intro ?_ ?_))
  all_goals first | rfl | exact Nat.zero_le _ | skip
  all_goals simp_all [e_01, i_nle, i_nlt, Int32.not_le, Int32.not_lt]
  all_goals trace_state
  all_goals sorry
set_option maxRecDepth 20000 in
theorem c_isDay (hl0 : l.stackTraces = false) (n : Int32) (M : EM) : Ct l g sg_X1_isDay [.inl n] M (fun o M' => M' = M ∧ o = .inl (some (.inl (e_01 (0 ≤ n ∧ n ≤ 1094))))) := by
  refine sem_of hl0 mt_X1_isDay ok_X1_isDay rfl (fun K hc hw => e_step rfl hc 80 [] ?_)
  repeat' (first | (with_reducible intro _) | (refine And.intro ?_ ?_))
  refine Ct.mono (c_isWithin hl0 _ _ _ _) ?_
  rintro o M' ⟨rfl, rfl⟩
  repeat' (first | (with_reducible intro _) | (refine And.intro ?_ ?_))
  all_goals first | rfl | exact Nat.zero_le _ | skip
  all_goals simp_all [e_01, i_nle, i_nlt, Int32.not_le, Int32.not_lt]
  all_goals trace_state
  all_goals sorry
end
