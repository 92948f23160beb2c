/-! CONTRACTS: the small statics. -/
section S1
variable {l : Launch} {g : EG}
def e_b (b : Bool) : Int32 := bif b then 1 else 0
theorem c_isWithin (hl0 : l.stackTraces = false) (n lo hi : Int32) (M : EM) : Ct l g sg_X10_isWithin [.inl n, .inl lo, .inl hi] M (fun o M' => M' = M ∧ o = .inl (some (.inl (if lo ≤ n ∧ n ≤ hi then 1 else 0)))) := by
  refine sem_of hl0 mt_X10_isWithin ok_X10_isWithin rfl (fun K hc hw => e_step rfl hc 60 [] ?_)
  repeat' (first | (with_reducible intro _) | (refine And.intro ?_ ?_))
  all_goals trace_state
  all_goals sorry
theorem c_hasBit (hl0 : l.stackTraces = false) (b k : Int32) (M : EM) : Ct l g sg_X10_hasBit [.inl b, .inl k] M (fun o M' => M' = M ∧ o = .inl (some (.inl (if (b >>> (k &&& 31)) &&& 1 = 0 then 0 else 1)))) := by
  refine sem_of hl0 mt_X10_hasBit ok_X10_hasBit rfl (fun K hc hw => e_step rfl hc 60 [] ?_)
  repeat' (first | (with_reducible intro _) | (refine And.intro ?_ ?_))
  all_goals trace_state
  all_goals sorry
end S1
