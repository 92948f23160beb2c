/-! CONTRACTS: the small statics. -/
section S1
variable {l : Launch} {g : EG}
theorem c_isWithin (hl0 : l.stackTraces = false) (n lo hi : Int32) (M : EM) : Sem l g sg_X10_isWithin [.inl n, .inl lo, .inl hi] M (fun o M' => M' = M ∧ o = .inl (some (.inl (if lo ≤ n ∧ n ≤ hi then 1 else 0)))) := by
  refine sem_of hl0 mt_X10_isWithin ok_X10_isWithin rfl (fun K hc hw => e_step rfl hc 60 [] ?_)
  conv => whnf
  trace_state
  sorry
end S1
