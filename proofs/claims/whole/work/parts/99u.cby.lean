/-! THE TEXT of the class: its bytes; its first token. -/
section
variable {l : Launch} {g : EG}
set_option maxRecDepth 20000 in
theorem ct_beginTokens (hl0 : l.stackTraces = false) (M : EM) {a n : Nat} {B : Nat → Nat} (f : Nat → Int32) (hT : TB M a B n) : Ct l g sg_X8_beginTokens [.inr (.inr (.inr (.inr (3, a)))), .inl (nI n)] (tW M a f) (fun o M' => BX (∃ f', M' = tW M a f' ∧ (CK B n (tS B n 0) f' ∧ f' 0 = f 0) ∧ o = .inl none)) := by
  refine sem_of hl0 mt_X8_beginTokens ok_X8_beginTokens rfl (fun K hc hw => ?_)
  clear hw
  have n8 := hT.1
  have hm : (if (800 : Int32) < nI n then (800 : Int32) else nI n) = nI n := by
    split
    · rename_i z
      exact absurd ((nI_ltI (a := 800) (by omega) (by omega)).mp z) (by omega)
    · rfl
  have st := fun {g : EG} => ct_step (g := g) hl0 M (a := a) (n := n) (p := 0) (B := B) (wS (wS f 5 (nI n)) 6 (nI 0)) hT (by rw [wS_o (by omega), wS_e]) wS_e (Nat.zero_le _)
  refine e_step rfl hc 60 [] ?_
  repeat' (first | (with_reducible (intro h9; exact absurd rfl h9)) | (with_reducible (intro h9; exact absurd h9 e_10)) | (with_reducible (intro h9; first | exact absurd e_00 h9 | exact absurd h9 e_n10 | exact absurd h9 e_n20 | exact absurd h9 e_n30)) | (with_reducible intro _) | (refine And.intro ?_ ?_) | (with_reducible refine e_sw_nil ?_) | (refine e_ctK ?_; first | (refine Ct.mono (Ct.ar (by first | rfl | (simp (disch := omega) only [mI_rM0, mI_rM1, mI_rM2, mI_rM3, mI_rM4, mI_rM5, mI_rM6, mI_rM7, mI_rM8, mI_rM9, mI_rM10, mI_rM11, mI_rM12, mI_rM13, sI_rM0, sI_rM1, sI_rM2, sI_rM3, sI_rM4, sI_rM5, sI_rM6, sI_rM7, sI_rM8, sI_rM9, sI_rM10, sI_rM11, sI_rM12, sI_rM13, n_lit, ↓pk_rem, pk_div, pk_mul, pk_sub, nI_add, nI_clamp, nmod, Nat.add_sub_cancel, eAt, zAt, e_clI, e_clP, tW_s, tW_b, sI_tW, hm]; done) | fail) (by first | rfl | (simp (disch := omega) only [mI_rM0, mI_rM1, mI_rM2, mI_rM3, mI_rM4, mI_rM5, mI_rM6, mI_rM7, mI_rM8, mI_rM9, mI_rM10, mI_rM11, mI_rM12, mI_rM13, sI_rM0, sI_rM1, sI_rM2, sI_rM3, sI_rM4, sI_rM5, sI_rM6, sI_rM7, sI_rM8, sI_rM9, sI_rM10, sI_rM11, sI_rM12, sI_rM13, n_lit, ↓pk_rem, pk_div, pk_mul, pk_sub, nI_add, nI_clamp, nmod, Nat.add_sub_cancel, eAt, zAt, e_clI, e_clP, tW_s, tW_b, sI_tW, hm]; done) | fail) (st)) ?_; intro o M' h8; obtain ⟨f1, rfl, q1, rfl⟩ := h8.out) | fail) | fail)
  all_goals first | (with_reducible refine e_goK ?_) | (with_reducible refine e_ctK ?_) | (with_reducible refine vp_inK ?_; (try simp (disch := omega) only [mI_rM0, mI_rM1, mI_rM2, mI_rM3, mI_rM4, mI_rM5, mI_rM6, mI_rM7, mI_rM8, mI_rM9, mI_rM10, mI_rM11, mI_rM12, mI_rM13, sI_rM0, sI_rM1, sI_rM2, sI_rM3, sI_rM4, sI_rM5, sI_rM6, sI_rM7, sI_rM8, sI_rM9, sI_rM10, sI_rM11, sI_rM12, sI_rM13, ix_0, ix_1, ix_2, ix_3, ix_4, ix_5, ix_6, ix_7, ix_8, ix_9, ix_10, ix_11, ix_12, ix_13, ix_14, ix_15, ix_16, ix_20, ix_23, ix_24, ix_30, ix_36, ix_46, ix_76, mx_4, mx_6, mx_30, mx_136, mx_1100, mx_3324, xi_1, xi_30, nI_pred, eAt, zAt, tc_0, tc_1, tc_2, tc_3, tc_7, tc_15, tc_23, tc_30, nI_add, pk_mul, nI_clamp]); exact vp_in_nI (by omega) (by omega)) | rfl | exact trivial | exact Nat.zero_le _ | exact (e_fit_01 _).1 | exact (e_fit_01 _).2 | (with_reducible refine vp_in_iff.mpr ?_; decide +kernel) | (with_reducible refine e_nz _ (by decide)) | decide | skip
  all_goals trace_state
end
