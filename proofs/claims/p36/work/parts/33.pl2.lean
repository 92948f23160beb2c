/-! CONTRACTS: places, 2. -/
section
variable {l : Launch} {g : EG}
theorem e_07 {n : Int32} (h : 0 ≤ n ∧ n ≤ 7) : vp_in n 8 := by
  have hk3 : (7 : Int32).toInt = 7 := rfl
  have hk4 : (0 : Int32).toInt = 0 := rfl
  obtain ⟨hk1, hk2⟩ := h
  rw [Int32.le_iff_toInt_le] at hk1 hk2
  exact vp_in_iff.mpr (by omega)
/-- bits by a test -/
def e_bits (f : Nat → Bool) : Nat → Int32
  | 0 => 0
  | k + 1 => if f k then e_bits f k ||| (1 <<< (nI k &&& 31)) else e_bits f k
def e_thr (M : EM) (p : Nat) (e : Nat) : Bool := !(mI M (p + 6 + 5 * e) 0 == 0)
theorem e_thr_t {M : EM} {p e : Nat} : e_thr M p e = true ↔ ¬ mI M (p + 6 + 5 * e) 0 = 0 := by unfold e_thr; simp
/-- the zone of each event that is there is one of three -/
def zP (M : EM) (p : Nat) : Prop := ∀ e, e < 8 → ¬ mI M (p + 6 + 5 * e) 0 = 0 → ∃ z, z < 3 ∧ mI M (p + 6 + 5 * e) 4 = nI z
def e_dyo (M : EM) (a k : Nat) : Int32 := if e_bit (mI M a 12) (nI k) then mI M (a + 2) k / 1440 else mI M (a + 1) k
def e_mio (M : EM) (a k : Nat) : Int32 := if e_bit (mI M a 12) (nI k) then mI M (a + 2) k - mI M (a + 2) k / 1440 * 1440 else mI M a 2
def e_pmo (M : EM) (p e k : Nat) : Int32 := e_mom (mI M (p + 2 + (mI M (p + 6 + 5 * e) 4).toNatClampNeg)) (e_dyo M (p + 6 + 5 * e) k) (e_mio M (p + 6 + 5 * e) k)
def e_anw (M : EM) (a s k : Nat) : Int32 := e_ans (e_giv (mL M (a + 4) s) (nI k)) (mI M (a + 3) s)
def e_sdt (M : EM) (p q e k : Nat) : Prop := e_pmo M p e k = e_pmo M q e k ∧ e_anw M (p + 6 + 5 * e) 0 k = e_anw M (q + 6 + 5 * e) 0 k ∧ e_anw M (p + 6 + 5 * e) 1 k = e_anw M (q + 6 + 5 * e) 1 k
set_option maxRecDepth 20000 in
theorem c_hasEvent (hl0 : l.stackTraces = false) (p : Nat) (n : Int32) (M : EM) (hb : bP M p) : Ct l g sg_X5_hasEvent [.inr (.inr (.inr (.inr (5, p)))), .inl n] M (fun o M' => M' = M ∧ o = .inl (some (.inl (e_01 (0 ≤ n ∧ n ≤ 7 ∧ ¬ mI M (p + 6 + 5 * n.toNatClampNeg) 0 = 0))))) := by
  refine sem_of hl0 mt_X5_hasEvent ok_X5_hasEvent rfl (fun K hc hw => e_step rfl hc 80 [] ?_)
  repeat' (first | (with_reducible (intro h9; exact absurd rfl h9)) | (with_reducible (intro h9; exact absurd h9 e_10)) | (with_reducible intro _) | (refine And.intro ?_ ?_) | (refine e_fa (fun _ => ?_)))
  refine Ct.mono (c_isWithin hl0 _ _ _ _) ?_
  rintro o M' ⟨rfl, rfl⟩
  repeat' (first | (with_reducible (intro h9; exact absurd rfl h9)) | (with_reducible (intro h9; exact absurd h9 e_10)) | (with_reducible intro _) | (refine And.intro ?_ ?_) | (refine e_fa (fun _ => ?_)))
  all_goals first | rfl | exact trivial | exact Nat.zero_le _ | exact (e_fit_01 _).1 | exact (e_fit_01 _).2 | exact vp_in_iff.mpr (by decide +kernel) | (with_reducible refine e_nz _ (by decide)) | decide | skip
  · rename_i hk1; rw [e_01_n] at hk1; rw [e_01_f (fun hk2 => hk1 ⟨hk2.1, hk2.2.1⟩)]
  all_goals have hk0 : 0 ≤ n ∧ n ≤ 7 := by first | (rename_i hk1; rw [e_01_n, Classical.not_not] at hk1; exact hk1) | (rename_i hk1 hk2; rw [e_01_n, Classical.not_not] at hk1; exact hk1)
  all_goals obtain ⟨e, he, rfl⟩ := vp_in_of (x := n) (n := 8) (e_07 hk0) (by omega)
  all_goals have ea : mI M' (p + 6 + 5 * e) 0 = mI M' (p + 5 + (1 + 5 * (nI e).toNatClampNeg)) 0 := by rw [← e_a8 p (by omega)]
  · exact vp_in_nI he (by omega)
  · rename_i hk1; rw [e_01_f]; rw [nI_clamp (by omega)]; intro hk2; exact hk2.2.2 (ea.trans hk1)
  · rename_i hk1; rw [e_01_t]; rw [nI_clamp (by omega)]; exact ⟨hk0.1, hk0.2, fun hk2 => hk1 (ea.symm.trans hk2)⟩
set_option maxRecDepth 20000 in
theorem c_eventBits (hl0 : l.stackTraces = false) (p : Nat) (M : EM) : Ct l g sg_X5_eventBits [.inr (.inr (.inr (.inr (5, p))))] M (fun o M' => M' = M ∧ o = .inl (some (.inl (e_bits (e_thr M p) 8)))) := by
  refine sem_of hl0 mt_X5_eventBits ok_X5_eventBits rfl (fun K hc hw => ?_)
  have loop : ∀ (zn : Nat) (k : Nat), k + zn = 8 → K 4 [some (.inr (.inr (.inr (.inr (5, p))))), some (.inl (e_bits (e_thr M p) k)), some (.inl (nI k))] [] M 0 0 := by
    intro zn
    induction zn with
    | zero =>
      intro k hk
      obtain rfl : k = 8 := by omega
      refine e_step rfl hc 60 [4] ?_
      repeat' (first | (with_reducible (intro h9; exact absurd rfl h9)) | (with_reducible (intro h9; exact absurd h9 e_10)) | (with_reducible intro _) | (refine And.intro ?_ ?_) | (refine e_fa (fun _ => ?_)))
      all_goals first | rfl | exact trivial | exact Nat.zero_le _ | exact (e_fit_01 _).1 | exact (e_fit_01 _).2 | exact vp_in_iff.mpr (by decide +kernel) | (with_reducible refine e_nz _ (by decide)) | decide | skip
      all_goals (exfalso; rename_i g1; first | exact g1 (by decide) | (rename_i g2; exact g2 (by decide)))
    | succ zn ih =>
      intro k hk
      refine e_step rfl hc 60 [4] ?_
      repeat' (first | (with_reducible (intro h9; exact absurd rfl h9)) | (with_reducible (intro h9; exact absurd h9 e_10)) | (with_reducible intro _) | (refine And.intro ?_ ?_) | (refine e_fa (fun _ => ?_)))
      all_goals first | rfl | exact trivial | exact Nat.zero_le _ | exact (e_fit_01 _).1 | exact (e_fit_01 _).2 | exact vp_in_iff.mpr (by decide +kernel) | (with_reducible refine e_nz _ (by decide)) | decide | skip
      · rename_i g1; exact absurd g1 (nI_ge (b := 8) (by omega) (by omega))
      · exact vp_in_nI (by omega) (by omega)
      · rename_i g1
        have g2 : mI M (p + 6 + 5 * k) 0 = 0 := (e_a8' p (by omega) M 0).symm.trans g1
        have g3 := ih (k + 1) (by omega)
        rw [show e_bits (e_thr M p) (k + 1) = e_bits (e_thr M p) k from if_neg (fun g4 => e_thr_t.mp g4 g2), ← nI_1] at g3
        exact g3
      · rename_i g1
        have g2 : ¬ mI M (p + 6 + 5 * k) 0 = 0 := fun g4 => g1 ((e_a8' p (by omega) M 0).trans g4)
        have g3 := ih (k + 1) (by omega)
        rw [show e_bits (e_thr M p) (k + 1) = e_bits (e_thr M p) k ||| (1 <<< (nI k &&& 31)) from if_pos (e_thr_t.mpr g2), ← nI_1] at g3
        exact g3
  
  exact e_step rfl hc 60 [4] (loop 8 0 (by omega))
set_option maxRecDepth 20000 in
theorem c_pmomentOf (hl0 : l.stackTraces = false) {p e k : Nat} (M : EM) (he : e < 8) (hk : k < 30) (hz : ∃ z, z < 3 ∧ mI M (p + 6 + 5 * e) 4 = nI z) : Ct l g sg_X5_momentOf [.inr (.inr (.inr (.inr (5, p)))), .inl (nI e), .inl (nI k)] M (fun o M' => M' = M ∧ o = .inl (some (.inl (e_pmo M p e k)))) := by
  refine sem_of hl0 mt_X5_momentOf ok_X5_momentOf rfl (fun K hc hw => e_step rfl hc 80 [] ?_)
  obtain ⟨z, hz, ez⟩ := hz
  have ez1 : mI M (p + 5 + (1 + 5 * (nI e).toNatClampNeg)) 4 = nI z := (e_a8' p (by omega) M 4).trans ez
  repeat' (first | (with_reducible (intro h9; exact absurd rfl h9)) | (with_reducible (intro h9; exact absurd h9 e_10)) | (with_reducible intro _) | (refine And.intro ?_ ?_) | (refine e_fa (fun _ => ?_)))
  all_goals first | rfl | exact trivial | exact Nat.zero_le _ | exact (e_fit_01 _).1 | exact (e_fit_01 _).2 | exact vp_in_iff.mpr (by decide +kernel) | (with_reducible refine e_nz _ (by decide)) | decide | skip
  · exact vp_in_nI he (by omega)
  · show vp_in (mI M (p + 5 + (1 + 5 * (nI e).toNatClampNeg)) 4) 3
    rw [ez1]; exact vp_in_nI hz (by omega)
  · refine Ct.mono (Ct.c1 (e_a8 p (by omega)) (c_dayOf hl0 (a := p + 6 + 5 * e) M hk)) ?_
    rintro o M1 ⟨rfl, rfl⟩
    repeat' (first | (with_reducible (intro h9; exact absurd rfl h9)) | (with_reducible (intro h9; exact absurd h9 e_10)) | (with_reducible intro _) | (refine And.intro ?_ ?_) | (refine e_fa (fun _ => ?_)))
    refine Ct.mono (Ct.c1 (e_a8 p (by omega)) (c_minuteOf hl0 (a := p + 6 + 5 * e) M1 hk)) ?_
    rintro o M2 ⟨rfl, rfl⟩
    repeat' (first | (with_reducible (intro h9; exact absurd rfl h9)) | (with_reducible (intro h9; exact absurd h9 e_10)) | (with_reducible intro _) | (refine And.intro ?_ ?_) | (refine e_fa (fun _ => ?_)))
    have ez2 : p + 2 + z = p + 1 + (1 + (mI M2 (p + 5 + (1 + 5 * (nI e).toNatClampNeg)) 4).toNatClampNeg) := by rw [ez1, nI_clamp (by omega)]; omega
    refine Ct.mono (Ct.c1 ez2 (c_momentAt hl0 (p + 2 + z) _ _ M2)) ?_
    rintro o M3 ⟨rfl, rfl⟩
    repeat' (first | (with_reducible (intro h9; exact absurd rfl h9)) | (with_reducible (intro h9; exact absurd h9 e_10)) | (with_reducible intro _) | (refine And.intro ?_ ?_) | (refine e_fa (fun _ => ?_)))
    all_goals first | rfl | exact trivial | exact Nat.zero_le _ | exact (e_fit_01 _).1 | exact (e_fit_01 _).2 | exact vp_in_iff.mpr (by decide +kernel) | (with_reducible refine e_nz _ (by decide)) | decide | skip
    unfold e_pmo
    rw [ez, nI_clamp (by omega)]
    rfl
end
