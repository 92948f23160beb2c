/-! THE CLASS: the agenda. -/
section
variable {l : Launch} {g : EG}
def agK (x : AG) : Int32 := (x.1 + 1000) * 256 + nI x.2.1 * 32 + nI x.2.2
/-- the agenda at a holds the list -/
def aG (M : EM) (a : Nat) (A : List AG) : Prop := mI M a 0 = nI A.length ∧ ∀ j, j < A.length → mI M (a + 1) j = agK (agG A j)
/-- only the agenda's number and its keys are written -/
def e_ga (M M' : EM) (a : Nat) : Prop := mP M' = mP M ∧ mL M' = mL M ∧ ∀ c j, ¬ c = a → ¬ c = a + 1 → mI M' c j = mI M c j
theorem e_ga.rf {M : EM} {a : Nat} : e_ga M M a := ⟨rfl, rfl, fun _ _ _ _ => rfl⟩
theorem e_ga.tr {M M' M'' : EM} {a : Nat} (h : e_ga M M' a) (h' : e_ga M' M'' a) : e_ga M M'' a := ⟨h'.1.trans h.1, h'.2.1.trans h.2.1, fun c j h1 h2 => (h'.2.2 c j h1 h2).trans (h.2.2 c j h1 h2)⟩
theorem e_ga.s0 {M M' : EM} {a : Nat} {v : Int32} (h : e_ga M M' a) : e_ga M (sI M' a 0 v) a := ⟨h.1, h.2.1, fun c j h1 h2 => by rw [mI_sI2, if_neg (by omega)]; exact h.2.2 c j h1 h2⟩
theorem e_ga.s1 {M M' : EM} {a k : Nat} {v : Int32} (h : e_ga M M' a) : e_ga M (sI M' (a + 1) k v) a := ⟨h.1, h.2.1, fun c j h1 h2 => by rw [mI_sI2, if_neg (by omega)]; exact h.2.2 c j h1 h2⟩
def inP (M M' : EM) (a : Nat) (A : List AG) (x : AG) : Prop := aG M' a (agIns A x) ∧ e_ga M M' a
set_option maxRecDepth 20000 in
theorem c_insert (hl0 : l.stackTraces = false) {a : Nat} {A : List AG} {x : AG} (M : EM) (h : aG M a A) (hl : A.length < 240) (hx : ∀ j, j < A.length → (agK x < agK (agG A j) ↔ x.1 < (agG A j).1)) : Ct l g sg_X0_insert [.inr (.inr (.inr (.inr (23, a)))), .inl (agK x)] M (fun o M' => BX (inP M M' a A x) ∧ o = .inl none) := by
  refine sem_of hl0 mt_X0_insert ok_X0_insert rfl (fun K hcc hw => ?_)
  have fin : ∀ j Mj, j ≤ A.length → agPos A x.1 A.length = j → mI Mj a 0 = nI A.length → (∀ i, i < j → mI Mj (a + 1) i = agK (agG A i)) → (∀ i, j < i → i ≤ A.length → mI Mj (a + 1) i = agK (agG A (i - 1))) → e_ga M Mj a → K 52 [some (.inr (.inr (.inr (.inr (23, a))))), some (.inl (agK x)), some (.inl (nI j))] [] Mj 0 0 := by
    intro j Mj hj hp m0 m1 m2 fr
    refine e_step rfl hcc 60 [] ?_
    repeat' (first | (with_reducible (intro h9; exact absurd rfl h9)) | (with_reducible (intro h9; exact absurd h9 e_10)) | (with_reducible (intro h9; first | exact absurd e_00 h9 | exact absurd h9 e_n10 | exact absurd h9 e_n20 | exact absurd h9 e_n30)) | (with_reducible intro _) | (refine And.intro ?_ ?_) | (with_reducible refine e_sw_nil ?_) | fail)
    all_goals first | (with_reducible refine e_goK ?_) | (with_reducible refine e_ctK ?_) | (with_reducible refine vp_inK ?_; (try simp (disch := omega) only [mI_sI2, mI_sL, mI_sP, mI_sN, mI_sIr, mI_sLr, mL_sI, mL_sL2, mL_sP, mL_sN, mL_sIr, mL_sLr, mP_sI, mP_sL, mP_sN, mP_sIr, mP_sLr, nI_add, nI_clamp]); exact vp_in_nI (by omega) (by omega)) | rfl | exact trivial | exact Nat.zero_le _ | exact (e_fit_01 _).1 | exact (e_fit_01 _).2 | (with_reducible refine vp_in_iff.mpr ?_; decide +kernel) | (with_reducible refine e_nz _ (by decide)) | decide | skip
    all_goals trace_state
    all_goals sorry
  have loop : ∀ j Mj, j ≤ A.length → agPos A x.1 A.length = agPos A x.1 j → mI Mj a 0 = nI A.length → (∀ i, i < j → mI Mj (a + 1) i = agK (agG A i)) → (∀ i, j < i → i ≤ A.length → mI Mj (a + 1) i = agK (agG A (i - 1))) → e_ga M Mj a → K 16 [some (.inr (.inr (.inr (.inr (23, a))))), some (.inl (agK x)), some (.inl (nI j))] [] Mj 0 0 := by
    intro j
    induction j with
    | zero =>
      intro Mj hj hp m0 m1 m2 fr
      have kk := fin 0 Mj hj hp m0 m1 m2 fr
      refine e_step rfl hcc 60 [52] ?_
      repeat' (first | (with_reducible (intro h9; exact absurd rfl h9)) | (with_reducible (intro h9; exact absurd h9 e_10)) | (with_reducible (intro h9; first | exact absurd e_00 h9 | exact absurd h9 e_n10 | exact absurd h9 e_n20 | exact absurd h9 e_n30)) | (with_reducible intro _) | (refine And.intro ?_ ?_) | (with_reducible refine e_sw_nil ?_) | fail)
      all_goals first | (with_reducible refine e_goK ?_) | (with_reducible refine e_ctK ?_) | (with_reducible refine vp_inK ?_; (try simp (disch := omega) only [mI_sI2, mI_sL, mI_sP, mI_sN, mI_sIr, mI_sLr, mL_sI, mL_sL2, mL_sP, mL_sN, mL_sIr, mL_sLr, mP_sI, mP_sL, mP_sN, mP_sIr, mP_sLr, nI_add, nI_clamp]); exact vp_in_nI (by omega) (by omega)) | rfl | exact trivial | exact Nat.zero_le _ | exact (e_fit_01 _).1 | exact (e_fit_01 _).2 | (with_reducible refine vp_in_iff.mpr ?_; decide +kernel) | (with_reducible refine e_nz _ (by decide)) | decide | skip
      all_goals trace_state
      all_goals sorry
    | succ j ih =>
      intro Mj hj hp m0 m1 m2 fr
      by_cases c : x.1 < (agG A j).1
      · have kk := ih (sI Mj (a + 1) (j + 1) (agK (agG A j))) (by omega) (by rw [hp]; unfold agPos; rw [if_pos c]) (by rw [mI_sI2, if_neg (by omega)]; exact m0) (fun i hi => by rw [mI_sI2, if_neg (by omega)]; exact m1 i (by omega)) (fun i hi1 hi2 => by
          rw [mI_sI2]
          by_cases q : i = j + 1
          · subst q; rw [if_pos ⟨rfl, rfl⟩]; rfl
          · rw [if_neg (by omega)]; exact m2 i (by omega) hi2) fr.s1
        refine e_step rfl hcc 60 [16, 52] ?_
        repeat' (first | (with_reducible (intro h9; exact absurd rfl h9)) | (with_reducible (intro h9; exact absurd h9 e_10)) | (with_reducible (intro h9; first | exact absurd e_00 h9 | exact absurd h9 e_n10 | exact absurd h9 e_n20 | exact absurd h9 e_n30)) | (with_reducible intro _) | (refine And.intro ?_ ?_) | (with_reducible refine e_sw_nil ?_) | fail)
        all_goals first | (with_reducible refine e_goK ?_) | (with_reducible refine e_ctK ?_) | (with_reducible refine vp_inK ?_; (try simp (disch := omega) only [mI_sI2, mI_sL, mI_sP, mI_sN, mI_sIr, mI_sLr, mL_sI, mL_sL2, mL_sP, mL_sN, mL_sIr, mL_sLr, mP_sI, mP_sL, mP_sN, mP_sIr, mP_sLr, nI_add, nI_clamp]); exact vp_in_nI (by omega) (by omega)) | rfl | exact trivial | exact Nat.zero_le _ | exact (e_fit_01 _).1 | exact (e_fit_01 _).2 | (with_reducible refine vp_in_iff.mpr ?_; decide +kernel) | (with_reducible refine e_nz _ (by decide)) | decide | skip
        all_goals trace_state
        all_goals sorry
      · have kk := fin (j + 1) Mj hj (by rw [hp]; unfold agPos; rw [if_neg c]) m0 m1 m2 fr
        refine e_step rfl hcc 60 [32, 52] ?_
        repeat' (first | (with_reducible (intro h9; exact absurd rfl h9)) | (with_reducible (intro h9; exact absurd h9 e_10)) | (with_reducible (intro h9; first | exact absurd e_00 h9 | exact absurd h9 e_n10 | exact absurd h9 e_n20 | exact absurd h9 e_n30)) | (with_reducible intro _) | (refine And.intro ?_ ?_) | (with_reducible refine e_sw_nil ?_) | fail)
        all_goals first | (with_reducible refine e_goK ?_) | (with_reducible refine e_ctK ?_) | (with_reducible refine vp_inK ?_; (try simp (disch := omega) only [mI_sI2, mI_sL, mI_sP, mI_sN, mI_sIr, mI_sLr, mL_sI, mL_sL2, mL_sP, mL_sN, mL_sIr, mL_sLr, mP_sI, mP_sL, mP_sN, mP_sIr, mP_sLr, nI_add, nI_clamp]); exact vp_in_nI (by omega) (by omega)) | rfl | exact trivial | exact Nat.zero_le _ | exact (e_fit_01 _).1 | exact (e_fit_01 _).2 | (with_reducible refine vp_in_iff.mpr ?_; decide +kernel) | (with_reducible refine e_nz _ (by decide)) | decide | skip
        all_goals trace_state
        all_goals sorry
  have k0 := loop A.length M (Nat.le_refl _) rfl h.1 h.2 (fun i h1 h2 => absurd h1 (by omega)) e_ga.rf
  refine e_step rfl hcc 60 [16] ?_
  repeat' (first | (with_reducible (intro h9; exact absurd rfl h9)) | (with_reducible (intro h9; exact absurd h9 e_10)) | (with_reducible (intro h9; first | exact absurd e_00 h9 | exact absurd h9 e_n10 | exact absurd h9 e_n20 | exact absurd h9 e_n30)) | (with_reducible intro _) | (refine And.intro ?_ ?_) | (with_reducible refine e_sw_nil ?_) | fail)
  all_goals first | (with_reducible refine e_goK ?_) | (with_reducible refine e_ctK ?_) | (with_reducible refine vp_inK ?_; (try simp (disch := omega) only [mI_sI2, mI_sL, mI_sP, mI_sN, mI_sIr, mI_sLr, mL_sI, mL_sL2, mL_sP, mL_sN, mL_sIr, mL_sLr, mP_sI, mP_sL, mP_sN, mP_sIr, mP_sLr, nI_add, nI_clamp]); exact vp_in_nI (by omega) (by omega)) | rfl | exact trivial | exact Nat.zero_le _ | exact (e_fit_01 _).1 | exact (e_fit_01 _).2 | (with_reducible refine vp_in_iff.mpr ?_; decide +kernel) | (with_reducible refine e_nz _ (by decide)) | decide | skip
  all_goals trace_state
  all_goals sorry
end
