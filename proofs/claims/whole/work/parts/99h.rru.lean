/-! THE REFERENCE: a rule is read. -/
section
variable {l : Launch} {g : EG}
/-- the weekday that the token is; 7: none -/
def wdN (B : Nat → Nat) (n t : Nat) : Nat := if tH B n t = 431 then 0 else if tH B n t = 661 then 1 else if tH B n t = 741 then 2 else if tH B n t = 648 then 3 else if tH B n t = 210 then 4 else if tH B n t = 609 then 5 else if tH B n t = 629 then 6 else 7
def pWd (B : Nat → Nat) (n : Nat) : Nat → Int32 → Nat → (Nat × Nat) ⊕ (Int32 × Nat)
  | 0, w, t => .inr (w, t)
  | f + 1, w, t => if wdN B n t = 7 then .inr (w, t) else if e_bit w (nI (wdN B n t)) then .inl (3, t) else pWd B n f (w ||| (1 <<< (nI (wdN B n t) &&& 31))) (nx B n t)
def pWk (B : Nat → Nat) (n t : Nat) : (Nat × Nat) ⊕ (Int32 × Nat) := if wdN B n t = 7 then .inl (1, t) else pWd B n (n + 8) 0 t
/-- the rule's unit; 0: none -/
def unN (B : Nat → Nat) (n t : Nat) : Nat := if tH B n t = 132915 then 1 else if tH B n t = 24286579 then 2 else if tH B n t = 452415763 then 3 else 0
def pRu (B : Nat → Nat) (n t : Nat) : (Nat × Nat) ⊕ ((Int32 × Int32 × Int32 × Int32) × Nat) :=
  match pN B n 1 9 t with
  | .inl e => .inl e
  | .inr (v, t1) =>
    if unN B n t1 = 0 then .inl (1, t1) else
      match (if unN B n t1 = 2 then pWk B n (nx B n t1) else .inr (0, nx B n t1)) with
      | .inl e => .inl e
      | .inr (w, t2) =>
        if tH B n t2 = 21279923 then
          match pN B n 1 30 (nx B n t2) with
          | .inl e => .inl e
          | .inr (y, t3) => .inr ((nI v, nI (unN B n t1), w, nI y), t3)
        else .inl (1, t2)
def dRu (D : Nat → Int32) (a : Nat) (r : Int32 × Int32 × Int32 × Int32) : Nat → Int32 := wS (wS (wS (wS D (a + 6) r.1) (a + 5) r.2.1) (a + 7) r.2.2.1) (a + 8) r.2.2.2
theorem wdN_t {B : Nat → Nat} {n t : Nat} (h : ¬ wdN B n t = 7) : t < n ∧ wdN B n t < 7 := by
  unfold wdN at h ⊢
  by_cases c0 : tH B n t = 431
  · exact ⟨tH_n c0 (by omega), by rw [if_pos c0]; omega⟩
  by_cases c1 : tH B n t = 661
  · exact ⟨tH_n c1 (by omega), by rw [if_neg c0, if_pos c1]; omega⟩
  by_cases c2 : tH B n t = 741
  · exact ⟨tH_n c2 (by omega), by rw [if_neg c0, if_neg c1, if_pos c2]; omega⟩
  by_cases c3 : tH B n t = 648
  · exact ⟨tH_n c3 (by omega), by rw [if_neg c0, if_neg c1, if_neg c2, if_pos c3]; omega⟩
  by_cases c4 : tH B n t = 210
  · exact ⟨tH_n c4 (by omega), by rw [if_neg c0, if_neg c1, if_neg c2, if_neg c3, if_pos c4]; omega⟩
  by_cases c5 : tH B n t = 609
  · exact ⟨tH_n c5 (by omega), by rw [if_neg c0, if_neg c1, if_neg c2, if_neg c3, if_neg c4, if_pos c5]; omega⟩
  by_cases c6 : tH B n t = 629
  · exact ⟨tH_n c6 (by omega), by rw [if_neg c0, if_neg c1, if_neg c2, if_neg c3, if_neg c4, if_neg c5, if_pos c6]; omega⟩
  rw [if_neg c0, if_neg c1, if_neg c2, if_neg c3, if_neg c4, if_neg c5, if_neg c6] at h
  exact absurd rfl h
theorem unN_t {B : Nat → Nat} {n t : Nat} (h : ¬ unN B n t = 0) : t < n ∧ unN B n t < 4 := by
  unfold unN at h ⊢
  by_cases c0 : tH B n t = 132915
  · exact ⟨tH_n c0 (by omega), by rw [if_pos c0]; omega⟩
  by_cases c1 : tH B n t = 24286579
  · exact ⟨tH_n c1 (by omega), by rw [if_neg c0, if_pos c1]; omega⟩
  by_cases c2 : tH B n t = 452415763
  · exact ⟨tH_n c2 (by omega), by rw [if_neg c0, if_neg c1, if_pos c2]; omega⟩
  rw [if_neg c0, if_neg c1, if_neg c2] at h
  exact absurd rfl h
def wdV (k : Nat) : Int32 := if k = 7 then -1 else nI k
theorem lg_t {a b : Nat} (ha : a < 2 ^ 62) (hb : b < 2 ^ 62) (h : a = b) : lg_cmp (lN a) (lN b) = 0 := (lg_0 ha hb).mpr h
theorem lg_f {a b : Nat} (ha : a < 2 ^ 62) (hb : b < 2 ^ 62) (h : ¬ a = b) : ¬ lg_cmp (lN a) (lN b) = 0 := fun z => h ((lg_0 ha hb).mp z)
set_option maxRecDepth 20000 in
theorem cr_weekdayHere (hl0 : l.stackTraces = false) (M : EM) {m : Nat} (F : FM) {B : Nat → Nat} {n t : Nat} (h : PS F B n t) : Ct l g sg_X11_weekdayHere [.inr (.inr (.inr (.inr (30, m))))] (rM M m F) (fun o M' => BX (∃ F', M' = rM M m F' ∧ (kT F F' ∧ PK F' B n t) ∧ o = .inl (some (.inl (wdV (wdN B n t)))))) := by
  refine sem_of hl0 mt_X11_weekdayHere ok_X11_weekdayHere rfl (fun K hc hw => ?_)
  clear hw
  have k5 : ∀ F2, kT F F2 → PK F2 B n t → K 5 [some (.inr (.inr (.inr (.inr (30, m))))), some (.inr (.inl (lN (tH B n t)))), none] [] (rM M m F2) 0 0 := by
    intro F2 kt pk
    have hlt := tH_lt (B := B) (n := n) (t := t)
    refine e_step rfl hc 60 [] ?_
    repeat' (first | (with_reducible (intro h9; exact absurd rfl h9)) | (with_reducible (intro h9; exact absurd h9 e_10)) | (with_reducible (intro h9; first | exact absurd e_00 h9 | exact absurd h9 e_n10 | exact absurd h9 e_n20 | exact absurd h9 e_n30)) | (with_reducible intro _) | (refine And.intro ?_ ?_) | (with_reducible refine e_sw_nil ?_) | fail)
    all_goals first | (with_reducible refine e_goK ?_) | (with_reducible refine e_ctK ?_) | (with_reducible refine vp_inK ?_; (try simp (disch := omega) only [mI_rM0, mI_rM1, mI_rM2, mI_rM3, mI_rM4, mI_rM5, mI_rM6, mI_rM7, mI_rM8, mI_rM9, mI_rM10, mI_rM11, mI_rM12, mI_rM13, sI_rM0, sI_rM1, sI_rM2, sI_rM3, sI_rM4, sI_rM5, sI_rM6, sI_rM7, sI_rM8, sI_rM9, sI_rM10, sI_rM11, sI_rM12, sI_rM13, ix_0, ix_1, ix_2, ix_3, ix_4, ix_5, ix_6, ix_7, ix_8, ix_9, ix_10, ix_11, ix_12, ix_13, ix_14, ix_15, ix_16, ix_20, ix_23, ix_24, ix_30, ix_36, ix_46, ix_76, mx_4, mx_6, mx_30, mx_136, mx_1100, mx_3324, xi_1, xi_30, nI_pred, eAt, zAt, tc_0, tc_1, tc_2, tc_3, tc_7, tc_15, tc_23, tc_30, nI_add, pk_mul, nI_clamp]); exact vp_in_nI (by omega) (by omega)) | rfl | exact trivial | exact Nat.zero_le _ | exact (e_fit_01 _).1 | exact (e_fit_01 _).2 | (with_reducible refine vp_in_iff.mpr ?_; decide +kernel) | (with_reducible refine e_nz _ (by decide)) | decide | skip
    all_goals (refine BX.mk ⟨F2, rfl, ⟨kt, pk⟩, ?_⟩)
    all_goals (unfold wdN)
    · rename_i g0 g1 g2 g3 g4 g5 g6; have c0 : ¬ tH B n t = 431 := fun z => g0 (lg_t (b := 431) hlt (by decide) z); have c1 : ¬ tH B n t = 661 := fun z => g1 (lg_t (b := 661) hlt (by decide) z); have c2 : ¬ tH B n t = 741 := fun z => g2 (lg_t (b := 741) hlt (by decide) z); have c3 : ¬ tH B n t = 648 := fun z => g3 (lg_t (b := 648) hlt (by decide) z); have c4 : ¬ tH B n t = 210 := fun z => g4 (lg_t (b := 210) hlt (by decide) z); have c5 : ¬ tH B n t = 609 := fun z => g5 (lg_t (b := 609) hlt (by decide) z); have c6 : ¬ tH B n t = 629 := fun z => g6 (lg_t (b := 629) hlt (by decide) z); rw [if_neg c0, if_neg c1, if_neg c2, if_neg c3, if_neg c4, if_neg c5, if_neg c6]; rfl
    · rename_i g0 g1 g2 g3 g4 g5 g6; have c0 : ¬ tH B n t = 431 := fun z => g0 (lg_t (b := 431) hlt (by decide) z); have c1 : ¬ tH B n t = 661 := fun z => g1 (lg_t (b := 661) hlt (by decide) z); have c2 : ¬ tH B n t = 741 := fun z => g2 (lg_t (b := 741) hlt (by decide) z); have c3 : ¬ tH B n t = 648 := fun z => g3 (lg_t (b := 648) hlt (by decide) z); have c4 : ¬ tH B n t = 210 := fun z => g4 (lg_t (b := 210) hlt (by decide) z); have c5 : ¬ tH B n t = 609 := fun z => g5 (lg_t (b := 609) hlt (by decide) z); have c6 : tH B n t = 629 := (lg_0 (b := 629) hlt (by decide)).mp g6; rw [if_neg c0, if_neg c1, if_neg c2, if_neg c3, if_neg c4, if_neg c5, if_pos c6]; rfl
    · rename_i g0 g1 g2 g3 g4 g5; have c0 : ¬ tH B n t = 431 := fun z => g0 (lg_t (b := 431) hlt (by decide) z); have c1 : ¬ tH B n t = 661 := fun z => g1 (lg_t (b := 661) hlt (by decide) z); have c2 : ¬ tH B n t = 741 := fun z => g2 (lg_t (b := 741) hlt (by decide) z); have c3 : ¬ tH B n t = 648 := fun z => g3 (lg_t (b := 648) hlt (by decide) z); have c4 : ¬ tH B n t = 210 := fun z => g4 (lg_t (b := 210) hlt (by decide) z); have c5 : tH B n t = 609 := (lg_0 (b := 609) hlt (by decide)).mp g5; rw [if_neg c0, if_neg c1, if_neg c2, if_neg c3, if_neg c4, if_pos c5]; rfl
    · rename_i g0 g1 g2 g3 g4; have c0 : ¬ tH B n t = 431 := fun z => g0 (lg_t (b := 431) hlt (by decide) z); have c1 : ¬ tH B n t = 661 := fun z => g1 (lg_t (b := 661) hlt (by decide) z); have c2 : ¬ tH B n t = 741 := fun z => g2 (lg_t (b := 741) hlt (by decide) z); have c3 : ¬ tH B n t = 648 := fun z => g3 (lg_t (b := 648) hlt (by decide) z); have c4 : tH B n t = 210 := (lg_0 (b := 210) hlt (by decide)).mp g4; rw [if_neg c0, if_neg c1, if_neg c2, if_neg c3, if_pos c4]; rfl
    · rename_i g0 g1 g2 g3; have c0 : ¬ tH B n t = 431 := fun z => g0 (lg_t (b := 431) hlt (by decide) z); have c1 : ¬ tH B n t = 661 := fun z => g1 (lg_t (b := 661) hlt (by decide) z); have c2 : ¬ tH B n t = 741 := fun z => g2 (lg_t (b := 741) hlt (by decide) z); have c3 : tH B n t = 648 := (lg_0 (b := 648) hlt (by decide)).mp g3; rw [if_neg c0, if_neg c1, if_neg c2, if_pos c3]; rfl
    · rename_i g0 g1 g2; have c0 : ¬ tH B n t = 431 := fun z => g0 (lg_t (b := 431) hlt (by decide) z); have c1 : ¬ tH B n t = 661 := fun z => g1 (lg_t (b := 661) hlt (by decide) z); have c2 : tH B n t = 741 := (lg_0 (b := 741) hlt (by decide)).mp g2; rw [if_neg c0, if_neg c1, if_pos c2]; rfl
    · rename_i g0 g1; have c0 : ¬ tH B n t = 431 := fun z => g0 (lg_t (b := 431) hlt (by decide) z); have c1 : tH B n t = 661 := (lg_0 (b := 661) hlt (by decide)).mp g1; rw [if_neg c0, if_pos c1]; rfl
    · rename_i g0; have c0 : tH B n t = 431 := (lg_0 (b := 431) hlt (by decide)).mp g0; rw [if_pos c0]; rfl
  refine e_step rfl hc 60 [5] ?_
  repeat' (first | (with_reducible (intro h9; exact absurd rfl h9)) | (with_reducible (intro h9; exact absurd h9 e_10)) | (with_reducible (intro h9; first | exact absurd e_00 h9 | exact absurd h9 e_n10 | exact absurd h9 e_n20 | exact absurd h9 e_n30)) | (with_reducible intro _) | (refine And.intro ?_ ?_) | (with_reducible refine e_sw_nil ?_) | (refine e_ctK ?_; first | (refine Ct.mono (Ct.ar (by first | rfl | (simp (disch := omega) only [mI_rM0, mI_rM1, mI_rM2, mI_rM3, mI_rM4, mI_rM5, mI_rM6, mI_rM7, mI_rM8, mI_rM9, mI_rM10, mI_rM11, mI_rM12, mI_rM13, sI_rM0, sI_rM1, sI_rM2, sI_rM3, sI_rM4, sI_rM5, sI_rM6, sI_rM7, sI_rM8, sI_rM9, sI_rM10, sI_rM11, sI_rM12, sI_rM13, n_lit, ↓pk_rem, pk_div, pk_mul, pk_sub, nI_add, nI_clamp, nmod, Nat.add_sub_cancel, eAt, zAt, e_clI, e_clP]; done) | fail) (by first | rfl | (simp (disch := omega) only [mI_rM0, mI_rM1, mI_rM2, mI_rM3, mI_rM4, mI_rM5, mI_rM6, mI_rM7, mI_rM8, mI_rM9, mI_rM10, mI_rM11, mI_rM12, mI_rM13, sI_rM0, sI_rM1, sI_rM2, sI_rM3, sI_rM4, sI_rM5, sI_rM6, sI_rM7, sI_rM8, sI_rM9, sI_rM10, sI_rM11, sI_rM12, sI_rM13, n_lit, ↓pk_rem, pk_div, pk_mul, pk_sub, nI_add, nI_clamp, nmod, Nat.add_sub_cancel, eAt, zAt, e_clI, e_clP]; done) | fail) (cr_nextWord hl0 M (m := m) F h)) ?_; intro o M' h8; obtain ⟨F2, rfl, q1, rfl⟩ := h8.out) | fail) | fail)
  all_goals first | (with_reducible refine e_goK ?_) | (with_reducible refine e_ctK ?_) | (with_reducible refine vp_inK ?_; (try simp (disch := omega) only [mI_rM0, mI_rM1, mI_rM2, mI_rM3, mI_rM4, mI_rM5, mI_rM6, mI_rM7, mI_rM8, mI_rM9, mI_rM10, mI_rM11, mI_rM12, mI_rM13, sI_rM0, sI_rM1, sI_rM2, sI_rM3, sI_rM4, sI_rM5, sI_rM6, sI_rM7, sI_rM8, sI_rM9, sI_rM10, sI_rM11, sI_rM12, sI_rM13, ix_0, ix_1, ix_2, ix_3, ix_4, ix_5, ix_6, ix_7, ix_8, ix_9, ix_10, ix_11, ix_12, ix_13, ix_14, ix_15, ix_16, ix_20, ix_23, ix_24, ix_30, ix_36, ix_46, ix_76, mx_4, mx_6, mx_30, mx_136, mx_1100, mx_3324, xi_1, xi_30, nI_pred, eAt, zAt, tc_0, tc_1, tc_2, tc_3, tc_7, tc_15, tc_23, tc_30, nI_add, pk_mul, nI_clamp]); exact vp_in_nI (by omega) (by omega)) | rfl | exact trivial | exact Nat.zero_le _ | exact (e_fit_01 _).1 | exact (e_fit_01 _).2 | (with_reducible refine vp_in_iff.mpr ?_; decide +kernel) | (with_reducible refine e_nz _ (by decide)) | decide | skip
  exact k5 F2 q1.1 q1.2
end
