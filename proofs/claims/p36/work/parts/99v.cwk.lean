/-! THE TEXT of the class: weekdays. -/
section
variable {l : Launch} {g : EG}
def wdL : List Nat := [109, 111, 116, 117, 119, 101, 116, 104, 102, 114, 115, 97, 115, 117]
def wdP (B : Nat → Nat) (t d : Nat) : Prop := B t = wdL.getD (2 * d) 0 ∧ B (t + 1) = wdL.getD (2 * d + 1) 0
theorem tH_2 {B : Nat → Nat} {n t : Nat} (c d W : Nat) (hl : isLe c = true ∧ isLe d = true) (hW : wHk [d, c] = W) : tH B n t = W ↔ (tLe B n t = true ∧ tE B n t - t = 2 ∧ (B t = c ∧ B (t + 1) = d)) := by
  have := tH_f (B := B) (n := n) (t := t) [c, d] (by intro x hx; simp at hx; rcases hx with rfl | rfl; exact hl.1; exact hl.2) (by simp) (by simp)
  rw [← hW]
  refine this.trans (and_congr Iff.rfl (and_congr Iff.rfl ⟨fun h => ⟨h 0 (by simp), h 1 (by simp)⟩, fun h i hi => ?_⟩))
  have : i < 2 := hi
  rcases (show i = 0 ∨ i = 1 by omega) with rfl | rfl
  · exact h.1
  · exact h.2
theorem wd_no {B : Nat → Nat} {n t : Nat} (h : ¬ (tLe B n t = true ∧ tE B n t - t = 2)) : wdN B n t = 7 := by
  have n0 : ¬ tH B n t = 431 := fun z => h ⟨((tH_2 109 111 431 (by decide) (by decide)).mp z).1, ((tH_2 109 111 431 (by decide) (by decide)).mp z).2.1⟩
  have n1 : ¬ tH B n t = 661 := fun z => h ⟨((tH_2 116 117 661 (by decide) (by decide)).mp z).1, ((tH_2 116 117 661 (by decide) (by decide)).mp z).2.1⟩
  have n2 : ¬ tH B n t = 741 := fun z => h ⟨((tH_2 119 101 741 (by decide) (by decide)).mp z).1, ((tH_2 119 101 741 (by decide) (by decide)).mp z).2.1⟩
  have n3 : ¬ tH B n t = 648 := fun z => h ⟨((tH_2 116 104 648 (by decide) (by decide)).mp z).1, ((tH_2 116 104 648 (by decide) (by decide)).mp z).2.1⟩
  have n4 : ¬ tH B n t = 210 := fun z => h ⟨((tH_2 102 114 210 (by decide) (by decide)).mp z).1, ((tH_2 102 114 210 (by decide) (by decide)).mp z).2.1⟩
  have n5 : ¬ tH B n t = 609 := fun z => h ⟨((tH_2 115 97 609 (by decide) (by decide)).mp z).1, ((tH_2 115 97 609 (by decide) (by decide)).mp z).2.1⟩
  have n6 : ¬ tH B n t = 629 := fun z => h ⟨((tH_2 115 117 629 (by decide) (by decide)).mp z).1, ((tH_2 115 117 629 (by decide) (by decide)).mp z).2.1⟩
  unfold wdN
  rw [if_neg n0, if_neg n1, if_neg n2, if_neg n3, if_neg n4, if_neg n5, if_neg n6]
theorem wd_7 {B : Nat → Nat} {n t : Nat} (h : ∀ d, d < 7 → ¬ wdP B t d) : wdN B n t = 7 := by
  have n0 : ¬ tH B n t = 431 := fun z => h 0 (by decide) ((tH_2 109 111 431 (by decide) (by decide)).mp z).2.2
  have n1 : ¬ tH B n t = 661 := fun z => h 1 (by decide) ((tH_2 116 117 661 (by decide) (by decide)).mp z).2.2
  have n2 : ¬ tH B n t = 741 := fun z => h 2 (by decide) ((tH_2 119 101 741 (by decide) (by decide)).mp z).2.2
  have n3 : ¬ tH B n t = 648 := fun z => h 3 (by decide) ((tH_2 116 104 648 (by decide) (by decide)).mp z).2.2
  have n4 : ¬ tH B n t = 210 := fun z => h 4 (by decide) ((tH_2 102 114 210 (by decide) (by decide)).mp z).2.2
  have n5 : ¬ tH B n t = 609 := fun z => h 5 (by decide) ((tH_2 115 97 609 (by decide) (by decide)).mp z).2.2
  have n6 : ¬ tH B n t = 629 := fun z => h 6 (by decide) ((tH_2 115 117 629 (by decide) (by decide)).mp z).2.2
  unfold wdN
  rw [if_neg n0, if_neg n1, if_neg n2, if_neg n3, if_neg n4, if_neg n5, if_neg n6]
theorem wd_d {B : Nat → Nat} {n t d : Nat} (h1 : tLe B n t = true) (h2 : tE B n t - t = 2) (hd : d < 7) (h : wdP B t d) : wdN B n t = d := by
  rcases (show d = 0 ∨ d = 1 ∨ d = 2 ∨ d = 3 ∨ d = 4 ∨ d = 5 ∨ d = 6 by omega) with rfl | rfl | rfl | rfl | rfl | rfl | rfl
  · have e : tH B n t = 431 := (tH_2 109 111 431 (by decide) (by decide)).mpr ⟨h1, h2, h⟩
    unfold wdN
    rw [e]; rfl
  · have e : tH B n t = 661 := (tH_2 116 117 661 (by decide) (by decide)).mpr ⟨h1, h2, h⟩
    unfold wdN
    rw [e]; rfl
  · have e : tH B n t = 741 := (tH_2 119 101 741 (by decide) (by decide)).mpr ⟨h1, h2, h⟩
    unfold wdN
    rw [e]; rfl
  · have e : tH B n t = 648 := (tH_2 116 104 648 (by decide) (by decide)).mpr ⟨h1, h2, h⟩
    unfold wdN
    rw [e]; rfl
  · have e : tH B n t = 210 := (tH_2 102 114 210 (by decide) (by decide)).mpr ⟨h1, h2, h⟩
    unfold wdN
    rw [e]; rfl
  · have e : tH B n t = 609 := (tH_2 115 97 609 (by decide) (by decide)).mpr ⟨h1, h2, h⟩
    unfold wdN
    rw [e]; rfl
  · have e : tH B n t = 629 := (tH_2 115 117 629 (by decide) (by decide)).mpr ⟨h1, h2, h⟩
    unfold wdN
    rw [e]; rfl
set_option maxRecDepth 20000 in
theorem ct_weekday (hl0 : l.stackTraces = false) (M : EM) {a n t : Nat} {B : Nat → Nat} (f : Nat → Int32) (hT : TB M a B n) (h : CK B n t f) : Ct l g sg_X8_weekday [.inr (.inr (.inr (.inr (3, a))))] (tW M a f) (fun o M' => M' = tW M a f ∧ o = .inl (some (.inl (wdV (wdN B n t))))) := by
  refine sem_of hl0 mt_X8_weekday ok_X8_weekday rfl (fun K hc hw => ?_)
  clear hw
  obtain ⟨f1, f22, f6, f3, htn, f5⟩ := h
  have n8 := hT.1
  by_cases hk : kdN B n t = 1
  case neg =>
    have c : ¬ mI (tW M a f) a 1 = 1 := by rw [tW_s, f1]; exact fun z => hk ((nI_eq (b := 1) (by have := kdN_lt (B := B) (n := n) (t := t); omega) (by omega)).mp z)
    have n7 : wdN B n t = 7 := wd_no (fun z => hk (kd_1.mpr z.1))
    refine e_step rfl hc 60 [8] ?_
    repeat' (first | (with_reducible (intro h9; exact absurd rfl h9)) | (with_reducible (intro h9; exact absurd h9 e_10)) | (with_reducible (intro h9; first | exact absurd e_00 h9 | exact absurd h9 e_n10 | exact absurd h9 e_n20 | exact absurd h9 e_n30)) | (with_reducible intro _) | (refine And.intro ?_ ?_) | (with_reducible refine e_sw_nil ?_) | (refine e_fa (fun _ => ?_)) | fail)
    all_goals first | (exfalso; first | exact c (by assumption) | exact (by assumption : ¬ _) c | fail) | skip
    all_goals first | (with_reducible refine e_goK ?_) | (with_reducible refine e_ctK ?_) | (with_reducible refine vp_inK ?_; (try simp (disch := omega) only [mI_rM0, mI_rM1, mI_rM2, mI_rM3, mI_rM4, mI_rM5, mI_rM6, mI_rM7, mI_rM8, mI_rM9, mI_rM10, mI_rM11, mI_rM12, mI_rM13, sI_rM0, sI_rM1, sI_rM2, sI_rM3, sI_rM4, sI_rM5, sI_rM6, sI_rM7, sI_rM8, sI_rM9, sI_rM10, sI_rM11, sI_rM12, sI_rM13, ix_0, ix_1, ix_2, ix_3, ix_4, ix_5, ix_6, ix_7, ix_8, ix_9, ix_10, ix_11, ix_12, ix_13, ix_14, ix_15, ix_16, ix_20, ix_23, ix_24, ix_30, ix_36, ix_46, ix_76, mx_4, mx_6, mx_30, mx_136, mx_1100, mx_3324, xi_1, xi_30, nI_pred, eAt, zAt, tc_0, tc_1, tc_2, tc_3, tc_7, tc_15, tc_23, tc_30, nI_add, pk_mul, nI_clamp]); exact vp_in_nI (by omega) (by omega)) | rfl | exact trivial | exact Nat.zero_le _ | exact (e_fit_01 _).1 | exact (e_fit_01 _).2 | (with_reducible refine vp_in_iff.mpr ?_; decide +kernel) | (with_reducible refine e_nz _ (by decide)) | decide | skip
    all_goals (rw [n7]; rfl)
  have hle := kd_1.mp hk
  have htl := tLe_n hle
  have hE := tE_le (B := B) htl
  have x6 : f 6 = nI (tE B n t) := by rw [f6]; unfold tX; rw [if_pos htl]
  have c : mI (tW M a f) a 1 = 1 := by rw [tW_s, f1, hk]; rfl
  have hs : mI (tW M a f) a 6 - mI (tW M a f) a 2 = nI (tE B n t - t) := by rw [tW_s, tW_s, x6, f22]; exact pk_sub (by omega)
  by_cases hlen : tE B n t - t = 2
  case neg =>
    have c2 : ¬ mI (tW M a f) a 6 - mI (tW M a f) a 2 = 2 := by rw [hs]; exact fun z => hlen ((nI_eq (b := 2) (by omega) (by omega)).mp z)
    have n7 : wdN B n t = 7 := wd_no (fun z => hlen z.2)
    refine e_step rfl hc 60 [36] ?_
    repeat' (first | (with_reducible (intro h9; exact absurd rfl h9)) | (with_reducible (intro h9; exact absurd h9 e_10)) | (with_reducible (intro h9; first | exact absurd e_00 h9 | exact absurd h9 e_n10 | exact absurd h9 e_n20 | exact absurd h9 e_n30)) | (with_reducible intro _) | (refine And.intro ?_ ?_) | (with_reducible refine e_sw_nil ?_) | (refine e_fa (fun _ => ?_)) | fail)
    all_goals first | (exfalso; first | exact c (by assumption) | exact (by assumption : ¬ _) c | exact c2 (by assumption) | exact (by assumption : ¬ _) c2 | fail) | skip
    all_goals first | (with_reducible refine e_goK ?_) | (with_reducible refine e_ctK ?_) | (with_reducible refine vp_inK ?_; (try simp (disch := omega) only [mI_rM0, mI_rM1, mI_rM2, mI_rM3, mI_rM4, mI_rM5, mI_rM6, mI_rM7, mI_rM8, mI_rM9, mI_rM10, mI_rM11, mI_rM12, mI_rM13, sI_rM0, sI_rM1, sI_rM2, sI_rM3, sI_rM4, sI_rM5, sI_rM6, sI_rM7, sI_rM8, sI_rM9, sI_rM10, sI_rM11, sI_rM12, sI_rM13, ix_0, ix_1, ix_2, ix_3, ix_4, ix_5, ix_6, ix_7, ix_8, ix_9, ix_10, ix_11, ix_12, ix_13, ix_14, ix_15, ix_16, ix_20, ix_23, ix_24, ix_30, ix_36, ix_46, ix_76, mx_4, mx_6, mx_30, mx_136, mx_1100, mx_3324, xi_1, xi_30, nI_pred, eAt, zAt, tc_0, tc_1, tc_2, tc_3, tc_7, tc_15, tc_23, tc_30, nI_add, pk_mul, nI_clamp]); exact vp_in_nI (by omega) (by omega)) | rfl | exact trivial | exact Nat.zero_le _ | exact (e_fit_01 _).1 | exact (e_fit_01 _).2 | (with_reducible refine vp_in_iff.mpr ?_; decide +kernel) | (with_reducible refine e_nz _ (by decide)) | decide | skip
    all_goals first | (exfalso; first | exact c (by assumption) | exact (by assumption : ¬ _) c | exact c2 (by assumption) | exact (by assumption : ¬ _) c2 | fail) | skip
    all_goals (rw [n7]; rfl)
  have c2 : mI (tW M a f) a 6 - mI (tW M a f) a 2 = 2 := by rw [hs, hlen]; rfl
  have s1 : mI (tW M a f) a 2 + 1 = nI (t + 1) := by rw [tW_s, f22, nI_1]
  have c3 : mI (tW M a f) a 2 + 1 < mI (tW M a f) a 5 := by rw [s1, tW_s, f5]; exact (nI_ltI (by omega) (by omega)).mpr (by omega)
  have b0 := hT.2 t (by omega)
  have b1 := hT.2 (t + 1) (by omega)
  have v0 : vp_in (mI (tW M a f) a 2) 800 := by rw [tW_s, f22]; exact vp_in_nI (by omega) (by omega)
  have v1 : vp_in (mI (tW M a f) a 2 + 1) 800 := by rw [s1]; exact vp_in_nI (by omega) (by omega)
  have hlw : e_len.getD 10 0 = 14 := by rw [el_0]; rfl
  have loop : ∀ zn d (x : Option EV), d + zn = 7 → (∀ j, j < d → ¬ wdP B t j) → K 38 [some (.inr (.inr (.inr (.inr (3, a))))), some (.inl (nI d)), x] [] (tW M a f) 0 0 := by
    intro zn
    induction zn with
    | zero =>
      intro d x hi hm
      obtain rfl : d = 7 := by omega
      have n7 : wdN B n t = 7 := wd_7 hm
      refine e_step rfl hc 60 [44] ?_
      repeat' (first | (with_reducible (intro h9; exact absurd rfl h9)) | (with_reducible (intro h9; exact absurd h9 e_10)) | (with_reducible (intro h9; first | exact absurd e_00 h9 | exact absurd h9 e_n10 | exact absurd h9 e_n20 | exact absurd h9 e_n30)) | (with_reducible intro _) | (refine And.intro ?_ ?_) | (with_reducible refine e_sw_nil ?_) | (refine e_fa (fun _ => ?_)) | fail)
      all_goals first | (with_reducible refine e_goK ?_) | (with_reducible refine e_ctK ?_) | (with_reducible refine vp_inK ?_; (try simp (disch := omega) only [mI_rM0, mI_rM1, mI_rM2, mI_rM3, mI_rM4, mI_rM5, mI_rM6, mI_rM7, mI_rM8, mI_rM9, mI_rM10, mI_rM11, mI_rM12, mI_rM13, sI_rM0, sI_rM1, sI_rM2, sI_rM3, sI_rM4, sI_rM5, sI_rM6, sI_rM7, sI_rM8, sI_rM9, sI_rM10, sI_rM11, sI_rM12, sI_rM13, ix_0, ix_1, ix_2, ix_3, ix_4, ix_5, ix_6, ix_7, ix_8, ix_9, ix_10, ix_11, ix_12, ix_13, ix_14, ix_15, ix_16, ix_20, ix_23, ix_24, ix_30, ix_36, ix_46, ix_76, mx_4, mx_6, mx_30, mx_136, mx_1100, mx_3324, xi_1, xi_30, nI_pred, eAt, zAt, tc_0, tc_1, tc_2, tc_3, tc_7, tc_15, tc_23, tc_30, nI_add, pk_mul, nI_clamp]); exact vp_in_nI (by omega) (by omega)) | rfl | exact trivial | exact Nat.zero_le _ | exact (e_fit_01 _).1 | exact (e_fit_01 _).2 | (with_reducible refine vp_in_iff.mpr ?_; decide +kernel) | (with_reducible refine e_nz _ (by decide)) | decide | skip
      all_goals first | (exfalso; rename_i g1; exact absurd (nI_le (a := 7) (b := 7) (by omega) (by omega)) g1) | (rw [n7]; rfl) | trace_state
    | succ zn ih =>
      intro d x hi hm
      have c7 : ¬ 7 ≤ nI d := fun z => absurd ((nI_leI (a := 7) (by omega) (by omega)).mp z) (by omega)
      have hall : ∀ i, i < 14 → ((e_byt.getD 10 []).getD i 0 = nI (wdL.getD i 0)) ∧ wdL.getD i 0 < 128 := by
        rw [eb_10]; decide +kernel
      have e2 : 2 * nI d = nI (2 * d) := pk_mul 2 d
      have e21 : 2 * nI d + 1 = nI (2 * d + 1) := by rw [e2, nI_1]
      have w0 : vp_in (2 * nI d) (e_len.getD 10 0) := by rw [hlw, e2]; exact vp_in_nI (by omega) (by omega)
      have w1 : vp_in (2 * nI d + 1) (e_len.getD 10 0) := by rw [hlw, e21]; exact vp_in_nI (by omega) (by omega)
      have cF : mI (tW M a f) (a + 1) (mI (tW M a f) a 2).toNatClampNeg = (e_byt.getD 10 []).getD (2 * nI d).toNatClampNeg 0 ↔ B t = wdL.getD (2 * d) 0 := by
        rw [e2, nI_clamp (by omega), (hall (2 * d) (by omega)).1, tW_s, f22, nI_clamp (by omega), tW_b, b0.1]
        exact sB_eq b0.2 (hall (2 * d) (by omega)).2
      have cS : mI (tW M a f) (a + 1) (mI (tW M a f) a 2 + 1).toNatClampNeg = (e_byt.getD 10 []).getD (2 * nI d + 1).toNatClampNeg 0 ↔ B (t + 1) = wdL.getD (2 * d + 1) 0 := by
        rw [e21, nI_clamp (by omega), (hall (2 * d + 1) (by omega)).1, s1, nI_clamp (by omega), tW_b, b1.1]
        exact sB_eq b1.2 (hall (2 * d + 1) (by omega)).2
      have nxt : ¬ wdP B t d → ∀ x, K 38 [some (.inr (.inr (.inr (.inr (3, a))))), some (.inl (nI (d + 1))), x] [] (tW M a f) 0 0 := fun hn x => ih (d + 1) x (by omega) (fun j hj => by
        by_cases q : j = d
        · subst q; exact hn
        · exact hm j (by omega))
      have k44 : K 44 [some (.inr (.inr (.inr (.inr (3, a))))), some (.inl (nI d)), x] [] (tW M a f) 0 0 := by
        by_cases hF : B t = wdL.getD (2 * d) 0
        · have cF1 := cF.mpr hF
          have k70 : K 70 [some (.inr (.inr (.inr (.inr (3, a))))), some (.inl (nI d)), some (.inl 1)] [] (tW M a f) 0 0 := by
            by_cases hS : B (t + 1) = wdL.getD (2 * d + 1) 0
            · have cS1 := cS.mpr hS
              have hd := wd_d hle hlen (show d < 7 by omega) ⟨hF, hS⟩
              refine e_step rfl hc 60 [100] ?_
              repeat' (first | (with_reducible (intro h9; exact absurd rfl h9)) | (with_reducible (intro h9; exact absurd h9 e_10)) | (with_reducible (intro h9; first | exact absurd e_00 h9 | exact absurd h9 e_n10 | exact absurd h9 e_n20 | exact absurd h9 e_n30)) | (with_reducible intro _) | (refine And.intro ?_ ?_) | (with_reducible refine e_sw_nil ?_) | (refine e_fa (fun _ => ?_)) | fail)
              all_goals first | (exfalso; first | exact cS1 (by assumption) | exact (by assumption : ¬ _) cS1 | fail) | skip
              all_goals first | (with_reducible refine e_goK ?_) | (with_reducible refine e_ctK ?_) | (with_reducible refine vp_inK ?_; (try simp (disch := omega) only [mI_rM0, mI_rM1, mI_rM2, mI_rM3, mI_rM4, mI_rM5, mI_rM6, mI_rM7, mI_rM8, mI_rM9, mI_rM10, mI_rM11, mI_rM12, mI_rM13, sI_rM0, sI_rM1, sI_rM2, sI_rM3, sI_rM4, sI_rM5, sI_rM6, sI_rM7, sI_rM8, sI_rM9, sI_rM10, sI_rM11, sI_rM12, sI_rM13, ix_0, ix_1, ix_2, ix_3, ix_4, ix_5, ix_6, ix_7, ix_8, ix_9, ix_10, ix_11, ix_12, ix_13, ix_14, ix_15, ix_16, ix_20, ix_23, ix_24, ix_30, ix_36, ix_46, ix_76, mx_4, mx_6, mx_30, mx_136, mx_1100, mx_3324, xi_1, xi_30, nI_pred, eAt, zAt, tc_0, tc_1, tc_2, tc_3, tc_7, tc_15, tc_23, tc_30, nI_add, pk_mul, nI_clamp]); exact vp_in_nI (by omega) (by omega)) | rfl | exact trivial | exact Nat.zero_le _ | exact (e_fit_01 _).1 | exact (e_fit_01 _).2 | (with_reducible refine vp_in_iff.mpr ?_; decide +kernel) | (with_reducible refine e_nz _ (by decide)) | decide | exact v0 | exact w0 | exact v1 | exact w1 | skip
              all_goals first | (exfalso; first | exact cS1 (by assumption) | exact (by assumption : ¬ _) cS1 | fail) | skip
              all_goals (rw [hd, wdV_n (by omega)])
            · have cS0 := fun z => hS (cS.mp z)
              have kk := nxt (fun z => hS z.2) (some (.inl 1))
              refine e_step rfl hc 60 [38] ?_
              repeat' (first | (with_reducible (intro h9; exact absurd rfl h9)) | (with_reducible (intro h9; exact absurd h9 e_10)) | (with_reducible (intro h9; first | exact absurd e_00 h9 | exact absurd h9 e_n10 | exact absurd h9 e_n20 | exact absurd h9 e_n30)) | (with_reducible intro _) | (refine And.intro ?_ ?_) | (with_reducible refine e_sw_nil ?_) | (refine e_fa (fun _ => ?_)) | fail)
              all_goals first | (exfalso; first | exact cS0 (by assumption) | exact (by assumption : ¬ _) cS0 | fail) | skip
              all_goals first | (with_reducible refine e_goK ?_) | (with_reducible refine e_ctK ?_) | (with_reducible refine vp_inK ?_; (try simp (disch := omega) only [mI_rM0, mI_rM1, mI_rM2, mI_rM3, mI_rM4, mI_rM5, mI_rM6, mI_rM7, mI_rM8, mI_rM9, mI_rM10, mI_rM11, mI_rM12, mI_rM13, sI_rM0, sI_rM1, sI_rM2, sI_rM3, sI_rM4, sI_rM5, sI_rM6, sI_rM7, sI_rM8, sI_rM9, sI_rM10, sI_rM11, sI_rM12, sI_rM13, ix_0, ix_1, ix_2, ix_3, ix_4, ix_5, ix_6, ix_7, ix_8, ix_9, ix_10, ix_11, ix_12, ix_13, ix_14, ix_15, ix_16, ix_20, ix_23, ix_24, ix_30, ix_36, ix_46, ix_76, mx_4, mx_6, mx_30, mx_136, mx_1100, mx_3324, xi_1, xi_30, nI_pred, eAt, zAt, tc_0, tc_1, tc_2, tc_3, tc_7, tc_15, tc_23, tc_30, nI_add, pk_mul, nI_clamp]); exact vp_in_nI (by omega) (by omega)) | rfl | exact trivial | exact Nat.zero_le _ | exact (e_fit_01 _).1 | exact (e_fit_01 _).2 | (with_reducible refine vp_in_iff.mpr ?_; decide +kernel) | (with_reducible refine e_nz _ (by decide)) | decide | exact v0 | exact w0 | exact v1 | exact w1 | skip
              all_goals first | (exfalso; first | exact cS0 (by assumption) | exact (by assumption : ¬ _) cS0 | fail) | skip
              refine e_kk (K := K) ?_; refine e_kc (kk) (by (repeat' (first | (refine e_cc ?_ ?_) | (with_reducible rfl) | (simp (disch := omega) only [mI_rM0, mI_rM1, mI_rM2, mI_rM3, mI_rM4, mI_rM5, mI_rM6, mI_rM7, mI_rM8, mI_rM9, mI_rM10, mI_rM11, mI_rM12, mI_rM13, sI_rM0, sI_rM1, sI_rM2, sI_rM3, sI_rM4, sI_rM5, sI_rM6, sI_rM7, sI_rM8, sI_rM9, sI_rM10, sI_rM11, sI_rM12, sI_rM13, n_lit, ↓pk_rem, pk_div, pk_mul, pk_sub, nI_add, nI_clamp, nmod, Nat.add_sub_cancel, eAt, zAt, e_clI, e_clP]; done) | ((try simp (disch := omega) only [mI_rM0, mI_rM1, mI_rM2, mI_rM3, mI_rM4, mI_rM5, mI_rM6, mI_rM7, mI_rM8, mI_rM9, mI_rM10, mI_rM11, mI_rM12, mI_rM13, sI_rM0, sI_rM1, sI_rM2, sI_rM3, sI_rM4, sI_rM5, sI_rM6, sI_rM7, sI_rM8, sI_rM9, sI_rM10, sI_rM11, sI_rM12, sI_rM13, n_lit, ↓pk_rem, pk_div, pk_mul, pk_sub, nI_add, nI_clamp, nmod, Nat.add_sub_cancel, eAt, zAt, e_clI, e_clP]); exact e_cnI (by omega)) | rfl))) (by (repeat' (first | (refine e_cc ?_ ?_) | (with_reducible rfl) | (simp (disch := omega) only [mI_rM0, mI_rM1, mI_rM2, mI_rM3, mI_rM4, mI_rM5, mI_rM6, mI_rM7, mI_rM8, mI_rM9, mI_rM10, mI_rM11, mI_rM12, mI_rM13, sI_rM0, sI_rM1, sI_rM2, sI_rM3, sI_rM4, sI_rM5, sI_rM6, sI_rM7, sI_rM8, sI_rM9, sI_rM10, sI_rM11, sI_rM12, sI_rM13, n_lit, ↓pk_rem, pk_div, pk_mul, pk_sub, nI_add, nI_clamp, nmod, Nat.add_sub_cancel, eAt, zAt, e_clI, e_clP]; done) | ((try simp (disch := omega) only [mI_rM0, mI_rM1, mI_rM2, mI_rM3, mI_rM4, mI_rM5, mI_rM6, mI_rM7, mI_rM8, mI_rM9, mI_rM10, mI_rM11, mI_rM12, mI_rM13, sI_rM0, sI_rM1, sI_rM2, sI_rM3, sI_rM4, sI_rM5, sI_rM6, sI_rM7, sI_rM8, sI_rM9, sI_rM10, sI_rM11, sI_rM12, sI_rM13, n_lit, ↓pk_rem, pk_div, pk_mul, pk_sub, nI_add, nI_clamp, nmod, Nat.add_sub_cancel, eAt, zAt, e_clI, e_clP]); exact e_cnI (by omega)) | rfl))) (by first | (with_reducible rfl) | (simp (disch := omega) only [mI_rM0, mI_rM1, mI_rM2, mI_rM3, mI_rM4, mI_rM5, mI_rM6, mI_rM7, mI_rM8, mI_rM9, mI_rM10, mI_rM11, mI_rM12, mI_rM13, sI_rM0, sI_rM1, sI_rM2, sI_rM3, sI_rM4, sI_rM5, sI_rM6, sI_rM7, sI_rM8, sI_rM9, sI_rM10, sI_rM11, sI_rM12, sI_rM13, n_lit, ↓pk_rem, pk_div, pk_mul, pk_sub, nI_add, nI_clamp, nmod, Nat.add_sub_cancel, eAt, zAt, e_clI, e_clP]; done) | rfl | fail)
          refine e_step rfl hc 60 [70] ?_
          repeat' (first | (with_reducible (intro h9; exact absurd rfl h9)) | (with_reducible (intro h9; exact absurd h9 e_10)) | (with_reducible (intro h9; first | exact absurd e_00 h9 | exact absurd h9 e_n10 | exact absurd h9 e_n20 | exact absurd h9 e_n30)) | (with_reducible intro _) | (refine And.intro ?_ ?_) | (with_reducible refine e_sw_nil ?_) | (refine e_fa (fun _ => ?_)) | fail)
          all_goals first | (exfalso; first | exact cF1 (by assumption) | exact (by assumption : ¬ _) cF1 | fail) | skip
          all_goals first | (with_reducible refine e_goK ?_) | (with_reducible refine e_ctK ?_) | (with_reducible refine vp_inK ?_; (try simp (disch := omega) only [mI_rM0, mI_rM1, mI_rM2, mI_rM3, mI_rM4, mI_rM5, mI_rM6, mI_rM7, mI_rM8, mI_rM9, mI_rM10, mI_rM11, mI_rM12, mI_rM13, sI_rM0, sI_rM1, sI_rM2, sI_rM3, sI_rM4, sI_rM5, sI_rM6, sI_rM7, sI_rM8, sI_rM9, sI_rM10, sI_rM11, sI_rM12, sI_rM13, ix_0, ix_1, ix_2, ix_3, ix_4, ix_5, ix_6, ix_7, ix_8, ix_9, ix_10, ix_11, ix_12, ix_13, ix_14, ix_15, ix_16, ix_20, ix_23, ix_24, ix_30, ix_36, ix_46, ix_76, mx_4, mx_6, mx_30, mx_136, mx_1100, mx_3324, xi_1, xi_30, nI_pred, eAt, zAt, tc_0, tc_1, tc_2, tc_3, tc_7, tc_15, tc_23, tc_30, nI_add, pk_mul, nI_clamp]); exact vp_in_nI (by omega) (by omega)) | rfl | exact trivial | exact Nat.zero_le _ | exact (e_fit_01 _).1 | exact (e_fit_01 _).2 | (with_reducible refine vp_in_iff.mpr ?_; decide +kernel) | (with_reducible refine e_nz _ (by decide)) | decide | exact v0 | exact w0 | exact v1 | exact w1 | skip
          all_goals first | (exfalso; first | exact cF1 (by assumption) | exact (by assumption : ¬ _) cF1 | fail) | skip
          exact k70
        · have cF0 := fun z => hF (cF.mp z)
          have kk := nxt (fun z => hF z.1) (some (.inl 0))
          refine e_step rfl hc 60 [38] ?_
          repeat' (first | (with_reducible (intro h9; exact absurd rfl h9)) | (with_reducible (intro h9; exact absurd h9 e_10)) | (with_reducible (intro h9; first | exact absurd e_00 h9 | exact absurd h9 e_n10 | exact absurd h9 e_n20 | exact absurd h9 e_n30)) | (with_reducible intro _) | (refine And.intro ?_ ?_) | (with_reducible refine e_sw_nil ?_) | (refine e_fa (fun _ => ?_)) | fail)
          all_goals first | (exfalso; first | exact cF0 (by assumption) | exact (by assumption : ¬ _) cF0 | fail) | skip
          all_goals first | (with_reducible refine e_goK ?_) | (with_reducible refine e_ctK ?_) | (with_reducible refine vp_inK ?_; (try simp (disch := omega) only [mI_rM0, mI_rM1, mI_rM2, mI_rM3, mI_rM4, mI_rM5, mI_rM6, mI_rM7, mI_rM8, mI_rM9, mI_rM10, mI_rM11, mI_rM12, mI_rM13, sI_rM0, sI_rM1, sI_rM2, sI_rM3, sI_rM4, sI_rM5, sI_rM6, sI_rM7, sI_rM8, sI_rM9, sI_rM10, sI_rM11, sI_rM12, sI_rM13, ix_0, ix_1, ix_2, ix_3, ix_4, ix_5, ix_6, ix_7, ix_8, ix_9, ix_10, ix_11, ix_12, ix_13, ix_14, ix_15, ix_16, ix_20, ix_23, ix_24, ix_30, ix_36, ix_46, ix_76, mx_4, mx_6, mx_30, mx_136, mx_1100, mx_3324, xi_1, xi_30, nI_pred, eAt, zAt, tc_0, tc_1, tc_2, tc_3, tc_7, tc_15, tc_23, tc_30, nI_add, pk_mul, nI_clamp]); exact vp_in_nI (by omega) (by omega)) | rfl | exact trivial | exact Nat.zero_le _ | exact (e_fit_01 _).1 | exact (e_fit_01 _).2 | (with_reducible refine vp_in_iff.mpr ?_; decide +kernel) | (with_reducible refine e_nz _ (by decide)) | decide | exact v0 | exact w0 | exact v1 | exact w1 | skip
          all_goals first | (exfalso; first | exact cF0 (by assumption) | exact (by assumption : ¬ _) cF0 | fail) | skip
          refine e_kk (K := K) ?_; refine e_kc (kk) (by (repeat' (first | (refine e_cc ?_ ?_) | (with_reducible rfl) | (simp (disch := omega) only [mI_rM0, mI_rM1, mI_rM2, mI_rM3, mI_rM4, mI_rM5, mI_rM6, mI_rM7, mI_rM8, mI_rM9, mI_rM10, mI_rM11, mI_rM12, mI_rM13, sI_rM0, sI_rM1, sI_rM2, sI_rM3, sI_rM4, sI_rM5, sI_rM6, sI_rM7, sI_rM8, sI_rM9, sI_rM10, sI_rM11, sI_rM12, sI_rM13, n_lit, ↓pk_rem, pk_div, pk_mul, pk_sub, nI_add, nI_clamp, nmod, Nat.add_sub_cancel, eAt, zAt, e_clI, e_clP]; done) | ((try simp (disch := omega) only [mI_rM0, mI_rM1, mI_rM2, mI_rM3, mI_rM4, mI_rM5, mI_rM6, mI_rM7, mI_rM8, mI_rM9, mI_rM10, mI_rM11, mI_rM12, mI_rM13, sI_rM0, sI_rM1, sI_rM2, sI_rM3, sI_rM4, sI_rM5, sI_rM6, sI_rM7, sI_rM8, sI_rM9, sI_rM10, sI_rM11, sI_rM12, sI_rM13, n_lit, ↓pk_rem, pk_div, pk_mul, pk_sub, nI_add, nI_clamp, nmod, Nat.add_sub_cancel, eAt, zAt, e_clI, e_clP]); exact e_cnI (by omega)) | rfl))) (by (repeat' (first | (refine e_cc ?_ ?_) | (with_reducible rfl) | (simp (disch := omega) only [mI_rM0, mI_rM1, mI_rM2, mI_rM3, mI_rM4, mI_rM5, mI_rM6, mI_rM7, mI_rM8, mI_rM9, mI_rM10, mI_rM11, mI_rM12, mI_rM13, sI_rM0, sI_rM1, sI_rM2, sI_rM3, sI_rM4, sI_rM5, sI_rM6, sI_rM7, sI_rM8, sI_rM9, sI_rM10, sI_rM11, sI_rM12, sI_rM13, n_lit, ↓pk_rem, pk_div, pk_mul, pk_sub, nI_add, nI_clamp, nmod, Nat.add_sub_cancel, eAt, zAt, e_clI, e_clP]; done) | ((try simp (disch := omega) only [mI_rM0, mI_rM1, mI_rM2, mI_rM3, mI_rM4, mI_rM5, mI_rM6, mI_rM7, mI_rM8, mI_rM9, mI_rM10, mI_rM11, mI_rM12, mI_rM13, sI_rM0, sI_rM1, sI_rM2, sI_rM3, sI_rM4, sI_rM5, sI_rM6, sI_rM7, sI_rM8, sI_rM9, sI_rM10, sI_rM11, sI_rM12, sI_rM13, n_lit, ↓pk_rem, pk_div, pk_mul, pk_sub, nI_add, nI_clamp, nmod, Nat.add_sub_cancel, eAt, zAt, e_clI, e_clP]); exact e_cnI (by omega)) | rfl))) (by first | (with_reducible rfl) | (simp (disch := omega) only [mI_rM0, mI_rM1, mI_rM2, mI_rM3, mI_rM4, mI_rM5, mI_rM6, mI_rM7, mI_rM8, mI_rM9, mI_rM10, mI_rM11, mI_rM12, mI_rM13, sI_rM0, sI_rM1, sI_rM2, sI_rM3, sI_rM4, sI_rM5, sI_rM6, sI_rM7, sI_rM8, sI_rM9, sI_rM10, sI_rM11, sI_rM12, sI_rM13, n_lit, ↓pk_rem, pk_div, pk_mul, pk_sub, nI_add, nI_clamp, nmod, Nat.add_sub_cancel, eAt, zAt, e_clI, e_clP]; done) | rfl | fail)
      refine e_step rfl hc 60 [44] ?_
      repeat' (first | (with_reducible (intro h9; exact absurd rfl h9)) | (with_reducible (intro h9; exact absurd h9 e_10)) | (with_reducible (intro h9; first | exact absurd e_00 h9 | exact absurd h9 e_n10 | exact absurd h9 e_n20 | exact absurd h9 e_n30)) | (with_reducible intro _) | (refine And.intro ?_ ?_) | (with_reducible refine e_sw_nil ?_) | (refine e_fa (fun _ => ?_)) | fail)
      all_goals first | (exfalso; first | exact c7 (by assumption) | exact (by assumption : ¬ _) c7 | fail) | skip
      all_goals first | (with_reducible refine e_goK ?_) | (with_reducible refine e_ctK ?_) | (with_reducible refine vp_inK ?_; (try simp (disch := omega) only [mI_rM0, mI_rM1, mI_rM2, mI_rM3, mI_rM4, mI_rM5, mI_rM6, mI_rM7, mI_rM8, mI_rM9, mI_rM10, mI_rM11, mI_rM12, mI_rM13, sI_rM0, sI_rM1, sI_rM2, sI_rM3, sI_rM4, sI_rM5, sI_rM6, sI_rM7, sI_rM8, sI_rM9, sI_rM10, sI_rM11, sI_rM12, sI_rM13, ix_0, ix_1, ix_2, ix_3, ix_4, ix_5, ix_6, ix_7, ix_8, ix_9, ix_10, ix_11, ix_12, ix_13, ix_14, ix_15, ix_16, ix_20, ix_23, ix_24, ix_30, ix_36, ix_46, ix_76, mx_4, mx_6, mx_30, mx_136, mx_1100, mx_3324, xi_1, xi_30, nI_pred, eAt, zAt, tc_0, tc_1, tc_2, tc_3, tc_7, tc_15, tc_23, tc_30, nI_add, pk_mul, nI_clamp]); exact vp_in_nI (by omega) (by omega)) | rfl | exact trivial | exact Nat.zero_le _ | exact (e_fit_01 _).1 | exact (e_fit_01 _).2 | (with_reducible refine vp_in_iff.mpr ?_; decide +kernel) | (with_reducible refine e_nz _ (by decide)) | decide | skip
      exact k44
  have key := fun x => loop 7 0 x (by omega) (fun j hj => absurd hj (Nat.not_lt_zero _))
  refine e_step rfl hc 60 [36] ?_
  repeat' (first | (with_reducible (intro h9; exact absurd rfl h9)) | (with_reducible (intro h9; exact absurd h9 e_10)) | (with_reducible (intro h9; first | exact absurd e_00 h9 | exact absurd h9 e_n10 | exact absurd h9 e_n20 | exact absurd h9 e_n30)) | (with_reducible intro _) | (refine And.intro ?_ ?_) | (with_reducible refine e_sw_nil ?_) | (refine e_fa (fun _ => ?_)) | fail)
  all_goals first | (exfalso; first | exact c (by assumption) | exact (by assumption : ¬ _) c | exact c2 (by assumption) | exact (by assumption : ¬ _) c2 | exact c3 (by assumption) | exact (by assumption : ¬ _) c3 | fail) | skip
  all_goals first | (with_reducible refine e_goK ?_) | (with_reducible refine e_ctK ?_) | (with_reducible refine vp_inK ?_; (try simp (disch := omega) only [mI_rM0, mI_rM1, mI_rM2, mI_rM3, mI_rM4, mI_rM5, mI_rM6, mI_rM7, mI_rM8, mI_rM9, mI_rM10, mI_rM11, mI_rM12, mI_rM13, sI_rM0, sI_rM1, sI_rM2, sI_rM3, sI_rM4, sI_rM5, sI_rM6, sI_rM7, sI_rM8, sI_rM9, sI_rM10, sI_rM11, sI_rM12, sI_rM13, ix_0, ix_1, ix_2, ix_3, ix_4, ix_5, ix_6, ix_7, ix_8, ix_9, ix_10, ix_11, ix_12, ix_13, ix_14, ix_15, ix_16, ix_20, ix_23, ix_24, ix_30, ix_36, ix_46, ix_76, mx_4, mx_6, mx_30, mx_136, mx_1100, mx_3324, xi_1, xi_30, nI_pred, eAt, zAt, tc_0, tc_1, tc_2, tc_3, tc_7, tc_15, tc_23, tc_30, nI_add, pk_mul, nI_clamp]); exact vp_in_nI (by omega) (by omega)) | rfl | exact trivial | exact Nat.zero_le _ | exact (e_fit_01 _).1 | exact (e_fit_01 _).2 | (with_reducible refine vp_in_iff.mpr ?_; decide +kernel) | (with_reducible refine e_nz _ (by decide)) | decide | skip
  all_goals first | (exfalso; first | exact c (by assumption) | exact (by assumption : ¬ _) c | exact c2 (by assumption) | exact (by assumption : ¬ _) c2 | exact c3 (by assumption) | exact (by assumption : ¬ _) c3 | fail) | skip
  refine e_kk (K := K) ?_
  refine e_step rfl hc 60 [38] ?_
  repeat' (first | (with_reducible (intro h9; exact absurd rfl h9)) | (with_reducible (intro h9; exact absurd h9 e_10)) | (with_reducible (intro h9; first | exact absurd e_00 h9 | exact absurd h9 e_n10 | exact absurd h9 e_n20 | exact absurd h9 e_n30)) | (with_reducible intro _) | (refine And.intro ?_ ?_) | (with_reducible refine e_sw_nil ?_) | (refine e_fa (fun _ => ?_)) | fail)
  all_goals first | (with_reducible refine e_goK ?_) | (with_reducible refine e_ctK ?_) | (with_reducible refine vp_inK ?_; (try simp (disch := omega) only [mI_rM0, mI_rM1, mI_rM2, mI_rM3, mI_rM4, mI_rM5, mI_rM6, mI_rM7, mI_rM8, mI_rM9, mI_rM10, mI_rM11, mI_rM12, mI_rM13, sI_rM0, sI_rM1, sI_rM2, sI_rM3, sI_rM4, sI_rM5, sI_rM6, sI_rM7, sI_rM8, sI_rM9, sI_rM10, sI_rM11, sI_rM12, sI_rM13, ix_0, ix_1, ix_2, ix_3, ix_4, ix_5, ix_6, ix_7, ix_8, ix_9, ix_10, ix_11, ix_12, ix_13, ix_14, ix_15, ix_16, ix_20, ix_23, ix_24, ix_30, ix_36, ix_46, ix_76, mx_4, mx_6, mx_30, mx_136, mx_1100, mx_3324, xi_1, xi_30, nI_pred, eAt, zAt, tc_0, tc_1, tc_2, tc_3, tc_7, tc_15, tc_23, tc_30, nI_add, pk_mul, nI_clamp]); exact vp_in_nI (by omega) (by omega)) | rfl | exact trivial | exact Nat.zero_le _ | exact (e_fit_01 _).1 | exact (e_fit_01 _).2 | (with_reducible refine vp_in_iff.mpr ?_; decide +kernel) | (with_reducible refine e_nz _ (by decide)) | decide | skip
  exact key _
end
