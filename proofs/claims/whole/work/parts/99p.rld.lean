/-! THE REFERENCE: load. -/
section
variable {l : Launch} {g : EG}
/-- the reference's buffer holds the bytes -/
def BF (F : FM) (B : Nat → Nat) (nb : Nat) : Prop := F 0 10 = nI nb ∧ nb ≤ 800 ∧ ∀ j, j < nb → F 6 j = nI (B j) ∧ B j < 256
def lF (F : FM) (n : Nat) : FM := upF (upF (upF (upF (upF (upF F 0 0 0) 0 12 (nI n)) 0 11 0) 0 10 0) 0 16 0) 0 17 (-1)
theorem lF_f {F : FM} {n j : Nat} (h : ¬ j = 0 ∧ ¬ j = 12 ∧ ¬ j = 11 ∧ ¬ j = 10 ∧ ¬ j = 16 ∧ ¬ j = 17) : lF F n 0 j = F 0 j := by
  unfold lF; rw [upF_n (by omega), upF_n (by omega), upF_n (by omega), upF_n (by omega), upF_n (by omega), upF_n (by omega)]
theorem lF_r {F : FM} {n i : Nat} (h : ¬ i = 0) : lF F n i = F i := by
  unfold lF; rw [upF_r h, upF_r h, upF_r h, upF_r h, upF_r h, upF_r h]
theorem lF_v {F : FM} {n : Nat} : lF F n 0 0 = 0 ∧ lF F n 0 12 = nI n ∧ lF F n 0 11 = 0 ∧ lF F n 0 10 = 0 ∧ lF F n 0 16 = 0 ∧ lF F n 0 17 = -1 := by
  unfold lF
  refine ⟨?_, ?_, ?_, ?_, ?_, ?_⟩
  · rw [upF_n (by omega), upF_n (by omega), upF_n (by omega), upF_n (by omega), upF_n (by omega), upF_s]
  · rw [upF_n (by omega), upF_n (by omega), upF_n (by omega), upF_n (by omega), upF_s]
  · rw [upF_n (by omega), upF_n (by omega), upF_n (by omega), upF_s]
  · rw [upF_n (by omega), upF_n (by omega), upF_s]
  · rw [upF_n (by omega), upF_s]
  · rw [upF_s]
theorem lF_TX {F : FM} {B : Nat → Nat} {n nb : Nat} (h : BF F B nb) (hn : n ≤ nb) : TX (lF F n) B n := ⟨lF_v.2.1, by have := h.2.1; omega, fun j hj => by rw [lF_r (by decide)]; exact h.2.2 j (by omega)⟩
/-- what a load keeps of row 0 -/
def kL (F F' : FM) : Prop := ∀ j, ¬ j = 0 → ¬ j = 1 → ¬ j = 6 → ¬ j = 8 → ¬ (10 ≤ j ∧ j ≤ 17) → ¬ j = 19 → ¬ j = 20 → F' 0 j = F 0 j
/-- a load that was refused for the text -/
def LNo (F F' : FM) (c q : Nat) : Prop := F' 0 0 = 2 ∧ F' 0 10 = 0 ∧ erAt F' c q ∧ (∀ i, ¬ i = 0 → ¬ i = 5 → ¬ i = 7 → F' i = F i) ∧ F' 0 1 = F 0 1 ∧ F' 0 6 = F 0 6 ∧ kL F F'
/-- a load that was done -/
def LYes (F F' : FM) (D : Nat → Int32) (nz ne : Nat) : Prop := F' 0 0 = 0 ∧ F' 0 10 = 0 ∧ F' 0 16 = 0 ∧ F' 0 17 = -1 ∧ F' 1 = sCp (F 1) (dTk D nz ne) 1100 ∧ F' 4 0 = 0 ∧ F' 4 1 = 0 ∧ F' 0 1 = nI (if nz = 0 then 1 else nz) ∧ F' 0 6 = 0 ∧ (∀ i, ¬ i = 0 → ¬ i = 1 → ¬ i = 4 → ¬ i = 5 → ¬ i = 7 → F' i = F i) ∧ kL F F'
def rCal (B : Nat → Nat) (n : Nat) (D : Nat → Int32) : (Nat × Nat) ⊕ (((Nat → Int32) × Nat × Nat) × Nat) := pCal B n (n + 1) (zD 1100 D) 0 0 (tS B n 0)
theorem pCal_ok {B : Nat → Nat} {n : Nat} : ∀ f {D : Nat → Int32} {nz ne t t' : Nat} {d : (Nat → Int32) × Nat × Nat}, pCal B n f D nz ne t = .inr (d, t') → dOk (D, nz, ne) → dOk d := by
  intro f
  induction f with
  | zero =>
    intro D nz ne t t' d h hd
    simp only [pCal, Sum.inr.injEq, Prod.mk.injEq] at h
    rw [← h.1]; exact hd
  | succ f ih =>
    intro D nz ne t t' d h hd
    rw [pCal_s] at h
    split at h
    · rcases hp : pSt B n D nz ne t with e | ⟨d2, t2⟩
      · rw [hp] at h; cases h
      · rw [hp] at h; dsimp only at h
        split at h
        · exact ih h (pSt_go hp hd).2
        · cases h
    · simp only [Sum.inr.injEq, Prod.mk.injEq] at h
      rw [← h.1]; exact hd
def RLd (M : EM) (m : Nat) (F : FM) (r : (Nat × Nat) ⊕ (((Nat → Int32) × Nat × Nat) × Nat)) : EO → EM → Prop := fun o M' => match r with
  | .inl (c, q) => ∃ F', M' = rM M m F' ∧ LNo F F' c q ∧ ∃ w, o = .inl (some (.inl w))
  | .inr (d, _) => ∃ F', M' = rM M m F' ∧ LYes F F' d.1 d.2.1 d.2.2 ∧ o = .inl (some (.inl (nI d.2.2)))
theorem RLd.no {M M' : EM} {m : Nat} {F : FM} {r : (Nat × Nat) ⊕ (((Nat → Int32) × Nat × Nat) × Nat)} {c q : Nat} {o : EO} (h : r = .inl (c, q)) (hp : ∃ F', M' = rM M m F' ∧ LNo F F' c q ∧ ∃ w, o = .inl (some (.inl w))) : RLd M m F r o M' := by subst h; exact hp
theorem RLd.yes {M M' : EM} {m : Nat} {F : FM} {r : (Nat × Nat) ⊕ (((Nat → Int32) × Nat × Nat) × Nat)} {d : (Nat → Int32) × Nat × Nat} {t : Nat} {o : EO} (h : r = .inr (d, t)) (hp : ∃ F', M' = rM M m F' ∧ LYes F F' d.1 d.2.1 d.2.2 ∧ o = .inl (some (.inl (nI d.2.2)))) : RLd M m F r o M' := by subst h; exact hp
theorem fTk_0 {F : FM} {nz ne j : Nat} (h : ¬ j = 1 ∧ ¬ j = 6) : fTk F nz ne 0 j = F 0 j := by
  unfold fTk
  rw [upF_r (by decide), upF_r (by decide), upF_n (by omega), rwF_n (by decide), rwF_n (by decide), upF_n (by omega)]
theorem fTk_r {F : FM} {nz ne i : Nat} (h : ¬ i = 0 ∧ ¬ i = 1 ∧ ¬ i = 4 ∧ ¬ i = 7) : fTk F nz ne i = F i := by
  unfold fTk
  rw [upF_r (by omega), upF_r (by omega), upF_r (by omega), rwF_n (by omega), rwF_n (by omega), upF_r (by omega)]
theorem fTk_v {F : FM} {nz ne : Nat} : fTk F nz ne 1 = sCp (F 1) (dTk (F 7) nz ne) 1100 ∧ fTk F nz ne 4 0 = 0 ∧ fTk F nz ne 4 1 = 0 ∧ fTk F nz ne 0 1 = nI (if nz = 0 then 1 else nz) ∧ fTk F nz ne 0 6 = 0 := by
  unfold fTk
  refine ⟨?_, ?_, ?_, ?_, ?_⟩
  · rw [upF_r (by decide), upF_r (by decide), upF_r (by decide), rwF_s]
  · rw [upF_n (by omega), upF_s]
  · rw [upF_s]
  · rw [upF_r (by decide), upF_r (by decide), upF_n (by omega), rwF_n (by decide), rwF_n (by decide), upF_s]
  · rw [upF_r (by decide), upF_r (by decide), upF_s]
theorem LNo.mk' {F F6 : FM} {n c q : Nat} (kd : kD (lF F n) F6) (e : erAt F6 c q) : LNo F (upF F6 0 0 2) c q := by
  obtain ⟨v0, v12, v11, v10, v16, v17⟩ := lF_v (F := F) (n := n)
  refine ⟨upF_s, by rw [upF_n (by omega), kd.2 10 (by omega) (by omega) (by omega) (by omega) (by omega)]; exact v10, ⟨by rw [upF_n (by omega)]; exact e.1, by rw [upF_n (by omega)]; exact e.2⟩, fun i h1 h2 h3 => by rw [upF_r h1, kd.1 i h1 h2 h3, lF_r h1], ?_, ?_, fun j h0 h1 h6 h8 h10 h19 h20 => ?_⟩
  · rw [upF_n (by omega), kd.2 1 (by omega) (by omega) (by omega) (by omega) (by omega), lF_f (by omega)]
  · rw [upF_n (by omega), kd.2 6 (by omega) (by omega) (by omega) (by omega) (by omega), lF_f (by omega)]
  · rw [upF_n (by omega), kd.2 j (by omega) (by omega) (by omega) (by omega) (by omega), lF_f (by omega)]
theorem LYes.mk' {F F6 : FM} {n nz ne : Nat} {D : Nat → Int32} (kd : kD (lF F n) F6) (ok : okR (lF F n) F6) (h7 : F6 7 = D) : LYes F (fTk (upF F6 0 0 0) nz ne) D nz ne := by
  obtain ⟨v0, v12, v11, v10, v16, v17⟩ := lF_v (F := F) (n := n)
  obtain ⟨w1, w2, w3, w4, w5⟩ := fTk_v (F := upF F6 0 0 0) (nz := nz) (ne := ne)
  refine ⟨?_, ?_, ?_, ?_, ?_, w2, w3, w4, w5, fun i h0 h1 h4 h5 h7 => ?_, fun j h0 h1 h6 h8 h10 h19 h20 => ?_⟩
  · rw [fTk_0 (by omega), upF_s]
  · rw [fTk_0 (by omega), upF_n (by omega), kd.2 10 (by omega) (by omega) (by omega) (by omega) (by omega)]; exact v10
  · rw [fTk_0 (by omega), upF_n (by omega), ok.1]; exact v16
  · rw [fTk_0 (by omega), upF_n (by omega), ok.2]; exact v17
  · rw [w1, upF_r (by decide), upF_r (by decide), kd.1 1 (by decide) (by decide) (by decide), lF_r (by decide), h7]
  · rw [fTk_r ⟨h0, h1, h4, h7⟩, upF_r h0, kd.1 i h0 h5 h7, lF_r h0]
  · rw [fTk_0 ⟨h1, h6⟩, upF_n (by omega), kd.2 j (by omega) (by omega) (by omega) (by omega) (by omega), lF_f (by omega)]
set_option maxRecDepth 20000 in
theorem cr_load1 (hl0 : l.stackTraces = false) (M : EM) {m : Nat} (F : FM) {L : Int32} {nb : Nat} (h10 : F 0 10 = nI nb) (hL : ¬ (0 ≤ L ∧ L ≤ nI nb)) : Ct l g sg_X11_load [.inr (.inr (.inr (.inr (30, m)))), .inl L] (rM M m F) (fun o M' => RN M m F 1 o M') := by
  refine sem_of hl0 mt_X11_load ok_X11_load rfl (fun K hc hw => ?_)
  clear hw
  refine e_step rfl hc 60 [26] ?_
  repeat' (first | (with_reducible (intro h9; exact absurd rfl h9)) | (with_reducible (intro h9; exact absurd h9 e_10)) | (with_reducible (intro h9; first | exact absurd e_00 h9 | exact absurd h9 e_n10 | exact absurd h9 e_n20 | exact absurd h9 e_n30)) | (with_reducible intro _) | (refine And.intro ?_ ?_) | (with_reducible refine e_sw_nil ?_) | (refine e_ctK ?_; first | (refine Ct.mono (Ct.ar (by first | rfl | (simp (disch := omega) only [mI_rM0, mI_rM1, mI_rM2, mI_rM3, mI_rM4, mI_rM5, mI_rM6, mI_rM7, mI_rM8, mI_rM9, mI_rM10, mI_rM11, mI_rM12, mI_rM13, sI_rM0, sI_rM1, sI_rM2, sI_rM3, sI_rM4, sI_rM5, sI_rM6, sI_rM7, sI_rM8, sI_rM9, sI_rM10, sI_rM11, sI_rM12, sI_rM13, n_lit, ↓pk_rem, pk_div, pk_mul, pk_sub, nI_add, nI_clamp, nmod, Nat.add_sub_cancel, eAt, zAt, e_clI, e_clP, h10]; done) | fail) (by first | rfl | (simp (disch := omega) only [mI_rM0, mI_rM1, mI_rM2, mI_rM3, mI_rM4, mI_rM5, mI_rM6, mI_rM7, mI_rM8, mI_rM9, mI_rM10, mI_rM11, mI_rM12, mI_rM13, sI_rM0, sI_rM1, sI_rM2, sI_rM3, sI_rM4, sI_rM5, sI_rM6, sI_rM7, sI_rM8, sI_rM9, sI_rM10, sI_rM11, sI_rM12, sI_rM13, n_lit, ↓pk_rem, pk_div, pk_mul, pk_sub, nI_add, nI_clamp, nmod, Nat.add_sub_cancel, eAt, zAt, e_clI, e_clP, h10]; done) | fail) (cr_in_f hl0 (rM M m F) L 0 (nI nb) hL)) ?_; intro o M' h8; obtain ⟨h9, rfl⟩ := h8; replace h9 := h9.symm; subst h9) | (refine Ct.mono (Ct.ar (by first | rfl | (simp (disch := omega) only [mI_rM0, mI_rM1, mI_rM2, mI_rM3, mI_rM4, mI_rM5, mI_rM6, mI_rM7, mI_rM8, mI_rM9, mI_rM10, mI_rM11, mI_rM12, mI_rM13, sI_rM0, sI_rM1, sI_rM2, sI_rM3, sI_rM4, sI_rM5, sI_rM6, sI_rM7, sI_rM8, sI_rM9, sI_rM10, sI_rM11, sI_rM12, sI_rM13, n_lit, ↓pk_rem, pk_div, pk_mul, pk_sub, nI_add, nI_clamp, nmod, Nat.add_sub_cancel, eAt, zAt, e_clI, e_clP]; done) | fail) (by first | rfl | (simp (disch := omega) only [mI_rM0, mI_rM1, mI_rM2, mI_rM3, mI_rM4, mI_rM5, mI_rM6, mI_rM7, mI_rM8, mI_rM9, mI_rM10, mI_rM11, mI_rM12, mI_rM13, sI_rM0, sI_rM1, sI_rM2, sI_rM3, sI_rM4, sI_rM5, sI_rM6, sI_rM7, sI_rM8, sI_rM9, sI_rM10, sI_rM11, sI_rM12, sI_rM13, n_lit, ↓pk_rem, pk_div, pk_mul, pk_sub, nI_add, nI_clamp, nmod, Nat.add_sub_cancel, eAt, zAt, e_clI, e_clP]; done) | fail) (cr_isRefused1 hl0 M (m := m) F (k := 1) (by decide))) ?_; intro o M' h8; obtain ⟨h9, rfl⟩ := h8; replace h9 := h9.symm; subst h9) | fail) | fail)
  all_goals first | (with_reducible refine e_goK ?_) | (with_reducible refine e_ctK ?_) | (with_reducible refine vp_inK ?_; (try simp (disch := omega) only [mI_rM0, mI_rM1, mI_rM2, mI_rM3, mI_rM4, mI_rM5, mI_rM6, mI_rM7, mI_rM8, mI_rM9, mI_rM10, mI_rM11, mI_rM12, mI_rM13, sI_rM0, sI_rM1, sI_rM2, sI_rM3, sI_rM4, sI_rM5, sI_rM6, sI_rM7, sI_rM8, sI_rM9, sI_rM10, sI_rM11, sI_rM12, sI_rM13, ix_0, ix_1, ix_2, ix_3, ix_4, ix_5, ix_6, ix_7, ix_8, ix_9, ix_10, ix_11, ix_12, ix_13, ix_14, ix_15, ix_16, ix_20, ix_23, ix_24, ix_30, ix_36, ix_46, ix_76, mx_4, mx_6, mx_30, mx_136, mx_1100, mx_3324, xi_1, xi_30, nI_pred, eAt, zAt, tc_0, tc_1, tc_2, tc_3, tc_7, tc_15, tc_23, tc_30, nI_add, pk_mul, nI_clamp]); exact vp_in_nI (by omega) (by omega)) | rfl | exact trivial | exact Nat.zero_le _ | exact (e_fit_01 _).1 | exact (e_fit_01 _).2 | (with_reducible refine vp_in_iff.mpr ?_; decide +kernel) | (with_reducible refine e_nz _ (by decide)) | decide | skip
  all_goals first | contradiction | exact RN.mk rKp.rf | trace_state
set_option maxRecDepth 20000 in
theorem cr_load0 (hl0 : l.stackTraces = false) (M : EM) {m : Nat} (F : FM) {B : Nat → Nat} {n nb : Nat} (h : BF F B nb) (hn : n ≤ nb) : Ct l g sg_X11_load [.inr (.inr (.inr (.inr (30, m)))), .inl (nI n)] (rM M m F) (fun o M' => RLd M m F (rCal B n (F 7)) o M') := by
  refine sem_of hl0 mt_X11_load ok_X11_load rfl (fun K hc hw => ?_)
  clear hw
  have h10 := h.1
  have hb := h.2.1
  have hL : 0 ≤ nI n ∧ nI n ≤ nI nb := ⟨(nI_leI (a := 0) (by omega) (by omega)).mpr (Nat.zero_le _), (nI_leI (by omega) (by omega)).mpr hn⟩
  have key : K 51 [some (.inr (.inr (.inr (.inr (30, m))))), some (.inl (nI n))] [] (rM M m (lF F n)) 0 0 := by
    rcases hp : rCal B n (F 7) with ⟨c, q⟩ | ⟨⟨D, nz, ne⟩, t'⟩
    · have hp0 := hp
      unfold rCal at hp
      refine e_step rfl hc 60 [72] ?_
      repeat' (first | (with_reducible (intro h9; exact absurd rfl h9)) | (with_reducible (intro h9; exact absurd h9 e_10)) | (with_reducible (intro h9; first | exact absurd e_00 h9 | exact absurd h9 e_n10 | exact absurd h9 e_n20 | exact absurd h9 e_n30)) | (with_reducible intro _) | (refine And.intro ?_ ?_) | (with_reducible refine e_sw_nil ?_) | (refine e_ctK ?_; first | (refine Ct.mono (Ct.ar (by first | rfl | (simp (disch := omega) only [mI_rM0, mI_rM1, mI_rM2, mI_rM3, mI_rM4, mI_rM5, mI_rM6, mI_rM7, mI_rM8, mI_rM9, mI_rM10, mI_rM11, mI_rM12, mI_rM13, sI_rM0, sI_rM1, sI_rM2, sI_rM3, sI_rM4, sI_rM5, sI_rM6, sI_rM7, sI_rM8, sI_rM9, sI_rM10, sI_rM11, sI_rM12, sI_rM13, n_lit, ↓pk_rem, pk_div, pk_mul, pk_sub, nI_add, nI_clamp, nmod, Nat.add_sub_cancel, eAt, zAt, e_clI, e_clP]; done) | fail) (by first | rfl | (simp (disch := omega) only [mI_rM0, mI_rM1, mI_rM2, mI_rM3, mI_rM4, mI_rM5, mI_rM6, mI_rM7, mI_rM8, mI_rM9, mI_rM10, mI_rM11, mI_rM12, mI_rM13, sI_rM0, sI_rM1, sI_rM2, sI_rM3, sI_rM4, sI_rM5, sI_rM6, sI_rM7, sI_rM8, sI_rM9, sI_rM10, sI_rM11, sI_rM12, sI_rM13, n_lit, ↓pk_rem, pk_div, pk_mul, pk_sub, nI_add, nI_clamp, nmod, Nat.add_sub_cancel, eAt, zAt, e_clI, e_clP]; done) | fail) (cr_readCalendar hl0 M (m := m) (lF F n) (lF_TX h hn) lF_v.2.2.1)) ?_; intro o M' h8; obtain ⟨F6, rfl, q6, rfl⟩ := h8.o (by first | exact hp | (rw [lF_r (by decide)]; exact hp))) | (refine Ct.mono (Ct.ar (by first | rfl | (simp (disch := omega) only [mI_rM0, mI_rM1, mI_rM2, mI_rM3, mI_rM4, mI_rM5, mI_rM6, mI_rM7, mI_rM8, mI_rM9, mI_rM10, mI_rM11, mI_rM12, mI_rM13, sI_rM0, sI_rM1, sI_rM2, sI_rM3, sI_rM4, sI_rM5, sI_rM6, sI_rM7, sI_rM8, sI_rM9, sI_rM10, sI_rM11, sI_rM12, sI_rM13, n_lit, ↓pk_rem, pk_div, pk_mul, pk_sub, nI_add, nI_clamp, nmod, Nat.add_sub_cancel, eAt, zAt, e_clI, e_clP]; done) | fail) (by first | rfl | (simp (disch := omega) only [mI_rM0, mI_rM1, mI_rM2, mI_rM3, mI_rM4, mI_rM5, mI_rM6, mI_rM7, mI_rM8, mI_rM9, mI_rM10, mI_rM11, mI_rM12, mI_rM13, sI_rM0, sI_rM1, sI_rM2, sI_rM3, sI_rM4, sI_rM5, sI_rM6, sI_rM7, sI_rM8, sI_rM9, sI_rM10, sI_rM11, sI_rM12, sI_rM13, n_lit, ↓pk_rem, pk_div, pk_mul, pk_sub, nI_add, nI_clamp, nmod, Nat.add_sub_cancel, eAt, zAt, e_clI, e_clP]; done) | fail) (cr_isRefused1 hl0 M (m := m) F6 (k := 2) (by decide))) ?_; intro o M' h8; obtain ⟨h9, rfl⟩ := h8; replace h9 := h9.symm; subst h9) | fail) | fail)
      all_goals first | (with_reducible refine e_goK ?_) | (with_reducible refine e_ctK ?_) | (with_reducible refine vp_inK ?_; (try simp (disch := omega) only [mI_rM0, mI_rM1, mI_rM2, mI_rM3, mI_rM4, mI_rM5, mI_rM6, mI_rM7, mI_rM8, mI_rM9, mI_rM10, mI_rM11, mI_rM12, mI_rM13, sI_rM0, sI_rM1, sI_rM2, sI_rM3, sI_rM4, sI_rM5, sI_rM6, sI_rM7, sI_rM8, sI_rM9, sI_rM10, sI_rM11, sI_rM12, sI_rM13, ix_0, ix_1, ix_2, ix_3, ix_4, ix_5, ix_6, ix_7, ix_8, ix_9, ix_10, ix_11, ix_12, ix_13, ix_14, ix_15, ix_16, ix_20, ix_23, ix_24, ix_30, ix_36, ix_46, ix_76, mx_4, mx_6, mx_30, mx_136, mx_1100, mx_3324, xi_1, xi_30, nI_pred, eAt, zAt, tc_0, tc_1, tc_2, tc_3, tc_7, tc_15, tc_23, tc_30, nI_add, pk_mul, nI_clamp]); exact vp_in_nI (by omega) (by omega)) | rfl | exact trivial | exact Nat.zero_le _ | exact (e_fit_01 _).1 | exact (e_fit_01 _).2 | (with_reducible refine vp_in_iff.mpr ?_; decide +kernel) | (with_reducible refine e_nz _ (by decide)) | decide | skip
      all_goals first | contradiction | exact RLd.no hp0 ⟨_, rfl, LNo.mk' q6.1 q6.2, _, rfl⟩ | trace_state
    · have hk : dOk (D, nz, ne) := pCal_ok _ (by unfold rCal at hp; exact hp) ⟨Nat.zero_le _, Nat.zero_le _, fun e _ h2 => (if_pos (show 12 + 136 * e + 7 < 1100 by omega) : zD 1100 (F 7) (12 + 136 * e + 7) = 0)⟩
      have hz : nz ≤ 3 := hk.1
      have he : ne ≤ 8 := hk.2.1
      have hp0 := hp
      unfold rCal at hp
      have k72 : ∀ F6, kD (lF F n) F6 → okR (lF F n) F6 → PT B n F6 (D, nz, ne) t' → K 72 [some (.inr (.inr (.inr (.inr (30, m))))), some (.inl (nI n))] [] (rM M m (upF F6 0 0 0)) 0 0 := by
        intro F6 kd ok pt
        obtain ⟨p1, p2, p3, p4⟩ := pt
        dsimp only at p2 p3 p4
        have g19 : upF F6 0 0 0 0 19 = nI nz := by rw [upF_n (by omega)]; exact p3
        have g20 : upF F6 0 0 0 0 20 = nI ne := by rw [upF_n (by omega)]; exact p4
        have t20 : fTk (upF F6 0 0 0) nz ne 0 20 = nI ne := (fTk_0 (by omega)).trans g20
        refine e_step rfl hc 60 [] ?_
        repeat' (first | (with_reducible (intro h9; exact absurd rfl h9)) | (with_reducible (intro h9; exact absurd h9 e_10)) | (with_reducible (intro h9; first | exact absurd e_00 h9 | exact absurd h9 e_n10 | exact absurd h9 e_n20 | exact absurd h9 e_n30)) | (with_reducible intro _) | (refine And.intro ?_ ?_) | (with_reducible refine e_sw_nil ?_) | (refine e_ctK ?_; first | (refine Ct.mono (Ct.ar (by first | rfl | (simp (disch := omega) only [mI_rM0, mI_rM1, mI_rM2, mI_rM3, mI_rM4, mI_rM5, mI_rM6, mI_rM7, mI_rM8, mI_rM9, mI_rM10, mI_rM11, mI_rM12, mI_rM13, sI_rM0, sI_rM1, sI_rM2, sI_rM3, sI_rM4, sI_rM5, sI_rM6, sI_rM7, sI_rM8, sI_rM9, sI_rM10, sI_rM11, sI_rM12, sI_rM13, n_lit, ↓pk_rem, pk_div, pk_mul, pk_sub, nI_add, nI_clamp, nmod, Nat.add_sub_cancel, eAt, zAt, e_clI, e_clP]; done) | fail) (by first | rfl | (simp (disch := omega) only [mI_rM0, mI_rM1, mI_rM2, mI_rM3, mI_rM4, mI_rM5, mI_rM6, mI_rM7, mI_rM8, mI_rM9, mI_rM10, mI_rM11, mI_rM12, mI_rM13, sI_rM0, sI_rM1, sI_rM2, sI_rM3, sI_rM4, sI_rM5, sI_rM6, sI_rM7, sI_rM8, sI_rM9, sI_rM10, sI_rM11, sI_rM12, sI_rM13, n_lit, ↓pk_rem, pk_div, pk_mul, pk_sub, nI_add, nI_clamp, nmod, Nat.add_sub_cancel, eAt, zAt, e_clI, e_clP]; done) | fail) (cr_takesCalendar hl0 M (m := m) (upF F6 0 0 0) g19 g20 hz he)) ?_; intro o M' h8; obtain ⟨h9, rfl⟩ := h8; replace h9 := h9.symm; subst h9) | fail) | fail)
        all_goals first | (with_reducible refine e_goK ?_) | (with_reducible refine e_ctK ?_) | (with_reducible refine vp_inK ?_; (try simp (disch := omega) only [mI_rM0, mI_rM1, mI_rM2, mI_rM3, mI_rM4, mI_rM5, mI_rM6, mI_rM7, mI_rM8, mI_rM9, mI_rM10, mI_rM11, mI_rM12, mI_rM13, sI_rM0, sI_rM1, sI_rM2, sI_rM3, sI_rM4, sI_rM5, sI_rM6, sI_rM7, sI_rM8, sI_rM9, sI_rM10, sI_rM11, sI_rM12, sI_rM13, ix_0, ix_1, ix_2, ix_3, ix_4, ix_5, ix_6, ix_7, ix_8, ix_9, ix_10, ix_11, ix_12, ix_13, ix_14, ix_15, ix_16, ix_20, ix_23, ix_24, ix_30, ix_36, ix_46, ix_76, mx_4, mx_6, mx_30, mx_136, mx_1100, mx_3324, xi_1, xi_30, nI_pred, eAt, zAt, tc_0, tc_1, tc_2, tc_3, tc_7, tc_15, tc_23, tc_30, nI_add, pk_mul, nI_clamp]); exact vp_in_nI (by omega) (by omega)) | rfl | exact trivial | exact Nat.zero_le _ | exact (e_fit_01 _).1 | exact (e_fit_01 _).2 | (with_reducible refine vp_in_iff.mpr ?_; decide +kernel) | (with_reducible refine e_nz _ (by decide)) | decide | skip
        all_goals first | exact RLd.yes hp0 ⟨_, rfl, LYes.mk' kd ok p2, by simp only [mI_rM0, mI_rM1, mI_rM2, mI_rM3, mI_rM4, mI_rM5, mI_rM6, mI_rM7, mI_rM8, mI_rM9, mI_rM10, mI_rM11, mI_rM12, mI_rM13, sI_rM0, sI_rM1, sI_rM2, sI_rM3, sI_rM4, sI_rM5, sI_rM6, sI_rM7, sI_rM8, sI_rM9, sI_rM10, sI_rM11, sI_rM12, sI_rM13]; rw [t20]⟩ | trace_state
      refine e_step rfl hc 60 [72] ?_
      repeat' (first | (with_reducible (intro h9; exact absurd rfl h9)) | (with_reducible (intro h9; exact absurd h9 e_10)) | (with_reducible (intro h9; first | exact absurd e_00 h9 | exact absurd h9 e_n10 | exact absurd h9 e_n20 | exact absurd h9 e_n30)) | (with_reducible intro _) | (refine And.intro ?_ ?_) | (with_reducible refine e_sw_nil ?_) | (refine e_ctK ?_; first | (refine Ct.mono (Ct.ar (by first | rfl | (simp (disch := omega) only [mI_rM0, mI_rM1, mI_rM2, mI_rM3, mI_rM4, mI_rM5, mI_rM6, mI_rM7, mI_rM8, mI_rM9, mI_rM10, mI_rM11, mI_rM12, mI_rM13, sI_rM0, sI_rM1, sI_rM2, sI_rM3, sI_rM4, sI_rM5, sI_rM6, sI_rM7, sI_rM8, sI_rM9, sI_rM10, sI_rM11, sI_rM12, sI_rM13, n_lit, ↓pk_rem, pk_div, pk_mul, pk_sub, nI_add, nI_clamp, nmod, Nat.add_sub_cancel, eAt, zAt, e_clI, e_clP]; done) | fail) (by first | rfl | (simp (disch := omega) only [mI_rM0, mI_rM1, mI_rM2, mI_rM3, mI_rM4, mI_rM5, mI_rM6, mI_rM7, mI_rM8, mI_rM9, mI_rM10, mI_rM11, mI_rM12, mI_rM13, sI_rM0, sI_rM1, sI_rM2, sI_rM3, sI_rM4, sI_rM5, sI_rM6, sI_rM7, sI_rM8, sI_rM9, sI_rM10, sI_rM11, sI_rM12, sI_rM13, n_lit, ↓pk_rem, pk_div, pk_mul, pk_sub, nI_add, nI_clamp, nmod, Nat.add_sub_cancel, eAt, zAt, e_clI, e_clP]; done) | fail) (cr_readCalendar hl0 M (m := m) (lF F n) (lF_TX h hn) lF_v.2.2.1)) ?_; intro o M' h8; obtain ⟨F6, rfl, q6, rfl⟩ := h8.i (by first | exact hp | (rw [lF_r (by decide)]; exact hp))) | (refine Ct.mono (Ct.ar (by first | rfl | (simp (disch := omega) only [mI_rM0, mI_rM1, mI_rM2, mI_rM3, mI_rM4, mI_rM5, mI_rM6, mI_rM7, mI_rM8, mI_rM9, mI_rM10, mI_rM11, mI_rM12, mI_rM13, sI_rM0, sI_rM1, sI_rM2, sI_rM3, sI_rM4, sI_rM5, sI_rM6, sI_rM7, sI_rM8, sI_rM9, sI_rM10, sI_rM11, sI_rM12, sI_rM13, n_lit, ↓pk_rem, pk_div, pk_mul, pk_sub, nI_add, nI_clamp, nmod, Nat.add_sub_cancel, eAt, zAt, e_clI, e_clP]; done) | fail) (by first | rfl | (simp (disch := omega) only [mI_rM0, mI_rM1, mI_rM2, mI_rM3, mI_rM4, mI_rM5, mI_rM6, mI_rM7, mI_rM8, mI_rM9, mI_rM10, mI_rM11, mI_rM12, mI_rM13, sI_rM0, sI_rM1, sI_rM2, sI_rM3, sI_rM4, sI_rM5, sI_rM6, sI_rM7, sI_rM8, sI_rM9, sI_rM10, sI_rM11, sI_rM12, sI_rM13, n_lit, ↓pk_rem, pk_div, pk_mul, pk_sub, nI_add, nI_clamp, nmod, Nat.add_sub_cancel, eAt, zAt, e_clI, e_clP]; done) | fail) (cr_isRefused0 hl0 M (m := m) F6)) ?_; intro o M' h8; obtain ⟨h9, rfl⟩ := h8; replace h9 := h9.symm; subst h9) | fail) | fail)
      all_goals first | (with_reducible refine e_goK ?_) | (with_reducible refine e_ctK ?_) | (with_reducible refine vp_inK ?_; (try simp (disch := omega) only [mI_rM0, mI_rM1, mI_rM2, mI_rM3, mI_rM4, mI_rM5, mI_rM6, mI_rM7, mI_rM8, mI_rM9, mI_rM10, mI_rM11, mI_rM12, mI_rM13, sI_rM0, sI_rM1, sI_rM2, sI_rM3, sI_rM4, sI_rM5, sI_rM6, sI_rM7, sI_rM8, sI_rM9, sI_rM10, sI_rM11, sI_rM12, sI_rM13, ix_0, ix_1, ix_2, ix_3, ix_4, ix_5, ix_6, ix_7, ix_8, ix_9, ix_10, ix_11, ix_12, ix_13, ix_14, ix_15, ix_16, ix_20, ix_23, ix_24, ix_30, ix_36, ix_46, ix_76, mx_4, mx_6, mx_30, mx_136, mx_1100, mx_3324, xi_1, xi_30, nI_pred, eAt, zAt, tc_0, tc_1, tc_2, tc_3, tc_7, tc_15, tc_23, tc_30, nI_add, pk_mul, nI_clamp]); exact vp_in_nI (by omega) (by omega)) | rfl | exact trivial | exact Nat.zero_le _ | exact (e_fit_01 _).1 | exact (e_fit_01 _).2 | (with_reducible refine vp_in_iff.mpr ?_; decide +kernel) | (with_reducible refine e_nz _ (by decide)) | decide | skip
      all_goals first | contradiction | exact k72 F6 q6.1 q6.2.1 q6.2.2 | trace_state
  refine e_step rfl hc 60 [26, 51] ?_
  repeat' (first | (with_reducible (intro h9; exact absurd rfl h9)) | (with_reducible (intro h9; exact absurd h9 e_10)) | (with_reducible (intro h9; first | exact absurd e_00 h9 | exact absurd h9 e_n10 | exact absurd h9 e_n20 | exact absurd h9 e_n30)) | (with_reducible intro _) | (refine And.intro ?_ ?_) | (with_reducible refine e_sw_nil ?_) | (refine e_ctK ?_; first | (refine Ct.mono (Ct.ar (by first | rfl | (simp (disch := omega) only [mI_rM0, mI_rM1, mI_rM2, mI_rM3, mI_rM4, mI_rM5, mI_rM6, mI_rM7, mI_rM8, mI_rM9, mI_rM10, mI_rM11, mI_rM12, mI_rM13, sI_rM0, sI_rM1, sI_rM2, sI_rM3, sI_rM4, sI_rM5, sI_rM6, sI_rM7, sI_rM8, sI_rM9, sI_rM10, sI_rM11, sI_rM12, sI_rM13, n_lit, ↓pk_rem, pk_div, pk_mul, pk_sub, nI_add, nI_clamp, nmod, Nat.add_sub_cancel, eAt, zAt, e_clI, e_clP, h10]; done) | fail) (by first | rfl | (simp (disch := omega) only [mI_rM0, mI_rM1, mI_rM2, mI_rM3, mI_rM4, mI_rM5, mI_rM6, mI_rM7, mI_rM8, mI_rM9, mI_rM10, mI_rM11, mI_rM12, mI_rM13, sI_rM0, sI_rM1, sI_rM2, sI_rM3, sI_rM4, sI_rM5, sI_rM6, sI_rM7, sI_rM8, sI_rM9, sI_rM10, sI_rM11, sI_rM12, sI_rM13, n_lit, ↓pk_rem, pk_div, pk_mul, pk_sub, nI_add, nI_clamp, nmod, Nat.add_sub_cancel, eAt, zAt, e_clI, e_clP, h10]; done) | fail) (cr_in_t hl0 (rM M m F) (nI n) 0 (nI nb) hL)) ?_; intro o M' h8; obtain ⟨h9, rfl⟩ := h8; replace h9 := h9.symm; subst h9) | (refine Ct.mono (Ct.ar (by first | rfl | (simp (disch := omega) only [mI_rM0, mI_rM1, mI_rM2, mI_rM3, mI_rM4, mI_rM5, mI_rM6, mI_rM7, mI_rM8, mI_rM9, mI_rM10, mI_rM11, mI_rM12, mI_rM13, sI_rM0, sI_rM1, sI_rM2, sI_rM3, sI_rM4, sI_rM5, sI_rM6, sI_rM7, sI_rM8, sI_rM9, sI_rM10, sI_rM11, sI_rM12, sI_rM13, n_lit, ↓pk_rem, pk_div, pk_mul, pk_sub, nI_add, nI_clamp, nmod, Nat.add_sub_cancel, eAt, zAt, e_clI, e_clP]; done) | fail) (by first | rfl | (simp (disch := omega) only [mI_rM0, mI_rM1, mI_rM2, mI_rM3, mI_rM4, mI_rM5, mI_rM6, mI_rM7, mI_rM8, mI_rM9, mI_rM10, mI_rM11, mI_rM12, mI_rM13, sI_rM0, sI_rM1, sI_rM2, sI_rM3, sI_rM4, sI_rM5, sI_rM6, sI_rM7, sI_rM8, sI_rM9, sI_rM10, sI_rM11, sI_rM12, sI_rM13, n_lit, ↓pk_rem, pk_div, pk_mul, pk_sub, nI_add, nI_clamp, nmod, Nat.add_sub_cancel, eAt, zAt, e_clI, e_clP]; done) | fail) (cr_isRefused0 hl0 M (m := m) F)) ?_; intro o M' h8; obtain ⟨h9, rfl⟩ := h8; replace h9 := h9.symm; subst h9) | fail) | fail)
  all_goals first | (with_reducible refine e_goK ?_) | (with_reducible refine e_ctK ?_) | (with_reducible refine vp_inK ?_; (try simp (disch := omega) only [mI_rM0, mI_rM1, mI_rM2, mI_rM3, mI_rM4, mI_rM5, mI_rM6, mI_rM7, mI_rM8, mI_rM9, mI_rM10, mI_rM11, mI_rM12, mI_rM13, sI_rM0, sI_rM1, sI_rM2, sI_rM3, sI_rM4, sI_rM5, sI_rM6, sI_rM7, sI_rM8, sI_rM9, sI_rM10, sI_rM11, sI_rM12, sI_rM13, ix_0, ix_1, ix_2, ix_3, ix_4, ix_5, ix_6, ix_7, ix_8, ix_9, ix_10, ix_11, ix_12, ix_13, ix_14, ix_15, ix_16, ix_20, ix_23, ix_24, ix_30, ix_36, ix_46, ix_76, mx_4, mx_6, mx_30, mx_136, mx_1100, mx_3324, xi_1, xi_30, nI_pred, eAt, zAt, tc_0, tc_1, tc_2, tc_3, tc_7, tc_15, tc_23, tc_30, nI_add, pk_mul, nI_clamp]); exact vp_in_nI (by omega) (by omega)) | rfl | exact trivial | exact Nat.zero_le _ | exact (e_fit_01 _).1 | exact (e_fit_01 _).2 | (with_reducible refine vp_in_iff.mpr ?_; decide +kernel) | (with_reducible refine e_nz _ (by decide)) | decide | skip
  all_goals first | contradiction | skip
  refine e_kk (K := K) ?_
  refine e_step rfl hc 60 [51] ?_
  repeat' (first | (with_reducible (intro h9; exact absurd rfl h9)) | (with_reducible (intro h9; exact absurd h9 e_10)) | (with_reducible (intro h9; first | exact absurd e_00 h9 | exact absurd h9 e_n10 | exact absurd h9 e_n20 | exact absurd h9 e_n30)) | (with_reducible intro _) | (refine And.intro ?_ ?_) | (with_reducible refine e_sw_nil ?_) | fail)
  all_goals first | (with_reducible refine e_goK ?_) | (with_reducible refine e_ctK ?_) | (with_reducible refine vp_inK ?_; (try simp (disch := omega) only [mI_rM0, mI_rM1, mI_rM2, mI_rM3, mI_rM4, mI_rM5, mI_rM6, mI_rM7, mI_rM8, mI_rM9, mI_rM10, mI_rM11, mI_rM12, mI_rM13, sI_rM0, sI_rM1, sI_rM2, sI_rM3, sI_rM4, sI_rM5, sI_rM6, sI_rM7, sI_rM8, sI_rM9, sI_rM10, sI_rM11, sI_rM12, sI_rM13, ix_0, ix_1, ix_2, ix_3, ix_4, ix_5, ix_6, ix_7, ix_8, ix_9, ix_10, ix_11, ix_12, ix_13, ix_14, ix_15, ix_16, ix_20, ix_23, ix_24, ix_30, ix_36, ix_46, ix_76, mx_4, mx_6, mx_30, mx_136, mx_1100, mx_3324, xi_1, xi_30, nI_pred, eAt, zAt, tc_0, tc_1, tc_2, tc_3, tc_7, tc_15, tc_23, tc_30, nI_add, pk_mul, nI_clamp]); exact vp_in_nI (by omega) (by omega)) | rfl | exact trivial | exact Nat.zero_le _ | exact (e_fit_01 _).1 | exact (e_fit_01 _).2 | (with_reducible refine vp_in_iff.mpr ?_; decide +kernel) | (with_reducible refine e_nz _ (by decide)) | decide | skip
  refine e_kk (K := K) ?_
  refine e_kc key rfl rfl ?_
  simp only [mI_rM0, mI_rM1, mI_rM2, mI_rM3, mI_rM4, mI_rM5, mI_rM6, mI_rM7, mI_rM8, mI_rM9, mI_rM10, mI_rM11, mI_rM12, mI_rM13, sI_rM0, sI_rM1, sI_rM2, sI_rM3, sI_rM4, sI_rM5, sI_rM6, sI_rM7, sI_rM8, sI_rM9, sI_rM10, sI_rM11, sI_rM12, sI_rM13]
  rfl
end
