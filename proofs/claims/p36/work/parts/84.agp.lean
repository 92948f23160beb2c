/-! THE CLASS: the agenda: its order. -/
section
variable {l : Launch} {g : EG}
def agB (v : Int32) : Prop := ∃ n, n < 1600000 ∧ v = nI n - 1000
def agO (x : AG) : Prop := agB x.1 ∧ x.2.1 < 8 ∧ x.2.2 < 30
def agS (A : List AG) : Prop := ∀ i j, i < j → j < A.length → (agG A i).1 ≤ (agG A j).1
def agW (A : List AG) (b : Nat) : Prop := ∀ j, j < A.length → agO (agG A j) ∧ (agG A j).2.1 * 32 + (agG A j).2.2 < b
theorem agB_i {v : Int32} (h : agB v) : -1000 ≤ v.toInt ∧ v.toInt < 1599000 := by
  obtain ⟨n, hn, rfl⟩ := h
  rw [show (1000 : Int32) = nI 1000 from rfl, pk_sub_toInt (by omega) (by omega)]
  omega
theorem agK_n {x : AG} (h : agO x) : ∃ n, n < 1600000 ∧ x.1 = nI n - 1000 ∧ x.1.toInt = (n : Int) - 1000 ∧ agK x = nI (n * 256 + x.2.1 * 32 + x.2.2) := by
  obtain ⟨⟨n, hn, e⟩, h1, h2⟩ := h
  refine ⟨n, hn, e, ?_, ?_⟩
  · rw [e, show (1000 : Int32) = nI 1000 from rfl, pk_sub_toInt (by omega) (by omega)]; rfl
  · unfold agK
    rw [e, Int32.sub_add_cancel, show (256 : Int32) = nI 256 from rfl, show (32 : Int32) = nI 32 from rfl, pk_mul, pk_mul, nI_add, nI_add]
theorem agPos_hi {A : List AG} {m : Int32} : ∀ k j, agPos A m k ≤ j → j < k → m < (agG A j).1
  | 0, j, _, h => absurd h (by omega)
  | k + 1, j, h1, h2 => by
    unfold agPos at h1
    by_cases c : m < (agG A k).1
    · rw [if_pos c] at h1
      by_cases q : j = k
      · subst q; exact c
      · exact agPos_hi k j h1 (by omega)
    · rw [if_neg c] at h1; omega
theorem agPos_lo {A : List AG} {m : Int32} : ∀ k q, agPos A m k = q + 1 → ¬ m < (agG A q).1
  | 0, q, h => absurd h (by simp [agPos])
  | k + 1, q, h => by
    unfold agPos at h
    by_cases c : m < (agG A k).1
    · rw [if_pos c] at h; exact agPos_lo k q h
    · rw [if_neg c] at h
      obtain rfl : k = q := by omega
      exact c
theorem i_le_tr {a b c : Int32} (h : a ≤ b) (h' : b ≤ c) : a ≤ c := by
  rw [Int32.le_iff_toInt_le] at *; omega
theorem i_lt_le {a b : Int32} (h : a < b) : a ≤ b := by
  rw [Int32.lt_iff_toInt_lt] at h; rw [Int32.le_iff_toInt_le]; omega
theorem agIns_S {A : List AG} {x : AG} (h : agS A) : agS (agIns A x) := by
  intro i j hij hj
  rw [agIns_len] at hj
  have hp := agPos_le (A := A) (m := x.1) A.length
  have lo : ∀ i, i < agPos A x.1 A.length → (agG A i).1 ≤ x.1 := by
    intro i hi
    obtain ⟨q, hq⟩ : ∃ q, agPos A x.1 A.length = q + 1 := ⟨agPos A x.1 A.length - 1, by omega⟩
    have h1 := Int32.not_lt.mp (agPos_lo _ _ hq)
    by_cases c : i = q
    · subst c; exact h1
    · exact i_le_tr (h i q (by omega) (by omega)) h1
  have hi : ∀ j, agPos A x.1 A.length ≤ j → j < A.length → x.1 ≤ (agG A j).1 := fun j h1 h2 => i_lt_le (agPos_hi _ _ h1 h2)
  unfold agIns
  generalize agPos A x.1 A.length = p at *
  rcases Nat.lt_trichotomy i p with c | c | c
  · rw [agI_lt hp c]
    rcases Nat.lt_trichotomy j p with d | d | d
    · rw [agI_lt hp d]; exact h i j hij (by omega)
    · subst d; rw [agI_eq hp]; exact lo i c
    · rw [agI_gt hp d]
      by_cases z : i = j - 1
      · subst z; exact Int32.le_refl _
      · exact h i (j - 1) (by omega) (by omega)
  · subst c
    rw [agI_eq hp, agI_gt hp hij]
    exact hi (j - 1) (by omega) (by omega)
  · rw [agI_gt hp c, agI_gt hp (by omega)]
    exact h (i - 1) (j - 1) (by omega) (by omega)
theorem agIns_W {A : List AG} {x : AG} {b b' : Nat} (h : agW A b) (hx : agO x) (hb : b ≤ b') (hb' : x.2.1 * 32 + x.2.2 < b') : agW (agIns A x) b' := by
  intro j hj
  rw [agIns_len] at hj
  have hp := agPos_le (A := A) (m := x.1) A.length
  unfold agIns
  generalize agPos A x.1 A.length = p at *
  rcases Nat.lt_trichotomy j p with c | c | c
  · rw [agI_lt hp c]; have := h j (by omega); exact ⟨this.1, by omega⟩
  · subst c; rw [agI_eq hp]; exact ⟨hx, hb'⟩
  · rw [agI_gt hp c]; have := h (j - 1) (by omega); exact ⟨this.1, by omega⟩
theorem agW.wd {A : List AG} {b b' : Nat} (h : agW A b) (hb : b ≤ b') : agW A b' := fun j hj => ⟨(h j hj).1, by have := (h j hj).2; omega⟩
theorem agKlt {A : List AG} {x : AG} {b : Nat} (h : agW A b) (hx : agO x) (hb : b ≤ x.2.1 * 32 + x.2.2) : ∀ j, j < A.length → (agK x < agK (agG A j) ↔ x.1 < (agG A j).1) := by
  intro j hj
  obtain ⟨h1, h2⟩ := h j hj
  have o1 := hx.2; have o2 := h1.2
  obtain ⟨n, hn, _, e2, e3⟩ := agK_n hx
  obtain ⟨n', hn', _, e2', e3'⟩ := agK_n h1
  rw [e3, e3', nI_ltI (by omega) (by omega), Int32.lt_iff_toInt_lt, e2, e2']
  omega
theorem agDs_W {sh : Nat → Bool} {mo : Nat → Int32} {e : Nat} {A : List AG} (he : e < 8) (hA : agW A (e * 32) ∧ agS A) : ∀ d, d ≤ 30 → (∀ k, k < d → sh k = true → agB (mo k)) → agW (agDs sh mo e A d) (e * 32 + d) ∧ agS (agDs sh mo e A d)
  | 0, _, _ => hA
  | d + 1, hd, hm => by
    have ih := agDs_W he hA d (by omega) (fun k hk => hm k (by omega))
    by_cases c : sh d = true
    · rw [agDs_t c]
      exact ⟨agIns_W ih.1 ⟨hm d (by omega) c, he, by show d < 30; omega⟩ (by omega) (by show e * 32 + d < _; omega), agIns_S ih.2⟩
    · rw [agDs_f (by simpa using c)]
      exact ⟨ih.1.wd (by omega), ih.2⟩
theorem agAll_W {sh : Nat → Nat → Bool} {mo : Nat → Nat → Int32} : ∀ e, e ≤ 8 → (∀ i k, i < e → k < 30 → sh i k = true → agB (mo i k)) → agW (agAll sh mo e) (e * 32) ∧ agS (agAll sh mo e)
  | 0, _, _ => ⟨fun j hj => absurd hj (by simp [agAll]), fun i j _ hj => absurd hj (by simp [agAll])⟩
  | e + 1, he, hm => by
    have ih := agAll_W e (by omega) (fun i k hi => hm i k (by omega))
    have := agDs_W (e := e) (by omega) ih 30 (Nat.le_refl _) (fun k hk => hm e k (by omega) hk)
    exact ⟨this.1.wd (by omega), this.2⟩
def aGL (M : EM) (a : Nat) (ln : Nat → Int32) : Prop := ∀ e, e < 8 → mI M (a + 2) e = ln e
abbrev agQ (A : List AG) : Prop := A.length ≤ 240 ∧ agW A 256 ∧ agS A
set_option maxRecDepth 20000 in
theorem c_gmomentOf (hl0 : l.stackTraces = false) {a i : Nat} {A : List AG} (M : EM) (h : aG M a A) (hq : agQ A) (hi : i < A.length) : Ct l g sg_X0_momentOf [.inr (.inr (.inr (.inr (23, a)))), .inl (nI i)] M (fun o M' => M' = M ∧ o = .inl (some (.inl ((agG A i).1)))) := by
  refine sem_of hl0 mt_X0_momentOf ok_X0_momentOf rfl (fun K hc hw => e_step rfl hc 80 [] ?_)
  clear hc hw
  repeat' (first | (with_reducible (intro h9; exact absurd rfl h9)) | (with_reducible (intro h9; exact absurd h9 e_10)) | (with_reducible (intro h9; first | exact absurd e_00 h9 | exact absurd h9 e_n10 | exact absurd h9 e_n20 | exact absurd h9 e_n30)) | (with_reducible intro _) | (refine And.intro ?_ ?_) | (with_reducible refine e_sw_nil ?_) | fail)
  all_goals first | (with_reducible refine e_goK ?_) | (with_reducible refine e_ctK ?_) | (with_reducible refine vp_inK ?_; (try simp (disch := omega) only [mI_sI2, mI_sL, mI_sP, mI_sN, mI_sIr, mI_sLr, mL_sI, mL_sL2, mL_sP, mL_sN, mL_sIr, mL_sLr, mP_sI, mP_sL, mP_sN, mP_sIr, mP_sLr, nI_add, nI_clamp]); exact vp_in_nI (by omega) (by omega)) | rfl | exact trivial | exact Nat.zero_le _ | exact (e_fit_01 _).1 | exact (e_fit_01 _).2 | (with_reducible refine vp_in_iff.mpr ?_; decide +kernel) | (with_reducible refine e_nz _ (by decide)) | decide | skip
  all_goals first | exact vp_in_nI (by have := hq.1; omega) (by omega) | skip
  all_goals (obtain ⟨hw, ho⟩ := hq.2.1 i hi; obtain ⟨n, hn, e1, e2, e3⟩ := agK_n hw; have ho2 := hw.2; have hv : mI M (a + 1) (nI i).toNatClampNeg = nI (n * 256 + (agG A i).2.1 * 32 + (agG A i).2.2) := by (rw [nI_clamp (by have := hq.1; omega), h.2 i hi, e3]))
  show (_ : EO) = _
  show Sum.inl (some (Sum.inl (mI M (a + 1) (nI i).toNatClampNeg / 256 - 1000))) = _
  rw [hv, show (256 : Int32) = nI 256 from rfl, pk_div (by omega) (by omega) (by omega), e1, show (n * 256 + (agG A i).2.1 * 32 + (agG A i).2.2) / 256 = n by omega]
set_option maxRecDepth 20000 in
theorem c_geventOf (hl0 : l.stackTraces = false) {a i : Nat} {A : List AG} (M : EM) (h : aG M a A) (hq : agQ A) (hi : i < A.length) : Ct l g sg_X0_eventOf [.inr (.inr (.inr (.inr (23, a)))), .inl (nI i)] M (fun o M' => M' = M ∧ o = .inl (some (.inl (nI (agG A i).2.1)))) := by
  refine sem_of hl0 mt_X0_eventOf ok_X0_eventOf rfl (fun K hc hw => e_step rfl hc 80 [] ?_)
  clear hc hw
  repeat' (first | (with_reducible (intro h9; exact absurd rfl h9)) | (with_reducible (intro h9; exact absurd h9 e_10)) | (with_reducible (intro h9; first | exact absurd e_00 h9 | exact absurd h9 e_n10 | exact absurd h9 e_n20 | exact absurd h9 e_n30)) | (with_reducible intro _) | (refine And.intro ?_ ?_) | (with_reducible refine e_sw_nil ?_) | fail)
  all_goals first | (with_reducible refine e_goK ?_) | (with_reducible refine e_ctK ?_) | (with_reducible refine vp_inK ?_; (try simp (disch := omega) only [mI_sI2, mI_sL, mI_sP, mI_sN, mI_sIr, mI_sLr, mL_sI, mL_sL2, mL_sP, mL_sN, mL_sIr, mL_sLr, mP_sI, mP_sL, mP_sN, mP_sIr, mP_sLr, nI_add, nI_clamp]); exact vp_in_nI (by omega) (by omega)) | rfl | exact trivial | exact Nat.zero_le _ | exact (e_fit_01 _).1 | exact (e_fit_01 _).2 | (with_reducible refine vp_in_iff.mpr ?_; decide +kernel) | (with_reducible refine e_nz _ (by decide)) | decide | skip
  all_goals first | exact vp_in_nI (by have := hq.1; omega) (by omega) | skip
  all_goals (obtain ⟨hw, ho⟩ := hq.2.1 i hi; obtain ⟨n, hn, e1, e2, e3⟩ := agK_n hw; have ho2 := hw.2; have hv : mI M (a + 1) (nI i).toNatClampNeg = nI (n * 256 + (agG A i).2.1 * 32 + (agG A i).2.2) := by (rw [nI_clamp (by have := hq.1; omega), h.2 i hi, e3]))
  show Sum.inl (some (Sum.inl (mI M (a + 1) (nI i).toNatClampNeg / 32 - mI M (a + 1) (nI i).toNatClampNeg / 32 / 8 * 8))) = _
  rw [hv, show (32 : Int32) = nI 32 from rfl, show (8 : Int32) = nI 8 from rfl, pk_div (by omega) (by omega) (by omega), pk_rem (by omega) (by omega) (by omega), show (n * 256 + (agG A i).2.1 * 32 + (agG A i).2.2) / 32 % 8 = (agG A i).2.1 by omega]
set_option maxRecDepth 20000 in
theorem c_gdateOf (hl0 : l.stackTraces = false) {a i : Nat} {A : List AG} (M : EM) (h : aG M a A) (hq : agQ A) (hi : i < A.length) : Ct l g sg_X0_dateOf [.inr (.inr (.inr (.inr (23, a)))), .inl (nI i)] M (fun o M' => M' = M ∧ o = .inl (some (.inl (nI (agG A i).2.2)))) := by
  refine sem_of hl0 mt_X0_dateOf ok_X0_dateOf rfl (fun K hc hw => e_step rfl hc 80 [] ?_)
  clear hc hw
  repeat' (first | (with_reducible (intro h9; exact absurd rfl h9)) | (with_reducible (intro h9; exact absurd h9 e_10)) | (with_reducible (intro h9; first | exact absurd e_00 h9 | exact absurd h9 e_n10 | exact absurd h9 e_n20 | exact absurd h9 e_n30)) | (with_reducible intro _) | (refine And.intro ?_ ?_) | (with_reducible refine e_sw_nil ?_) | fail)
  all_goals first | (with_reducible refine e_goK ?_) | (with_reducible refine e_ctK ?_) | (with_reducible refine vp_inK ?_; (try simp (disch := omega) only [mI_sI2, mI_sL, mI_sP, mI_sN, mI_sIr, mI_sLr, mL_sI, mL_sL2, mL_sP, mL_sN, mL_sIr, mL_sLr, mP_sI, mP_sL, mP_sN, mP_sIr, mP_sLr, nI_add, nI_clamp]); exact vp_in_nI (by omega) (by omega)) | rfl | exact trivial | exact Nat.zero_le _ | exact (e_fit_01 _).1 | exact (e_fit_01 _).2 | (with_reducible refine vp_in_iff.mpr ?_; decide +kernel) | (with_reducible refine e_nz _ (by decide)) | decide | skip
  all_goals first | exact vp_in_nI (by have := hq.1; omega) (by omega) | skip
  all_goals (obtain ⟨hw, ho⟩ := hq.2.1 i hi; obtain ⟨n, hn, e1, e2, e3⟩ := agK_n hw; have ho2 := hw.2; have hv : mI M (a + 1) (nI i).toNatClampNeg = nI (n * 256 + (agG A i).2.1 * 32 + (agG A i).2.2) := by (rw [nI_clamp (by have := hq.1; omega), h.2 i hi, e3]))
  show Sum.inl (some (Sum.inl (mI M (a + 1) (nI i).toNatClampNeg - mI M (a + 1) (nI i).toNatClampNeg / 32 * 32))) = _
  rw [hv, show (32 : Int32) = nI 32 from rfl, pk_rem (by omega) (by omega) (by omega), show (n * 256 + (agG A i).2.1 * 32 + (agG A i).2.2) % 32 = (agG A i).2.2 by omega]
set_option maxRecDepth 20000 in
theorem c_endOf (hl0 : l.stackTraces = false) {a i : Nat} {A : List AG} (M : EM) (h : aG M a A) (hq : agQ A) (hi : i < A.length) {ln : Nat → Int32} (hl : aGL M a ln) : Ct l g sg_X0_endOf [.inr (.inr (.inr (.inr (23, a)))), .inl (nI i)] M (fun o M' => M' = M ∧ o = .inl (some (.inl ((agG A i).1 + ln (agG A i).2.1)))) := by
  refine sem_of hl0 mt_X0_endOf ok_X0_endOf rfl (fun K hc hw => e_step rfl hc 80 [] ?_)
  clear hc hw
  repeat' (first | (with_reducible (intro h9; exact absurd rfl h9)) | (with_reducible (intro h9; exact absurd h9 e_10)) | (with_reducible (intro h9; first | exact absurd e_00 h9 | exact absurd h9 e_n10 | exact absurd h9 e_n20 | exact absurd h9 e_n30)) | (with_reducible intro _) | (refine And.intro ?_ ?_) | (with_reducible refine e_sw_nil ?_) | (refine e_ctK ?_; first | (refine Ct.mono (c_gmomentOf hl0 M h hq hi) ?_; intro o M' h8; obtain ⟨h9, rfl⟩ := h8; replace h9 := h9.symm; subst h9) | (refine Ct.mono (c_geventOf hl0 M h hq hi) ?_; intro o M' h8; obtain ⟨h9, rfl⟩ := h8; replace h9 := h9.symm; subst h9) | fail) | fail)
  all_goals first | (with_reducible refine e_goK ?_) | (with_reducible refine e_ctK ?_) | (with_reducible refine vp_inK ?_; (try simp (disch := omega) only [mI_sI2, mI_sL, mI_sP, mI_sN, mI_sIr, mI_sLr, mL_sI, mL_sL2, mL_sP, mL_sN, mL_sIr, mL_sLr, mP_sI, mP_sL, mP_sN, mP_sIr, mP_sLr, nI_add, nI_clamp]); exact vp_in_nI (by omega) (by omega)) | rfl | exact trivial | exact Nat.zero_le _ | exact (e_fit_01 _).1 | exact (e_fit_01 _).2 | (with_reducible refine vp_in_iff.mpr ?_; decide +kernel) | (with_reducible refine e_nz _ (by decide)) | decide | skip
  all_goals (have ho2 := (hq.2.1 i hi).1.2.1)
  all_goals first | exact vp_in_nI (by omega) (by omega) | skip
  show Sum.inl (some (Sum.inl ((agG A i).1 + mI M (a + 2) (nI (agG A i).2.1).toNatClampNeg))) = _
  rw [nI_clamp (by omega), hl _ ho2]
end
