/-! CONTRACTS: places. -/
section
variable {l : Launch} {g : EG}
theorem Ct.c1 {σ : SG} {M : EM} {Q : EO → EM → Prop} {t a a' : Nat} {r : List EV} (h : a = a') (H : Ct l g σ (.inr (.inr (.inr (.inr (t, a)))) :: r) M Q) : Ct l g σ (.inr (.inr (.inr (.inr (t, a')))) :: r) M Q := h ▸ H
theorem Ct.c2 {σ : SG} {M : EM} {Q : EO → EM → Prop} {t a a' u b b' : Nat} {r : List EV} (h : a = a') (h2 : b = b') (H : Ct l g σ (.inr (.inr (.inr (.inr (t, a)))) :: .inr (.inr (.inr (.inr (u, b)))) :: r) M Q) : Ct l g σ (.inr (.inr (.inr (.inr (t, a')))) :: .inr (.inr (.inr (.inr (u, b')))) :: r) M Q := h ▸ h2 ▸ H
theorem e_a8 (p : Nat) {e : Nat} (he : e < 2 ^ 31) : p + 6 + 5 * e = p + 5 + (1 + 5 * (nI e).toNatClampNeg) := by rw [nI_clamp he]; omega
theorem e_a6 (p : Nat) {z : Nat} (he : z < 2 ^ 31) : p + 2 + z = p + 1 + (1 + (nI z).toNatClampNeg) := by rw [nI_clamp he]; omega
theorem e_a15 (p : Nat) {z : Nat} (he : z < 2 ^ 31) : p + 48 + 48 * z = p + 47 + (1 + 48 * (nI z).toNatClampNeg) := by rw [nI_clamp he]; omega
theorem e_a20 (p : Nat) {z : Nat} (he : z < 2 ^ 31) : p + 2 + 145 * z = p + 1 + (1 + 145 * (nI z).toNatClampNeg) := by rw [nI_clamp he]; omega
theorem e_a21 (p : Nat) {z : Nat} (he : z < 2 ^ 31) : p + 1938 + 145 * z = p + 1937 + (1 + 145 * (nI z).toNatClampNeg) := by rw [nI_clamp he]; omega
theorem e_a8' (p : Nat) {e : Nat} (he : e < 2 ^ 31) (M : EM) (k : Nat) : mI M (p + 5 + (1 + 5 * (nI e).toNatClampNeg)) k = mI M (p + 6 + 5 * e) k := by rw [← e_a8 p he]
/-- each event's flag is 0 or 1 -/
def bP (M : EM) (p : Nat) : Prop := ∀ e, e < 8 → mI M (p + 6 + 5 * e) 0 = 0 ∨ mI M (p + 6 + 5 * e) 0 = 1
def bX (M : EM) (x : Nat) : Prop := bP M (x + 1) ∧ ∀ s, s < 2 → bP M (x + 48 + 48 * s + 1)
theorem bP.q {M M' : EM} {p q : Nat} (h : bP M p) (hq : qP M' q M p) : bP M' q := fun e he => by rw [(hq.2.2 e he).1 0 (by omega)]; exact h e he
theorem bX.q {M M' : EM} {x y : Nat} (h : bX M x) (hq : qX M' y M x) : bX M' y := ⟨h.1.q hq.2.1, fun s hs => (h.2 s hs).q (hq.2.2.1 s hs).2.1⟩
set_option maxRecDepth 20000 in
theorem c_becomeZones (hl0 : l.stackTraces = false) {p q : Nat} (M : EM) (hpq : p + 46 ≤ q ∨ q + 46 ≤ p) : Ct l g sg_X5_becomeZones [.inr (.inr (.inr (.inr (5, p)))), .inr (.inr (.inr (.inr (5, q))))] M (fun o M' => BX (e_fr M M' p (p + 5) ∧ mI M' p 0 = mI M q 0 ∧ ∀ z, z < 3 → qZ M' (p + 2 + z) M (q + 2 + z)) ∧ o = .inl none) := by
  refine sem_of hl0 mt_X5_becomeZones ok_X5_becomeZones rfl (fun K hc hw => ?_)
  have loop : ∀ (zn : Nat) (k : Nat) (M1 : EM), k + zn = 3 → e_fr M M1 p (p + 5) → mI M1 p 0 = mI M q 0 → (∀ z, z < k → qZ M1 (p + 2 + z) M (q + 2 + z)) → K 10 [some (.inr (.inr (.inr (.inr (5, p))))), some (.inr (.inr (.inr (.inr (5, q))))), some (.inl (nI k))] [] M1 0 0 := by
    intro zn
    induction zn with
    | zero =>
      intro k M1 hk h1 h2 h3
      obtain rfl : k = 3 := by omega
      refine e_step rfl hc 60 [10] ?_
      repeat' (first | (with_reducible (intro h9; exact absurd rfl h9)) | (with_reducible (intro h9; exact absurd h9 e_10)) | (with_reducible intro _) | (refine And.intro ?_ ?_) | (refine e_fa (fun _ => ?_)))
      all_goals first | rfl | exact trivial | exact Nat.zero_le _ | exact (e_fit_01 _).1 | exact (e_fit_01 _).2 | exact vp_in_iff.mpr (by decide +kernel) | (with_reducible refine e_nz _ (by decide)) | decide | skip
      · exact ⟨⟨h1, h2, h3⟩⟩
      all_goals (exfalso; rename_i g1; exact g1 (by decide))
    | succ zn ih =>
      intro k M1 hk h1 h2 h3
      refine e_step rfl hc 60 [10] ?_
      repeat' (first | (with_reducible (intro h9; exact absurd rfl h9)) | (with_reducible (intro h9; exact absurd h9 e_10)) | (with_reducible intro _) | (refine And.intro ?_ ?_) | (refine e_fa (fun _ => ?_)))
      all_goals first | rfl | exact trivial | exact Nat.zero_le _ | exact (e_fit_01 _).1 | exact (e_fit_01 _).2 | exact vp_in_iff.mpr (by decide +kernel) | (with_reducible refine e_nz _ (by decide)) | decide | skip
      · rename_i g1; exact absurd g1 (nI_ge (b := 3) (by omega) (by omega))
      · exact vp_in_nI (by omega) (by omega)
      · exact vp_in_nI (by omega) (by omega)
      · refine Ct.mono (Ct.c2 (e_a6 p (by omega)) (e_a6 q (by omega)) (c_zbecome hl0 (p + 2 + k) (q + 2 + k) M1)) ?_
        rintro o M2 ⟨⟨h4, h5⟩, rfl⟩
        repeat' (first | (with_reducible (intro h9; exact absurd rfl h9)) | (with_reducible (intro h9; exact absurd h9 e_10)) | (with_reducible intro _) | (refine And.intro ?_ ?_) | (refine e_fa (fun _ => ?_)))
        show K 10 [some (.inr (.inr (.inr (.inr (5, p))))), some (.inr (.inr (.inr (.inr (5, q))))), some (.inl (nI k + 1))] [] M2 0 0
        rw [nI_1]
        refine ih (k + 1) M2 (by omega) (h1.tr (h4.wd (by omega) (by omega))) (by rw [h4.i (by omega)]; exact h2) (fun z hz => ?_)
        by_cases hzk : z = k
        · subst hzk
          exact h5.tr (h1.qZ (by omega))
        · exact (h4.qZ (by omega)).tr (h3 z (by omega))
  
  refine e_step rfl hc 60 [10] ?_
  repeat' (first | (with_reducible (intro h9; exact absurd rfl h9)) | (with_reducible (intro h9; exact absurd h9 e_10)) | (with_reducible intro _) | (refine And.intro ?_ ?_) | (refine e_fa (fun _ => ?_)))
  all_goals first | rfl | exact trivial | exact Nat.zero_le _ | exact (e_fit_01 _).1 | exact (e_fit_01 _).2 | exact vp_in_iff.mpr (by decide +kernel) | (with_reducible refine e_nz _ (by decide)) | decide | skip
  refine loop 3 0 _ (by omega) ⟨rfl, fun c j hc => ⟨?_, rfl⟩⟩ ?_ (fun z hz => absurd hz (by omega))
  · show mI (sI M p 0 (mI M q 0)) c j = _
    (try simp (disch := omega) only [mI_sI2, mI_sL, mI_sP, mI_sN, mI_sIr, mI_sLr, mL_sI, mL_sL2, mL_sP, mL_sN, mL_sIr, mL_sLr, mP_sI, mP_sL, mP_sN, mP_sIr, mP_sLr, mP_sP, if_pos, if_neg, and_self, if_true, and_true, true_and])
  · show mI (sI M p 0 (mI M q 0)) p 0 = _
    (try simp (disch := omega) only [mI_sI2, mI_sL, mI_sP, mI_sN, mI_sIr, mI_sLr, mL_sI, mL_sL2, mL_sP, mL_sN, mL_sIr, mL_sLr, mP_sI, mP_sL, mP_sN, mP_sIr, mP_sLr, mP_sP, if_pos, if_neg, and_self, if_true, and_true, true_and])
set_option maxRecDepth 20000 in
theorem c_pbecome (hl0 : l.stackTraces = false) {p q : Nat} (M : EM) (hb : bP M q) (hpq : p + 46 ≤ q ∨ q + 46 ≤ p) : Ct l g sg_X5_become [.inr (.inr (.inr (.inr (5, p)))), .inr (.inr (.inr (.inr (5, q))))] M (fun o M' => BX (e_fr M M' p (p + 46) ∧ qP M' p M q) ∧ o = .inl none) := by
  refine sem_of hl0 mt_X5_become ok_X5_become rfl (fun K hc hw => ?_)
  have loop : ∀ (zn : Nat) (k : Nat) (M1 : EM), k + zn = 8 → e_fr M M1 p (p + 46) → mI M1 p 0 = mI M q 0 → (∀ z, z < 3 → qZ M1 (p + 2 + z) M (q + 2 + z)) → (∀ z, z < k → qE M1 (p + 6 + 5 * z) M (q + 6 + 5 * z)) → K 7 [some (.inr (.inr (.inr (.inr (5, p))))), some (.inr (.inr (.inr (.inr (5, q))))), some (.inl (nI k))] [] M1 0 0 := by
    intro zn
    induction zn with
    | zero =>
      intro k M1 hk h1 h2 h3 h4
      obtain rfl : k = 8 := by omega
      refine e_step rfl hc 60 [7] ?_
      repeat' (first | (with_reducible (intro h9; exact absurd rfl h9)) | (with_reducible (intro h9; exact absurd h9 e_10)) | (with_reducible intro _) | (refine And.intro ?_ ?_) | (refine e_fa (fun _ => ?_)))
      all_goals first | rfl | exact trivial | exact Nat.zero_le _ | exact (e_fit_01 _).1 | exact (e_fit_01 _).2 | exact vp_in_iff.mpr (by decide +kernel) | (with_reducible refine e_nz _ (by decide)) | decide | skip
      · exact ⟨⟨h1, h2, h3, h4⟩⟩
      all_goals (exfalso; rename_i g1; exact g1 (by decide))
    | succ zn ih =>
      intro k M1 hk h1 h2 h3 h4
      refine e_step rfl hc 60 [7] ?_
      repeat' (first | (with_reducible (intro h9; exact absurd rfl h9)) | (with_reducible (intro h9; exact absurd h9 e_10)) | (with_reducible intro _) | (refine And.intro ?_ ?_) | (refine e_fa (fun _ => ?_)))
      all_goals first | rfl | exact trivial | exact Nat.zero_le _ | exact (e_fit_01 _).1 | exact (e_fit_01 _).2 | exact vp_in_iff.mpr (by decide +kernel) | (with_reducible refine e_nz _ (by decide)) | decide | skip
      · rename_i g1; exact absurd g1 (nI_ge (b := 8) (by omega) (by omega))
      · exact vp_in_nI (by omega) (by omega)
      · exact vp_in_nI (by omega) (by omega)
      · refine Ct.mono (Ct.c2 (e_a8 p (by omega)) (e_a8 q (by omega)) (c_ebecome hl0 (a := p + 6 + 5 * k) (b := q + 6 + 5 * k) M1 (by rw [h1.i (by omega)]; exact hb k (by omega)) (by omega))) ?_
        rintro o M2 ⟨h5, rfl⟩
        obtain ⟨h5, h6⟩ := h5.out
        repeat' (first | (with_reducible (intro h9; exact absurd rfl h9)) | (with_reducible (intro h9; exact absurd h9 e_10)) | (with_reducible intro _) | (refine And.intro ?_ ?_) | (refine e_fa (fun _ => ?_)))
        show K 7 [some (.inr (.inr (.inr (.inr (5, p))))), some (.inr (.inr (.inr (.inr (5, q))))), some (.inl (nI k + 1))] [] M2 0 0
        rw [nI_1]
        refine ih (k + 1) M2 (by omega) (h1.tr (h5.wd (by omega) (by omega))) (by rw [h5.i (by omega)]; exact h2) (fun z hz => (h5.qZ (by omega)).tr (h3 z hz)) (fun z hz => ?_)
        by_cases hzk : z = k
        · subst hzk
          exact h6.tr (h1.qE (by omega))
        · exact (h5.qE (by omega)).tr (h4 z (by omega))
  
  refine e_step rfl hc 60 [7] ?_
  repeat' (first | (with_reducible (intro h9; exact absurd rfl h9)) | (with_reducible (intro h9; exact absurd h9 e_10)) | (with_reducible intro _) | (refine And.intro ?_ ?_) | (refine e_fa (fun _ => ?_)))
  refine Ct.mono (c_becomeZones hl0 M hpq) ?_
  rintro o M1 ⟨h1, rfl⟩
  obtain ⟨h1, h2, h3⟩ := h1.out
  repeat' (first | (with_reducible (intro h9; exact absurd rfl h9)) | (with_reducible (intro h9; exact absurd h9 e_10)) | (with_reducible intro _) | (refine And.intro ?_ ?_) | (refine e_fa (fun _ => ?_)))
  exact loop 8 0 _ (by omega) (h1.wd (by omega) (by omega)) h2 h3 (fun z hz => absurd hz (by omega))
set_option maxRecDepth 20000 in
theorem c_hasZone (hl0 : l.stackTraces = false) (p : Nat) (n : Int32) (M : EM) : Ct l g sg_X5_hasZone [.inr (.inr (.inr (.inr (5, p)))), .inl n] M (fun o M' => M' = M ∧ o = .inl (some (.inl (e_01 (0 ≤ n ∧ n ≤ mI M p 0 - 1))))) := by
  refine sem_of hl0 mt_X5_hasZone ok_X5_hasZone rfl (fun K hc hw => e_step rfl hc 80 [] ?_)
  repeat' (first | (with_reducible (intro h9; exact absurd rfl h9)) | (with_reducible (intro h9; exact absurd h9 e_10)) | (with_reducible intro _) | (refine And.intro ?_ ?_) | (refine e_fa (fun _ => ?_)))
  refine Ct.mono (c_isWithin hl0 _ _ _ _) ?_
  rintro o M' ⟨rfl, rfl⟩
  repeat' (first | (with_reducible (intro h9; exact absurd rfl h9)) | (with_reducible (intro h9; exact absurd h9 e_10)) | (with_reducible intro _) | (refine And.intro ?_ ?_) | (refine e_fa (fun _ => ?_)))
  all_goals first | rfl | exact trivial | exact Nat.zero_le _ | exact (e_fit_01 _).1 | exact (e_fit_01 _).2 | exact vp_in_iff.mpr (by decide +kernel) | (with_reducible refine e_nz _ (by decide)) | decide | skip
end
