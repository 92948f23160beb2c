/-! CONTRACTS: the dates of an event. -/
section
variable {l : Launch} {g : EG}
/-- dates out of candidates, one after the other -/
def e_fold (t : Int32) (f : Nat → Int32) : Nat → List Nat
  | 0 => []
  | k + 1 => e_addx t (e_fold t f k) (f k)
theorem e_fold_s (t : Int32) (f : Nat → Int32) (k : Nat) : e_fold t f (k + 1) = e_addx t (e_fold t f k) (f k) := rfl
def e_wk1 (d n w k : Int32) : Int32 := if (k / 7 - d / 7) - (k / 7 - d / 7) / n * n = 0 ∧ ¬ (w >>> ((k - k / 7 * 7) &&& 31)) &&& 1 = 0 then k else -1
def e_mo1 (d n k : Nat) : Int32 := if d / 365 * 12 + e_mon (d % 365) + k * n < 36 ∧ d % 365 - e_mst (e_mon (d % 365)) + 1 ≤ e_mlen (d / 365 * 12 + e_mon (d % 365) + k * n) then nI ((d / 365 * 12 + e_mon (d % 365) + k * n) / 12 * 365 + e_mst ((d / 365 * 12 + e_mon (d % 365) + k * n) % 12) + (d % 365 - e_mst (e_mon (d % 365)) + 1) - 1) else -1
theorem e_sd.f {M M' : EM} {a : Nat} (h : e_sd M M' a) {j : Nat} (hj : ¬ j = 10) : mI M' a j = mI M a j := h.2.2 a j (by omega) (by omega)
set_option maxRecDepth 20000 in
theorem c_listDays (hl0 : l.stackTraces = false) {a d n t : Nat} (M : EM) (hd : d < 1095) (hn : n ≤ 9) (ht : t ≤ 30) (v1 : mI M a 1 = nI d) (v6 : mI M a 6 = nI n) (v8 : mI M a 8 = nI t) (h0 : eDt M a []) : Ct l g sg_X2_listDays [.inr (.inr (.inr (.inr (9, a))))] M (fun o M' => BX (e_sd M M' a ∧ eDt M' a (e_fold (nI t) (fun k => nI d + nI k * nI n) t)) ∧ o = .inl none) := by
  refine sem_of hl0 mt_X2_listDays ok_X2_listDays rfl (fun K hc hw => ?_)
  have loop : ∀ (j k : Nat) (M1 : EM), k + j = t → e_sd M M1 a → eDt M1 a (e_fold (nI t) (fun k => nI d + nI k * nI n) k) → K 2 [some (.inr (.inr (.inr (.inr (9, a))))), some (.inl (nI k))] [] M1 0 0 := by
    intro j
    induction j with
    | zero =>
      intro k M1 hk hs hD
      have r8 := (hs.f (j := 8) (by omega)).trans v8
      obtain rfl : k = t := by omega
      refine e_step rfl hc 60 [2] ?_
      repeat' (first | (with_reducible (intro h9; exact absurd rfl h9)) | (with_reducible (intro h9; exact absurd h9 e_10)) | (with_reducible intro _) | (refine And.intro ?_ ?_) | (refine e_fa (fun _ => ?_)))
      all_goals first | rfl | exact trivial | exact Nat.zero_le _ | exact (e_fit_01 _).1 | exact (e_fit_01 _).2 | exact vp_in_iff.mpr (by decide +kernel) | (with_reducible refine e_nz _ (by decide)) | skip
      · exact ⟨⟨hs, hD⟩⟩
      · rename_i g1; exact absurd (by rw [r8]; exact nI_le (Nat.le_refl _) (by omega)) g1
    | succ j ih =>
      intro k M1 hk hs hD
      have r1 := (hs.f (j := 1) (by omega)).trans v1
      have r6 := (hs.f (j := 6) (by omega)).trans v6
      have r8 := (hs.f (j := 8) (by omega)).trans v8
      refine e_step rfl hc 60 [2] ?_
      repeat' (first | (with_reducible (intro h9; exact absurd rfl h9)) | (with_reducible (intro h9; exact absurd h9 e_10)) | (with_reducible intro _) | (refine And.intro ?_ ?_) | (refine e_fa (fun _ => ?_)))
      all_goals first | rfl | exact trivial | exact Nat.zero_le _ | exact (e_fit_01 _).1 | exact (e_fit_01 _).2 | exact vp_in_iff.mpr (by decide +kernel) | (with_reducible refine e_nz _ (by decide)) | skip
      · rename_i g1; rw [r8, nI_leI (by omega) (by omega)] at g1; omega
      · refine Ct.mono (c_addDate hl0 _ _ hD) ?_
        rintro o M2 ⟨⟨h1, h2⟩, rfl⟩
        rw [r1, r6, r8] at h2
        repeat' (first | (with_reducible (intro h9; exact absurd rfl h9)) | (with_reducible (intro h9; exact absurd h9 e_10)) | (with_reducible intro _) | (refine And.intro ?_ ?_) | (refine e_fa (fun _ => ?_)))
        rename_i g1
        show K 2 [some (.inr (.inr (.inr (.inr (9, a))))), some (.inl (nI k + 1))] [] M2 0 0
        rw [nI_1]
        exact ih (k + 1) M2 (by omega) (hs.tr h1) h2
  refine e_step rfl hc 60 [2] ?_
  exact loop t 0 M (by omega) e_sd.rf h0
theorem e_wk.w {K : Nat → EK} (h : e_wk K) {t : Nat} {ls ls' : List (Option EV)} {st : List EV} {M : EM} {nc ns : Nat} (hk : K t ls' st M nc ns) (hs : e_sub ls' ls) : K t ls st M nc ns := h _ _ _ _ _ _ _ hs hk
theorem e_fold_z {t : Int32} {f : Nat → Int32} {k : Nat} (h : f k = -1) : e_fold t f (k + 1) = e_fold t f k := by
  rw [e_fold_s, h]; unfold e_addx; rw [if_neg]; rintro ⟨_, _, h3, _⟩; exact absurd h3 (by decide)
set_option maxRecDepth 20000 in
theorem c_listWeeks (hl0 : l.stackTraces = false) {a d n t : Nat} (M : EM) (hd : d < 1095) (hn : n ≤ 9) (ht : t ≤ 30) (v1 : mI M a 1 = nI d) (hn0 : 1 ≤ n) (v6 : mI M a 6 = nI n) (v8 : mI M a 8 = nI t) (h0 : eDt M a []) : Ct l g sg_X2_listWeeks [.inr (.inr (.inr (.inr (9, a))))] M (fun o M' => BX (e_sd M M' a ∧ eDt M' a (e_fold (nI t) (fun k => e_wk1 (nI d) (nI n) (mI M a 7) (nI (d + k))) (1095 - d))) ∧ o = .inl none) := by
  refine sem_of hl0 mt_X2_listWeeks ok_X2_listWeeks rfl (fun K hc hw => ?_)
  have loop : ∀ (j k : Nat) (M1 : EM), d + k + j = 1095 → e_sd M M1 a → eDt M1 a (e_fold (nI t) (fun k => e_wk1 (nI d) (nI n) (mI M a 7) (nI (d + k))) k) → K 13 [some (.inr (.inr (.inr (.inr (9, a))))), some (.inl (nI d / 7)), some (.inl (nI (d + k))), none] [] M1 0 0 := by
    intro j
    induction j with
    | zero =>
      intro k M1 hk hs hD
      refine e_step rfl hc 60 [13] ?_
      repeat' (first | (with_reducible (intro h9; exact absurd rfl h9)) | (with_reducible (intro h9; exact absurd h9 e_10)) | (with_reducible intro _) | (refine And.intro ?_ ?_) | (refine e_fa (fun _ => ?_)))
      all_goals first | rfl | exact trivial | exact Nat.zero_le _ | exact (e_fit_01 _).1 | exact (e_fit_01 _).2 | exact vp_in_iff.mpr (by decide +kernel) | (with_reducible refine e_nz _ (by decide)) | skip
      · rw [show 1095 - d = k by omega]; exact ⟨⟨hs, hD⟩⟩
      all_goals (exfalso; rename_i g1 g2; have := nI_lt (show 1094 < d + k by omega) (by omega); first | exact g1 this | exact g2 this | (rename_i g0; first | exact g0 this | (rename_i g00; first | exact g00 this | (rename_i g000; exact g000 this))))
    | succ j ih =>
      intro k M1 hk hs hD
      have r1 := (hs.f (j := 1) (by omega)).trans v1
      have r6 := (hs.f (j := 6) (by omega)).trans v6
      have r7 := (hs.f (j := 7) (by omega))
      have r8 := (hs.f (j := 8) (by omega)).trans v8
      have nx : ∀ (M2 : EM) (o3 : Option EV), e_sd M M2 a → eDt M2 a (e_fold (nI t) (fun k => e_wk1 (nI d) (nI n) (mI M a 7) (nI (d + k))) (k + 1)) → K 13 [some (.inr (.inr (.inr (.inr (9, a))))), some (.inl (nI d / 7)), some (.inl (nI (d + k) + 1)), o3] [] M2 0 0 := fun M2 o3 g1 g2 => by
        rw [nI_1]
        exact hw.w (ih (k + 1) M2 (by omega) g1 g2) ⟨rfl, rfl, rfl, by cases o3 <;> trivial⟩
      refine e_step rfl hc 60 [13] ?_
      repeat' (first | (with_reducible (intro h9; exact absurd rfl h9)) | (with_reducible (intro h9; exact absurd h9 e_10)) | (with_reducible intro _) | (refine And.intro ?_ ?_) | (refine e_fa (fun _ => ?_)))
      all_goals first | rfl | exact trivial | exact Nat.zero_le _ | exact (e_fit_01 _).1 | exact (e_fit_01 _).2 | exact vp_in_iff.mpr (by decide +kernel) | (with_reducible refine e_nz _ (by decide)) | skip
      · rename_i b1; exact absurd b1 (nI_nlt (a := 1094) (by omega) (by omega))
      · rename_i b1 b2; exact absurd b2 (by show ¬ mI M1 a 6 ≤ 0; rw [r6]; exact nI_nle (by omega) (by omega))
      · show ¬ mI M1 a 6 = 0
        rw [r6]; exact nI_ne0 (by omega) (by omega)
      · rename_i b1 b2 b3 b9
        have b4 : ¬ (nI (d + k) / 7 - nI d / 7) - (nI (d + k) / 7 - nI d / 7) / nI n * nI n = 0 := by rw [← r6]; exact b3
        exact nx M1 _ hs (by rw [e_fold_z (by unfold e_wk1; rw [if_neg (fun h => b4 h.1)])]; exact hD)
      · rename_i b1 b2 b3 b9
        have b4 : (nI (d + k) / 7 - nI d / 7) - (nI (d + k) / 7 - nI d / 7) / nI n * nI n = 0 := by rw [← r6]; exact b3
        refine Ct.mono (c_weekdayOf hl0 (d := d + k) (by omega) _) ?_
        rintro o M2 ⟨rfl, rfl⟩
        repeat' (first | (with_reducible (intro h9; exact absurd rfl h9)) | (with_reducible (intro h9; exact absurd h9 e_10)) | (with_reducible intro _) | (refine And.intro ?_ ?_) | (refine e_fa (fun _ => ?_)))
        refine Ct.mono (c_hasBit hl0 _ _ _) ?_
        rintro o M2 ⟨rfl, rfl⟩
        repeat' (first | (with_reducible (intro h9; exact absurd rfl h9)) | (with_reducible (intro h9; exact absurd h9 e_10)) | (with_reducible intro _) | (refine And.intro ?_ ?_) | (refine e_fa (fun _ => ?_)))
        · rename_i b5
          rw [e_01_n, Classical.not_not] at b5
          have b6 : mI M a 7 >>> ((nI (d + k) - nI (d + k) / 7 * 7) &&& 31) &&& 1 = 0 := by
            rw [← r7, show (7 : Int32) = nI 7 from rfl, pk_rem (by omega) (by omega) (by omega)]; exact b5
          exact nx _ _ hs (by rw [e_fold_z (by unfold e_wk1; rw [if_neg (fun h => h.2 b6)])]; exact hD)
        · rename_i b5
          rw [e_01_n, Classical.not_not] at b5
          have b6 : ¬ mI M a 7 >>> ((nI (d + k) - nI (d + k) / 7 * 7) &&& 31) &&& 1 = 0 := by
            rw [← r7, show (7 : Int32) = nI 7 from rfl, pk_rem (by omega) (by omega) (by omega)]; exact b5
          refine Ct.mono (c_addDate hl0 _ _ hD) ?_
          rintro o M3 ⟨⟨h1, h2⟩, rfl⟩
          rw [r8] at h2
          repeat' (first | (with_reducible (intro h9; exact absurd rfl h9)) | (with_reducible (intro h9; exact absurd h9 e_10)) | (with_reducible intro _) | (refine And.intro ?_ ?_) | (refine e_fa (fun _ => ?_)))
          refine nx _ _ (hs.tr h1) ?_
          rw [e_fold_s, show e_wk1 (nI d) (nI n) (mI M a 7) (nI (d + k)) = nI (d + k) from if_pos ⟨b4, b6⟩]
          exact h2
  refine e_step rfl hc 60 [13] ?_
  repeat' (first | (with_reducible (intro h9; exact absurd rfl h9)) | (with_reducible (intro h9; exact absurd h9 e_10)) | (with_reducible intro _) | (refine And.intro ?_ ?_) | (refine e_fa (fun _ => ?_)))
  all_goals first | rfl | exact trivial | exact Nat.zero_le _ | exact (e_fit_01 _).1 | exact (e_fit_01 _).2 | exact vp_in_iff.mpr (by decide +kernel) | (with_reducible refine e_nz _ (by decide)) | skip
  refine hw.w (loop (1095 - d) 0 M (by omega) e_sd.rf h0) ⟨rfl, ?_, ?_, trivial⟩
  · rw [← v1]
  · exact congrArg Sum.inl v1.symm
set_option maxRecDepth 20000 in
theorem c_listMonths (hl0 : l.stackTraces = false) {a d n t : Nat} (M : EM) (hd : d < 1095) (hn : n ≤ 9) (ht : t ≤ 30) (v1 : mI M a 1 = nI d) (v6 : mI M a 6 = nI n) (v8 : mI M a 8 = nI t) (h0 : eDt M a []) : Ct l g sg_X2_listMonths [.inr (.inr (.inr (.inr (9, a))))] M (fun o M' => BX (e_sd M M' a ∧ eDt M' a (e_fold (nI t) (fun k => e_mo1 d n k) 36)) ∧ o = .inl none) := by
  refine sem_of hl0 mt_X2_listMonths ok_X2_listMonths rfl (fun K hc hw => ?_)
  have hd2 : d % 365 < 365 := Nat.mod_lt _ (by decide)
  obtain ⟨⟨e1, e2, e3⟩, e4⟩ := e_mon_all _ hd2
  have loop : ∀ (j k : Nat) (M1 : EM), k + j = 36 → e_sd M M1 a → eDt M1 a (e_fold (nI t) (fun k => e_mo1 d n k) k) → K 29 [some (.inr (.inr (.inr (.inr (9, a))))), some (.inl (nI (d / 365 * 12 + e_mon (d % 365)))), some (.inl (nI (d % 365 - e_mst (e_mon (d % 365)) + 1))), some (.inl (nI k))] [] M1 0 0 := by
    intro j
    induction j with
    | zero =>
      intro k M1 hk hs hD
      refine e_step rfl hc 60 [29] ?_
      repeat' (first | (with_reducible (intro h9; exact absurd rfl h9)) | (with_reducible (intro h9; exact absurd h9 e_10)) | (with_reducible intro _) | (refine And.intro ?_ ?_) | (refine e_fa (fun _ => ?_)))
      all_goals first | rfl | exact trivial | exact Nat.zero_le _ | exact (e_fit_01 _).1 | exact (e_fit_01 _).2 | exact vp_in_iff.mpr (by decide +kernel) | (with_reducible refine e_nz _ (by decide)) | skip
      · obtain rfl : k = 36 := by omega
        exact ⟨⟨hs, hD⟩⟩
      all_goals (exfalso; rename_i g1; exact g1 (nI_le (show 36 ≤ k by omega) (by omega)))
    | succ j ih =>
      intro k M1 hk hs hD
      have r6 := (hs.f (j := 6) (by omega)).trans v6
      have r8 := (hs.f (j := 8) (by omega)).trans v8
      refine e_step rfl hc 60 [29] ?_
      repeat' (first | (with_reducible (intro h9; exact absurd rfl h9)) | (with_reducible (intro h9; exact absurd h9 e_10)) | (with_reducible intro _) | (refine And.intro ?_ ?_) | (refine e_fa (fun _ => ?_)))
      all_goals first | rfl | exact trivial | exact Nat.zero_le _ | exact (e_fit_01 _).1 | exact (e_fit_01 _).2 | exact vp_in_iff.mpr (by decide +kernel) | (with_reducible refine e_nz _ (by decide)) | skip
      · rename_i b1; exact absurd b1 (nI_ge (b := 36) (by omega) (by omega))
      · have hkn : k * n ≤ 36 * 9 := Nat.mul_le_mul (by omega) hn
        have e6 : nI (d / 365 * 12 + e_mon (d % 365)) + nI k * mI M1 a 6 = nI (d / 365 * 12 + e_mon (d % 365) + k * n) := by rw [r6, pk_mul, nI_add]
        refine Ct.mono (by
          have := c_dayInMonth (l := l) (g := g) hl0 (k := d / 365 * 12 + e_mon (d % 365) + k * n) (D := d % 365 - e_mst (e_mon (d % 365)) + 1) (by omega) (by omega) (by omega) M1
          rw [← e6] at this
          exact this) ?_
        rintro o M2 ⟨rfl, rfl⟩
        repeat' (first | (with_reducible (intro h9; exact absurd rfl h9)) | (with_reducible (intro h9; exact absurd h9 e_10)) | (with_reducible intro _) | (refine And.intro ?_ ?_) | (refine e_fa (fun _ => ?_)))
        refine Ct.mono (c_addDate hl0 _ _ hD) ?_
        rintro o M3 ⟨⟨h1, h2⟩, rfl⟩
        rw [r8] at h2
        repeat' (first | (with_reducible (intro h9; exact absurd rfl h9)) | (with_reducible (intro h9; exact absurd h9 e_10)) | (with_reducible intro _) | (refine And.intro ?_ ?_) | (refine e_fa (fun _ => ?_)))
        show K 29 [some (.inr (.inr (.inr (.inr (9, a))))), some (.inl (nI (d / 365 * 12 + e_mon (d % 365)))), some (.inl (nI (d % 365 - e_mst (e_mon (d % 365)) + 1))), some (.inl (nI k + 1))] [] M3 0 0
        rw [nI_1]
        exact ih (k + 1) M3 (by omega) (hs.tr h1) h2
  refine e_step rfl hc 60 [29] ?_
  repeat' (first | (with_reducible (intro h9; exact absurd rfl h9)) | (with_reducible (intro h9; exact absurd h9 e_10)) | (with_reducible intro _) | (refine And.intro ?_ ?_) | (refine e_fa (fun _ => ?_)))
  refine Ct.mono (by have := c_yearOf (l := l) (g := g) hl0 hd M; rw [← v1] at this; exact this) ?_
  rintro o M2 ⟨rfl, rfl⟩
  repeat' (first | (with_reducible (intro h9; exact absurd rfl h9)) | (with_reducible (intro h9; exact absurd h9 e_10)) | (with_reducible intro _) | (refine And.intro ?_ ?_) | (refine e_fa (fun _ => ?_)))
  refine Ct.mono (by have := c_monthOf (l := l) (g := g) hl0 hd M2; rw [← v1] at this; exact this) ?_
  rintro o M2 ⟨rfl, rfl⟩
  repeat' (first | (with_reducible (intro h9; exact absurd rfl h9)) | (with_reducible (intro h9; exact absurd h9 e_10)) | (with_reducible intro _) | (refine And.intro ?_ ?_) | (refine e_fa (fun _ => ?_)))
  refine Ct.mono (by have := c_dayOfMonth (l := l) (g := g) hl0 hd M2; rw [← v1] at this; exact this) ?_
  rintro o M2 ⟨rfl, rfl⟩
  repeat' (first | (with_reducible (intro h9; exact absurd rfl h9)) | (with_reducible (intro h9; exact absurd h9 e_10)) | (with_reducible intro _) | (refine And.intro ?_ ?_) | (refine e_fa (fun _ => ?_)))
  show K 29 [some (.inr (.inr (.inr (.inr (9, a))))), some (.inl (nI (d / 365) * nI 12 + nI (e_mon (d % 365)))), some (.inl (nI (d % 365 - e_mst (e_mon (d % 365)) + 1))), some (.inl (nI 0))] [] M2 0 0
  rw [pk_mul, nI_add]
  exact loop 36 0 M2 (by omega) e_sd.rf h0
end
