/-! CONTRACTS: the dates of an event. -/
section
variable {l : Launch} {g : EG}
/-- dates out of candidates, one after the other -/
def e_fold (t : Int32) (f : Nat → Int32) : Nat → List Nat
  | 0 => []
  | k + 1 => e_addx t (e_fold t f k) (f k)
theorem e_fold_s (t : Int32) (f : Nat → Int32) (k : Nat) : e_fold t f (k + 1) = e_addx t (e_fold t f k) (f k) := rfl
def e_wk1 (d n w k : Int32) : Int32 := if (k / 7 - d / 7) - (k / 7 - d / 7) / n * n = 0 ∧ ¬ (w >>> ((k - k / 7 * 7) &&& 31)) &&& 1 = 0 then k else -1
def e_mo1 (d n k : Nat) : Int32 := if d / 365 * 12 + e_mon (d % 365) + k * n < 36 ∧ d % 365 - e_mst (e_mon (d % 365)) + 1 ≤ e_mlen (d / 365 * 12 + e_mon (d % 365) + k * n) then nI ((d / 365 * 12 + e_mon (d % 365) + k * n) / 12 * 365 + e_mst ((d / 365 * 12 + e_mon (d % 365) + k * n) % 12) + (d % 365 - e_mst (e_mon (d % 365)) + 1) - 1) else -1
theorem e_sd.f {M M' : EM} {a : Nat} (h : e_sd M M' a) {j : Nat} (hj : ¬ j = 10) : mI M' a j = mI M a j := h.2.2 a j (by omega) (by omega)
set_option maxRecDepth 20000 in
theorem c_listDays (hl0 : l.stackTraces = false) {a d n t : Nat} (M : EM) (hd : d < 1095) (hn : n ≤ 9) (ht : t ≤ 30) (v1 : mI M a 1 = nI d) (v6 : mI M a 6 = nI n) (v8 : mI M a 8 = nI t) (h0 : eDt M a []) : Ct l g sg_X2_listDays [.inr (.inr (.inr (.inr (9, a))))] M (fun o M' => BX (e_sd M M' a ∧ eDt M' a (e_fold (nI t) (fun k => nI d + nI k * nI n) t)) ∧ o = .inl none) := by
  refine sem_of hl0 mt_X2_listDays ok_X2_listDays rfl (fun K hc hw => ?_)
  have loop : ∀ (j k : Nat) (M1 : EM), k + j = t → e_sd M M1 a → eDt M1 a (e_fold (nI t) (fun k => nI d + nI k * nI n) k) → K 2 [some (.inr (.inr (.inr (.inr (9, a))))), some (.inl (nI k))] [] M1 0 0 := by
    intro j
    induction j with
    | zero =>
      intro k M1 hk hs hD
      have r8 := (hs.f (j := 8) (by omega)).trans v8
      obtain rfl : k = t := by omega
      refine e_step rfl hc 60 [2] ?_
      repeat' (first | (with_reducible intro _) | (refine And.intro ?_ ?_) | (refine e_fa (fun _ => ?_)))
      all_goals first | rfl | exact trivial | exact Nat.zero_le _ | exact (e_fit_01 _).1 | exact (e_fit_01 _).2 | exact vp_in_iff.mpr (by decide +kernel) | skip
      · exact ⟨⟨hs, hD⟩⟩
      · rename_i g1; exact absurd (by rw [r8]; exact nI_le (Nat.le_refl _) (by omega)) g1
    | succ j ih =>
      intro k M1 hk hs hD
      have r1 := (hs.f (j := 1) (by omega)).trans v1
      have r6 := (hs.f (j := 6) (by omega)).trans v6
      have r8 := (hs.f (j := 8) (by omega)).trans v8
      refine e_step rfl hc 60 [2] ?_
      repeat' (first | (with_reducible intro _) | (refine And.intro ?_ ?_) | (refine e_fa (fun _ => ?_)))
      all_goals first | rfl | exact trivial | exact Nat.zero_le _ | exact (e_fit_01 _).1 | exact (e_fit_01 _).2 | exact vp_in_iff.mpr (by decide +kernel) | skip
      · rename_i g1; rw [r8, nI_leI (by omega) (by omega)] at g1; omega
      · refine Ct.mono (c_addDate hl0 _ _ hD) ?_
        rintro o M2 ⟨⟨h1, h2⟩, rfl⟩
        rw [r1, r6, r8] at h2
        repeat' (first | (with_reducible intro _) | (refine And.intro ?_ ?_) | (refine e_fa (fun _ => ?_)))
        rename_i g1
        show K 2 [some (.inr (.inr (.inr (.inr (9, a))))), some (.inl (nI k + 1))] [] M2 0 0
        rw [nI_1]
        exact ih (k + 1) M2 (by omega) (hs.tr h1) h2
  refine e_step rfl hc 60 [2] ?_
  exact loop t 0 M (by omega) e_sd.rf h0
set_option maxRecDepth 20000 in
theorem c_listWeeks (hl0 : l.stackTraces = false) {a d n t : Nat} (M : EM) (hd : d < 1095) (hn : n ≤ 9) (ht : t ≤ 30) (v1 : mI M a 1 = nI d) (hn0 : 1 ≤ n) (v6 : mI M a 6 = nI n) (v8 : mI M a 8 = nI t) (h0 : eDt M a []) : Ct l g sg_X2_listWeeks [.inr (.inr (.inr (.inr (9, a))))] M (fun o M' => BX (e_sd M M' a ∧ eDt M' a (e_fold (nI t) (fun k => e_wk1 (nI d) (nI n) (mI M a 7) (nI (d + k))) (1095 - d))) ∧ o = .inl none) := by
  refine sem_of hl0 mt_X2_listWeeks ok_X2_listWeeks rfl (fun K hc hw => ?_)
  have loop : ∀ (j k : Nat) (M1 : EM), d + k + j = 1095 → e_sd M M1 a → eDt M1 a (e_fold (nI t) (fun k => e_wk1 (nI d) (nI n) (mI M a 7) (nI (d + k))) k) → K 13 [some (.inr (.inr (.inr (.inr (9, a))))), some (.inl (nI (d / 7))), some (.inl (nI (d + k))), none] [] M1 0 0 := by
    intro j
    induction j with
    | zero =>
      intro k M1 hk hs hD
      refine e_step rfl hc 60 [13] ?_
      repeat' (first | (with_reducible intro _) | (refine And.intro ?_ ?_) | (refine e_fa (fun _ => ?_)))
      all_goals first | rfl | exact trivial | exact Nat.zero_le _ | exact (e_fit_01 _).1 | exact (e_fit_01 _).2 | exact vp_in_iff.mpr (by decide +kernel) | skip
      · rw [show 1095 - d = k by omega]; exact ⟨⟨hs, hD⟩⟩
      · rename_i g1; exact absurd (nI_lt (show 1094 < d + k by omega) (by omega)) g1
    | succ j ih =>
      intro k M1 hk hs hD
      have r1 := (hs.f (j := 1) (by omega)).trans v1
      have r6 := (hs.f (j := 6) (by omega)).trans v6
      have r7 := (hs.f (j := 7) (by omega))
      have r8 := (hs.f (j := 8) (by omega)).trans v8
      refine e_step rfl hc 60 [13] ?_
      repeat' (first | (with_reducible intro _) | (refine And.intro ?_ ?_) | (refine e_fa (fun _ => ?_)))
      all_goals first | rfl | exact trivial | exact Nat.zero_le _ | exact (e_fit_01 _).1 | exact (e_fit_01 _).2 | exact vp_in_iff.mpr (by decide +kernel) | skip
      all_goals trace_state
      all_goals sorry
  refine e_step rfl hc 60 [13] ?_
  repeat' (first | (with_reducible intro _) | (refine And.intro ?_ ?_) | (refine e_fa (fun _ => ?_)))
  all_goals first | rfl | exact trivial | exact Nat.zero_le _ | exact (e_fit_01 _).1 | exact (e_fit_01 _).2 | exact vp_in_iff.mpr (by decide +kernel) | skip
  all_goals trace_state
  all_goals sorry
end
