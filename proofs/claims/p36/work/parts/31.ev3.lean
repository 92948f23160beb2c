/-! CONTRACTS: the rest of an event. -/
section
variable {l : Launch} {g : EG}
abbrev e_bit (b k : Int32) : Prop := ¬ (b >>> (k &&& 31)) &&& 1 = 0
/-- the shown dates' bits of an event's fields -/
def e_shb (f : Nat → Int32) : Int32 := if f 0 = 0 then 0 else ((1 <<< (f 10 &&& 31)) - 1) &&& (f 11 ^^^ (-1))
def e_giv (h : Int64) (k : Int32) : Int32 := (h >>> ((2 * k).toInt64 &&& 63)).toInt32 &&& 3
def e_give (h : Int64) (k x : Int32) : Int64 := (h &&& ((3 <<< ((2 * k).toInt64 &&& 63)) ^^^ (-1))) ||| (x.toInt64 <<< ((2 * k).toInt64 &&& 63))
def e_ans (g : Int32) (w : Int32) : Int32 := if g = 0 then w else g
theorem e_fit_01' {v : Int32} (h : v = 0 ∨ v = 1) : narrow FieldType.boolean (.int v) = .int v ∧ fits FieldType.boolean (.int v) = true := by
  rcases h with rfl | rfl <;> exact ⟨by decide, by decide⟩
set_option maxRecDepth 20000 in
theorem c_startAt (hl0 : l.stackTraces = false) {a d : Nat} (m w z : Int32) (M : EM) (hd : d < 1095) : Ct l g sg_X2_startAt [.inr (.inr (.inr (.inr (9, a)))), .inl (nI d), .inl m, .inl w, .inl z] M (fun o M' => BX (e_fr M M' a (a + 5) ∧ (mI M' a 0 = 1 ∧ mI M' a 1 = nI d ∧ mI M' a 2 = m ∧ mI M' a 3 = w ∧ mI M' a 4 = z ∧ mI M' a 5 = 0 ∧ mI M' a 6 = 0 ∧ mI M' a 7 = 0 ∧ mI M' a 8 = 1 ∧ mI M' a 9 = mI M a 9 ∧ mI M' a 11 = 0 ∧ mI M' a 12 = 0) ∧ (∀ s, s < 2 → mI M' (a + 3) s = 0) ∧ (∀ s, s < 2 → mL M' (a + 4) s = 0) ∧ eDt M' a [d]) ∧ o = .inl none) := by
  refine sem_of hl0 mt_X2_startAt ok_X2_startAt rfl (fun K hc hw => e_step rfl hc 80 [] ?_)
  repeat' (first | (with_reducible (intro h9; exact absurd rfl h9)) | (with_reducible (intro h9; exact absurd h9 e_10)) | (with_reducible intro _) | (refine And.intro ?_ ?_) | (refine e_fa (fun _ => ?_)))
  all_goals first | rfl | exact trivial | exact Nat.zero_le _ | exact (e_fit_01 _).1 | exact (e_fit_01 _).2 | exact vp_in_iff.mpr (by decide +kernel) | (with_reducible refine e_nz _ (by decide)) | decide | skip
  refine Ct.mono (c_setOnce hl0 (d := d) _ hd (by (try simp (disch := omega) only [mI_sI2, mI_sL, mI_sP, mI_sN, mI_sIr, mI_sLr, mL_sI, mL_sL2, mL_sP, mL_sN, mL_sIr, mL_sLr, mP_sI, mP_sL, mP_sN, mP_sIr, mP_sLr, mP_sP, if_pos, if_neg, and_self, if_true, and_true, true_and]))) ?_
  rintro o M2 ⟨h3, rfl⟩
  obtain ⟨h1, h2, h4, ⟨k1, k2, k3, k4, k5, k6⟩, h6, h7⟩ := h3.out
  repeat' (first | (with_reducible (intro h9; exact absurd rfl h9)) | (with_reducible (intro h9; exact absurd h9 e_10)) | (with_reducible intro _) | (refine And.intro ?_ ?_) | (refine e_fa (fun _ => ?_)))
  all_goals first | rfl | exact trivial | exact Nat.zero_le _ | exact (e_fit_01 _).1 | exact (e_fit_01 _).2 | exact vp_in_iff.mpr (by decide +kernel) | (with_reducible refine e_nz _ (by decide)) | decide | skip
  have q : ∀ j, j < 5 → mI M2 a j = mI (sI (sI (sI (sI (sI (sI (sI M a 0 1) a 1 (nI d)) a 2 m) a 3 w) a 4 z) (a + 3) 0 0) (a + 3) 1 0) a j := fun j hj => h4 j (Or.inl hj)
  refine ⟨⟨⟨h1.1, fun c j hc => ⟨?_, ?_⟩⟩, ⟨?_, ?_, ?_, ?_, ?_, k1, k2, k3, k4, ?_, k5, k6⟩, fun s hs => ?_, h6, h7⟩⟩
  · rw [h1.i hc]; show mI (sI (sI (sI (sI (sI (sI (sI M a 0 1) a 1 (nI d)) a 2 m) a 3 w) a 4 z) (a + 3) 0 0) (a + 3) 1 0) c j = _; (try simp (disch := omega) only [mI_sI2, mI_sL, mI_sP, mI_sN, mI_sIr, mI_sLr, mL_sI, mL_sL2, mL_sP, mL_sN, mL_sIr, mL_sLr, mP_sI, mP_sL, mP_sN, mP_sIr, mP_sLr, mP_sP, if_pos, if_neg, and_self, if_true, and_true, true_and])
  · rw [h1.k hc]; rfl
  · rw [q 0 (by omega)]; (try simp (disch := omega) only [mI_sI2, mI_sL, mI_sP, mI_sN, mI_sIr, mI_sLr, mL_sI, mL_sL2, mL_sP, mL_sN, mL_sIr, mL_sLr, mP_sI, mP_sL, mP_sN, mP_sIr, mP_sLr, mP_sP, if_pos, if_neg, and_self, if_true, and_true, true_and])
  · rw [q 1 (by omega)]; (try simp (disch := omega) only [mI_sI2, mI_sL, mI_sP, mI_sN, mI_sIr, mI_sLr, mL_sI, mL_sL2, mL_sP, mL_sN, mL_sIr, mL_sLr, mP_sI, mP_sL, mP_sN, mP_sIr, mP_sLr, mP_sP, if_pos, if_neg, and_self, if_true, and_true, true_and])
  · rw [q 2 (by omega)]; (try simp (disch := omega) only [mI_sI2, mI_sL, mI_sP, mI_sN, mI_sIr, mI_sLr, mL_sI, mL_sL2, mL_sP, mL_sN, mL_sIr, mL_sLr, mP_sI, mP_sL, mP_sN, mP_sIr, mP_sLr, mP_sP, if_pos, if_neg, and_self, if_true, and_true, true_and])
  · rw [q 3 (by omega)]; (try simp (disch := omega) only [mI_sI2, mI_sL, mI_sP, mI_sN, mI_sIr, mI_sLr, mL_sI, mL_sL2, mL_sP, mL_sN, mL_sIr, mL_sLr, mP_sI, mP_sL, mP_sN, mP_sIr, mP_sLr, mP_sP, if_pos, if_neg, and_self, if_true, and_true, true_and])
  · rw [q 4 (by omega)]; (try simp (disch := omega) only [mI_sI2, mI_sL, mI_sP, mI_sN, mI_sIr, mI_sLr, mL_sI, mL_sL2, mL_sP, mL_sN, mL_sIr, mL_sLr, mP_sI, mP_sL, mP_sN, mP_sIr, mP_sLr, mP_sP, if_pos, if_neg, and_self, if_true, and_true, true_and])
  · rw [h4 9 (Or.inr rfl)]; show mI (sI (sI (sI (sI (sI (sI (sI M a 0 1) a 1 (nI d)) a 2 m) a 3 w) a 4 z) (a + 3) 0 0) (a + 3) 1 0) a 9 = _; (try simp (disch := omega) only [mI_sI2, mI_sL, mI_sP, mI_sN, mI_sIr, mI_sLr, mL_sI, mL_sL2, mL_sP, mL_sN, mL_sIr, mL_sLr, mP_sI, mP_sL, mP_sN, mP_sIr, mP_sLr, mP_sP, if_pos, if_neg, and_self, if_true, and_true, true_and])
  · rw [h2 _ _ (Or.inr rfl)]; show mI (sI (sI (sI (sI (sI (sI (sI M a 0 1) a 1 (nI d)) a 2 m) a 3 w) a 4 z) (a + 3) 0 0) (a + 3) 1 0) (a + 3) s = _
    rcases (show s = 0 ∨ s = 1 by omega) with rfl | rfl <;> (try simp (disch := omega) only [mI_sI2, mI_sL, mI_sP, mI_sN, mI_sIr, mI_sLr, mL_sI, mL_sL2, mL_sP, mL_sN, mL_sIr, mL_sLr, mP_sI, mP_sL, mP_sN, mP_sIr, mP_sLr, mP_sP, if_pos, if_neg, and_self, if_true, and_true, true_and])
set_option maxRecDepth 20000 in
theorem c_shownBits (hl0 : l.stackTraces = false) (a : Nat) (M : EM) : Ct l g sg_X2_shownBits [.inr (.inr (.inr (.inr (9, a))))] M (fun o M' => M' = M ∧ o = .inl (some (.inl (e_shb (mI M a))))) := by
  refine sem_of hl0 mt_X2_shownBits ok_X2_shownBits rfl (fun K hc hw => e_step rfl hc 80 [] ?_)
  repeat' (first | (with_reducible (intro h9; exact absurd rfl h9)) | (with_reducible (intro h9; exact absurd h9 e_10)) | (with_reducible intro _) | (refine And.intro ?_ ?_) | (refine e_fa (fun _ => ?_)))
  all_goals first | rfl | exact trivial | exact Nat.zero_le _ | exact (e_fit_01 _).1 | exact (e_fit_01 _).2 | exact vp_in_iff.mpr (by decide +kernel) | (with_reducible refine e_nz _ (by decide)) | decide | skip
  · rename_i h; unfold e_shb; rw [if_pos h]
  · rename_i h; unfold e_shb; rw [if_neg h]
set_option maxRecDepth 20000 in
theorem c_hasDate (hl0 : l.stackTraces = false) (a : Nat) (n : Int32) (M : EM) : Ct l g sg_X2_hasDate [.inr (.inr (.inr (.inr (9, a)))), .inl n] M (fun o M' => M' = M ∧ o = .inl (some (.inl (e_01 (0 ≤ n ∧ n ≤ mI M a 10 - 1))))) := by
  refine sem_of hl0 mt_X2_hasDate ok_X2_hasDate rfl (fun K hc hw => e_step rfl hc 80 [] ?_)
  repeat' (first | (with_reducible (intro h9; exact absurd rfl h9)) | (with_reducible (intro h9; exact absurd h9 e_10)) | (with_reducible intro _) | (refine And.intro ?_ ?_) | (refine e_fa (fun _ => ?_)))
  refine Ct.mono (c_isWithin hl0 _ _ _ _) ?_
  rintro o M' ⟨rfl, rfl⟩
  repeat' (first | (with_reducible (intro h9; exact absurd rfl h9)) | (with_reducible (intro h9; exact absurd h9 e_10)) | (with_reducible intro _) | (refine And.intro ?_ ?_) | (refine e_fa (fun _ => ?_)))
  all_goals first | rfl | exact trivial | exact Nat.zero_le _ | exact (e_fit_01 _).1 | exact (e_fit_01 _).2 | exact vp_in_iff.mpr (by decide +kernel) | (with_reducible refine e_nz _ (by decide)) | decide | skip
set_option maxRecDepth 20000 in
theorem c_isShown (hl0 : l.stackTraces = false) (a : Nat) (n : Int32) (M : EM) : Ct l g sg_X2_isShown [.inr (.inr (.inr (.inr (9, a)))), .inl n] M (fun o M' => M' = M ∧ o = .inl (some (.inl (e_01 (e_bit (e_shb (mI M a)) n))))) := by
  refine sem_of hl0 mt_X2_isShown ok_X2_isShown rfl (fun K hc hw => e_step rfl hc 80 [] ?_)
  repeat' (first | (with_reducible (intro h9; exact absurd rfl h9)) | (with_reducible (intro h9; exact absurd h9 e_10)) | (with_reducible intro _) | (refine And.intro ?_ ?_) | (refine e_fa (fun _ => ?_)))
  refine Ct.mono (c_shownBits hl0 _ _) ?_
  rintro o M' ⟨rfl, rfl⟩
  repeat' (first | (with_reducible (intro h9; exact absurd rfl h9)) | (with_reducible (intro h9; exact absurd h9 e_10)) | (with_reducible intro _) | (refine And.intro ?_ ?_) | (refine e_fa (fun _ => ?_)))
  all_goals first | rfl | exact trivial | exact Nat.zero_le _ | exact (e_fit_01 _).1 | exact (e_fit_01 _).2 | exact vp_in_iff.mpr (by decide +kernel) | (with_reducible refine e_nz _ (by decide)) | decide | skip
  refine Ct.mono (c_hasBit hl0 _ _ _) ?_
  rintro o M' ⟨rfl, rfl⟩
  repeat' (first | (with_reducible (intro h9; exact absurd rfl h9)) | (with_reducible (intro h9; exact absurd h9 e_10)) | (with_reducible intro _) | (refine And.intro ?_ ?_) | (refine e_fa (fun _ => ?_)))
  all_goals first | rfl | exact trivial | exact Nat.zero_le _ | exact (e_fit_01 _).1 | exact (e_fit_01 _).2 | exact vp_in_iff.mpr (by decide +kernel) | (with_reducible refine e_nz _ (by decide)) | decide | skip
set_option maxRecDepth 20000 in
theorem c_moveTo (hl0 : l.stackTraces = false) {a k : Nat} (x y : Int32) (M : EM) (hk : k < 30) : Ct l g sg_X2_moveTo [.inr (.inr (.inr (.inr (9, a)))), .inl (nI k), .inl x, .inl y] M (fun o M' => M' = sI (sI M a 12 (mI M a 12 ||| (1 <<< (nI k &&& 31)))) (a + 2) k (x * 1440 + y) ∧ o = .inl none) := by
  refine sem_of hl0 mt_X2_moveTo ok_X2_moveTo rfl (fun K hc hw => e_step rfl hc 80 [] ?_)
  repeat' (first | (with_reducible (intro h9; exact absurd rfl h9)) | (with_reducible (intro h9; exact absurd h9 e_10)) | (with_reducible intro _) | (refine And.intro ?_ ?_) | (refine e_fa (fun _ => ?_)))
  all_goals first | rfl | exact trivial | exact Nat.zero_le _ | exact (e_fit_01 _).1 | exact (e_fit_01 _).2 | exact vp_in_iff.mpr (by decide +kernel) | (with_reducible refine e_nz _ (by decide)) | decide | skip
  · exact vp_in_nI hk (by omega)
  · rw [nI_clamp (by omega)]
set_option maxRecDepth 20000 in
theorem c_dayOf (hl0 : l.stackTraces = false) {a k : Nat} (M : EM) (hk : k < 30) : Ct l g sg_X2_dayOf [.inr (.inr (.inr (.inr (9, a)))), .inl (nI k)] M (fun o M' => M' = M ∧ o = .inl (some (.inl (if e_bit (mI M a 12) (nI k) then mI M (a + 2) k / 1440 else mI M (a + 1) k)))) := by
  refine sem_of hl0 mt_X2_dayOf ok_X2_dayOf rfl (fun K hc hw => e_step rfl hc 80 [] ?_)
  repeat' (first | (with_reducible (intro h9; exact absurd rfl h9)) | (with_reducible (intro h9; exact absurd h9 e_10)) | (with_reducible intro _) | (refine And.intro ?_ ?_) | (refine e_fa (fun _ => ?_)))
  refine Ct.mono (c_hasBit hl0 _ _ _) ?_
  rintro o M' ⟨rfl, rfl⟩
  repeat' (first | (with_reducible (intro h9; exact absurd rfl h9)) | (with_reducible (intro h9; exact absurd h9 e_10)) | (with_reducible intro _) | (refine And.intro ?_ ?_) | (refine e_fa (fun _ => ?_)))
  all_goals first | rfl | exact trivial | exact Nat.zero_le _ | exact (e_fit_01 _).1 | exact (e_fit_01 _).2 | exact vp_in_iff.mpr (by decide +kernel) | (with_reducible refine e_nz _ (by decide)) | decide | skip
  all_goals first | exact vp_in_nI hk (by omega) | skip
  · rename_i h; rw [e_01_n] at h; rw [nI_clamp (by omega), if_neg h]
  · rename_i h; rw [e_01_n, Classical.not_not] at h; rw [nI_clamp (by omega), if_pos h]
set_option maxRecDepth 20000 in
theorem c_minuteOf (hl0 : l.stackTraces = false) {a k : Nat} (M : EM) (hk : k < 30) : Ct l g sg_X2_minuteOf [.inr (.inr (.inr (.inr (9, a)))), .inl (nI k)] M (fun o M' => M' = M ∧ o = .inl (some (.inl (if e_bit (mI M a 12) (nI k) then mI M (a + 2) k - mI M (a + 2) k / 1440 * 1440 else mI M a 2)))) := by
  refine sem_of hl0 mt_X2_minuteOf ok_X2_minuteOf rfl (fun K hc hw => e_step rfl hc 80 [] ?_)
  repeat' (first | (with_reducible (intro h9; exact absurd rfl h9)) | (with_reducible (intro h9; exact absurd h9 e_10)) | (with_reducible intro _) | (refine And.intro ?_ ?_) | (refine e_fa (fun _ => ?_)))
  refine Ct.mono (c_hasBit hl0 _ _ _) ?_
  rintro o M' ⟨rfl, rfl⟩
  repeat' (first | (with_reducible (intro h9; exact absurd rfl h9)) | (with_reducible (intro h9; exact absurd h9 e_10)) | (with_reducible intro _) | (refine And.intro ?_ ?_) | (refine e_fa (fun _ => ?_)))
  all_goals first | rfl | exact trivial | exact Nat.zero_le _ | exact (e_fit_01 _).1 | exact (e_fit_01 _).2 | exact vp_in_iff.mpr (by decide +kernel) | (with_reducible refine e_nz _ (by decide)) | decide | skip
  · rename_i h; rw [e_01_n] at h; rw [if_neg h]
  · exact vp_in_nI hk (by omega)
  · rename_i h; rw [e_01_n, Classical.not_not] at h; rw [nI_clamp (by omega), if_pos h]
set_option maxRecDepth 20000 in
theorem c_givenTo (hl0 : l.stackTraces = false) {a k s : Nat} (M : EM) (hs : s < 2) : Ct l g sg_X2_givenTo [.inr (.inr (.inr (.inr (9, a)))), .inl (nI s), .inl (nI k)] M (fun o M' => M' = M ∧ o = .inl (some (.inl (e_giv (mL M (a + 4) s) (nI k))))) := by
  refine sem_of hl0 mt_X2_givenTo ok_X2_givenTo rfl (fun K hc hw => e_step rfl hc 80 [] ?_)
  repeat' (first | (with_reducible (intro h9; exact absurd rfl h9)) | (with_reducible (intro h9; exact absurd h9 e_10)) | (with_reducible intro _) | (refine And.intro ?_ ?_) | (refine e_fa (fun _ => ?_)))
  all_goals first | rfl | exact trivial | exact Nat.zero_le _ | exact (e_fit_01 _).1 | exact (e_fit_01 _).2 | exact vp_in_iff.mpr (by decide +kernel) | (with_reducible refine e_nz _ (by decide)) | decide | skip
  · exact vp_in_nI hs (by omega)
  · rw [nI_clamp (by omega)]; rfl
set_option maxRecDepth 20000 in
theorem c_giveTo (hl0 : l.stackTraces = false) {a k s : Nat} (x : Int32) (M : EM) (hs : s < 2) : Ct l g sg_X2_giveTo [.inr (.inr (.inr (.inr (9, a)))), .inl (nI s), .inl (nI k), .inl x] M (fun o M' => M' = sL M (a + 4) s (e_give (mL M (a + 4) s) (nI k) x) ∧ o = .inl none) := by
  refine sem_of hl0 mt_X2_giveTo ok_X2_giveTo rfl (fun K hc hw => e_step rfl hc 80 [] ?_)
  repeat' (first | (with_reducible (intro h9; exact absurd rfl h9)) | (with_reducible (intro h9; exact absurd h9 e_10)) | (with_reducible intro _) | (refine And.intro ?_ ?_) | (refine e_fa (fun _ => ?_)))
  all_goals first | rfl | exact trivial | exact Nat.zero_le _ | exact (e_fit_01 _).1 | exact (e_fit_01 _).2 | exact vp_in_iff.mpr (by decide +kernel) | (with_reducible refine e_nz _ (by decide)) | decide | skip
  · exact vp_in_nI hs (by omega)
  · exact vp_in_nI hs (by omega)
  · rw [nI_clamp (by omega)]; rfl
set_option maxRecDepth 20000 in
theorem c_answerTo (hl0 : l.stackTraces = false) {a k s : Nat} (M : EM) (hs : s < 2) : Ct l g sg_X2_answerTo [.inr (.inr (.inr (.inr (9, a)))), .inl (nI s), .inl (nI k)] M (fun o M' => M' = M ∧ o = .inl (some (.inl (e_ans (e_giv (mL M (a + 4) s) (nI k)) (mI M (a + 3) s))))) := by
  refine sem_of hl0 mt_X2_answerTo ok_X2_answerTo rfl (fun K hc hw => e_step rfl hc 80 [] ?_)
  repeat' (first | (with_reducible (intro h9; exact absurd rfl h9)) | (with_reducible (intro h9; exact absurd h9 e_10)) | (with_reducible intro _) | (refine And.intro ?_ ?_) | (refine e_fa (fun _ => ?_)))
  refine Ct.mono (c_givenTo hl0 _ hs) ?_
  rintro o M' ⟨rfl, rfl⟩
  repeat' (first | (with_reducible (intro h9; exact absurd rfl h9)) | (with_reducible (intro h9; exact absurd h9 e_10)) | (with_reducible intro _) | (refine And.intro ?_ ?_) | (refine e_fa (fun _ => ?_)))
  all_goals first | rfl | exact trivial | exact Nat.zero_le _ | exact (e_fit_01 _).1 | exact (e_fit_01 _).2 | exact vp_in_iff.mpr (by decide +kernel) | (with_reducible refine e_nz _ (by decide)) | decide | skip
  all_goals first | exact vp_in_nI hs (by omega) | skip
  · rename_i h; rw [nI_clamp (by omega)]; unfold e_ans; rw [if_pos h]
  · rename_i h; unfold e_ans; rw [if_neg h]
set_option maxRecDepth 20000 in
theorem c_takeAnswers (hl0 : l.stackTraces = false) {a b s : Nat} (M : EM) (hs : s < 2) : Ct l g sg_X2_takeAnswers [.inr (.inr (.inr (.inr (9, a)))), .inr (.inr (.inr (.inr (9, b)))), .inl (nI s)] M (fun o M' => M' = sL (sI M (a + 3) s (mI M (b + 3) s)) (a + 4) s (mL M (b + 4) s &&& (((1 <<< ((2 * mI M a 10).toInt64 &&& 63))) - 1)) ∧ o = .inl none) := by
  refine sem_of hl0 mt_X2_takeAnswers ok_X2_takeAnswers rfl (fun K hc hw => e_step rfl hc 80 [] ?_)
  repeat' (first | (with_reducible (intro h9; exact absurd rfl h9)) | (with_reducible (intro h9; exact absurd h9 e_10)) | (with_reducible intro _) | (refine And.intro ?_ ?_) | (refine e_fa (fun _ => ?_)))
  all_goals first | rfl | exact trivial | exact Nat.zero_le _ | exact (e_fit_01 _).1 | exact (e_fit_01 _).2 | exact vp_in_iff.mpr (by decide +kernel) | (with_reducible refine e_nz _ (by decide)) | decide | skip
  all_goals first | exact vp_in_nI hs (by omega) | skip
  rw [nI_clamp (by omega)]
  show sL (sI M (a + 3) s (mI M (b + 3) s)) (a + 4) s (mL M (b + 4) s &&& (((1 <<< ((2 * mI (sI M (a + 3) s (mI M (b + 3) s)) a 10).toInt64 &&& 63))) - 1)) = _
  rw [mI_sI2, if_neg (by omega)]
def e_cp (M M1 : EM) (a b n : Nat) : Prop := (mP M1, mN M1, mT M1, mA M1) = (mP M, mN M, mT M, mA M) ∧ mL M1 = mL M ∧ ∀ c j, mI M1 c j = if c = a ∧ j < n then mI M b j else mI M c j
theorem e_cp.st {M M1 : EM} {a b n : Nat} (h : e_cp M M1 a b n) (hab : b ≠ a) : e_cp M (sI M1 a n (mI M1 b n)) a b (n + 1) := by
  refine ⟨h.1, h.2.1, fun c j => ?_⟩
  rw [mI_sI2, h.2.2, h.2.2]
  by_cases hc : c = a
  · subst hc
    by_cases hj : j = n
    · subst hj; simp [hab]
    · by_cases hj2 : j < n
      · simp [hj, hj2, show j < n + 1 by omega]
      · simp [hj, hj2, show ¬ j < n + 1 by omega]
  · simp [hc]
set_option maxRecDepth 20000 in
theorem c_ebecome (hl0 : l.stackTraces = false) {a b : Nat} (M : EM) (hb : mI M b 0 = 0 ∨ mI M b 0 = 1) (hab : a + 5 ≤ b ∨ b + 5 ≤ a) : Ct l g sg_X2_become [.inr (.inr (.inr (.inr (9, a)))), .inr (.inr (.inr (.inr (9, b))))] M (fun o M' => BX (e_fr M M' a (a + 5) ∧ qE M' a M b) ∧ o = .inl none) := by
  refine sem_of hl0 mt_X2_become ok_X2_become rfl (fun K hc hw => ?_)
  have h13 : ∀ M1, e_cp M M1 a b 13 → K 104 [some (.inr (.inr (.inr (.inr (9, a))))), some (.inr (.inr (.inr (.inr (9, b)))))] [] M1 0 0 := fun M1 h => by
    refine e_step rfl hc 60 [] ?_
    repeat' (first | (with_reducible (intro h9; exact absurd rfl h9)) | (with_reducible (intro h9; exact absurd h9 e_10)) | (with_reducible intro _) | (refine And.intro ?_ ?_) | (refine e_fa (fun _ => ?_)))
    all_goals first | rfl | exact trivial | exact Nat.zero_le _ | exact (e_fit_01 _).1 | exact (e_fit_01 _).2 | exact vp_in_iff.mpr (by decide +kernel) | (with_reducible refine e_nz _ (by decide)) | decide | skip
    refine ⟨⟨⟨h.1, fun c j hc => ⟨?_, ?_⟩⟩, fun j hj => ?_, fun j hj => ?_, fun j hj => ?_, fun j hj => ?_, fun j hj => ?_⟩⟩
    · (try simp (disch := omega) only [mI_sI2, mI_sL, mI_sP, mI_sN, mI_sIr, mI_sLr, mL_sI, mL_sL2, mL_sP, mL_sN, mL_sIr, mL_sLr, mP_sI, mP_sL, mP_sN, mP_sIr, mP_sLr, mP_sP, if_pos, if_neg, and_self, if_true, and_true, true_and])
      rw [h.2.2, if_neg (by omega)]
    · (try simp (disch := omega) only [mI_sI2, mI_sL, mI_sP, mI_sN, mI_sIr, mI_sLr, mL_sI, mL_sL2, mL_sP, mL_sN, mL_sIr, mL_sLr, mP_sI, mP_sL, mP_sN, mP_sIr, mP_sLr, mP_sP, if_pos, if_neg, and_self, if_true, and_true, true_and])
      rw [h.2.1]
    · (try simp (disch := omega) only [mI_sI2, mI_sL, mI_sP, mI_sN, mI_sIr, mI_sLr, mL_sI, mL_sL2, mL_sP, mL_sN, mL_sIr, mL_sLr, mP_sI, mP_sL, mP_sN, mP_sIr, mP_sLr, mP_sP, if_pos, if_neg, and_self, if_true, and_true, true_and])
      rw [h.2.2, if_pos ⟨rfl, hj⟩]
    · (try simp (disch := omega) only [mI_sI2, mI_sL, mI_sP, mI_sN, mI_sIr, mI_sLr, mL_sI, mL_sL2, mL_sP, mL_sN, mL_sIr, mL_sLr, mP_sI, mP_sL, mP_sN, mP_sIr, mP_sLr, mP_sP, if_pos, if_neg, and_self, if_true, and_true, true_and])
      rw [if_pos (by show j < 30; exact hj), h.2.2, if_neg (by omega)]
    · (try simp (disch := omega) only [mI_sI2, mI_sL, mI_sP, mI_sN, mI_sIr, mI_sLr, mL_sI, mL_sL2, mL_sP, mL_sN, mL_sIr, mL_sLr, mP_sI, mP_sL, mP_sN, mP_sIr, mP_sLr, mP_sP, if_pos, if_neg, and_self, if_true, and_true, true_and])
      rw [if_pos (by show j < 30; exact hj), h.2.2, if_neg (by omega)]
    · (try simp (disch := omega) only [mI_sI2, mI_sL, mI_sP, mI_sN, mI_sIr, mI_sLr, mL_sI, mL_sL2, mL_sP, mL_sN, mL_sIr, mL_sLr, mP_sI, mP_sL, mP_sN, mP_sIr, mP_sLr, mP_sP, if_pos, if_neg, and_self, if_true, and_true, true_and])
      rw [if_pos (by show j < 2; exact hj), h.2.2, if_neg (by omega)]
    · (try simp (disch := omega) only [mI_sI2, mI_sL, mI_sP, mI_sN, mI_sIr, mI_sLr, mL_sI, mL_sL2, mL_sP, mL_sN, mL_sIr, mL_sLr, mP_sI, mP_sL, mP_sN, mP_sIr, mP_sLr, mP_sP, if_pos, if_neg, and_self, if_true, and_true, true_and])
      rw [if_pos (by show j < 2; exact hj), h.2.1]
  have h12 : ∀ M1, e_cp M M1 a b 12 → K 96 [some (.inr (.inr (.inr (.inr (9, a))))), some (.inr (.inr (.inr (.inr (9, b)))))] [] M1 0 0 := fun M1 h => by
    
    refine e_step rfl hc 10 [104] ?_
    repeat' (first | (with_reducible (intro h9; exact absurd rfl h9)) | (with_reducible (intro h9; exact absurd h9 e_10)) | (with_reducible intro _) | (refine And.intro ?_ ?_) | (refine e_fa (fun _ => ?_)))
    · exact trivial
    · exact h13 _ (h.st (by omega))
  have h11 : ∀ M1, e_cp M M1 a b 11 → K 88 [some (.inr (.inr (.inr (.inr (9, a))))), some (.inr (.inr (.inr (.inr (9, b)))))] [] M1 0 0 := fun M1 h => by
    
    refine e_step rfl hc 10 [96] ?_
    repeat' (first | (with_reducible (intro h9; exact absurd rfl h9)) | (with_reducible (intro h9; exact absurd h9 e_10)) | (with_reducible intro _) | (refine And.intro ?_ ?_) | (refine e_fa (fun _ => ?_)))
    · exact trivial
    · exact h12 _ (h.st (by omega))
  have h10 : ∀ M1, e_cp M M1 a b 10 → K 80 [some (.inr (.inr (.inr (.inr (9, a))))), some (.inr (.inr (.inr (.inr (9, b)))))] [] M1 0 0 := fun M1 h => by
    
    refine e_step rfl hc 10 [88] ?_
    repeat' (first | (with_reducible (intro h9; exact absurd rfl h9)) | (with_reducible (intro h9; exact absurd h9 e_10)) | (with_reducible intro _) | (refine And.intro ?_ ?_) | (refine e_fa (fun _ => ?_)))
    · exact trivial
    · exact h11 _ (h.st (by omega))
  have h9 : ∀ M1, e_cp M M1 a b 9 → K 72 [some (.inr (.inr (.inr (.inr (9, a))))), some (.inr (.inr (.inr (.inr (9, b)))))] [] M1 0 0 := fun M1 h => by
    
    refine e_step rfl hc 10 [80] ?_
    repeat' (first | (with_reducible (intro h9; exact absurd rfl h9)) | (with_reducible (intro h9; exact absurd h9 e_10)) | (with_reducible intro _) | (refine And.intro ?_ ?_) | (refine e_fa (fun _ => ?_)))
    · exact trivial
    · exact h10 _ (h.st (by omega))
  have h8 : ∀ M1, e_cp M M1 a b 8 → K 64 [some (.inr (.inr (.inr (.inr (9, a))))), some (.inr (.inr (.inr (.inr (9, b)))))] [] M1 0 0 := fun M1 h => by
    
    refine e_step rfl hc 10 [72] ?_
    repeat' (first | (with_reducible (intro h9; exact absurd rfl h9)) | (with_reducible (intro h9; exact absurd h9 e_10)) | (with_reducible intro _) | (refine And.intro ?_ ?_) | (refine e_fa (fun _ => ?_)))
    · exact trivial
    · exact h9 _ (h.st (by omega))
  have h7 : ∀ M1, e_cp M M1 a b 7 → K 56 [some (.inr (.inr (.inr (.inr (9, a))))), some (.inr (.inr (.inr (.inr (9, b)))))] [] M1 0 0 := fun M1 h => by
    
    refine e_step rfl hc 10 [64] ?_
    repeat' (first | (with_reducible (intro h9; exact absurd rfl h9)) | (with_reducible (intro h9; exact absurd h9 e_10)) | (with_reducible intro _) | (refine And.intro ?_ ?_) | (refine e_fa (fun _ => ?_)))
    · exact trivial
    · exact h8 _ (h.st (by omega))
  have h6 : ∀ M1, e_cp M M1 a b 6 → K 48 [some (.inr (.inr (.inr (.inr (9, a))))), some (.inr (.inr (.inr (.inr (9, b)))))] [] M1 0 0 := fun M1 h => by
    
    refine e_step rfl hc 10 [56] ?_
    repeat' (first | (with_reducible (intro h9; exact absurd rfl h9)) | (with_reducible (intro h9; exact absurd h9 e_10)) | (with_reducible intro _) | (refine And.intro ?_ ?_) | (refine e_fa (fun _ => ?_)))
    · exact trivial
    · exact h7 _ (h.st (by omega))
  have h5 : ∀ M1, e_cp M M1 a b 5 → K 40 [some (.inr (.inr (.inr (.inr (9, a))))), some (.inr (.inr (.inr (.inr (9, b)))))] [] M1 0 0 := fun M1 h => by
    
    refine e_step rfl hc 10 [48] ?_
    repeat' (first | (with_reducible (intro h9; exact absurd rfl h9)) | (with_reducible (intro h9; exact absurd h9 e_10)) | (with_reducible intro _) | (refine And.intro ?_ ?_) | (refine e_fa (fun _ => ?_)))
    · exact trivial
    · exact h6 _ (h.st (by omega))
  have h4 : ∀ M1, e_cp M M1 a b 4 → K 32 [some (.inr (.inr (.inr (.inr (9, a))))), some (.inr (.inr (.inr (.inr (9, b)))))] [] M1 0 0 := fun M1 h => by
    
    refine e_step rfl hc 10 [40] ?_
    repeat' (first | (with_reducible (intro h9; exact absurd rfl h9)) | (with_reducible (intro h9; exact absurd h9 e_10)) | (with_reducible intro _) | (refine And.intro ?_ ?_) | (refine e_fa (fun _ => ?_)))
    · exact trivial
    · exact h5 _ (h.st (by omega))
  have h3 : ∀ M1, e_cp M M1 a b 3 → K 24 [some (.inr (.inr (.inr (.inr (9, a))))), some (.inr (.inr (.inr (.inr (9, b)))))] [] M1 0 0 := fun M1 h => by
    
    refine e_step rfl hc 10 [32] ?_
    repeat' (first | (with_reducible (intro h9; exact absurd rfl h9)) | (with_reducible (intro h9; exact absurd h9 e_10)) | (with_reducible intro _) | (refine And.intro ?_ ?_) | (refine e_fa (fun _ => ?_)))
    · exact trivial
    · exact h4 _ (h.st (by omega))
  have h2 : ∀ M1, e_cp M M1 a b 2 → K 16 [some (.inr (.inr (.inr (.inr (9, a))))), some (.inr (.inr (.inr (.inr (9, b)))))] [] M1 0 0 := fun M1 h => by
    
    refine e_step rfl hc 10 [24] ?_
    repeat' (first | (with_reducible (intro h9; exact absurd rfl h9)) | (with_reducible (intro h9; exact absurd h9 e_10)) | (with_reducible intro _) | (refine And.intro ?_ ?_) | (refine e_fa (fun _ => ?_)))
    · exact trivial
    · exact h3 _ (h.st (by omega))
  have h1 : ∀ M1, e_cp M M1 a b 1 → K 8 [some (.inr (.inr (.inr (.inr (9, a))))), some (.inr (.inr (.inr (.inr (9, b)))))] [] M1 0 0 := fun M1 h => by
    
    refine e_step rfl hc 10 [16] ?_
    repeat' (first | (with_reducible (intro h9; exact absurd rfl h9)) | (with_reducible (intro h9; exact absurd h9 e_10)) | (with_reducible intro _) | (refine And.intro ?_ ?_) | (refine e_fa (fun _ => ?_)))
    · exact trivial
    · exact h2 _ (h.st (by omega))
  have h0 : ∀ M1, e_cp M M1 a b 0 → K 0 [some (.inr (.inr (.inr (.inr (9, a))))), some (.inr (.inr (.inr (.inr (9, b)))))] [] M1 0 0 := fun M1 h => by
    have e := h.2.2 b 0; rw [if_neg (by omega)] at e
    have f9 := e_fit_01' (v := mI M1 b 0) (by rw [e]; exact hb)
    refine e_step rfl hc 10 [8] ?_
    repeat' (first | (with_reducible (intro h9; exact absurd rfl h9)) | (with_reducible (intro h9; exact absurd h9 e_10)) | (with_reducible intro _) | (refine And.intro ?_ ?_) | (refine e_fa (fun _ => ?_)))
    · exact f9.1
    · exact f9.2
    · exact h1 _ (h.st (by omega))
  exact h0 M ⟨rfl, rfl, fun c j => by simp⟩
end
