/-! CONTRACTS: zones, events (the small ones). -/
section
variable {l : Launch} {g : EG}
abbrev BX (P : Prop) : Prop := Nonempty (PLift P)
theorem BX.mk {P : Prop} (h : P) : BX P := ⟨⟨h⟩⟩
theorem BX.out {P : Prop} (h : BX P) : P := h.elim (fun q => q.down)
theorem mI_sI2 {M : EM} {a k b j : Nat} {v : Int32} : mI (sI M a k v) b j = if b = a ∧ j = k then v else mI M b j := by
  rw [mI_sI]; by_cases h1 : b = a <;> by_cases h2 : j = k <;> simp [h1, h2]
theorem mL_sL2 {M : EM} {a k b j : Nat} {v : Int64} : mL (sL M a k v) b j = if b = a ∧ j = k then v else mL M b j := by
  rw [mL_sL]; by_cases h1 : b = a <;> by_cases h2 : j = k <;> simp [h1, h2]
/-- nothing else is written: from lo to hi alone -/
def e_fr0 (M M' : EM) (lo hi : Nat) : Prop := mP M' = mP M ∧ ∀ c j, (c < lo ∨ hi ≤ c) → mI M' c j = mI M c j ∧ mL M' c j = mL M c j
def e_fr (M M' : EM) (lo hi : Nat) : Prop := (mP M', mN M', mT M', mA M') = (mP M, mN M, mT M, mA M) ∧ ∀ c j, (c < lo ∨ hi ≤ c) → mI M' c j = mI M c j ∧ mL M' c j = mL M c j
theorem e_fr.p {M M' : EM} {lo hi : Nat} (h : e_fr M M' lo hi) : mP M' = mP M := congrArg (fun z => z.1) h.1
theorem e_fr.n {M M' : EM} {lo hi : Nat} (h : e_fr M M' lo hi) : mN M' = mN M := congrArg (fun z => z.2.1) h.1
theorem e_fr.t {M M' : EM} {lo hi : Nat} (h : e_fr M M' lo hi) : mT M' = mT M := congrArg (fun z => z.2.2.1) h.1
theorem e_fr.a {M M' : EM} {lo hi : Nat} (h : e_fr M M' lo hi) : mA M' = mA M := congrArg (fun z => z.2.2.2) h.1
theorem e_fr.o {M M' : EM} {lo hi : Nat} (h : e_fr M M' lo hi) : e_fr0 M M' lo hi := ⟨h.p, h.2⟩
theorem e_fr.rf {M : EM} {lo hi : Nat} : e_fr M M lo hi := ⟨rfl, fun _ _ _ => ⟨rfl, rfl⟩⟩
theorem e_fr.tr {M M' M'' : EM} {lo hi : Nat} (h : e_fr M M' lo hi) (h' : e_fr M' M'' lo hi) : e_fr M M'' lo hi := ⟨h'.1.trans h.1, fun c j hc => ⟨(h'.2 c j hc).1.trans (h.2 c j hc).1, (h'.2 c j hc).2.trans (h.2 c j hc).2⟩⟩
theorem e_fr.wd {M M' : EM} {lo hi lo' hi' : Nat} (h : e_fr M M' lo hi) (h1 : lo' ≤ lo) (h2 : hi ≤ hi') : e_fr M M' lo' hi' := ⟨h.1, fun c j hc => h.2 c j (by omega)⟩
theorem e_fr.i {M M' : EM} {lo hi : Nat} (h : e_fr M M' lo hi) {c : Nat} (hc : c < lo ∨ hi ≤ c) (j : Nat) : mI M' c j = mI M c j := (h.2 c j hc).1
theorem e_fr.k {M M' : EM} {lo hi : Nat} (h : e_fr M M' lo hi) {c : Nat} (hc : c < lo ∨ hi ≤ c) (j : Nat) : mL M' c j = mL M c j := (h.2 c j hc).2
/-- the same content: a zone, an event, a place, a side, an exchange -/
def qZ (M : EM) (a : Nat) (M' : EM) (b : Nat) : Prop := ∀ j, j < 4 → mI M a j = mI M' b j
def qE (M : EM) (a : Nat) (M' : EM) (b : Nat) : Prop := (∀ j, j < 13 → mI M a j = mI M' b j) ∧ (∀ j, j < 30 → mI M (a + 1) j = mI M' (b + 1) j) ∧ (∀ j, j < 30 → mI M (a + 2) j = mI M' (b + 2) j) ∧ (∀ j, j < 2 → mI M (a + 3) j = mI M' (b + 3) j) ∧ ∀ j, j < 2 → mL M (a + 4) j = mL M' (b + 4) j
def qP (M : EM) (a : Nat) (M' : EM) (b : Nat) : Prop := mI M a 0 = mI M' b 0 ∧ (∀ z, z < 3 → qZ M (a + 2 + z) M' (b + 2 + z)) ∧ ∀ e, e < 8 → qE M (a + 6 + 5 * e) M' (b + 6 + 5 * e)
def qS (M : EM) (a : Nat) (M' : EM) (b : Nat) : Prop := (∀ j, 1 ≤ j → j < 4 → mI M a j = mI M' b j) ∧ qP M (a + 1) M' (b + 1) ∧ ∀ j, j < 6 → mI M (a + 47) j = mI M' (b + 47) j
def qX (M : EM) (a : Nat) (M' : EM) (b : Nat) : Prop := mI M a 0 = mI M' b 0 ∧ qP M (a + 1) M' (b + 1) ∧ (∀ s, s < 2 → qS M (a + 48 + 48 * s) M' (b + 48 + 48 * s)) ∧ ∀ j, j < 8 → mI M (a + 144) j = mI M' (b + 144) j
theorem qZ.sy {M M' : EM} {a b : Nat} (h : qZ M a M' b) : qZ M' b M a := fun j hj => (h j hj).symm
theorem qE.sy {M M' : EM} {a b : Nat} (h : qE M a M' b) : qE M' b M a := ⟨fun j hj => (h.1 j hj).symm, fun j hj => (h.2.1 j hj).symm, fun j hj => (h.2.2.1 j hj).symm, fun j hj => (h.2.2.2.1 j hj).symm, fun j hj => (h.2.2.2.2 j hj).symm⟩
theorem qP.sy {M M' : EM} {a b : Nat} (h : qP M a M' b) : qP M' b M a := ⟨h.1.symm, fun j hj => (h.2.1 j hj).sy, fun j hj => (h.2.2 j hj).sy⟩
theorem qS.sy {M M' : EM} {a b : Nat} (h : qS M a M' b) : qS M' b M a := ⟨fun j h1 hj => (h.1 j h1 hj).symm, h.2.1.sy, fun j hj => (h.2.2 j hj).symm⟩
theorem qX.sy {M M' : EM} {a b : Nat} (h : qX M a M' b) : qX M' b M a := ⟨h.1.symm, h.2.1.sy, fun j hj => (h.2.2.1 j hj).sy, fun j hj => (h.2.2.2 j hj).symm⟩
theorem qZ.tr {M M' M'' : EM} {a b c : Nat} (h : qZ M a M' b) (h' : qZ M' b M'' c) : qZ M a M'' c := fun j hj => (h j hj).trans (h' j hj)
theorem qE.tr {M M' M'' : EM} {a b c : Nat} (h : qE M a M' b) (h' : qE M' b M'' c) : qE M a M'' c := ⟨fun j hj => (h.1 j hj).trans (h'.1 j hj), fun j hj => (h.2.1 j hj).trans (h'.2.1 j hj), fun j hj => (h.2.2.1 j hj).trans (h'.2.2.1 j hj), fun j hj => (h.2.2.2.1 j hj).trans (h'.2.2.2.1 j hj), fun j hj => (h.2.2.2.2 j hj).trans (h'.2.2.2.2 j hj)⟩
theorem qP.tr {M M' M'' : EM} {a b c : Nat} (h : qP M a M' b) (h' : qP M' b M'' c) : qP M a M'' c := ⟨h.1.trans h'.1, fun j hj => (h.2.1 j hj).tr (h'.2.1 j hj), fun j hj => (h.2.2 j hj).tr (h'.2.2 j hj)⟩
theorem qS.tr {M M' M'' : EM} {a b c : Nat} (h : qS M a M' b) (h' : qS M' b M'' c) : qS M a M'' c := ⟨fun j h1 hj => (h.1 j h1 hj).trans (h'.1 j h1 hj), h.2.1.tr h'.2.1, fun j hj => (h.2.2 j hj).trans (h'.2.2 j hj)⟩
theorem qX.tr {M M' M'' : EM} {a b c : Nat} (h : qX M a M' b) (h' : qX M' b M'' c) : qX M a M'' c := ⟨h.1.trans h'.1, h.2.1.tr h'.2.1, fun j hj => (h.2.2.1 j hj).tr (h'.2.2.1 j hj), fun j hj => (h.2.2.2 j hj).trans (h'.2.2.2 j hj)⟩
theorem e_fr.qZ {M M' : EM} {lo hi a : Nat} (h : e_fr M M' lo hi) (hc : a < lo ∨ hi ≤ a) : qZ M' a M a := fun j _ => h.i hc j
theorem e_fr.qE {M M' : EM} {lo hi a : Nat} (h : e_fr M M' lo hi) (hc : a + 5 ≤ lo ∨ hi ≤ a) : qE M' a M a := ⟨fun j _ => h.i (by omega) j, fun j _ => h.i (by omega) j, fun j _ => h.i (by omega) j, fun j _ => h.i (by omega) j, fun j _ => h.k (by omega) j⟩
theorem e_fr.qP {M M' : EM} {lo hi a : Nat} (h : e_fr M M' lo hi) (hc : a + 46 ≤ lo ∨ hi ≤ a) : qP M' a M a := ⟨h.i (by omega) 0, fun z hz => h.qZ (by omega), fun e he => h.qE (by omega)⟩
theorem e_fr.qS {M M' : EM} {lo hi a : Nat} (h : e_fr M M' lo hi) (hc : a + 48 ≤ lo ∨ hi ≤ a) : qS M' a M a := ⟨fun j _ _ => h.i (by omega) j, h.qP (by omega), fun j _ => h.i (by omega) j⟩
theorem e_fr.qX {M M' : EM} {lo hi a : Nat} (h : e_fr M M' lo hi) (hc : a + 145 ≤ lo ∨ hi ≤ a) : qX M' a M a := ⟨h.i (by omega) 0, h.qP (by omega), fun s hs => h.qS (by omega), fun j _ => h.i (by omega) j⟩
theorem e_po5 (j : Nat) : e_po 6 j = 1 + j := rfl
theorem e_po8 (j : Nat) : e_po 8 j = 1 + 5 * j := rfl
theorem e_po15 (j : Nat) : e_po 15 j = 1 + 48 * j := rfl
theorem e_po20 (j : Nat) : e_po 20 j = 1 + 145 * j := rfl
theorem e_po21 (j : Nat) : e_po 21 j = 1 + 145 * j := rfl
set_option maxRecDepth 20000 in
theorem c_setTo (hl0 : l.stackTraces = false) (z : Nat) (a b c : Int32) (M : EM) : Ct l g sg_X9_setTo [.inr (.inr (.inr (.inr (7, z)))), .inl a, .inl b, .inl c] M (fun o M' => M' = sI (sI (sI M z 0 a) z 1 b) z 2 c ∧ o = .inl none) := by
  refine sem_of hl0 mt_X9_setTo ok_X9_setTo rfl (fun K hc hw => e_step rfl hc 80 [] ?_)
  repeat' (first | (with_reducible (intro h9; exact absurd rfl h9)) | (with_reducible (intro h9; exact absurd h9 e_10)) | (with_reducible intro _) | (refine And.intro ?_ ?_) | (refine e_fa (fun _ => ?_)))
  all_goals first | rfl | exact trivial | exact Nat.zero_le _ | exact (e_fit_01 _).1 | exact (e_fit_01 _).2 | exact vp_in_iff.mpr (by decide +kernel) | (with_reducible refine e_nz _ (by decide)) | skip
set_option maxRecDepth 20000 in
theorem c_zbecome (hl0 : l.stackTraces = false) (z y : Nat) (M : EM) : Ct l g sg_X9_become [.inr (.inr (.inr (.inr (7, z)))), .inr (.inr (.inr (.inr (7, y))))] M (fun o M' => (e_fr M M' z (z + 1) ∧ qZ M' z M y) ∧ o = .inl none) := by
  refine sem_of hl0 mt_X9_become ok_X9_become rfl (fun K hc hw => e_step rfl hc 80 [] ?_)
  repeat' (first | (with_reducible (intro h9; exact absurd rfl h9)) | (with_reducible (intro h9; exact absurd h9 e_10)) | (with_reducible intro _) | (refine And.intro ?_ ?_) | (refine e_fa (fun _ => ?_)))
  all_goals first | rfl | exact trivial | exact Nat.zero_le _ | exact (e_fit_01 _).1 | exact (e_fit_01 _).2 | exact vp_in_iff.mpr (by decide +kernel) | (with_reducible refine e_nz _ (by decide)) | skip
  · rename_i c j h; (try simp (disch := omega) only [mI_sI2, mI_sL, mI_sP, mI_sN, mI_sIr, mI_sLr, mL_sI, mL_sL2, mL_sP, mL_sN, mL_sIr, mL_sLr, mP_sI, mP_sL, mP_sN, mP_sIr, mP_sLr, mP_sP, if_pos, if_neg, and_self, if_true, and_true, true_and])
  · rename_i j hj
    rcases (show j = 0 ∨ j = 1 ∨ j = 2 ∨ j = 3 by omega) with rfl | rfl | rfl | rfl
    all_goals (try simp (disch := omega) only [mI_sI2, mI_sL, mI_sP, mI_sN, mI_sIr, mI_sLr, mL_sI, mL_sL2, mL_sP, mL_sN, mL_sIr, mL_sLr, mP_sI, mP_sL, mP_sN, mP_sIr, mP_sLr, mP_sP, if_pos, if_neg, and_self, if_true, and_true, true_and])
set_option maxRecDepth 20000 in
theorem c_isSummer (hl0 : l.stackTraces = false) (z : Nat) (n : Int32) (M : EM) : Ct l g sg_X9_isSummer [.inr (.inr (.inr (.inr (7, z)))), .inl n] M (fun o M' => M' = M ∧ o = .inl (some (.inl (e_01 (¬ mI M z 1 = -1 ∧ mI M z 1 ≤ n ∧ n ≤ mI M z 2))))) := by
  refine sem_of hl0 mt_X9_isSummer ok_X9_isSummer rfl (fun K hc hw => e_step rfl hc 80 [] ?_)
  repeat' (first | (with_reducible (intro h9; exact absurd rfl h9)) | (with_reducible (intro h9; exact absurd h9 e_10)) | (with_reducible intro _) | (refine And.intro ?_ ?_) | (refine e_fa (fun _ => ?_)))
  all_goals first | rfl | exact trivial | exact Nat.zero_le _ | exact (e_fit_01 _).1 | exact (e_fit_01 _).2 | exact vp_in_iff.mpr (by decide +kernel) | (with_reducible refine e_nz _ (by decide)) | skip
  · rename_i h; rw [e_01_f (fun h9 => h9.1 h)]
  · refine Ct.mono (c_isWithin hl0 _ _ _ _) ?_
    rintro o M' ⟨rfl, rfl⟩
    repeat' (first | (with_reducible (intro h9; exact absurd rfl h9)) | (with_reducible (intro h9; exact absurd h9 e_10)) | (with_reducible intro _) | (refine And.intro ?_ ?_) | (refine e_fa (fun _ => ?_)))
    all_goals first | rfl | exact trivial | exact Nat.zero_le _ | exact (e_fit_01 _).1 | exact (e_fit_01 _).2 | exact vp_in_iff.mpr (by decide +kernel) | (with_reducible refine e_nz _ (by decide)) | skip
    · rename_i h h1; rw [e_01_n] at h1; rw [e_01_f (fun h9 => h1 h9.2)]
    · rename_i h h1; rw [e_01_n, Classical.not_not] at h1; rw [e_01_t ⟨h, h1⟩]
/-- the moment of a day and a minute under a zone's row -/
def e_mom (f : Nat → Int32) (d m : Int32) : Int32 := d * 1440 + m - f 0 - (if ¬ f 1 = -1 ∧ f 1 ≤ d - d / 365 * 365 ∧ d - d / 365 * 365 ≤ f 2 then 60 else 0)
set_option maxRecDepth 20000 in
theorem c_momentAt (hl0 : l.stackTraces = false) (z : Nat) (d m : Int32) (M : EM) : Ct l g sg_X9_momentAt [.inr (.inr (.inr (.inr (7, z)))), .inl d, .inl m] M (fun o M' => M' = M ∧ o = .inl (some (.inl (e_mom (mI M z) d m)))) := by
  refine sem_of hl0 mt_X9_momentAt ok_X9_momentAt rfl (fun K hc hw => e_step rfl hc 80 [] ?_)
  repeat' (first | (with_reducible (intro h9; exact absurd rfl h9)) | (with_reducible (intro h9; exact absurd h9 e_10)) | (with_reducible intro _) | (refine And.intro ?_ ?_) | (refine e_fa (fun _ => ?_)))
  all_goals first | rfl | exact trivial | exact Nat.zero_le _ | exact (e_fit_01 _).1 | exact (e_fit_01 _).2 | exact vp_in_iff.mpr (by decide +kernel) | (with_reducible refine e_nz _ (by decide)) | skip
  refine Ct.mono (c_isSummer hl0 _ _ _) ?_
  rintro o M' ⟨rfl, rfl⟩
  repeat' (first | (with_reducible (intro h9; exact absurd rfl h9)) | (with_reducible (intro h9; exact absurd h9 e_10)) | (with_reducible intro _) | (refine And.intro ?_ ?_) | (refine e_fa (fun _ => ?_)))
  all_goals first | rfl | exact trivial | exact Nat.zero_le _ | exact (e_fit_01 _).1 | exact (e_fit_01 _).2 | exact vp_in_iff.mpr (by decide +kernel) | (with_reducible refine e_nz _ (by decide)) | skip
  · rename_i h1; rw [e_01_n] at h1; unfold e_mom; rw [if_neg h1]; simp
  · rename_i h1; rw [e_01_n, Classical.not_not] at h1; unfold e_mom; rw [if_pos h1]
set_option maxRecDepth 20000 in
theorem c_forgetDates (hl0 : l.stackTraces = false) (a : Nat) (M : EM) : Ct l g sg_X2_forgetDates [.inr (.inr (.inr (.inr (9, a))))] M (fun o M' => M' = sL (sL (sI (sI (sI M a 10 0) a 11 0) a 12 0) (a + 4) 0 0) (a + 4) 1 0 ∧ o = .inl none) := by
  refine sem_of hl0 mt_X2_forgetDates ok_X2_forgetDates rfl (fun K hc hw => e_step rfl hc 80 [] ?_)
  repeat' (first | (with_reducible (intro h9; exact absurd rfl h9)) | (with_reducible (intro h9; exact absurd h9 e_10)) | (with_reducible intro _) | (refine And.intro ?_ ?_) | (refine e_fa (fun _ => ?_)))
  all_goals first | rfl | exact trivial | exact Nat.zero_le _ | exact (e_fit_01 _).1 | exact (e_fit_01 _).2 | exact vp_in_iff.mpr (by decide +kernel) | (with_reducible refine e_nz _ (by decide)) | skip
set_option maxRecDepth 20000 in
theorem c_vanish (hl0 : l.stackTraces = false) (a : Nat) (M : EM) : Ct l g sg_X2_vanish [.inr (.inr (.inr (.inr (9, a))))] M (fun o M' => M' = sI (sI M a 0 0) a 9 (-1) ∧ o = .inl none) := by
  refine sem_of hl0 mt_X2_vanish ok_X2_vanish rfl (fun K hc hw => e_step rfl hc 80 [] ?_)
  repeat' (first | (with_reducible (intro h9; exact absurd rfl h9)) | (with_reducible (intro h9; exact absurd h9 e_10)) | (with_reducible intro _) | (refine And.intro ?_ ?_) | (refine e_fa (fun _ => ?_)))
  all_goals first | rfl | exact trivial | exact Nat.zero_le _ | exact (e_fit_01 _).1 | exact (e_fit_01 _).2 | exact vp_in_iff.mpr (by decide +kernel) | (with_reducible refine e_nz _ (by decide)) | skip
/-- a date more -/
def e_addx (t : Int32) (L : List Nat) (x : Int32) : List Nat := if nI L.length < t ∧ L.length < 30 ∧ 0 ≤ x ∧ x ≤ 1094 then L ++ [x.toNatClampNeg] else L
/-- the dates of an event -/
def eDt (M : EM) (a : Nat) (L : List Nat) : Prop := L.length ≤ 30 ∧ mI M a 10 = nI L.length ∧ ∀ j, j < L.length → mI M (a + 1) j = nI (L.getD j 0)
/-- only the dates are written -/
def e_sd (M M' : EM) (a : Nat) : Prop := (mP M', mN M', mT M', mA M') = (mP M, mN M, mT M, mA M) ∧ mL M' = mL M ∧ ∀ c j, ¬ c = a + 1 → ¬ (c = a ∧ j = 10) → mI M' c j = mI M c j
theorem e_sd.rf {M : EM} {a : Nat} : e_sd M M a := ⟨rfl, rfl, fun _ _ _ _ => rfl⟩
theorem e_sd.tr {M M' M'' : EM} {a : Nat} (h : e_sd M M' a) (h' : e_sd M' M'' a) : e_sd M M'' a := ⟨h'.1.trans h.1, h'.2.1.trans h.2.1, fun c j h1 h2 => (h'.2.2 c j h1 h2).trans (h.2.2 c j h1 h2)⟩
set_option maxRecDepth 20000 in
theorem c_addDate (hl0 : l.stackTraces = false) {a : Nat} {L : List Nat} (x : Int32) (M : EM) (hL : eDt M a L) : Ct l g sg_X2_addDate [.inr (.inr (.inr (.inr (9, a)))), .inl x] M (fun o M' => (e_sd M M' a ∧ eDt M' a (e_addx (mI M a 8) L x)) ∧ o = .inl none) := by
  refine sem_of hl0 mt_X2_addDate ok_X2_addDate rfl (fun K hc hw => e_step rfl hc 80 [] ?_)
  have hL0 := hL
  obtain ⟨h1, h2, h3⟩ := hL
  have n1 := nI_toInt (n := L.length) (by omega)
  have e30 : (30 : Int32).toInt = 30 := rfl
  have e0 : (0 : Int32).toInt = 0 := rfl
  have e1094 : (1094 : Int32).toInt = 1094 := rfl
  by_cases hq : nI L.length < mI M a 8 ∧ L.length < 30 ∧ 0 ≤ x ∧ x ≤ 1094
  · rw [show e_addx (mI M a 8) L x = L ++ [x.toNatClampNeg] from if_pos hq]
    obtain ⟨q1, q2, q3, q4⟩ := hq
    repeat' (first | (with_reducible (intro h9; exact absurd rfl h9)) | (with_reducible (intro h9; exact absurd h9 e_10)) | (with_reducible intro _) | (refine And.intro ?_ ?_) | (refine e_fa (fun _ => ?_)))
    all_goals first | rfl | exact trivial | exact Nat.zero_le _ | exact (e_fit_01 _).1 | exact (e_fit_01 _).2 | exact vp_in_iff.mpr (by decide +kernel) | (with_reducible refine e_nz _ (by decide)) | skip
    all_goals (simp only [h2, Int32.le_iff_toInt_le, Int32.lt_iff_toInt_lt] at *; try (exfalso; omega))
    all_goals (try rw [nI_clamp (by omega)] at *)
    · exact vp_in_nI q2 (by omega)
    · (try simp (disch := omega) only [mI_sI2, mI_sL, mI_sP, mI_sN, mI_sIr, mI_sLr, mL_sI, mL_sL2, mL_sP, mL_sN, mL_sIr, mL_sLr, mP_sI, mP_sL, mP_sN, mP_sIr, mP_sLr, mP_sP, if_pos, if_neg, and_self, if_true, and_true, true_and])
    · simp; omega
    · (try simp (disch := omega) only [mI_sI2, mI_sL, mI_sP, mI_sN, mI_sIr, mI_sLr, mL_sI, mL_sL2, mL_sP, mL_sN, mL_sIr, mL_sLr, mP_sI, mP_sL, mP_sN, mP_sIr, mP_sLr, mP_sP, if_pos, if_neg, and_self, if_true, and_true, true_and])
      rw [hL0.2.1]; simp [nI_1]
    · rename_i j hj b1 b2 b3 b4
      simp only [List.length_append, List.length_singleton] at hj
      by_cases hj2 : j = L.length
      · subst hj2
        (try simp (disch := omega) only [mI_sI2, mI_sL, mI_sP, mI_sN, mI_sIr, mI_sLr, mL_sI, mL_sL2, mL_sP, mL_sN, mL_sIr, mL_sLr, mP_sI, mP_sL, mP_sN, mP_sIr, mP_sLr, mP_sP, if_pos, if_neg, and_self, if_true, and_true, true_and])
        have hx := vp_in_of (x := x) (n := 1095) (vp_in_iff.mpr (by omega)) (by omega)
        obtain ⟨i, hi, rfl⟩ := hx
        rw [nI_clamp (by omega)]; simp
      · (try simp (disch := omega) only [mI_sI2, mI_sL, mI_sP, mI_sN, mI_sIr, mI_sLr, mL_sI, mL_sL2, mL_sP, mL_sN, mL_sIr, mL_sLr, mP_sI, mP_sL, mP_sN, mP_sIr, mP_sLr, mP_sP, if_pos, if_neg, and_self, if_true, and_true, true_and])
        rw [h3 j (by omega)]
        simp only [List.getD_eq_getElem?_getD]
        rw [List.getElem?_append_left (by omega)]
  · rw [show e_addx (mI M a 8) L x = L from if_neg hq]
    repeat' (first | (with_reducible (intro h9; exact absurd rfl h9)) | (with_reducible (intro h9; exact absurd h9 e_10)) | (with_reducible intro _) | (refine And.intro ?_ ?_) | (refine e_fa (fun _ => ?_)))
    all_goals first | rfl | exact trivial | exact Nat.zero_le _ | exact (e_fit_01 _).1 | exact (e_fit_01 _).2 | exact vp_in_iff.mpr (by decide +kernel) | (with_reducible refine e_nz _ (by decide)) | skip
    all_goals first | exact h1 | exact h2 | (exact h3 _ (by assumption)) | skip
    all_goals exact absurd ⟨by simp only [h2, Int32.le_iff_toInt_le, Int32.lt_iff_toInt_lt] at *; omega, by simp only [h2, Int32.le_iff_toInt_le, Int32.lt_iff_toInt_lt] at *; omega, by simp only [Int32.le_iff_toInt_le, Int32.lt_iff_toInt_lt] at *; omega, by simp only [Int32.le_iff_toInt_le, Int32.lt_iff_toInt_lt] at *; omega⟩ hq
end
