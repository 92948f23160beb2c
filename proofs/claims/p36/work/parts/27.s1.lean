/-! CONTRACTS: memory read back; the small statics; days. -/
section
variable {l : Launch} {g : EG}
theorem mI_sI {M : EM} {a k b j : Nat} {v : Int32} : mI (sI M a k v) b j = if b = a then (if j = k then v else mI M b j) else mI M b j := rfl
theorem mI_sL {M : EM} {a k : Nat} {v : Int64} : mI (sL M a k v) = mI M := rfl
theorem mI_sP {M : EM} {a k : Nat} {v : Nat} : mI (sP M a k v) = mI M := rfl
theorem mI_sN {M : EM} {n : Nat} : mI (sN M n) = mI M := rfl
theorem mI_sLr {M : EM} {a : Nat} {v : Nat → Int64} : mI (sLr M a v) = mI M := rfl
theorem mI_sIr {M : EM} {a b j : Nat} {v : Nat → Int32} : mI (sIr M a v) b j = if b = a then v j else mI M b j := rfl
theorem mL_sI {M : EM} {a k : Nat} {v : Int32} : mL (sI M a k v) = mL M := rfl
theorem mL_sL {M : EM} {a k b j : Nat} {v : Int64} : mL (sL M a k v) b j = if b = a then (if j = k then v else mL M b j) else mL M b j := rfl
theorem mL_sP {M : EM} {a k : Nat} {v : Nat} : mL (sP M a k v) = mL M := rfl
theorem mL_sN {M : EM} {n : Nat} : mL (sN M n) = mL M := rfl
theorem mL_sIr {M : EM} {a : Nat} {v : Nat → Int32} : mL (sIr M a v) = mL M := rfl
theorem mL_sLr {M : EM} {a b j : Nat} {v : Nat → Int64} : mL (sLr M a v) b j = if b = a then v j else mL M b j := rfl
theorem mP_sI {M : EM} {a k : Nat} {v : Int32} : mP (sI M a k v) = mP M := rfl
theorem mP_sL {M : EM} {a k : Nat} {v : Int64} : mP (sL M a k v) = mP M := rfl
theorem mP_sN {M : EM} {n : Nat} : mP (sN M n) = mP M := rfl
theorem mP_sIr {M : EM} {a : Nat} {v : Nat → Int32} : mP (sIr M a v) = mP M := rfl
theorem mP_sLr {M : EM} {a : Nat} {v : Nat → Int64} : mP (sLr M a v) = mP M := rfl
theorem mP_sP {M : EM} {a k b j : Nat} {v : Nat} : mP (sP M a k v) b j = if b = a then (if j = k then some v else mP M b j) else mP M b j := rfl
theorem e_10 : ¬ (1 : Int32) = 0 := by decide
theorem e_nz (y : Int32) (h : ¬ y = 0) : ¬ y = 0 := h
theorem e_fa {P : Nat → Prop} (h : ∀ a, P a) : ∀ a, P a := h
theorem n_lit (n : Nat) : (OfNat.ofNat n : Int32) = nI n := rfl
def e_01 (c : Prop) [Decidable c] : Int32 := if c then 1 else 0
theorem e_01_n {c : Prop} [Decidable c] : e_01 c = 0 ↔ ¬ c := by unfold e_01; split <;> simp_all
theorem e_01_t {c : Prop} [Decidable c] (h : c) : e_01 c = 1 := if_pos h
theorem e_01_f {c : Prop} [Decidable c] (h : ¬ c) : e_01 c = 0 := if_neg h
theorem e_01_c {c d : Prop} [Decidable c] [Decidable d] (h : c ↔ d) : e_01 c = e_01 d := by unfold e_01; simp [h]
theorem e_fit_01 (c : Prop) [Decidable c] : narrow FieldType.boolean (.int (e_01 c)) = .int (e_01 c) ∧ fits FieldType.boolean (.int (e_01 c)) = true := by
  unfold e_01; split <;> exact ⟨by decide, by decide⟩
def e_mst (m : Nat) : Nat := [0, 31, 59, 90, 120, 151, 181, 212, 243, 273, 304, 334, 365].getD m 0
/-- the month of a day of the year, from 0 -/
def e_mon (d : Nat) : Nat := ((List.range 11).filter (fun m => Nat.ble (e_mst (m + 1)) d)).length
set_option maxRecDepth 20000 in
theorem e_mon_all : ∀ d, d < 365 → (e_mon d < 12 ∧ e_mst (e_mon d) ≤ d ∧ d < e_mst (e_mon d + 1)) ∧ ∀ m, m < 12 → e_mst m ≤ d → (m = 11 ∨ d < e_mst (m + 1)) → m = e_mon d := by decide +kernel
theorem e_month_n : ∀ m, m < 13 → e_month m = nI (e_mst m) := by decide +kernel
theorem e_mst_le : ∀ m, m < 13 → e_mst m ≤ 365 := by decide +kernel
set_option maxRecDepth 20000 in
theorem c_isWithin (hl0 : l.stackTraces = false) (n lo hi : Int32) (M : EM) : Ct l g sg_X10_isWithin [.inl n, .inl lo, .inl hi] M (fun o M' => M' = M ∧ o = .inl (some (.inl (e_01 (lo ≤ n ∧ n ≤ hi))))) := by
  refine sem_of hl0 mt_X10_isWithin ok_X10_isWithin rfl (fun K hc hw => e_step rfl hc 80 [] ?_)
  repeat' (first | (with_reducible (intro h9; exact absurd rfl h9)) | (with_reducible (intro h9; exact absurd h9 e_10)) | (with_reducible intro _) | (refine And.intro ?_ ?_) | (refine e_fa (fun _ => ?_)))
  all_goals first | rfl | exact Nat.zero_le _ | exact (e_fit_01 _).1 | exact (e_fit_01 _).2 | skip
  all_goals rename_i h1
  all_goals first | (rw [e_01_t ⟨by assumption, by assumption⟩]) | (rw [e_01_f]; intro h; simp only [Int32.le_iff_toInt_le, Int32.lt_iff_toInt_lt] at *; omega) | (rw [e_01_t]; simp only [Int32.le_iff_toInt_le, Int32.lt_iff_toInt_lt] at *; constructor <;> omega)
set_option maxRecDepth 20000 in
theorem c_hasBit (hl0 : l.stackTraces = false) (b k : Int32) (M : EM) : Ct l g sg_X10_hasBit [.inl b, .inl k] M (fun o M' => M' = M ∧ o = .inl (some (.inl (e_01 (¬ (b >>> (k &&& 31)) &&& 1 = 0))))) := by
  refine sem_of hl0 mt_X10_hasBit ok_X10_hasBit rfl (fun K hc hw => e_step rfl hc 80 [] ?_)
  repeat' (first | (with_reducible (intro h9; exact absurd rfl h9)) | (with_reducible (intro h9; exact absurd h9 e_10)) | (with_reducible intro _) | (refine And.intro ?_ ?_) | (refine e_fa (fun _ => ?_)))
  all_goals first | rfl | exact Nat.zero_le _ | exact (e_fit_01 _).1 | exact (e_fit_01 _).2 | skip
  all_goals (rename_i h1; first | (rw [e_01_t h1]) | (rw [e_01_f (not_not_intro h1)]))
set_option maxRecDepth 20000 in
theorem c_isDay (hl0 : l.stackTraces = false) (n : Int32) (M : EM) : Ct l g sg_X1_isDay [.inl n] M (fun o M' => M' = M ∧ o = .inl (some (.inl (e_01 (0 ≤ n ∧ n ≤ 1094))))) := by
  refine sem_of hl0 mt_X1_isDay ok_X1_isDay rfl (fun K hc hw => e_step rfl hc 80 [] ?_)
  repeat' (first | (with_reducible (intro h9; exact absurd rfl h9)) | (with_reducible (intro h9; exact absurd h9 e_10)) | (with_reducible intro _) | (refine And.intro ?_ ?_) | (refine e_fa (fun _ => ?_)))
  refine Ct.mono (c_isWithin hl0 _ _ _ _) ?_
  rintro o M' ⟨rfl, rfl⟩
  repeat' (first | (with_reducible (intro h9; exact absurd rfl h9)) | (with_reducible (intro h9; exact absurd h9 e_10)) | (with_reducible intro _) | (refine And.intro ?_ ?_) | (refine e_fa (fun _ => ?_)))
  all_goals first | rfl | exact Nat.zero_le _ | exact (e_fit_01 _).1 | exact (e_fit_01 _).2 | skip
set_option maxRecDepth 20000 in
theorem c_isDayOfYear (hl0 : l.stackTraces = false) (n : Int32) (M : EM) : Ct l g sg_X1_isDayOfYear [.inl n] M (fun o M' => M' = M ∧ o = .inl (some (.inl (e_01 (0 ≤ n ∧ n ≤ 364))))) := by
  refine sem_of hl0 mt_X1_isDayOfYear ok_X1_isDayOfYear rfl (fun K hc hw => e_step rfl hc 80 [] ?_)
  repeat' (first | (with_reducible (intro h9; exact absurd rfl h9)) | (with_reducible (intro h9; exact absurd h9 e_10)) | (with_reducible intro _) | (refine And.intro ?_ ?_) | (refine e_fa (fun _ => ?_)))
  refine Ct.mono (c_isWithin hl0 _ _ _ _) ?_
  rintro o M' ⟨rfl, rfl⟩
  repeat' (first | (with_reducible (intro h9; exact absurd rfl h9)) | (with_reducible (intro h9; exact absurd h9 e_10)) | (with_reducible intro _) | (refine And.intro ?_ ?_) | (refine e_fa (fun _ => ?_)))
  all_goals first | rfl | exact Nat.zero_le _ | exact (e_fit_01 _).1 | exact (e_fit_01 _).2 | skip
set_option maxRecDepth 20000 in
theorem c_isMinute (hl0 : l.stackTraces = false) (n : Int32) (M : EM) : Ct l g sg_X1_isMinute [.inl n] M (fun o M' => M' = M ∧ o = .inl (some (.inl (e_01 (0 ≤ n ∧ n ≤ 1439))))) := by
  refine sem_of hl0 mt_X1_isMinute ok_X1_isMinute rfl (fun K hc hw => e_step rfl hc 80 [] ?_)
  repeat' (first | (with_reducible (intro h9; exact absurd rfl h9)) | (with_reducible (intro h9; exact absurd h9 e_10)) | (with_reducible intro _) | (refine And.intro ?_ ?_) | (refine e_fa (fun _ => ?_)))
  refine Ct.mono (c_isWithin hl0 _ _ _ _) ?_
  rintro o M' ⟨rfl, rfl⟩
  repeat' (first | (with_reducible (intro h9; exact absurd rfl h9)) | (with_reducible (intro h9; exact absurd h9 e_10)) | (with_reducible intro _) | (refine And.intro ?_ ?_) | (refine e_fa (fun _ => ?_)))
  all_goals first | rfl | exact Nat.zero_le _ | exact (e_fit_01 _).1 | exact (e_fit_01 _).2 | skip
set_option maxRecDepth 20000 in
theorem c_isSide (hl0 : l.stackTraces = false) (n : Int32) (M : EM) : Ct l g sg_X10_isSide [.inl n] M (fun o M' => M' = M ∧ o = .inl (some (.inl (e_01 (0 ≤ n ∧ n ≤ 1))))) := by
  refine sem_of hl0 mt_X10_isSide ok_X10_isSide rfl (fun K hc hw => e_step rfl hc 80 [] ?_)
  repeat' (first | (with_reducible (intro h9; exact absurd rfl h9)) | (with_reducible (intro h9; exact absurd h9 e_10)) | (with_reducible intro _) | (refine And.intro ?_ ?_) | (refine e_fa (fun _ => ?_)))
  refine Ct.mono (c_isWithin hl0 _ _ _ _) ?_
  rintro o M' ⟨rfl, rfl⟩
  repeat' (first | (with_reducible (intro h9; exact absurd rfl h9)) | (with_reducible (intro h9; exact absurd h9 e_10)) | (with_reducible intro _) | (refine And.intro ?_ ?_) | (refine e_fa (fun _ => ?_)))
  all_goals first | rfl | exact Nat.zero_le _ | exact (e_fit_01 _).1 | exact (e_fit_01 _).2 | skip
set_option maxRecDepth 20000 in
theorem c_yearOf (hl0 : l.stackTraces = false) {d : Nat} (hd : d < 1095) (M : EM) : Ct l g sg_X1_yearOf [.inl (nI d)] M (fun o M' => M' = M ∧ o = .inl (some (.inl (nI (d / 365))))) := by
  refine sem_of hl0 mt_X1_yearOf ok_X1_yearOf rfl (fun K hc hw => e_step rfl hc 80 [] ?_)
  repeat' (first | (with_reducible (intro h9; exact absurd rfl h9)) | (with_reducible (intro h9; exact absurd h9 e_10)) | (with_reducible intro _) | (refine And.intro ?_ ?_) | (refine e_fa (fun _ => ?_)))
  all_goals first | rfl | exact Nat.zero_le _ | (show Sum.inl (some (Sum.inl (nI d / nI 365))) = _; rw [pk_div (by omega) (by omega) (by omega)]) | (intro h; cases h)
set_option maxRecDepth 20000 in
theorem c_weekdayOf (hl0 : l.stackTraces = false) {d : Nat} (hd : d < 1095) (M : EM) : Ct l g sg_X1_weekdayOf [.inl (nI d)] M (fun o M' => M' = M ∧ o = .inl (some (.inl (nI (d % 7))))) := by
  refine sem_of hl0 mt_X1_weekdayOf ok_X1_weekdayOf rfl (fun K hc hw => e_step rfl hc 80 [] ?_)
  repeat' (first | (with_reducible (intro h9; exact absurd rfl h9)) | (with_reducible (intro h9; exact absurd h9 e_10)) | (with_reducible intro _) | (refine And.intro ?_ ?_) | (refine e_fa (fun _ => ?_)))
  all_goals first | rfl | exact Nat.zero_le _ | (show Sum.inl (some (Sum.inl (nI d - nI d / nI 7 * nI 7))) = _; rw [pk_rem (by omega) (by omega) (by omega)]) | (intro h; cases h)
set_option maxRecDepth 20000 in
theorem c_monthOf (hl0 : l.stackTraces = false) {d : Nat} (hd : d < 1095) (M : EM) : Ct l g sg_X1_monthOf [.inl (nI d)] M (fun o M' => M' = M ∧ o = .inl (some (.inl (nI (e_mon (d % 365)))))) := by
  refine sem_of hl0 mt_X1_monthOf ok_X1_monthOf rfl (fun K hc hw => ?_)
  have hd2 : d % 365 < 365 := Nat.mod_lt _ (by decide)
  obtain ⟨⟨e1, e2, e3⟩, e4⟩ := e_mon_all _ hd2
  have loop : ∀ (n m : Nat), m + n = 11 → e_mst m ≤ d % 365 → K 8 [some (.inl (nI d)), some (.inl (nI (d % 365))), some (.inl (nI m))] [] M 0 0 := by
    intro n
    induction n with
    | zero =>
      intro m hm h1
      refine e_step rfl hc 60 [8] ?_
      repeat' (first | (with_reducible (intro h9; exact absurd rfl h9)) | (with_reducible (intro h9; exact absurd h9 e_10)) | (with_reducible intro _) | (refine And.intro ?_ ?_) | (refine e_fa (fun _ => ?_)))
      all_goals first | rfl | exact Nat.zero_le _ | skip
      all_goals rename_i h2
      · show Sum.inl (some (Sum.inl (nI m))) = _
        rw [← e4 m (by omega) h1 (Or.inl (by omega))]
      all_goals exact absurd (nI_le (show 11 ≤ m by omega) (by omega)) (by assumption)
    | succ n ih =>
      intro m hm h1
      refine e_step rfl hc 60 [8] ?_
      repeat' (first | (with_reducible (intro h9; exact absurd rfl h9)) | (with_reducible (intro h9; exact absurd h9 e_10)) | (with_reducible intro _) | (refine And.intro ?_ ?_) | (refine e_fa (fun _ => ?_)))
      all_goals first | rfl | exact Nat.zero_le _ | exact (e_fit_01 _).1 | exact (e_fit_01 _).2 | skip
      all_goals (try simp (disch := omega) only [n_lit, ↓pk_rem, pk_div, pk_mul, pk_sub, nI_leI, nI_ltI, nI_eq, nI_add, nI_clamp, Nat.not_le, Nat.not_lt] at *)
      all_goals first | omega | exact vp_in_nI (by omega) (by omega) | skip
      · rename_i h2
        have h3 := e_mst_le (m + 1) (by omega)
        simp (disch := omega) only [e_month_n, nI_ltI] at h2
        rw [← e4 m (by omega) h1 (Or.inr h2)]
      · rename_i h2
        have h3 := e_mst_le (m + 1) (by omega)
        simp (disch := omega) only [e_month_n, nI_ltI, Nat.not_lt] at h2
        show K 8 [some (.inl (nI d)), some (.inl (nI (d % 365))), some (.inl (nI m + 1))] [] M 0 0
        rw [nI_1]
        exact ih (m + 1) (by omega) h2
  refine e_step rfl hc 60 [8] ?_
  repeat' (first | (with_reducible (intro h9; exact absurd rfl h9)) | (with_reducible (intro h9; exact absurd h9 e_10)) | (with_reducible intro _) | (refine And.intro ?_ ?_) | (refine e_fa (fun _ => ?_)))
  · intro h; cases h
  · show K 8 [some (.inl (nI d)), some (.inl (nI d - nI d / nI 365 * nI 365)), some (.inl (nI 0))] [] M 0 0
    rw [pk_rem (by omega) (by omega) (by omega)]
    exact loop 11 0 rfl (Nat.zero_le _)
set_option maxRecDepth 20000 in
theorem c_dayOfMonth (hl0 : l.stackTraces = false) {d : Nat} (hd : d < 1095) (M : EM) : Ct l g sg_X1_dayOfMonth [.inl (nI d)] M (fun o M' => M' = M ∧ o = .inl (some (.inl (nI (d % 365 - e_mst (e_mon (d % 365)) + 1))))) := by
  refine sem_of hl0 mt_X1_dayOfMonth ok_X1_dayOfMonth rfl (fun K hc hw => e_step rfl hc 80 [] ?_)
  repeat' (first | (with_reducible (intro h9; exact absurd rfl h9)) | (with_reducible (intro h9; exact absurd h9 e_10)) | (with_reducible intro _) | (refine And.intro ?_ ?_) | (refine e_fa (fun _ => ?_)))
  · intro h; cases h
  · refine Ct.mono (c_monthOf hl0 hd _) ?_
    rintro o M' ⟨rfl, rfl⟩
    repeat' (first | (with_reducible (intro h9; exact absurd rfl h9)) | (with_reducible (intro h9; exact absurd h9 e_10)) | (with_reducible intro _) | (refine And.intro ?_ ?_) | (refine e_fa (fun _ => ?_)))
    all_goals first | rfl | exact Nat.zero_le _ | exact (e_fit_01 _).1 | exact (e_fit_01 _).2 | skip
    all_goals have hd2 : d % 365 < 365 := Nat.mod_lt _ (by decide)
    all_goals obtain ⟨⟨e1, e2, e3⟩, e4⟩ := e_mon_all _ hd2
    · exact vp_in_nI (by omega) (by omega)
    · show Sum.inl (some (Sum.inl (nI d - nI d / nI 365 * nI 365 - e_month (nI (e_mon (d % 365))).toNatClampNeg + nI 1))) = _
      rw [pk_rem (by omega) (by omega) (by omega), nI_clamp (by omega), e_month_n _ (by omega), pk_sub e2, nI_add]
/-- the first day of a month counted through the years, and its length -/
def e_mlen (m : Nat) : Nat := e_mst (m % 12 + 1) - e_mst (m % 12)
theorem e_mst_lt : ∀ m, m < 12 → e_mst m < e_mst (m + 1) := by decide +kernel
set_option maxRecDepth 20000 in
theorem c_dayInMonth (hl0 : l.stackTraces = false) {k D : Nat} (hk : k < 1000) (hD : D < 1000) (h1 : 1 ≤ D) (M : EM) : Ct l g sg_X1_dayInMonth [.inl (nI k), .inl (nI D)] M (fun o M' => M' = M ∧ o = .inl (some (.inl (if k < 36 ∧ D ≤ e_mlen k then nI (k / 12 * 365 + e_mst (k % 12) + D - 1) else (-1))))) := by
  refine sem_of hl0 mt_X1_dayInMonth ok_X1_dayInMonth rfl (fun K hc hw => e_step rfl hc 80 [] ?_)
  repeat' (first | (with_reducible (intro h9; exact absurd rfl h9)) | (with_reducible (intro h9; exact absurd h9 e_10)) | (with_reducible intro _) | (refine And.intro ?_ ?_) | (refine e_fa (fun _ => ?_)))
  all_goals first | rfl | exact Nat.zero_le _ | exact (e_fit_01 _).1 | exact (e_fit_01 _).2 | skip
  all_goals (try simp (disch := omega) only [n_lit, ↓pk_rem, pk_div, pk_mul, pk_sub, nI_leI, nI_ltI, nI_eq, nI_add, nI_clamp, Nat.not_le, Nat.not_lt] at *)
  all_goals first | omega | exact vp_in_nI (by omega) (by omega) | skip
  all_goals (try simp (disch := omega) only [e_month_n, pk_sub, nI_leI, nI_ltI, nI_add, pk_mul] at *)
  all_goals have h5 := e_mst_lt (k % 12) (Nat.mod_lt _ (by decide))
  all_goals have h6 := e_mst_le (k % 12 + 1) (by have := Nat.mod_lt k (show 0 < 12 by decide); omega)
  all_goals have h7 : k - k / 12 * 12 = k % 12 := by omega
  all_goals (try simp only [h7] at *)
  all_goals rename_i h8
  · rw [pk_sub (by omega), nI_leI (by omega) (by omega)] at h8
    rw [if_pos ⟨by omega, h8⟩]
  · rw [pk_sub (by omega), nI_leI (by omega) (by omega)] at h8
    rw [if_neg (fun h => h8 h.2)]
  · rw [if_neg (by omega)]
end
