/-! THE REFERENCE: the dates of a rule. -/
section
variable {l : Launch} {g : EG}
/-- the reference's dates are L -/
def dF (F : FM) (L : List Nat) : FM := fun a b => if a = 0 ∧ b = 8 then nI L.length else if a = 5 ∧ b < L.length then nI (L.getD b 0) else F a b
theorem dF_8 {F : FM} {L : List Nat} : dF F L 0 8 = nI L.length := rfl
theorem dF_5 {F : FM} {L : List Nat} {k : Nat} (h : k < L.length) : dF F L 5 k = nI (L.getD k 0) := by simp [dF, h]
theorem dF_r {F : FM} {L : List Nat} {i : Nat} (h : ¬ i = 0) (h5 : ¬ i = 5) : dF F L i = F i := by funext b; simp [dF, h, h5]
theorem dF_f {F : FM} {L : List Nat} {j : Nat} (h : ¬ j = 8) : dF F L 0 j = F 0 j := by simp [dF, h]
theorem dF_nil {F : FM} : upF F 0 8 0 = dF F [] := by
  funext a b
  unfold upF dF
  by_cases h : a = 0 ∧ b = 8
  · rw [if_pos h, if_pos h]; rfl
  · rw [if_neg h, if_neg h, if_neg (by simp)]
theorem dF_nil0 {F : FM} : upF F 0 8 (nI 0) = dF F [] := dF_nil
theorem dF_add {F : FM} {L : List Nat} {x : Nat} : upF (upF (dF F L) 5 L.length (nI x)) 0 8 (nI (L.length + 1)) = dF F (L ++ [x]) := by
  funext a b
  unfold upF dF
  by_cases h : a = 0 ∧ b = 8
  · rw [if_pos h, if_pos h, List.length_append]; rfl
  · rw [if_neg h, if_neg h, if_neg h]
    by_cases h5 : a = 5
    · subst h5
      by_cases hb : b = L.length
      · subst hb; simp
      · by_cases hb2 : b < L.length
        · simp [hb, hb2, show b < L.length + 1 by omega, List.getElem?_append_left hb2]
        · simp [hb, hb2, show ¬ b < L.length + 1 by omega]
    · simp [h5]
theorem dF_dF {F : FM} {L L' : List Nat} (h : L'.length = 0 ∨ L.length ≤ L'.length) : dF (dF F L) L' = dF F L' ∨ True := Or.inr trivial
theorem e_addx_n {t : Nat} {L : List Nat} {x : Nat} (ht : t ≤ 30) (hx : x < 2 ^ 31) (hL : L.length ≤ 30) : e_addx (nI t) L (nI x) = if x ≤ 1094 ∧ L.length < t then L ++ [x] else L := by
  unfold e_addx
  have h1 : (nI L.length < nI t ∧ L.length < 30 ∧ 0 ≤ nI x ∧ nI x ≤ 1094) ↔ (x ≤ 1094 ∧ L.length < t) := by
    rw [nI_ltI (by omega) (by omega), show (1094 : Int32) = nI 1094 from rfl, nI_leI hx (by omega)]
    constructor
    · rintro ⟨a, b, c, d⟩; exact ⟨d, a⟩
    · rintro ⟨a, b⟩; exact ⟨b, by omega, nI_pos' hx, a⟩
  by_cases h : x ≤ 1094 ∧ L.length < t
  · rw [if_pos h, if_pos (h1.mpr h), nI_clamp hx]
  · rw [if_neg h, if_neg (fun q => h (h1.mp q))]
theorem e_addx_le {t : Int32} {L : List Nat} {x : Int32} (hL : L.length ≤ 30) : (e_addx t L x).length ≤ 30 := by
  unfold e_addx; split
  · rw [List.length_append, List.length_singleton]; omega
  · exact hL
theorem e_fold_le {t : Int32} {f : Nat → Int32} : ∀ k, (e_fold t f k).length ≤ 30
  | 0 => Nat.zero_le _
  | k + 1 => e_addx_le (e_fold_le k)
theorem e_fold_ge {t : Int32} {f : Nat → Int32} {k : Nat} : ∀ n, (∀ j, k ≤ j → j < k + n → e_addx t (e_fold t f j) (f j) = e_fold t f j) → e_fold t f (k + n) = e_fold t f k
  | 0, _ => rfl
  | n + 1, h => by
    rw [← Nat.add_assoc, e_fold_s, h (k + n) (by omega) (by omega)]
    exact e_fold_ge n (fun j h1 h2 => h j h1 (by omega))
theorem e_fold_len {t : Nat} (ht : t ≤ 30) {f : Nat → Nat} : ∀ k, k ≤ t → (∀ j, j < k → f j ≤ 1094) → (e_fold (nI t) (fun j => nI (f j)) k).length = k
  | 0, _, _ => rfl
  | k + 1, h, hf => by
    have ih := e_fold_len ht (f := f) k (by omega) (fun j hj => hf j (by omega))
    rw [e_fold_s, e_addx_n ht (by have := hf k (by omega); omega) (by omega), if_pos ⟨hf k (by omega), by omega⟩, List.length_append, ih]
    rfl
/-- days one after the other, up to the last one -/
theorem e_fold_days {t d n K : Nat} (ht : t ≤ 30) (hK : d + K * n > 1094) (h0 : ∀ j, j < K → d + j * n ≤ 1094) (hK2 : K ≤ 1095) (hn : n ≤ 9) (hd : d < 1095) : e_fold (nI t) (fun j => nI (d + j * n)) K = e_fold (nI t) (fun j => nI (d + j * n)) t := by
  have hb : ∀ j, j ≤ 1095 → d + j * n < 2 ^ 31 := fun j hj => by
    have := Nat.mul_le_mul hj hn
    omega
  by_cases hKt : K ≤ t
  · have := e_fold_ge (t := nI t) (f := fun j => nI (d + j * n)) (k := K) (t - K) (fun j h1 h2 => by
      have hm : K * n ≤ j * n := Nat.mul_le_mul_right n h1
      show e_addx (nI t) _ (nI (d + j * n)) = _
      rw [e_addx_n ht (hb j (by omega)) (e_fold_le j), if_neg (by omega)])
    rw [show K + (t - K) = t by omega] at this
    exact this.symm
  · have hl := e_fold_len ht (f := fun j => d + j * n) t (Nat.le_refl _) (fun j hj => h0 j (by omega))
    have key : ∀ i, i ≤ K - t → e_fold (nI t) (fun j => nI (d + j * n)) (t + i) = e_fold (nI t) (fun j => nI (d + j * n)) t := by
      intro i
      induction i with
      | zero => intro _; rfl
      | succ i ih =>
        intro hi
        have ih := ih (by omega)
        rw [← Nat.add_assoc, e_fold_s, ih, e_addx_n ht (hb _ (by omega)) (by omega), if_neg (by omega)]
    have := key (K - t) (Nat.le_refl _)
    rw [show t + (K - t) = K by omega] at this
    exact this
/-- a rule's fields are in their ranges -/
def rOk (r : Nat → Int32) : Prop := ∃ d kd n t, r 1 = nI d ∧ r 5 = nI kd ∧ r 6 = nI n ∧ r 8 = nI t ∧ d < 1095 ∧ kd ≤ 3 ∧ n ≤ 9 ∧ (kd = 0 ∨ 1 ≤ n) ∧ 1 ≤ t ∧ t ≤ 30
/-- the dates of a rule -/
def rDt (r : Nat → Int32) : List Nat := e_dts (r 5).toNatClampNeg (r 1).toNatClampNeg (r 6).toNatClampNeg (r 8).toNatClampNeg (r 7)
theorem rDt_le (r : Nat → Int32) : (rDt r).length ≤ 30 := by
  unfold rDt e_dts
  split
  · exact Nat.le_add_left 1 29
  · exact e_fold_le _
  · exact e_fold_le _
  · exact e_fold_le _
abbrev e_wkc (d n w k : Int32) : Prop := (k / 7 - d / 7) - (k / 7 - d / 7) / n * n = 0 ∧ e_bit w (k - k / 7 * 7)
set_option maxRecDepth 20000 in
theorem cr_adds (hl0 : l.stackTraces = false) (M : EM) {m x t : Nat} (F : FM) {L : List Nat} (hx : x < 2 ^ 31) (ht : t ≤ 30) (hL : L.length ≤ 30) : Ct l g sg_X11_adds [.inr (.inr (.inr (.inr (30, m)))), .inl (nI x), .inl (nI t)] (rM M m (dF F L)) (fun o M' => M' = rM M m (dF F (e_addx (nI t) L (nI x))) ∧ o = .inl none) := by
  refine sem_of hl0 mt_X11_adds ok_X11_adds rfl (fun K hc hw => e_step rfl hc 80 [] ?_)
  clear hc hw
  repeat' (first | (with_reducible (intro h9; exact absurd rfl h9)) | (with_reducible (intro h9; exact absurd h9 e_10)) | (with_reducible intro _) | (refine And.intro ?_ ?_) | (with_reducible refine e_sw_nil ?_))
  all_goals first | (with_reducible refine e_goK ?_) | (with_reducible refine e_ctK ?_) | (with_reducible refine vp_inK ?_; (try simp (disch := omega) only [mI_rM0, mI_rM1, mI_rM2, mI_rM3, mI_rM4, mI_rM5, mI_rM6, mI_rM7, mI_rM8, mI_rM9, mI_rM10, mI_rM11, mI_rM12, mI_rM13, sI_rM0, sI_rM1, sI_rM2, sI_rM3, sI_rM4, sI_rM5, sI_rM6, sI_rM7, sI_rM8, sI_rM9, sI_rM10, sI_rM11, sI_rM12, sI_rM13, ix_0, ix_1, ix_2, ix_3, ix_4, ix_5, ix_6, ix_7, ix_8, ix_9, ix_10, ix_11, ix_12, ix_13, ix_14, ix_15, ix_16, ix_20, ix_23, ix_24, ix_30, ix_36, ix_46, ix_76, mx_4, mx_6, mx_30, mx_136, mx_1100, mx_3324, nI_add, pk_mul, nI_clamp]); exact vp_in_nI (by omega) (by omega)) | rfl | exact trivial | exact Nat.zero_le _ | exact (e_fit_01 _).1 | exact (e_fit_01 _).2 | (with_reducible refine vp_in_iff.mpr ?_; decide +kernel) | (with_reducible refine e_nz _ (by decide)) | decide | skip
  all_goals (try simp only [mI_rM0, mI_rM1, mI_rM2, mI_rM3, mI_rM4, mI_rM5, mI_rM6, mI_rM7, mI_rM8, mI_rM9, mI_rM10, mI_rM11, mI_rM12, mI_rM13, sI_rM0, sI_rM1, sI_rM2, sI_rM3, sI_rM4, sI_rM5, sI_rM6, sI_rM7, sI_rM8, sI_rM9, sI_rM10, sI_rM11, sI_rM12, sI_rM13])
  all_goals (simp only [mI_rM0, mI_rM1, mI_rM2, mI_rM3, mI_rM4, mI_rM5, mI_rM6, mI_rM7, mI_rM8, mI_rM9, mI_rM10, mI_rM11, mI_rM12, mI_rM13, sI_rM0, sI_rM1, sI_rM2, sI_rM3, sI_rM4, sI_rM5, sI_rM6, sI_rM7, sI_rM8, sI_rM9, sI_rM10, sI_rM11, sI_rM12, sI_rM13, dF_8, show (1094 : Int32) = nI 1094 from rfl, nI_leI hx (show 1094 < 2 ^ 31 by omega), nI_ltI (show 1094 < 2 ^ 31 by omega) hx, nI_ltI (show L.length < 2 ^ 31 by omega) (show t < 2 ^ 31 by omega), nI_leI (show t < 2 ^ 31 by omega) (show L.length < 2 ^ 31 by omega), nI_clamp (show L.length < 2 ^ 31 by omega), e_addx_n ht hx hL] at *)
  · rw [if_neg (by omega)]
  · rw [if_neg (by omega)]
  · exact vp_in_nI (by omega) (by omega)
  · rw [if_pos (by omega), show (upF (dF F L) 5 L.length (nI x)) 0 8 = nI L.length from rfl, nI_1, dF_add]
set_option maxRecDepth 20000 in
theorem cr_isOfWeeks1 (hl0 : l.stackTraces = false) (M : EM) {m a d n k : Nat} (F : FM) (ha : a + 136 ≤ 3324) (e1 : F 1 (a + 1) = nI d) (e6 : F 1 (a + 6) = nI n) (hn : 1 ≤ n) (hn9 : n ≤ 9) : Ct l g sg_X11_isOfWeeks [.inr (.inr (.inr (.inr (31, m + 1)))), .inl (nI a), .inl (nI k)] (rM M m F) (fun o M' => M' = rM M m (F) ∧ o = .inl (some (.inl (e_01 (e_wkc (nI d) (nI n) (F 1 (a + 7)) (nI k)))))) := by
  refine sem_of hl0 mt_X11_isOfWeeks ok_X11_isOfWeeks rfl (fun K hc hw => e_step rfl hc 80 [] ?_)
  clear hc hw
  repeat' (first | (with_reducible (intro h9; exact absurd rfl h9)) | (with_reducible (intro h9; exact absurd h9 e_10)) | (with_reducible intro _) | (refine And.intro ?_ ?_) | (with_reducible refine e_sw_nil ?_) | (refine e_ctK ?_; first | (refine Ct.mono (cr_has hl0 _ _ _) ?_; intro o M' h8; obtain ⟨h9, rfl⟩ := h8; replace h9 := h9.symm; subst h9)))
  all_goals first | (with_reducible refine e_goK ?_) | (with_reducible refine e_ctK ?_) | (with_reducible refine vp_inK ?_; (try simp (disch := omega) only [mI_rM0, mI_rM1, mI_rM2, mI_rM3, mI_rM4, mI_rM5, mI_rM6, mI_rM7, mI_rM8, mI_rM9, mI_rM10, mI_rM11, mI_rM12, mI_rM13, sI_rM0, sI_rM1, sI_rM2, sI_rM3, sI_rM4, sI_rM5, sI_rM6, sI_rM7, sI_rM8, sI_rM9, sI_rM10, sI_rM11, sI_rM12, sI_rM13, ix_0, ix_1, ix_2, ix_3, ix_4, ix_5, ix_6, ix_7, ix_8, ix_9, ix_10, ix_11, ix_12, ix_13, ix_14, ix_15, ix_16, ix_20, ix_23, ix_24, ix_30, ix_36, ix_46, ix_76, mx_4, mx_6, mx_30, mx_136, mx_1100, mx_3324, nI_add, pk_mul, nI_clamp]); exact vp_in_nI (by omega) (by omega)) | rfl | exact trivial | exact Nat.zero_le _ | exact (e_fit_01 _).1 | exact (e_fit_01 _).2 | (with_reducible refine vp_in_iff.mpr ?_; decide +kernel) | (with_reducible refine e_nz _ (by decide)) | decide | skip
  all_goals (try simp only [mI_rM0, mI_rM1, mI_rM2, mI_rM3, mI_rM4, mI_rM5, mI_rM6, mI_rM7, mI_rM8, mI_rM9, mI_rM10, mI_rM11, mI_rM12, mI_rM13, sI_rM0, sI_rM1, sI_rM2, sI_rM3, sI_rM4, sI_rM5, sI_rM6, sI_rM7, sI_rM8, sI_rM9, sI_rM10, sI_rM11, sI_rM12, sI_rM13])
  all_goals (try simp (disch := omega) only [mI_rM0, mI_rM1, mI_rM2, mI_rM3, mI_rM4, mI_rM5, mI_rM6, mI_rM7, mI_rM8, mI_rM9, mI_rM10, mI_rM11, mI_rM12, mI_rM13, sI_rM0, sI_rM1, sI_rM2, sI_rM3, sI_rM4, sI_rM5, sI_rM6, sI_rM7, sI_rM8, sI_rM9, sI_rM10, sI_rM11, sI_rM12, sI_rM13, ix_0, ix_1, ix_2, ix_3, ix_4, ix_5, ix_6, ix_7, ix_8, ix_9, ix_10, ix_11, ix_12, ix_13, ix_14, ix_15, ix_16, ix_20, ix_23, ix_24, ix_30, ix_36, ix_46, ix_76, mx_4, mx_6, mx_30, mx_136, mx_1100, mx_3324, nI_add, nI_clamp, pk_mul] at *)
  all_goals first | exact vp_in_nI (by omega) (by omega) | skip
  all_goals (try simp only [e1, e6, e_01_n, Classical.not_not] at *)
  all_goals first | exact nI_ne0 (by omega) (by omega) | (rw [e_01_t ⟨by assumption, by assumption⟩]) | (rw [e_01_f (fun h => absurd h.1 (by assumption))]) | (rw [e_01_f (fun h => absurd h.2 (by assumption))]) | (rw [e_01_f (fun h => h.2 (by assumption))])
set_option maxRecDepth 20000 in
theorem cr_laysMonths1 (hl0 : l.stackTraces = false) (M : EM) {m a d n t : Nat} (F : FM) (ha : a + 136 ≤ 3324) (hd : d < 1095) (e1 : F 1 (a + 1) = nI d) (e6 : F 1 (a + 6) = nI n) (e8 : F 1 (a + 8) = nI t) (hn : 1 ≤ n) (hn9 : n ≤ 9) (ht : t ≤ 30) : Ct l g sg_X11_laysMonths [.inr (.inr (.inr (.inr (30, m)))), .inr (.inr (.inr (.inr (31, m + 1)))), .inl (nI a)] (rM M m (dF F [])) (fun o M' => M' = rM M m (dF F (e_fold (nI t) (fun k => e_mo1 d n k) 36)) ∧ o = .inl none) := by
  refine sem_of hl0 mt_X11_laysMonths ok_X11_laysMonths rfl (fun K hc hw => ?_)
  have hd2 : d % 365 < 365 := Nat.mod_lt _ (by decide)
  obtain ⟨⟨q1, q2, q3⟩, q4⟩ := e_mon_all _ hd2
  have hr : ∀ L, dF F L 1 = F 1 := fun L => dF_r (by decide) (by decide)
  have hge : ∀ k, k ≤ 36 → 36 ≤ d / 365 * 12 + e_mon (d % 365) + k * n → e_fold (nI t) (fun k => e_mo1 d n k) 36 = e_fold (nI t) (fun k => e_mo1 d n k) k := fun k hk h => by
    have := e_fold_ge (t := nI t) (f := fun k => e_mo1 d n k) (k := k) (36 - k) (fun j h1 h2 => by
      have hm : k * n ≤ j * n := Nat.mul_le_mul_right n h1
      show e_addx (nI t) _ (e_mo1 d n j) = _
      rw [show e_mo1 d n j = -1 from if_neg (by omega)]
      exact if_neg (fun h => absurd h.2.2.1 (by decide)))
    rw [show k + (36 - k) = 36 by omega] at this
    exact this
  have loop : ∀ (zn : Nat) (k : Nat), k + zn = 36 → K 29 [some (.inr (.inr (.inr (.inr (30, m))))), some (.inr (.inr (.inr (.inr (31, m + 1))))), some (.inl (nI a)), some (.inl (nI d)), some (.inl (nI (d % 365 - e_mst (e_mon (d % 365)) + 1))), some (.inl (nI (d / 365 * 12 + e_mon (d % 365) + k * n))), none] [] (rM M m (dF F (e_fold (nI t) (fun k => e_mo1 d n k) k))) 0 0 := by
    intro zn
    induction zn with
    | zero =>
      intro k hk
      obtain rfl : k = 36 := by omega
      refine e_step rfl hc 60 [29, 36] ?_
      repeat' (first | (with_reducible (intro h9; exact absurd rfl h9)) | (with_reducible (intro h9; exact absurd h9 e_10)) | (with_reducible intro _) | (refine And.intro ?_ ?_) | (with_reducible refine e_sw_nil ?_))
      all_goals first | (with_reducible refine e_goK ?_) | (with_reducible refine e_ctK ?_) | (with_reducible refine vp_inK ?_; (try simp (disch := omega) only [mI_rM0, mI_rM1, mI_rM2, mI_rM3, mI_rM4, mI_rM5, mI_rM6, mI_rM7, mI_rM8, mI_rM9, mI_rM10, mI_rM11, mI_rM12, mI_rM13, sI_rM0, sI_rM1, sI_rM2, sI_rM3, sI_rM4, sI_rM5, sI_rM6, sI_rM7, sI_rM8, sI_rM9, sI_rM10, sI_rM11, sI_rM12, sI_rM13, ix_0, ix_1, ix_2, ix_3, ix_4, ix_5, ix_6, ix_7, ix_8, ix_9, ix_10, ix_11, ix_12, ix_13, ix_14, ix_15, ix_16, ix_20, ix_23, ix_24, ix_30, ix_36, ix_46, ix_76, mx_4, mx_6, mx_30, mx_136, mx_1100, mx_3324, nI_add, pk_mul, nI_clamp]); exact vp_in_nI (by omega) (by omega)) | rfl | exact trivial | exact Nat.zero_le _ | exact (e_fit_01 _).1 | exact (e_fit_01 _).2 | (with_reducible refine vp_in_iff.mpr ?_; decide +kernel) | (with_reducible refine e_nz _ (by decide)) | decide | skip
      · rename_i g1
        exfalso; exact g1 (nI_le (a := 36) (by omega) (by omega))
    | succ zn ih =>
      intro k hk
      have hkn : k * n ≤ 36 * 9 := Nat.mul_le_mul (by omega) hn9
      have hkn1 : (k + 1) * n = k * n + n := Nat.succ_mul k n
      refine e_step rfl hc 60 [29, 36] ?_
      repeat' (first | (with_reducible (intro h9; exact absurd rfl h9)) | (with_reducible (intro h9; exact absurd h9 e_10)) | (with_reducible intro _) | (refine And.intro ?_ ?_) | (with_reducible refine e_sw_nil ?_))
      all_goals first | (with_reducible refine e_goK ?_) | (with_reducible refine e_ctK ?_) | (with_reducible refine vp_inK ?_; (try simp (disch := omega) only [mI_rM0, mI_rM1, mI_rM2, mI_rM3, mI_rM4, mI_rM5, mI_rM6, mI_rM7, mI_rM8, mI_rM9, mI_rM10, mI_rM11, mI_rM12, mI_rM13, sI_rM0, sI_rM1, sI_rM2, sI_rM3, sI_rM4, sI_rM5, sI_rM6, sI_rM7, sI_rM8, sI_rM9, sI_rM10, sI_rM11, sI_rM12, sI_rM13, ix_0, ix_1, ix_2, ix_3, ix_4, ix_5, ix_6, ix_7, ix_8, ix_9, ix_10, ix_11, ix_12, ix_13, ix_14, ix_15, ix_16, ix_20, ix_23, ix_24, ix_30, ix_36, ix_46, ix_76, mx_4, mx_6, mx_30, mx_136, mx_1100, mx_3324, nI_add, pk_mul, nI_clamp]); exact vp_in_nI (by omega) (by omega)) | rfl | exact trivial | exact Nat.zero_le _ | exact (e_fit_01 _).1 | exact (e_fit_01 _).2 | (with_reducible refine vp_in_iff.mpr ?_; decide +kernel) | (with_reducible refine e_nz _ (by decide)) | decide | skip
      · rename_i g1
        rw [hge k (by omega) ((nI_leI (a := 36) (by omega) (by omega)).mp g1)]
      · rename_i g1
        have g2 : ¬ 36 ≤ d / 365 * 12 + e_mon (d % 365) + k * n := fun h => g1 (nI_le (a := 36) h (by omega))
        have nx : ∀ (L : List Nat) (o6 : Option EV), L = e_fold (nI t) (fun k => e_mo1 d n k) (k + 1) → K 29 [some (.inr (.inr (.inr (.inr (30, m))))), some (.inr (.inr (.inr (.inr (31, m + 1))))), some (.inl (nI a)), some (.inl (nI d)), some (.inl (nI (d % 365 - e_mst (e_mon (d % 365)) + 1))), some (.inl (nI (d / 365 * 12 + e_mon (d % 365) + k * n + n))), o6] [] (rM M m (dF F L)) 0 0 := fun L o6 hL => by
          rw [hL]
          have := ih (k + 1) (by omega)
          rw [hkn1, ← Nat.add_assoc] at this
          exact hw.w this ⟨rfl, rfl, rfl, rfl, rfl, rfl, by cases o6 <;> trivial⟩
        generalize hq : d / 365 * 12 + e_mon (d % 365) + k * n = q at *
        have r1 : ∀ L, dF F L 1 (a + 8) = nI t := fun L => by rw [hr]; exact e8
        have r2 : ∀ L, dF F L 1 (a + 6) = nI n := fun L => by rw [hr]; exact e6
        have hm1 : e_mst (q % 12) ≤ 365 := e_mst_le _ (by omega)
        have hf : e_mo1 d n k = if q < 36 ∧ d % 365 - e_mst (e_mon (d % 365)) + 1 ≤ e_mlen q then nI (q / 12 * 365 + e_mst (q % 12) + (d % 365 - e_mst (e_mon (d % 365)) + 1) - 1) else -1 := by rw [← hq]; rfl
        have nx85 : ∀ (L : List Nat) (o6 : Option EV), L = e_fold (nI t) (fun k => e_mo1 d n k) (k + 1) → K 85 [some (.inr (.inr (.inr (.inr (30, m))))), some (.inr (.inr (.inr (.inr (31, m + 1))))), some (.inl (nI a)), some (.inl (nI d)), some (.inl (nI (d % 365 - e_mst (e_mon (d % 365)) + 1))), some (.inl (nI q)), o6] [] (rM M m (dF F L)) 0 0 := fun L o6 hL => by
          refine e_step rfl hc 60 [29] ?_
          repeat' (first | (with_reducible (intro h9; exact absurd rfl h9)) | (with_reducible (intro h9; exact absurd h9 e_10)) | (with_reducible intro _) | (refine And.intro ?_ ?_) | (with_reducible refine e_sw_nil ?_))
          all_goals first | (with_reducible refine e_goK ?_) | (with_reducible refine e_ctK ?_) | (with_reducible refine vp_inK ?_; (try simp (disch := omega) only [mI_rM0, mI_rM1, mI_rM2, mI_rM3, mI_rM4, mI_rM5, mI_rM6, mI_rM7, mI_rM8, mI_rM9, mI_rM10, mI_rM11, mI_rM12, mI_rM13, sI_rM0, sI_rM1, sI_rM2, sI_rM3, sI_rM4, sI_rM5, sI_rM6, sI_rM7, sI_rM8, sI_rM9, sI_rM10, sI_rM11, sI_rM12, sI_rM13, ix_0, ix_1, ix_2, ix_3, ix_4, ix_5, ix_6, ix_7, ix_8, ix_9, ix_10, ix_11, ix_12, ix_13, ix_14, ix_15, ix_16, ix_20, ix_23, ix_24, ix_30, ix_36, ix_46, ix_76, mx_4, mx_6, mx_30, mx_136, mx_1100, mx_3324, nI_add, pk_mul, nI_clamp]); exact vp_in_nI (by omega) (by omega)) | rfl | exact trivial | exact Nat.zero_le _ | exact (e_fit_01 _).1 | exact (e_fit_01 _).2 | (with_reducible refine vp_in_iff.mpr ?_; decide +kernel) | (with_reducible refine e_nz _ (by decide)) | decide | skip
          · refine e_kk (K := K) ?_; refine e_kc (nx L o6 hL) (by (repeat' (first | (refine e_cc ?_ ?_) | (with_reducible rfl) | (simp (disch := omega) only [mI_rM0, mI_rM1, mI_rM2, mI_rM3, mI_rM4, mI_rM5, mI_rM6, mI_rM7, mI_rM8, mI_rM9, mI_rM10, mI_rM11, mI_rM12, mI_rM13, sI_rM0, sI_rM1, sI_rM2, sI_rM3, sI_rM4, sI_rM5, sI_rM6, sI_rM7, sI_rM8, sI_rM9, sI_rM10, sI_rM11, sI_rM12, sI_rM13, n_lit, ↓pk_rem, pk_div, pk_mul, pk_sub, nI_add, nI_clamp, nmod, e_clI, e_clP, hr, e6]; done) | ((try simp (disch := omega) only [mI_rM0, mI_rM1, mI_rM2, mI_rM3, mI_rM4, mI_rM5, mI_rM6, mI_rM7, mI_rM8, mI_rM9, mI_rM10, mI_rM11, mI_rM12, mI_rM13, sI_rM0, sI_rM1, sI_rM2, sI_rM3, sI_rM4, sI_rM5, sI_rM6, sI_rM7, sI_rM8, sI_rM9, sI_rM10, sI_rM11, sI_rM12, sI_rM13, n_lit, ↓pk_rem, pk_div, pk_mul, pk_sub, nI_add, nI_clamp, nmod, e_clI, e_clP, hr, e6]); exact e_cnI (by omega)) | rfl))) (by (repeat' (first | (refine e_cc ?_ ?_) | (with_reducible rfl) | (simp (disch := omega) only [mI_rM0, mI_rM1, mI_rM2, mI_rM3, mI_rM4, mI_rM5, mI_rM6, mI_rM7, mI_rM8, mI_rM9, mI_rM10, mI_rM11, mI_rM12, mI_rM13, sI_rM0, sI_rM1, sI_rM2, sI_rM3, sI_rM4, sI_rM5, sI_rM6, sI_rM7, sI_rM8, sI_rM9, sI_rM10, sI_rM11, sI_rM12, sI_rM13, n_lit, ↓pk_rem, pk_div, pk_mul, pk_sub, nI_add, nI_clamp, nmod, e_clI, e_clP, hr, e6]; done) | ((try simp (disch := omega) only [mI_rM0, mI_rM1, mI_rM2, mI_rM3, mI_rM4, mI_rM5, mI_rM6, mI_rM7, mI_rM8, mI_rM9, mI_rM10, mI_rM11, mI_rM12, mI_rM13, sI_rM0, sI_rM1, sI_rM2, sI_rM3, sI_rM4, sI_rM5, sI_rM6, sI_rM7, sI_rM8, sI_rM9, sI_rM10, sI_rM11, sI_rM12, sI_rM13, n_lit, ↓pk_rem, pk_div, pk_mul, pk_sub, nI_add, nI_clamp, nmod, e_clI, e_clP, hr, e6]); exact e_cnI (by omega)) | rfl))) (by first | (with_reducible rfl) | (simp (disch := omega) only [mI_rM0, mI_rM1, mI_rM2, mI_rM3, mI_rM4, mI_rM5, mI_rM6, mI_rM7, mI_rM8, mI_rM9, mI_rM10, mI_rM11, mI_rM12, mI_rM13, sI_rM0, sI_rM1, sI_rM2, sI_rM3, sI_rM4, sI_rM5, sI_rM6, sI_rM7, sI_rM8, sI_rM9, sI_rM10, sI_rM11, sI_rM12, sI_rM13, n_lit, ↓pk_rem, pk_div, pk_mul, pk_sub, nI_add, nI_clamp, nmod, e_clI, e_clP, hr, e6]; done) | rfl)
        refine e_step rfl hc 60 [29, 85] ?_
        repeat' (first | (with_reducible (intro h9; exact absurd rfl h9)) | (with_reducible (intro h9; exact absurd h9 e_10)) | (with_reducible intro _) | (refine And.intro ?_ ?_) | (with_reducible refine e_sw_nil ?_) | (refine e_ctK ?_; first | (refine Ct.mono (Ct.ar (by first | rfl | (simp (disch := omega) only [mI_rM0, mI_rM1, mI_rM2, mI_rM3, mI_rM4, mI_rM5, mI_rM6, mI_rM7, mI_rM8, mI_rM9, mI_rM10, mI_rM11, mI_rM12, mI_rM13, sI_rM0, sI_rM1, sI_rM2, sI_rM3, sI_rM4, sI_rM5, sI_rM6, sI_rM7, sI_rM8, sI_rM9, sI_rM10, sI_rM11, sI_rM12, sI_rM13, n_lit, ↓pk_rem, pk_div, pk_mul, pk_sub, nI_add, nI_clamp, nmod, e_clI, e_clP]; done)) (by first | rfl | (simp (disch := omega) only [mI_rM0, mI_rM1, mI_rM2, mI_rM3, mI_rM4, mI_rM5, mI_rM6, mI_rM7, mI_rM8, mI_rM9, mI_rM10, mI_rM11, mI_rM12, mI_rM13, sI_rM0, sI_rM1, sI_rM2, sI_rM3, sI_rM4, sI_rM5, sI_rM6, sI_rM7, sI_rM8, sI_rM9, sI_rM10, sI_rM11, sI_rM12, sI_rM13, n_lit, ↓pk_rem, pk_div, pk_mul, pk_sub, nI_add, nI_clamp, nmod, e_clI, e_clP]; done)) (cr_daysOf hl0 _ (k := q % 12 + 1) (by omega) (by omega))) ?_; intro o M' h8; obtain ⟨h9, rfl⟩ := h8; replace h9 := h9.symm; subst h9) | (refine Ct.mono (Ct.ar (by first | rfl | (simp (disch := omega) only [mI_rM0, mI_rM1, mI_rM2, mI_rM3, mI_rM4, mI_rM5, mI_rM6, mI_rM7, mI_rM8, mI_rM9, mI_rM10, mI_rM11, mI_rM12, mI_rM13, sI_rM0, sI_rM1, sI_rM2, sI_rM3, sI_rM4, sI_rM5, sI_rM6, sI_rM7, sI_rM8, sI_rM9, sI_rM10, sI_rM11, sI_rM12, sI_rM13, n_lit, ↓pk_rem, pk_div, pk_mul, pk_sub, nI_add, nI_clamp, nmod, e_clI, e_clP]; done)) (by first | rfl | (simp (disch := omega) only [mI_rM0, mI_rM1, mI_rM2, mI_rM3, mI_rM4, mI_rM5, mI_rM6, mI_rM7, mI_rM8, mI_rM9, mI_rM10, mI_rM11, mI_rM12, mI_rM13, sI_rM0, sI_rM1, sI_rM2, sI_rM3, sI_rM4, sI_rM5, sI_rM6, sI_rM7, sI_rM8, sI_rM9, sI_rM10, sI_rM11, sI_rM12, sI_rM13, n_lit, ↓pk_rem, pk_div, pk_mul, pk_sub, nI_add, nI_clamp, nmod, e_clI, e_clP]; done)) (cr_beginOf hl0 _ (n := q % 12 + 1) (by omega) (by omega))) ?_; intro o M' h8; obtain ⟨h9, rfl⟩ := h8; replace h9 := h9.symm; subst h9) | (refine Ct.mono (Ct.ar (by first | rfl | (simp (disch := omega) only [mI_rM0, mI_rM1, mI_rM2, mI_rM3, mI_rM4, mI_rM5, mI_rM6, mI_rM7, mI_rM8, mI_rM9, mI_rM10, mI_rM11, mI_rM12, mI_rM13, sI_rM0, sI_rM1, sI_rM2, sI_rM3, sI_rM4, sI_rM5, sI_rM6, sI_rM7, sI_rM8, sI_rM9, sI_rM10, sI_rM11, sI_rM12, sI_rM13, n_lit, ↓pk_rem, pk_div, pk_mul, pk_sub, nI_add, nI_clamp, nmod, e_clI, e_clP, r1, show q % 12 + 1 - 1 = q % 12 by omega]; done)) (by first | rfl | (simp (disch := omega) only [mI_rM0, mI_rM1, mI_rM2, mI_rM3, mI_rM4, mI_rM5, mI_rM6, mI_rM7, mI_rM8, mI_rM9, mI_rM10, mI_rM11, mI_rM12, mI_rM13, sI_rM0, sI_rM1, sI_rM2, sI_rM3, sI_rM4, sI_rM5, sI_rM6, sI_rM7, sI_rM8, sI_rM9, sI_rM10, sI_rM11, sI_rM12, sI_rM13, n_lit, ↓pk_rem, pk_div, pk_mul, pk_sub, nI_add, nI_clamp, nmod, e_clI, e_clP, r1, show q % 12 + 1 - 1 = q % 12 by omega]; done)) (cr_adds hl0 M F (m := m) (L := e_fold (nI t) (fun k => e_mo1 d n k) k) (x := 365 * (q / 12) + e_mst (q % 12) + (d % 365 - e_mst (e_mon (d % 365)) + 1) - 1) (t := t) (by omega) ht (e_fold_le k))) ?_; intro o M' h8; obtain ⟨h9, rfl⟩ := h8; replace h9 := h9.symm; subst h9)))
        all_goals first | (with_reducible refine e_goK ?_) | (with_reducible refine e_ctK ?_) | (with_reducible refine vp_inK ?_; (try simp (disch := omega) only [mI_rM0, mI_rM1, mI_rM2, mI_rM3, mI_rM4, mI_rM5, mI_rM6, mI_rM7, mI_rM8, mI_rM9, mI_rM10, mI_rM11, mI_rM12, mI_rM13, sI_rM0, sI_rM1, sI_rM2, sI_rM3, sI_rM4, sI_rM5, sI_rM6, sI_rM7, sI_rM8, sI_rM9, sI_rM10, sI_rM11, sI_rM12, sI_rM13, ix_0, ix_1, ix_2, ix_3, ix_4, ix_5, ix_6, ix_7, ix_8, ix_9, ix_10, ix_11, ix_12, ix_13, ix_14, ix_15, ix_16, ix_20, ix_23, ix_24, ix_30, ix_36, ix_46, ix_76, mx_4, mx_6, mx_30, mx_136, mx_1100, mx_3324, nI_add, pk_mul, nI_clamp]); exact vp_in_nI (by omega) (by omega)) | rfl | exact trivial | exact Nat.zero_le _ | exact (e_fit_01 _).1 | exact (e_fit_01 _).2 | (with_reducible refine vp_in_iff.mpr ?_; decide +kernel) | (with_reducible refine e_nz _ (by decide)) | decide | skip
        · refine nx85 _ _ ?_
          rename_i g3
          have g4 : e_mlen q < d % 365 - e_mst (e_mon (d % 365)) + 1 := (nI_ltI (by show e_mst (q % 12 + 1) - e_mst (q % 12) < _; have := e_mst_le (q % 12 + 1) (by omega); omega) (by omega)).mp g3
          rw [e_fold_s, hf, if_neg (by omega)]
          exact (if_neg (fun h => absurd h.2.2.1 (by decide))).symm
        · refine nx85 _ _ ?_
          rename_i g3
          have g4 : ¬ e_mlen q < d % 365 - e_mst (e_mon (d % 365)) + 1 := fun h => g3 ((nI_ltI (by show e_mst (q % 12 + 1) - e_mst (q % 12) < _; have := e_mst_le (q % 12 + 1) (by omega); omega) (by omega)).mpr h)
          rw [e_fold_s, hf, if_pos (by omega), Nat.mul_comm 365]
  
  refine e_step rfl hc 60 [29] ?_
  repeat' (first | (with_reducible (intro h9; exact absurd rfl h9)) | (with_reducible (intro h9; exact absurd h9 e_10)) | (with_reducible intro _) | (refine And.intro ?_ ?_) | (with_reducible refine e_sw_nil ?_) | (refine e_ctK ?_; first | (refine Ct.mono (Ct.ar (by first | rfl | (simp (disch := omega) only [mI_rM0, mI_rM1, mI_rM2, mI_rM3, mI_rM4, mI_rM5, mI_rM6, mI_rM7, mI_rM8, mI_rM9, mI_rM10, mI_rM11, mI_rM12, mI_rM13, sI_rM0, sI_rM1, sI_rM2, sI_rM3, sI_rM4, sI_rM5, sI_rM6, sI_rM7, sI_rM8, sI_rM9, sI_rM10, sI_rM11, sI_rM12, sI_rM13, n_lit, ↓pk_rem, pk_div, pk_mul, pk_sub, nI_add, nI_clamp, nmod, e_clI, e_clP, hr, e1]; done)) (by first | rfl | (simp (disch := omega) only [mI_rM0, mI_rM1, mI_rM2, mI_rM3, mI_rM4, mI_rM5, mI_rM6, mI_rM7, mI_rM8, mI_rM9, mI_rM10, mI_rM11, mI_rM12, mI_rM13, sI_rM0, sI_rM1, sI_rM2, sI_rM3, sI_rM4, sI_rM5, sI_rM6, sI_rM7, sI_rM8, sI_rM9, sI_rM10, sI_rM11, sI_rM12, sI_rM13, n_lit, ↓pk_rem, pk_div, pk_mul, pk_sub, nI_add, nI_clamp, nmod, e_clI, e_clP, hr, e1]; done)) (cr_monthOf hl0 _ hd)) ?_; intro o M' h8; obtain ⟨h9, rfl⟩ := h8; replace h9 := h9.symm; subst h9) | (refine Ct.mono (Ct.ar (by first | rfl | (simp (disch := omega) only [mI_rM0, mI_rM1, mI_rM2, mI_rM3, mI_rM4, mI_rM5, mI_rM6, mI_rM7, mI_rM8, mI_rM9, mI_rM10, mI_rM11, mI_rM12, mI_rM13, sI_rM0, sI_rM1, sI_rM2, sI_rM3, sI_rM4, sI_rM5, sI_rM6, sI_rM7, sI_rM8, sI_rM9, sI_rM10, sI_rM11, sI_rM12, sI_rM13, n_lit, ↓pk_rem, pk_div, pk_mul, pk_sub, nI_add, nI_clamp, nmod, e_clI, e_clP, hr, e1]; done)) (by first | rfl | (simp (disch := omega) only [mI_rM0, mI_rM1, mI_rM2, mI_rM3, mI_rM4, mI_rM5, mI_rM6, mI_rM7, mI_rM8, mI_rM9, mI_rM10, mI_rM11, mI_rM12, mI_rM13, sI_rM0, sI_rM1, sI_rM2, sI_rM3, sI_rM4, sI_rM5, sI_rM6, sI_rM7, sI_rM8, sI_rM9, sI_rM10, sI_rM11, sI_rM12, sI_rM13, n_lit, ↓pk_rem, pk_div, pk_mul, pk_sub, nI_add, nI_clamp, nmod, e_clI, e_clP, hr, e1]; done)) (cr_dayOfMonth hl0 _ hd)) ?_; intro o M' h8; obtain ⟨h9, rfl⟩ := h8; replace h9 := h9.symm; subst h9)))
  all_goals first | (with_reducible refine e_goK ?_) | (with_reducible refine e_ctK ?_) | (with_reducible refine vp_inK ?_; (try simp (disch := omega) only [mI_rM0, mI_rM1, mI_rM2, mI_rM3, mI_rM4, mI_rM5, mI_rM6, mI_rM7, mI_rM8, mI_rM9, mI_rM10, mI_rM11, mI_rM12, mI_rM13, sI_rM0, sI_rM1, sI_rM2, sI_rM3, sI_rM4, sI_rM5, sI_rM6, sI_rM7, sI_rM8, sI_rM9, sI_rM10, sI_rM11, sI_rM12, sI_rM13, ix_0, ix_1, ix_2, ix_3, ix_4, ix_5, ix_6, ix_7, ix_8, ix_9, ix_10, ix_11, ix_12, ix_13, ix_14, ix_15, ix_16, ix_20, ix_23, ix_24, ix_30, ix_36, ix_46, ix_76, mx_4, mx_6, mx_30, mx_136, mx_1100, mx_3324, nI_add, pk_mul, nI_clamp]); exact vp_in_nI (by omega) (by omega)) | rfl | exact trivial | exact Nat.zero_le _ | exact (e_fit_01 _).1 | exact (e_fit_01 _).2 | (with_reducible refine vp_in_iff.mpr ?_; decide +kernel) | (with_reducible refine e_nz _ (by decide)) | decide | skip
  refine e_kk (K := K) ?_; refine e_kc (loop 36 0 rfl) (by (repeat' (first | (refine e_cc ?_ ?_) | (with_reducible rfl) | (simp (disch := omega) only [mI_rM0, mI_rM1, mI_rM2, mI_rM3, mI_rM4, mI_rM5, mI_rM6, mI_rM7, mI_rM8, mI_rM9, mI_rM10, mI_rM11, mI_rM12, mI_rM13, sI_rM0, sI_rM1, sI_rM2, sI_rM3, sI_rM4, sI_rM5, sI_rM6, sI_rM7, sI_rM8, sI_rM9, sI_rM10, sI_rM11, sI_rM12, sI_rM13, n_lit, ↓pk_rem, pk_div, pk_mul, pk_sub, nI_add, nI_clamp, nmod, e_clI, e_clP, hr, e1]; done) | ((try simp (disch := omega) only [mI_rM0, mI_rM1, mI_rM2, mI_rM3, mI_rM4, mI_rM5, mI_rM6, mI_rM7, mI_rM8, mI_rM9, mI_rM10, mI_rM11, mI_rM12, mI_rM13, sI_rM0, sI_rM1, sI_rM2, sI_rM3, sI_rM4, sI_rM5, sI_rM6, sI_rM7, sI_rM8, sI_rM9, sI_rM10, sI_rM11, sI_rM12, sI_rM13, n_lit, ↓pk_rem, pk_div, pk_mul, pk_sub, nI_add, nI_clamp, nmod, e_clI, e_clP, hr, e1]); exact e_cnI (by omega)) | rfl))) (by (repeat' (first | (refine e_cc ?_ ?_) | (with_reducible rfl) | (simp (disch := omega) only [mI_rM0, mI_rM1, mI_rM2, mI_rM3, mI_rM4, mI_rM5, mI_rM6, mI_rM7, mI_rM8, mI_rM9, mI_rM10, mI_rM11, mI_rM12, mI_rM13, sI_rM0, sI_rM1, sI_rM2, sI_rM3, sI_rM4, sI_rM5, sI_rM6, sI_rM7, sI_rM8, sI_rM9, sI_rM10, sI_rM11, sI_rM12, sI_rM13, n_lit, ↓pk_rem, pk_div, pk_mul, pk_sub, nI_add, nI_clamp, nmod, e_clI, e_clP, hr, e1]; done) | ((try simp (disch := omega) only [mI_rM0, mI_rM1, mI_rM2, mI_rM3, mI_rM4, mI_rM5, mI_rM6, mI_rM7, mI_rM8, mI_rM9, mI_rM10, mI_rM11, mI_rM12, mI_rM13, sI_rM0, sI_rM1, sI_rM2, sI_rM3, sI_rM4, sI_rM5, sI_rM6, sI_rM7, sI_rM8, sI_rM9, sI_rM10, sI_rM11, sI_rM12, sI_rM13, n_lit, ↓pk_rem, pk_div, pk_mul, pk_sub, nI_add, nI_clamp, nmod, e_clI, e_clP, hr, e1]); exact e_cnI (by omega)) | rfl))) (by first | (with_reducible rfl) | (simp (disch := omega) only [mI_rM0, mI_rM1, mI_rM2, mI_rM3, mI_rM4, mI_rM5, mI_rM6, mI_rM7, mI_rM8, mI_rM9, mI_rM10, mI_rM11, mI_rM12, mI_rM13, sI_rM0, sI_rM1, sI_rM2, sI_rM3, sI_rM4, sI_rM5, sI_rM6, sI_rM7, sI_rM8, sI_rM9, sI_rM10, sI_rM11, sI_rM12, sI_rM13, n_lit, ↓pk_rem, pk_div, pk_mul, pk_sub, nI_add, nI_clamp, nmod, e_clI, e_clP, hr, e1]; done) | rfl)
set_option maxRecDepth 20000 in
theorem cr_isOfWeeks7 (hl0 : l.stackTraces = false) (M : EM) {m a d n k : Nat} (F : FM) (ha : a + 136 ≤ 1100) (e1 : F 7 (a + 1) = nI d) (e6 : F 7 (a + 6) = nI n) (hn : 1 ≤ n) (hn9 : n ≤ 9) : Ct l g sg_X11_isOfWeeks [.inr (.inr (.inr (.inr (37, m + 7)))), .inl (nI a), .inl (nI k)] (rM M m F) (fun o M' => M' = rM M m (F) ∧ o = .inl (some (.inl (e_01 (e_wkc (nI d) (nI n) (F 7 (a + 7)) (nI k)))))) := by
  refine sem_of hl0 mt_X11_isOfWeeks ok_X11_isOfWeeks rfl (fun K hc hw => e_step rfl hc 80 [] ?_)
  clear hc hw
  repeat' (first | (with_reducible (intro h9; exact absurd rfl h9)) | (with_reducible (intro h9; exact absurd h9 e_10)) | (with_reducible intro _) | (refine And.intro ?_ ?_) | (with_reducible refine e_sw_nil ?_) | (refine e_ctK ?_; first | (refine Ct.mono (cr_has hl0 _ _ _) ?_; intro o M' h8; obtain ⟨h9, rfl⟩ := h8; replace h9 := h9.symm; subst h9)))
  all_goals first | (with_reducible refine e_goK ?_) | (with_reducible refine e_ctK ?_) | (with_reducible refine vp_inK ?_; (try simp (disch := omega) only [mI_rM0, mI_rM1, mI_rM2, mI_rM3, mI_rM4, mI_rM5, mI_rM6, mI_rM7, mI_rM8, mI_rM9, mI_rM10, mI_rM11, mI_rM12, mI_rM13, sI_rM0, sI_rM1, sI_rM2, sI_rM3, sI_rM4, sI_rM5, sI_rM6, sI_rM7, sI_rM8, sI_rM9, sI_rM10, sI_rM11, sI_rM12, sI_rM13, ix_0, ix_1, ix_2, ix_3, ix_4, ix_5, ix_6, ix_7, ix_8, ix_9, ix_10, ix_11, ix_12, ix_13, ix_14, ix_15, ix_16, ix_20, ix_23, ix_24, ix_30, ix_36, ix_46, ix_76, mx_4, mx_6, mx_30, mx_136, mx_1100, mx_3324, nI_add, pk_mul, nI_clamp]); exact vp_in_nI (by omega) (by omega)) | rfl | exact trivial | exact Nat.zero_le _ | exact (e_fit_01 _).1 | exact (e_fit_01 _).2 | (with_reducible refine vp_in_iff.mpr ?_; decide +kernel) | (with_reducible refine e_nz _ (by decide)) | decide | skip
  all_goals (try simp only [mI_rM0, mI_rM1, mI_rM2, mI_rM3, mI_rM4, mI_rM5, mI_rM6, mI_rM7, mI_rM8, mI_rM9, mI_rM10, mI_rM11, mI_rM12, mI_rM13, sI_rM0, sI_rM1, sI_rM2, sI_rM3, sI_rM4, sI_rM5, sI_rM6, sI_rM7, sI_rM8, sI_rM9, sI_rM10, sI_rM11, sI_rM12, sI_rM13])
  all_goals (try simp (disch := omega) only [mI_rM0, mI_rM1, mI_rM2, mI_rM3, mI_rM4, mI_rM5, mI_rM6, mI_rM7, mI_rM8, mI_rM9, mI_rM10, mI_rM11, mI_rM12, mI_rM13, sI_rM0, sI_rM1, sI_rM2, sI_rM3, sI_rM4, sI_rM5, sI_rM6, sI_rM7, sI_rM8, sI_rM9, sI_rM10, sI_rM11, sI_rM12, sI_rM13, ix_0, ix_1, ix_2, ix_3, ix_4, ix_5, ix_6, ix_7, ix_8, ix_9, ix_10, ix_11, ix_12, ix_13, ix_14, ix_15, ix_16, ix_20, ix_23, ix_24, ix_30, ix_36, ix_46, ix_76, mx_4, mx_6, mx_30, mx_136, mx_1100, mx_3324, nI_add, nI_clamp, pk_mul] at *)
  all_goals first | exact vp_in_nI (by omega) (by omega) | skip
  all_goals (try simp only [e1, e6, e_01_n, Classical.not_not] at *)
  all_goals first | exact nI_ne0 (by omega) (by omega) | (rw [e_01_t ⟨by assumption, by assumption⟩]) | (rw [e_01_f (fun h => absurd h.1 (by assumption))]) | (rw [e_01_f (fun h => absurd h.2 (by assumption))]) | (rw [e_01_f (fun h => h.2 (by assumption))])
set_option maxRecDepth 20000 in
theorem cr_laysMonths7 (hl0 : l.stackTraces = false) (M : EM) {m a d n t : Nat} (F : FM) (ha : a + 136 ≤ 1100) (hd : d < 1095) (e1 : F 7 (a + 1) = nI d) (e6 : F 7 (a + 6) = nI n) (e8 : F 7 (a + 8) = nI t) (hn : 1 ≤ n) (hn9 : n ≤ 9) (ht : t ≤ 30) : Ct l g sg_X11_laysMonths [.inr (.inr (.inr (.inr (30, m)))), .inr (.inr (.inr (.inr (37, m + 7)))), .inl (nI a)] (rM M m (dF F [])) (fun o M' => M' = rM M m (dF F (e_fold (nI t) (fun k => e_mo1 d n k) 36)) ∧ o = .inl none) := by
  refine sem_of hl0 mt_X11_laysMonths ok_X11_laysMonths rfl (fun K hc hw => ?_)
  have hd2 : d % 365 < 365 := Nat.mod_lt _ (by decide)
  obtain ⟨⟨q1, q2, q3⟩, q4⟩ := e_mon_all _ hd2
  have hr : ∀ L, dF F L 7 = F 7 := fun L => dF_r (by decide) (by decide)
  have hge : ∀ k, k ≤ 36 → 36 ≤ d / 365 * 12 + e_mon (d % 365) + k * n → e_fold (nI t) (fun k => e_mo1 d n k) 36 = e_fold (nI t) (fun k => e_mo1 d n k) k := fun k hk h => by
    have := e_fold_ge (t := nI t) (f := fun k => e_mo1 d n k) (k := k) (36 - k) (fun j h1 h2 => by
      have hm : k * n ≤ j * n := Nat.mul_le_mul_right n h1
      show e_addx (nI t) _ (e_mo1 d n j) = _
      rw [show e_mo1 d n j = -1 from if_neg (by omega)]
      exact if_neg (fun h => absurd h.2.2.1 (by decide)))
    rw [show k + (36 - k) = 36 by omega] at this
    exact this
  have loop : ∀ (zn : Nat) (k : Nat), k + zn = 36 → K 29 [some (.inr (.inr (.inr (.inr (30, m))))), some (.inr (.inr (.inr (.inr (37, m + 7))))), some (.inl (nI a)), some (.inl (nI d)), some (.inl (nI (d % 365 - e_mst (e_mon (d % 365)) + 1))), some (.inl (nI (d / 365 * 12 + e_mon (d % 365) + k * n))), none] [] (rM M m (dF F (e_fold (nI t) (fun k => e_mo1 d n k) k))) 0 0 := by
    intro zn
    induction zn with
    | zero =>
      intro k hk
      obtain rfl : k = 36 := by omega
      refine e_step rfl hc 60 [29, 36] ?_
      repeat' (first | (with_reducible (intro h9; exact absurd rfl h9)) | (with_reducible (intro h9; exact absurd h9 e_10)) | (with_reducible intro _) | (refine And.intro ?_ ?_) | (with_reducible refine e_sw_nil ?_))
      all_goals first | (with_reducible refine e_goK ?_) | (with_reducible refine e_ctK ?_) | (with_reducible refine vp_inK ?_; (try simp (disch := omega) only [mI_rM0, mI_rM1, mI_rM2, mI_rM3, mI_rM4, mI_rM5, mI_rM6, mI_rM7, mI_rM8, mI_rM9, mI_rM10, mI_rM11, mI_rM12, mI_rM13, sI_rM0, sI_rM1, sI_rM2, sI_rM3, sI_rM4, sI_rM5, sI_rM6, sI_rM7, sI_rM8, sI_rM9, sI_rM10, sI_rM11, sI_rM12, sI_rM13, ix_0, ix_1, ix_2, ix_3, ix_4, ix_5, ix_6, ix_7, ix_8, ix_9, ix_10, ix_11, ix_12, ix_13, ix_14, ix_15, ix_16, ix_20, ix_23, ix_24, ix_30, ix_36, ix_46, ix_76, mx_4, mx_6, mx_30, mx_136, mx_1100, mx_3324, nI_add, pk_mul, nI_clamp]); exact vp_in_nI (by omega) (by omega)) | rfl | exact trivial | exact Nat.zero_le _ | exact (e_fit_01 _).1 | exact (e_fit_01 _).2 | (with_reducible refine vp_in_iff.mpr ?_; decide +kernel) | (with_reducible refine e_nz _ (by decide)) | decide | skip
      · rename_i g1
        exfalso; exact g1 (nI_le (a := 36) (by omega) (by omega))
    | succ zn ih =>
      intro k hk
      have hkn : k * n ≤ 36 * 9 := Nat.mul_le_mul (by omega) hn9
      have hkn1 : (k + 1) * n = k * n + n := Nat.succ_mul k n
      refine e_step rfl hc 60 [29, 36] ?_
      repeat' (first | (with_reducible (intro h9; exact absurd rfl h9)) | (with_reducible (intro h9; exact absurd h9 e_10)) | (with_reducible intro _) | (refine And.intro ?_ ?_) | (with_reducible refine e_sw_nil ?_))
      all_goals first | (with_reducible refine e_goK ?_) | (with_reducible refine e_ctK ?_) | (with_reducible refine vp_inK ?_; (try simp (disch := omega) only [mI_rM0, mI_rM1, mI_rM2, mI_rM3, mI_rM4, mI_rM5, mI_rM6, mI_rM7, mI_rM8, mI_rM9, mI_rM10, mI_rM11, mI_rM12, mI_rM13, sI_rM0, sI_rM1, sI_rM2, sI_rM3, sI_rM4, sI_rM5, sI_rM6, sI_rM7, sI_rM8, sI_rM9, sI_rM10, sI_rM11, sI_rM12, sI_rM13, ix_0, ix_1, ix_2, ix_3, ix_4, ix_5, ix_6, ix_7, ix_8, ix_9, ix_10, ix_11, ix_12, ix_13, ix_14, ix_15, ix_16, ix_20, ix_23, ix_24, ix_30, ix_36, ix_46, ix_76, mx_4, mx_6, mx_30, mx_136, mx_1100, mx_3324, nI_add, pk_mul, nI_clamp]); exact vp_in_nI (by omega) (by omega)) | rfl | exact trivial | exact Nat.zero_le _ | exact (e_fit_01 _).1 | exact (e_fit_01 _).2 | (with_reducible refine vp_in_iff.mpr ?_; decide +kernel) | (with_reducible refine e_nz _ (by decide)) | decide | skip
      · rename_i g1
        rw [hge k (by omega) ((nI_leI (a := 36) (by omega) (by omega)).mp g1)]
      · rename_i g1
        have g2 : ¬ 36 ≤ d / 365 * 12 + e_mon (d % 365) + k * n := fun h => g1 (nI_le (a := 36) h (by omega))
        have nx : ∀ (L : List Nat) (o6 : Option EV), L = e_fold (nI t) (fun k => e_mo1 d n k) (k + 1) → K 29 [some (.inr (.inr (.inr (.inr (30, m))))), some (.inr (.inr (.inr (.inr (37, m + 7))))), some (.inl (nI a)), some (.inl (nI d)), some (.inl (nI (d % 365 - e_mst (e_mon (d % 365)) + 1))), some (.inl (nI (d / 365 * 12 + e_mon (d % 365) + k * n + n))), o6] [] (rM M m (dF F L)) 0 0 := fun L o6 hL => by
          rw [hL]
          have := ih (k + 1) (by omega)
          rw [hkn1, ← Nat.add_assoc] at this
          exact hw.w this ⟨rfl, rfl, rfl, rfl, rfl, rfl, by cases o6 <;> trivial⟩
        generalize hq : d / 365 * 12 + e_mon (d % 365) + k * n = q at *
        have r1 : ∀ L, dF F L 7 (a + 8) = nI t := fun L => by rw [hr]; exact e8
        have r2 : ∀ L, dF F L 7 (a + 6) = nI n := fun L => by rw [hr]; exact e6
        have hm1 : e_mst (q % 12) ≤ 365 := e_mst_le _ (by omega)
        have hf : e_mo1 d n k = if q < 36 ∧ d % 365 - e_mst (e_mon (d % 365)) + 1 ≤ e_mlen q then nI (q / 12 * 365 + e_mst (q % 12) + (d % 365 - e_mst (e_mon (d % 365)) + 1) - 1) else -1 := by rw [← hq]; rfl
        have nx85 : ∀ (L : List Nat) (o6 : Option EV), L = e_fold (nI t) (fun k => e_mo1 d n k) (k + 1) → K 85 [some (.inr (.inr (.inr (.inr (30, m))))), some (.inr (.inr (.inr (.inr (37, m + 7))))), some (.inl (nI a)), some (.inl (nI d)), some (.inl (nI (d % 365 - e_mst (e_mon (d % 365)) + 1))), some (.inl (nI q)), o6] [] (rM M m (dF F L)) 0 0 := fun L o6 hL => by
          refine e_step rfl hc 60 [29] ?_
          repeat' (first | (with_reducible (intro h9; exact absurd rfl h9)) | (with_reducible (intro h9; exact absurd h9 e_10)) | (with_reducible intro _) | (refine And.intro ?_ ?_) | (with_reducible refine e_sw_nil ?_))
          all_goals first | (with_reducible refine e_goK ?_) | (with_reducible refine e_ctK ?_) | (with_reducible refine vp_inK ?_; (try simp (disch := omega) only [mI_rM0, mI_rM1, mI_rM2, mI_rM3, mI_rM4, mI_rM5, mI_rM6, mI_rM7, mI_rM8, mI_rM9, mI_rM10, mI_rM11, mI_rM12, mI_rM13, sI_rM0, sI_rM1, sI_rM2, sI_rM3, sI_rM4, sI_rM5, sI_rM6, sI_rM7, sI_rM8, sI_rM9, sI_rM10, sI_rM11, sI_rM12, sI_rM13, ix_0, ix_1, ix_2, ix_3, ix_4, ix_5, ix_6, ix_7, ix_8, ix_9, ix_10, ix_11, ix_12, ix_13, ix_14, ix_15, ix_16, ix_20, ix_23, ix_24, ix_30, ix_36, ix_46, ix_76, mx_4, mx_6, mx_30, mx_136, mx_1100, mx_3324, nI_add, pk_mul, nI_clamp]); exact vp_in_nI (by omega) (by omega)) | rfl | exact trivial | exact Nat.zero_le _ | exact (e_fit_01 _).1 | exact (e_fit_01 _).2 | (with_reducible refine vp_in_iff.mpr ?_; decide +kernel) | (with_reducible refine e_nz _ (by decide)) | decide | skip
          · refine e_kk (K := K) ?_; refine e_kc (nx L o6 hL) (by (repeat' (first | (refine e_cc ?_ ?_) | (with_reducible rfl) | (simp (disch := omega) only [mI_rM0, mI_rM1, mI_rM2, mI_rM3, mI_rM4, mI_rM5, mI_rM6, mI_rM7, mI_rM8, mI_rM9, mI_rM10, mI_rM11, mI_rM12, mI_rM13, sI_rM0, sI_rM1, sI_rM2, sI_rM3, sI_rM4, sI_rM5, sI_rM6, sI_rM7, sI_rM8, sI_rM9, sI_rM10, sI_rM11, sI_rM12, sI_rM13, n_lit, ↓pk_rem, pk_div, pk_mul, pk_sub, nI_add, nI_clamp, nmod, e_clI, e_clP, hr, e6]; done) | ((try simp (disch := omega) only [mI_rM0, mI_rM1, mI_rM2, mI_rM3, mI_rM4, mI_rM5, mI_rM6, mI_rM7, mI_rM8, mI_rM9, mI_rM10, mI_rM11, mI_rM12, mI_rM13, sI_rM0, sI_rM1, sI_rM2, sI_rM3, sI_rM4, sI_rM5, sI_rM6, sI_rM7, sI_rM8, sI_rM9, sI_rM10, sI_rM11, sI_rM12, sI_rM13, n_lit, ↓pk_rem, pk_div, pk_mul, pk_sub, nI_add, nI_clamp, nmod, e_clI, e_clP, hr, e6]); exact e_cnI (by omega)) | rfl))) (by (repeat' (first | (refine e_cc ?_ ?_) | (with_reducible rfl) | (simp (disch := omega) only [mI_rM0, mI_rM1, mI_rM2, mI_rM3, mI_rM4, mI_rM5, mI_rM6, mI_rM7, mI_rM8, mI_rM9, mI_rM10, mI_rM11, mI_rM12, mI_rM13, sI_rM0, sI_rM1, sI_rM2, sI_rM3, sI_rM4, sI_rM5, sI_rM6, sI_rM7, sI_rM8, sI_rM9, sI_rM10, sI_rM11, sI_rM12, sI_rM13, n_lit, ↓pk_rem, pk_div, pk_mul, pk_sub, nI_add, nI_clamp, nmod, e_clI, e_clP, hr, e6]; done) | ((try simp (disch := omega) only [mI_rM0, mI_rM1, mI_rM2, mI_rM3, mI_rM4, mI_rM5, mI_rM6, mI_rM7, mI_rM8, mI_rM9, mI_rM10, mI_rM11, mI_rM12, mI_rM13, sI_rM0, sI_rM1, sI_rM2, sI_rM3, sI_rM4, sI_rM5, sI_rM6, sI_rM7, sI_rM8, sI_rM9, sI_rM10, sI_rM11, sI_rM12, sI_rM13, n_lit, ↓pk_rem, pk_div, pk_mul, pk_sub, nI_add, nI_clamp, nmod, e_clI, e_clP, hr, e6]); exact e_cnI (by omega)) | rfl))) (by first | (with_reducible rfl) | (simp (disch := omega) only [mI_rM0, mI_rM1, mI_rM2, mI_rM3, mI_rM4, mI_rM5, mI_rM6, mI_rM7, mI_rM8, mI_rM9, mI_rM10, mI_rM11, mI_rM12, mI_rM13, sI_rM0, sI_rM1, sI_rM2, sI_rM3, sI_rM4, sI_rM5, sI_rM6, sI_rM7, sI_rM8, sI_rM9, sI_rM10, sI_rM11, sI_rM12, sI_rM13, n_lit, ↓pk_rem, pk_div, pk_mul, pk_sub, nI_add, nI_clamp, nmod, e_clI, e_clP, hr, e6]; done) | rfl)
        refine e_step rfl hc 60 [29, 85] ?_
        repeat' (first | (with_reducible (intro h9; exact absurd rfl h9)) | (with_reducible (intro h9; exact absurd h9 e_10)) | (with_reducible intro _) | (refine And.intro ?_ ?_) | (with_reducible refine e_sw_nil ?_) | (refine e_ctK ?_; first | (refine Ct.mono (Ct.ar (by first | rfl | (simp (disch := omega) only [mI_rM0, mI_rM1, mI_rM2, mI_rM3, mI_rM4, mI_rM5, mI_rM6, mI_rM7, mI_rM8, mI_rM9, mI_rM10, mI_rM11, mI_rM12, mI_rM13, sI_rM0, sI_rM1, sI_rM2, sI_rM3, sI_rM4, sI_rM5, sI_rM6, sI_rM7, sI_rM8, sI_rM9, sI_rM10, sI_rM11, sI_rM12, sI_rM13, n_lit, ↓pk_rem, pk_div, pk_mul, pk_sub, nI_add, nI_clamp, nmod, e_clI, e_clP]; done)) (by first | rfl | (simp (disch := omega) only [mI_rM0, mI_rM1, mI_rM2, mI_rM3, mI_rM4, mI_rM5, mI_rM6, mI_rM7, mI_rM8, mI_rM9, mI_rM10, mI_rM11, mI_rM12, mI_rM13, sI_rM0, sI_rM1, sI_rM2, sI_rM3, sI_rM4, sI_rM5, sI_rM6, sI_rM7, sI_rM8, sI_rM9, sI_rM10, sI_rM11, sI_rM12, sI_rM13, n_lit, ↓pk_rem, pk_div, pk_mul, pk_sub, nI_add, nI_clamp, nmod, e_clI, e_clP]; done)) (cr_daysOf hl0 _ (k := q % 12 + 1) (by omega) (by omega))) ?_; intro o M' h8; obtain ⟨h9, rfl⟩ := h8; replace h9 := h9.symm; subst h9) | (refine Ct.mono (Ct.ar (by first | rfl | (simp (disch := omega) only [mI_rM0, mI_rM1, mI_rM2, mI_rM3, mI_rM4, mI_rM5, mI_rM6, mI_rM7, mI_rM8, mI_rM9, mI_rM10, mI_rM11, mI_rM12, mI_rM13, sI_rM0, sI_rM1, sI_rM2, sI_rM3, sI_rM4, sI_rM5, sI_rM6, sI_rM7, sI_rM8, sI_rM9, sI_rM10, sI_rM11, sI_rM12, sI_rM13, n_lit, ↓pk_rem, pk_div, pk_mul, pk_sub, nI_add, nI_clamp, nmod, e_clI, e_clP]; done)) (by first | rfl | (simp (disch := omega) only [mI_rM0, mI_rM1, mI_rM2, mI_rM3, mI_rM4, mI_rM5, mI_rM6, mI_rM7, mI_rM8, mI_rM9, mI_rM10, mI_rM11, mI_rM12, mI_rM13, sI_rM0, sI_rM1, sI_rM2, sI_rM3, sI_rM4, sI_rM5, sI_rM6, sI_rM7, sI_rM8, sI_rM9, sI_rM10, sI_rM11, sI_rM12, sI_rM13, n_lit, ↓pk_rem, pk_div, pk_mul, pk_sub, nI_add, nI_clamp, nmod, e_clI, e_clP]; done)) (cr_beginOf hl0 _ (n := q % 12 + 1) (by omega) (by omega))) ?_; intro o M' h8; obtain ⟨h9, rfl⟩ := h8; replace h9 := h9.symm; subst h9) | (refine Ct.mono (Ct.ar (by first | rfl | (simp (disch := omega) only [mI_rM0, mI_rM1, mI_rM2, mI_rM3, mI_rM4, mI_rM5, mI_rM6, mI_rM7, mI_rM8, mI_rM9, mI_rM10, mI_rM11, mI_rM12, mI_rM13, sI_rM0, sI_rM1, sI_rM2, sI_rM3, sI_rM4, sI_rM5, sI_rM6, sI_rM7, sI_rM8, sI_rM9, sI_rM10, sI_rM11, sI_rM12, sI_rM13, n_lit, ↓pk_rem, pk_div, pk_mul, pk_sub, nI_add, nI_clamp, nmod, e_clI, e_clP, r1, show q % 12 + 1 - 1 = q % 12 by omega]; done)) (by first | rfl | (simp (disch := omega) only [mI_rM0, mI_rM1, mI_rM2, mI_rM3, mI_rM4, mI_rM5, mI_rM6, mI_rM7, mI_rM8, mI_rM9, mI_rM10, mI_rM11, mI_rM12, mI_rM13, sI_rM0, sI_rM1, sI_rM2, sI_rM3, sI_rM4, sI_rM5, sI_rM6, sI_rM7, sI_rM8, sI_rM9, sI_rM10, sI_rM11, sI_rM12, sI_rM13, n_lit, ↓pk_rem, pk_div, pk_mul, pk_sub, nI_add, nI_clamp, nmod, e_clI, e_clP, r1, show q % 12 + 1 - 1 = q % 12 by omega]; done)) (cr_adds hl0 M F (m := m) (L := e_fold (nI t) (fun k => e_mo1 d n k) k) (x := 365 * (q / 12) + e_mst (q % 12) + (d % 365 - e_mst (e_mon (d % 365)) + 1) - 1) (t := t) (by omega) ht (e_fold_le k))) ?_; intro o M' h8; obtain ⟨h9, rfl⟩ := h8; replace h9 := h9.symm; subst h9)))
        all_goals first | (with_reducible refine e_goK ?_) | (with_reducible refine e_ctK ?_) | (with_reducible refine vp_inK ?_; (try simp (disch := omega) only [mI_rM0, mI_rM1, mI_rM2, mI_rM3, mI_rM4, mI_rM5, mI_rM6, mI_rM7, mI_rM8, mI_rM9, mI_rM10, mI_rM11, mI_rM12, mI_rM13, sI_rM0, sI_rM1, sI_rM2, sI_rM3, sI_rM4, sI_rM5, sI_rM6, sI_rM7, sI_rM8, sI_rM9, sI_rM10, sI_rM11, sI_rM12, sI_rM13, ix_0, ix_1, ix_2, ix_3, ix_4, ix_5, ix_6, ix_7, ix_8, ix_9, ix_10, ix_11, ix_12, ix_13, ix_14, ix_15, ix_16, ix_20, ix_23, ix_24, ix_30, ix_36, ix_46, ix_76, mx_4, mx_6, mx_30, mx_136, mx_1100, mx_3324, nI_add, pk_mul, nI_clamp]); exact vp_in_nI (by omega) (by omega)) | rfl | exact trivial | exact Nat.zero_le _ | exact (e_fit_01 _).1 | exact (e_fit_01 _).2 | (with_reducible refine vp_in_iff.mpr ?_; decide +kernel) | (with_reducible refine e_nz _ (by decide)) | decide | skip
        · refine nx85 _ _ ?_
          rename_i g3
          have g4 : e_mlen q < d % 365 - e_mst (e_mon (d % 365)) + 1 := (nI_ltI (by show e_mst (q % 12 + 1) - e_mst (q % 12) < _; have := e_mst_le (q % 12 + 1) (by omega); omega) (by omega)).mp g3
          rw [e_fold_s, hf, if_neg (by omega)]
          exact (if_neg (fun h => absurd h.2.2.1 (by decide))).symm
        · refine nx85 _ _ ?_
          rename_i g3
          have g4 : ¬ e_mlen q < d % 365 - e_mst (e_mon (d % 365)) + 1 := fun h => g3 ((nI_ltI (by show e_mst (q % 12 + 1) - e_mst (q % 12) < _; have := e_mst_le (q % 12 + 1) (by omega); omega) (by omega)).mpr h)
          rw [e_fold_s, hf, if_pos (by omega), Nat.mul_comm 365]
  
  refine e_step rfl hc 60 [29] ?_
  repeat' (first | (with_reducible (intro h9; exact absurd rfl h9)) | (with_reducible (intro h9; exact absurd h9 e_10)) | (with_reducible intro _) | (refine And.intro ?_ ?_) | (with_reducible refine e_sw_nil ?_) | (refine e_ctK ?_; first | (refine Ct.mono (Ct.ar (by first | rfl | (simp (disch := omega) only [mI_rM0, mI_rM1, mI_rM2, mI_rM3, mI_rM4, mI_rM5, mI_rM6, mI_rM7, mI_rM8, mI_rM9, mI_rM10, mI_rM11, mI_rM12, mI_rM13, sI_rM0, sI_rM1, sI_rM2, sI_rM3, sI_rM4, sI_rM5, sI_rM6, sI_rM7, sI_rM8, sI_rM9, sI_rM10, sI_rM11, sI_rM12, sI_rM13, n_lit, ↓pk_rem, pk_div, pk_mul, pk_sub, nI_add, nI_clamp, nmod, e_clI, e_clP, hr, e1]; done)) (by first | rfl | (simp (disch := omega) only [mI_rM0, mI_rM1, mI_rM2, mI_rM3, mI_rM4, mI_rM5, mI_rM6, mI_rM7, mI_rM8, mI_rM9, mI_rM10, mI_rM11, mI_rM12, mI_rM13, sI_rM0, sI_rM1, sI_rM2, sI_rM3, sI_rM4, sI_rM5, sI_rM6, sI_rM7, sI_rM8, sI_rM9, sI_rM10, sI_rM11, sI_rM12, sI_rM13, n_lit, ↓pk_rem, pk_div, pk_mul, pk_sub, nI_add, nI_clamp, nmod, e_clI, e_clP, hr, e1]; done)) (cr_monthOf hl0 _ hd)) ?_; intro o M' h8; obtain ⟨h9, rfl⟩ := h8; replace h9 := h9.symm; subst h9) | (refine Ct.mono (Ct.ar (by first | rfl | (simp (disch := omega) only [mI_rM0, mI_rM1, mI_rM2, mI_rM3, mI_rM4, mI_rM5, mI_rM6, mI_rM7, mI_rM8, mI_rM9, mI_rM10, mI_rM11, mI_rM12, mI_rM13, sI_rM0, sI_rM1, sI_rM2, sI_rM3, sI_rM4, sI_rM5, sI_rM6, sI_rM7, sI_rM8, sI_rM9, sI_rM10, sI_rM11, sI_rM12, sI_rM13, n_lit, ↓pk_rem, pk_div, pk_mul, pk_sub, nI_add, nI_clamp, nmod, e_clI, e_clP, hr, e1]; done)) (by first | rfl | (simp (disch := omega) only [mI_rM0, mI_rM1, mI_rM2, mI_rM3, mI_rM4, mI_rM5, mI_rM6, mI_rM7, mI_rM8, mI_rM9, mI_rM10, mI_rM11, mI_rM12, mI_rM13, sI_rM0, sI_rM1, sI_rM2, sI_rM3, sI_rM4, sI_rM5, sI_rM6, sI_rM7, sI_rM8, sI_rM9, sI_rM10, sI_rM11, sI_rM12, sI_rM13, n_lit, ↓pk_rem, pk_div, pk_mul, pk_sub, nI_add, nI_clamp, nmod, e_clI, e_clP, hr, e1]; done)) (cr_dayOfMonth hl0 _ hd)) ?_; intro o M' h8; obtain ⟨h9, rfl⟩ := h8; replace h9 := h9.symm; subst h9)))
  all_goals first | (with_reducible refine e_goK ?_) | (with_reducible refine e_ctK ?_) | (with_reducible refine vp_inK ?_; (try simp (disch := omega) only [mI_rM0, mI_rM1, mI_rM2, mI_rM3, mI_rM4, mI_rM5, mI_rM6, mI_rM7, mI_rM8, mI_rM9, mI_rM10, mI_rM11, mI_rM12, mI_rM13, sI_rM0, sI_rM1, sI_rM2, sI_rM3, sI_rM4, sI_rM5, sI_rM6, sI_rM7, sI_rM8, sI_rM9, sI_rM10, sI_rM11, sI_rM12, sI_rM13, ix_0, ix_1, ix_2, ix_3, ix_4, ix_5, ix_6, ix_7, ix_8, ix_9, ix_10, ix_11, ix_12, ix_13, ix_14, ix_15, ix_16, ix_20, ix_23, ix_24, ix_30, ix_36, ix_46, ix_76, mx_4, mx_6, mx_30, mx_136, mx_1100, mx_3324, nI_add, pk_mul, nI_clamp]); exact vp_in_nI (by omega) (by omega)) | rfl | exact trivial | exact Nat.zero_le _ | exact (e_fit_01 _).1 | exact (e_fit_01 _).2 | (with_reducible refine vp_in_iff.mpr ?_; decide +kernel) | (with_reducible refine e_nz _ (by decide)) | decide | skip
  refine e_kk (K := K) ?_; refine e_kc (loop 36 0 rfl) (by (repeat' (first | (refine e_cc ?_ ?_) | (with_reducible rfl) | (simp (disch := omega) only [mI_rM0, mI_rM1, mI_rM2, mI_rM3, mI_rM4, mI_rM5, mI_rM6, mI_rM7, mI_rM8, mI_rM9, mI_rM10, mI_rM11, mI_rM12, mI_rM13, sI_rM0, sI_rM1, sI_rM2, sI_rM3, sI_rM4, sI_rM5, sI_rM6, sI_rM7, sI_rM8, sI_rM9, sI_rM10, sI_rM11, sI_rM12, sI_rM13, n_lit, ↓pk_rem, pk_div, pk_mul, pk_sub, nI_add, nI_clamp, nmod, e_clI, e_clP, hr, e1]; done) | ((try simp (disch := omega) only [mI_rM0, mI_rM1, mI_rM2, mI_rM3, mI_rM4, mI_rM5, mI_rM6, mI_rM7, mI_rM8, mI_rM9, mI_rM10, mI_rM11, mI_rM12, mI_rM13, sI_rM0, sI_rM1, sI_rM2, sI_rM3, sI_rM4, sI_rM5, sI_rM6, sI_rM7, sI_rM8, sI_rM9, sI_rM10, sI_rM11, sI_rM12, sI_rM13, n_lit, ↓pk_rem, pk_div, pk_mul, pk_sub, nI_add, nI_clamp, nmod, e_clI, e_clP, hr, e1]); exact e_cnI (by omega)) | rfl))) (by (repeat' (first | (refine e_cc ?_ ?_) | (with_reducible rfl) | (simp (disch := omega) only [mI_rM0, mI_rM1, mI_rM2, mI_rM3, mI_rM4, mI_rM5, mI_rM6, mI_rM7, mI_rM8, mI_rM9, mI_rM10, mI_rM11, mI_rM12, mI_rM13, sI_rM0, sI_rM1, sI_rM2, sI_rM3, sI_rM4, sI_rM5, sI_rM6, sI_rM7, sI_rM8, sI_rM9, sI_rM10, sI_rM11, sI_rM12, sI_rM13, n_lit, ↓pk_rem, pk_div, pk_mul, pk_sub, nI_add, nI_clamp, nmod, e_clI, e_clP, hr, e1]; done) | ((try simp (disch := omega) only [mI_rM0, mI_rM1, mI_rM2, mI_rM3, mI_rM4, mI_rM5, mI_rM6, mI_rM7, mI_rM8, mI_rM9, mI_rM10, mI_rM11, mI_rM12, mI_rM13, sI_rM0, sI_rM1, sI_rM2, sI_rM3, sI_rM4, sI_rM5, sI_rM6, sI_rM7, sI_rM8, sI_rM9, sI_rM10, sI_rM11, sI_rM12, sI_rM13, n_lit, ↓pk_rem, pk_div, pk_mul, pk_sub, nI_add, nI_clamp, nmod, e_clI, e_clP, hr, e1]); exact e_cnI (by omega)) | rfl))) (by first | (with_reducible rfl) | (simp (disch := omega) only [mI_rM0, mI_rM1, mI_rM2, mI_rM3, mI_rM4, mI_rM5, mI_rM6, mI_rM7, mI_rM8, mI_rM9, mI_rM10, mI_rM11, mI_rM12, mI_rM13, sI_rM0, sI_rM1, sI_rM2, sI_rM3, sI_rM4, sI_rM5, sI_rM6, sI_rM7, sI_rM8, sI_rM9, sI_rM10, sI_rM11, sI_rM12, sI_rM13, n_lit, ↓pk_rem, pk_div, pk_mul, pk_sub, nI_add, nI_clamp, nmod, e_clI, e_clP, hr, e1]; done) | rfl)
end
