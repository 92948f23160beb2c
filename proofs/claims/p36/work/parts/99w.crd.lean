/-! THE READER of the class: its tokens. -/
section
variable {l : Launch} {g : EG}
/-- only what belongs to the tokens is written -/
def rT (r : Nat) (M M' : EM) : Prop := mP M' = mP M ∧ mL M' = mL M ∧ (∀ c j, ¬ c = r → ¬ c = r + 47 → mI M' c j = mI M c j) ∧ (∀ j, ¬ (2 ≤ j ∧ j ≤ 6) → mI M' r j = mI M r j) ∧ mI M' (r + 47) 0 = mI M (r + 47) 0
theorem rT.rf {r : Nat} {M : EM} : rT r M M := ⟨rfl, rfl, fun _ _ _ _ => rfl, fun _ _ => rfl, rfl⟩
theorem rT.tr {r : Nat} {M M' M'' : EM} (h : rT r M M') (h' : rT r M' M'') : rT r M M'' := ⟨h'.1.trans h.1, h'.2.1.trans h.2.1, fun c j h1 h2 => (h'.2.2.1 c j h1 h2).trans (h.2.2.1 c j h1 h2), fun j hj => (h'.2.2.2.1 j hj).trans (h.2.2.2.1 j hj), h'.2.2.2.2.trans h.2.2.2.2⟩
/-- the token at t is looked at -/
def CT (M : EM) (r : Nat) (B : Nat → Nat) (n t : Nat) : Prop := TB M (r + 47) B n ∧ CK B n t (mI M (r + 47))
def okC (M M' : EM) (r : Nat) : Prop := mI M' r 2 = mI M r 2 ∧ mI M' r 3 = mI M r 3
def erC (M' : EM) (r c q : Nat) : Prop := mI M' r 2 = nI c ∧ mI M' r 3 = nI q
theorem okC.rf {M : EM} {r : Nat} : okC M M r := ⟨rfl, rfl⟩
theorem okC.tr {M M' M'' : EM} {r : Nat} (h : okC M M' r) (h' : okC M' M'' r) : okC M M'' r := ⟨h'.1.trans h.1, h'.2.trans h.2⟩
theorem tW_rT {M : EM} {r : Nat} {f : Nat → Int32} (h : f 0 = mI M (r + 47) 0) : rT r M (tW M (r + 47) f) := ⟨rfl, rfl, fun c j _ h2 => tW_n h2, fun j _ => tW_n (by omega), tW_s.trans h⟩
theorem tW_ok {M : EM} {r : Nat} {f : Nat → Int32} : okC M (tW M (r + 47) f) r := ⟨tW_n (by omega), tW_n (by omega)⟩
theorem tW_r {M : EM} {r j : Nat} {f : Nat → Int32} : mI (tW M (r + 47) f) r j = mI M r j := tW_n (by omega)
theorem tW_CT {M : EM} {r n t : Nat} {B : Nat → Nat} {f : Nat → Int32} (h : TB M (r + 47) B n) (hf : CK B n t f) : CT (tW M (r + 47) f) r B n t := by
  refine ⟨⟨h.1, fun j hj => ⟨tW_b.trans (h.2 j hj).1, (h.2 j hj).2⟩⟩, ?_⟩
  have : mI (tW M (r + 47) f) (r + 47) = f := funext fun k => tW_s
  rw [this]; exact hf
theorem CT.u {M : EM} {r n t j : Nat} {v : Int32} {B : Nat → Nat} (h : CT M r B n t) : CT (sI M r j v) r B n t := by
  have e : ∀ c k, ¬ c = r → mI (sI M r j v) c k = mI M c k := fun c k hc => by rw [mI_sI2, if_neg (by omega)]
  refine ⟨⟨h.1.1, fun k hk => ⟨(e _ _ (by omega)).trans (h.1.2 k hk).1, (h.1.2 k hk).2⟩⟩, ?_⟩
  have : mI (sI M r j v) (r + 47) = mI M (r + 47) := funext fun k => e _ _ (by omega)
  rw [this]; exact h.2
theorem rT.u {r j : Nat} {M M' : EM} {v : Int32} (h : rT r M M') (hj : 2 ≤ j ∧ j ≤ 6) : rT r M (sI M' r j v) := h.tr ⟨rfl, rfl, fun c k h1 _ => by rw [mI_sI2, if_neg (by omega)], fun k hk => by rw [mI_sI2, if_neg (by omega)], by rw [mI_sI2, if_neg (by omega)]⟩
/-- the text takes a step -/
theorem ct_next (hl0 : l.stackTraces = false) (M : EM) {r n t : Nat} {B : Nat → Nat} (h : CT M r B n t) (ht : t < n) : Ct l g sg_X8_step [.inr (.inr (.inr (.inr (3, r + 47))))] M (fun o M' => BX ((rT r M M' ∧ CT M' r B n (nx B n t) ∧ okC M M' r ∧ ∀ j, mI M' r j = mI M r j) ∧ o = .inl none)) := by
  obtain ⟨hT, k1, k2, k6, k3, kt, k5⟩ := h
  have k6' : mI M (r + 47) 6 = nI (tE B n t) := by rw [k6]; unfold tX; rw [if_pos ht]
  have st := ct_step (g := g) hl0 M (mI M (r + 47)) hT k5 k6' (tE_le ht).2
  rw [tW_id] at st
  refine Ct.mono st (fun o M' q => ?_)
  obtain ⟨f', rfl, ⟨q1, q2⟩, q3⟩ := q.out
  exact BX.mk ⟨⟨tW_rT q2, tW_CT hT q1, tW_ok, fun j => tW_r⟩, q3⟩
theorem isW_t (hl0 : l.stackTraces = false) (M : EM) {r n t s k : Nat} {W : Nat} {B : Nat → Nat} (X : ∀ {g : EG}, Ct l g sg_X8_isWord [.inr (.inr (.inr (.inr (3, r + 47)))), .inr (.inr (.inr (.inr (k, s))))] (tW M (r + 47) (mI M (r + 47))) (fun o M' => M' = tW M (r + 47) (mI M (r + 47)) ∧ o = .inl (some (.inl (e_01 (tH B n t = W)))))) : (tH B n t = W → Ct l g sg_X8_isWord [.inr (.inr (.inr (.inr (3, r + 47)))), .inr (.inr (.inr (.inr (k, s))))] M (fun o M' => M' = M ∧ o = .inl (some (.inl 1)))) ∧ (¬ tH B n t = W → Ct l g sg_X8_isWord [.inr (.inr (.inr (.inr (3, r + 47)))), .inr (.inr (.inr (.inr (k, s))))] M (fun o M' => M' = M ∧ o = .inl (some (.inl 0)))) := by
  have X' := X (g := g)
  rw [tW_id] at X'
  exact ⟨fun h => Ct.mono X' (fun o M' q => ⟨q.1, q.2.trans (by rw [e_01_t h])⟩), fun h => Ct.mono X' (fun o M' q => ⟨q.1, q.2.trans (by rw [e_01_f h])⟩)⟩
theorem pN_kd {B : Nat → Nat} {n t : Nat} : okN B n t = true ↔ kdN B n t = 2 := by
  unfold okN kdN tDi
  by_cases h : t < n
  · rw [if_pos h]
    by_cases h2 : isLe (B t) = true
    · rw [if_pos h2]
      have := isLeDi h2
      simp [this]
    · rw [if_neg h2]
      by_cases h3 : isDi (B t) = true
      · rw [if_pos h3]
        by_cases h4 : tE B n t - t ≤ 4
        · rw [if_pos h4]; simp [h, h3, h4]
        · rw [if_neg h4]; simp [h, h3]; omega
      · rw [if_neg h3]
        have h3' : isDi (B t) = false := Bool.eq_false_iff.mpr h3
        rw [h3']
        simp only [Bool.and_false, Bool.false_and]
        constructor
        · intro z; cases z
        · intro z; repeat' (split at z)
          all_goals cases z
  · rw [if_neg h]
    have : Nat.blt t n = false := Bool.eq_false_iff.mpr (fun z => h (by rw [Nat.blt_eq] at z; exact z))
    simp [this]
set_option maxRecDepth 20000 in
theorem cc_fail (hl0 : l.stackTraces = false) (M : EM) {r n t c : Nat} {B : Nat → Nat} (h : CT M r B n t) : Ct l g sg_X6_fail [.inr (.inr (.inr (.inr (2, r)))), .inl (nI c)] M (fun o M' => BX ((rT r M M' ∧ CT M' r B n t ∧ erC M' r c t) ∧ o = .inl (some (.inl 0)))) := by
  refine sem_of hl0 mt_X6_fail ok_X6_fail rfl (fun K hc hw => ?_)
  clear hw
  obtain ⟨hT, k1, k2, k6, k3, kt, k5⟩ := id h
  refine e_step rfl hc 60 [] ?_
  repeat' (first | (with_reducible (intro h9; exact absurd rfl h9)) | (with_reducible (intro h9; exact absurd h9 e_10)) | (with_reducible (intro h9; first | exact absurd e_00 h9 | exact absurd h9 e_n10 | exact absurd h9 e_n20 | exact absurd h9 e_n30)) | (with_reducible intro _) | (refine And.intro ?_ ?_) | (with_reducible refine e_sw_nil ?_) | fail)
  all_goals first | (with_reducible refine e_goK ?_) | (with_reducible refine e_ctK ?_) | (with_reducible refine vp_inK ?_; (try simp (disch := omega) only [mI_rM0, mI_rM1, mI_rM2, mI_rM3, mI_rM4, mI_rM5, mI_rM6, mI_rM7, mI_rM8, mI_rM9, mI_rM10, mI_rM11, mI_rM12, mI_rM13, sI_rM0, sI_rM1, sI_rM2, sI_rM3, sI_rM4, sI_rM5, sI_rM6, sI_rM7, sI_rM8, sI_rM9, sI_rM10, sI_rM11, sI_rM12, sI_rM13, ix_0, ix_1, ix_2, ix_3, ix_4, ix_5, ix_6, ix_7, ix_8, ix_9, ix_10, ix_11, ix_12, ix_13, ix_14, ix_15, ix_16, ix_20, ix_23, ix_24, ix_30, ix_36, ix_46, ix_76, mx_4, mx_6, mx_30, mx_136, mx_1100, mx_3324, xi_1, xi_30, nI_pred, eAt, zAt, tc_0, tc_1, tc_2, tc_3, tc_7, tc_15, tc_23, tc_30, nI_add, pk_mul, nI_clamp]); exact vp_in_nI (by omega) (by omega)) | rfl | exact trivial | exact Nat.zero_le _ | exact (e_fit_01 _).1 | exact (e_fit_01 _).2 | (with_reducible refine vp_in_iff.mpr ?_; decide +kernel) | (with_reducible refine e_nz _ (by decide)) | decide | skip
  have e3 : mI (sI M r 2 (nI c)) (r + 47) 2 = nI t := by rw [mI_sI2, if_neg (by omega)]; exact k2
  exact BX.mk ⟨⟨(rT.rf.u (by omega)).u (by omega), h.u.u, by show mI (sI (sI M r 2 (nI c)) r 3 _) r 2 = _; rw [mI_sI2, if_neg (by omega), mI_sI2, if_pos ⟨rfl, rfl⟩], by show mI (sI (sI M r 2 (nI c)) r 3 (mI (sI M r 2 (nI c)) (r + 47) 2)) r 3 = _; rw [mI_sI2, if_pos ⟨rfl, rfl⟩, e3]⟩, rfl⟩
/-- the end of a reading of the class: an error, or what P says -/
def RC {α : Type} (G : EM → EM → Prop) (M : EM) (r : Nat) (e : (Nat × Nat) ⊕ (α × Nat)) (P : EM → α → Nat → Prop) : EO → EM → Prop := fun o M' => match e with
  | .inl (c, q) => BX ((G M M' ∧ erC M' r c q) ∧ o = .inl (some (.inl 0)))
  | .inr (a, t') => BX ((G M M' ∧ okC M M' r ∧ P M' a t') ∧ o = .inl (some (.inl 1)))
theorem RC.no {α : Type} {G : EM → EM → Prop} {M M' : EM} {r : Nat} {e : (Nat × Nat) ⊕ (α × Nat)} {P : EM → α → Nat → Prop} {c q : Nat} (h : e = .inl (c, q)) (hk : G M M') (he : erC M' r c q) : RC G M r e P (.inl (some (.inl 0))) M' := by
  unfold RC; rw [h]; exact BX.mk ⟨⟨hk, he⟩, rfl⟩
theorem RC.yes {α : Type} {G : EM → EM → Prop} {M M' : EM} {r : Nat} {e : (Nat × Nat) ⊕ (α × Nat)} {P : EM → α → Nat → Prop} {a : α} {t' : Nat} (h : e = .inr (a, t')) (hk : G M M') (ho : okC M M' r) (hp : P M' a t') : RC G M r e P (.inl (some (.inl 1))) M' := by
  unfold RC; rw [h]; exact BX.mk ⟨⟨hk, ho, hp⟩, rfl⟩
theorem RC.o {α : Type} {G : EM → EM → Prop} {M M' : EM} {r : Nat} {e : (Nat × Nat) ⊕ (α × Nat)} {P : EM → α → Nat → Prop} {o : EO} {c q : Nat} (h : RC G M r e P o M') (hr : e = .inl (c, q)) : (G M M' ∧ erC M' r c q) ∧ o = .inl (some (.inl 0)) := by
  unfold RC at h; rw [hr] at h; exact h.out
theorem RC.i {α : Type} {G : EM → EM → Prop} {M M' : EM} {r : Nat} {e : (Nat × Nat) ⊕ (α × Nat)} {P : EM → α → Nat → Prop} {o : EO} {a : α} {t' : Nat} (h : RC G M r e P o M') (hr : e = .inr (a, t')) : (G M M' ∧ okC M M' r ∧ P M' a t') ∧ o = .inl (some (.inl 1)) := by
  unfold RC at h; rw [hr] at h; exact h.out
theorem RC.mono {α : Type} {G : EM → EM → Prop} {M M' : EM} {r : Nat} {e : (Nat × Nat) ⊕ (α × Nat)} {P P' : EM → α → Nat → Prop} {o : EO} (h : RC G M r e P o M') (hp : ∀ M' a t', P M' a t' → P' M' a t') : RC G M r e P' o M' := by
  rcases e with ⟨c, q⟩ | ⟨a, t'⟩
  · exact h
  · obtain ⟨⟨q1, q2, q3⟩, q4⟩ := h.i rfl
    exact BX.mk ⟨⟨q1, q2, hp _ _ _ q3⟩, q4⟩
theorem isW_1 {M M' : EM} {x : Int32} {y : Nat} {r : Nat} (h : mI M r 5 = x) (h2 : ∀ j, mI M' r j = mI M r j) : mI M' r 5 = x := (h2 5).trans h
set_option maxRecDepth 20000 in
theorem cc_seeNumberX (hl0 : l.stackTraces = false) (M : EM) {r n t : Nat} {B : Nat → Nat} (h : CT M r B n t) (lo hi : Int32) : Ct l g sg_X6_seeNumber [.inr (.inr (.inr (.inr (2, r)))), .inl lo, .inl hi] M (fun o M' => RC (rT r) M r (pN B n lo hi t) (fun M' v _ => (CT M' r B n t ∧ mI M' r 5 = nI v) ∧ mI M' r 6 = mI M r 6) o M') := by
  refine sem_of hl0 mt_X6_seeNumber ok_X6_seeNumber rfl (fun K hc hw => ?_)
  clear hw
  obtain ⟨hT, k1, k2, k6, k3, kt, k5⟩ := id h
  have kl := kdN_lt (B := B) (n := n) (t := t)
  by_cases hk : kdN B n t = 2
  case neg =>
    have c : ¬ mI M (r + 47) 1 = 2 := by rw [k1]; exact fun z => hk ((nI_eq (b := 2) (by omega) (by omega)).mp z)
    have hr : pN B n lo hi t = .inl (1, t) := by unfold pN; rw [if_neg (fun z => hk (pN_kd.mp z))]
    refine e_step rfl hc 60 [17] ?_
    repeat' (first | (with_reducible (intro h9; exact absurd rfl h9)) | (with_reducible (intro h9; exact absurd h9 e_10)) | (with_reducible (intro h9; first | exact absurd e_00 h9 | exact absurd h9 e_n10 | exact absurd h9 e_n20 | exact absurd h9 e_n30)) | (with_reducible intro _) | (refine And.intro ?_ ?_) | (with_reducible refine e_sw_nil ?_) | (refine e_ctK ?_; first | (refine Ct.mono (Ct.ar (by first | rfl | (simp (disch := omega) only [mI_rM0, mI_rM1, mI_rM2, mI_rM3, mI_rM4, mI_rM5, mI_rM6, mI_rM7, mI_rM8, mI_rM9, mI_rM10, mI_rM11, mI_rM12, mI_rM13, sI_rM0, sI_rM1, sI_rM2, sI_rM3, sI_rM4, sI_rM5, sI_rM6, sI_rM7, sI_rM8, sI_rM9, sI_rM10, sI_rM11, sI_rM12, sI_rM13, n_lit, ↓pk_rem, pk_div, pk_mul, pk_sub, nI_add, nI_clamp, nmod, Nat.add_sub_cancel, eAt, zAt, e_clI, e_clP]; done) | fail) (by first | rfl | (simp (disch := omega) only [mI_rM0, mI_rM1, mI_rM2, mI_rM3, mI_rM4, mI_rM5, mI_rM6, mI_rM7, mI_rM8, mI_rM9, mI_rM10, mI_rM11, mI_rM12, mI_rM13, sI_rM0, sI_rM1, sI_rM2, sI_rM3, sI_rM4, sI_rM5, sI_rM6, sI_rM7, sI_rM8, sI_rM9, sI_rM10, sI_rM11, sI_rM12, sI_rM13, n_lit, ↓pk_rem, pk_div, pk_mul, pk_sub, nI_add, nI_clamp, nmod, Nat.add_sub_cancel, eAt, zAt, e_clI, e_clP]; done) | fail) (cc_fail hl0 M (c := 1) h)) ?_; intro o M' h8; obtain ⟨q1, rfl⟩ := h8.out) | fail) | fail)
    all_goals first | (exfalso; first | exact c (by assumption) | exact (by assumption : ¬ _) c | fail) | skip
    all_goals first | (with_reducible refine e_goK ?_) | (with_reducible refine e_ctK ?_) | (with_reducible refine vp_inK ?_; (try simp (disch := omega) only [mI_rM0, mI_rM1, mI_rM2, mI_rM3, mI_rM4, mI_rM5, mI_rM6, mI_rM7, mI_rM8, mI_rM9, mI_rM10, mI_rM11, mI_rM12, mI_rM13, sI_rM0, sI_rM1, sI_rM2, sI_rM3, sI_rM4, sI_rM5, sI_rM6, sI_rM7, sI_rM8, sI_rM9, sI_rM10, sI_rM11, sI_rM12, sI_rM13, ix_0, ix_1, ix_2, ix_3, ix_4, ix_5, ix_6, ix_7, ix_8, ix_9, ix_10, ix_11, ix_12, ix_13, ix_14, ix_15, ix_16, ix_20, ix_23, ix_24, ix_30, ix_36, ix_46, ix_76, mx_4, mx_6, mx_30, mx_136, mx_1100, mx_3324, xi_1, xi_30, nI_pred, eAt, zAt, tc_0, tc_1, tc_2, tc_3, tc_7, tc_15, tc_23, tc_30, nI_add, pk_mul, nI_clamp]); exact vp_in_nI (by omega) (by omega)) | rfl | exact trivial | exact Nat.zero_le _ | exact (e_fit_01 _).1 | exact (e_fit_01 _).2 | (with_reducible refine vp_in_iff.mpr ?_; decide +kernel) | (with_reducible refine e_nz _ (by decide)) | decide | skip
    all_goals first | (exfalso; first | exact c (by assumption) | exact (by assumption : ¬ _) c | fail) | skip
    all_goals first | exact RC.no hr q1.1 q1.2.2 | skip
  have c : mI M (r + 47) 1 = 2 := by rw [k1, hk]; rfl
  have k5' : mI M (r + 47) 3 = nI (tN B n t) := k3 hk
  have ok := pN_kd.mpr hk
  have k28 : K 28 [some (.inr (.inr (.inr (.inr (2, r))))), some (.inl lo), some (.inl hi)] [] (sI M r 5 (nI (tN B n t))) 0 0 := by
    have m5 : mI (sI M r 5 (nI (tN B n t))) r 5 = nI (tN B n t) := by rw [mI_sI2, if_pos ⟨rfl, rfl⟩]
    have e5 : okC M (sI M r 5 (nI (tN B n t))) r := ⟨by rw [mI_sI2, if_neg (by omega)], by rw [mI_sI2, if_neg (by omega)]⟩
    by_cases hin : lo ≤ nI (tN B n t) ∧ nI (tN B n t) ≤ hi
    · have hr : pN B n lo hi t = .inr (tN B n t, nx B n t) := by unfold pN; rw [if_pos ok, if_pos hin]
      refine e_step rfl hc 60 [] ?_
      repeat' (first | (with_reducible (intro h9; exact absurd rfl h9)) | (with_reducible (intro h9; exact absurd h9 e_10)) | (with_reducible (intro h9; first | exact absurd e_00 h9 | exact absurd h9 e_n10 | exact absurd h9 e_n20 | exact absurd h9 e_n30)) | (with_reducible intro _) | (refine And.intro ?_ ?_) | (with_reducible refine e_sw_nil ?_) | (refine e_ctK ?_; first | (refine Ct.mono (Ct.ar (by first | rfl | (simp (disch := omega) only [mI_rM0, mI_rM1, mI_rM2, mI_rM3, mI_rM4, mI_rM5, mI_rM6, mI_rM7, mI_rM8, mI_rM9, mI_rM10, mI_rM11, mI_rM12, mI_rM13, sI_rM0, sI_rM1, sI_rM2, sI_rM3, sI_rM4, sI_rM5, sI_rM6, sI_rM7, sI_rM8, sI_rM9, sI_rM10, sI_rM11, sI_rM12, sI_rM13, n_lit, ↓pk_rem, pk_div, pk_mul, pk_sub, nI_add, nI_clamp, nmod, Nat.add_sub_cancel, eAt, zAt, e_clI, e_clP, m5]; done) | fail) (by first | rfl | (simp (disch := omega) only [mI_rM0, mI_rM1, mI_rM2, mI_rM3, mI_rM4, mI_rM5, mI_rM6, mI_rM7, mI_rM8, mI_rM9, mI_rM10, mI_rM11, mI_rM12, mI_rM13, sI_rM0, sI_rM1, sI_rM2, sI_rM3, sI_rM4, sI_rM5, sI_rM6, sI_rM7, sI_rM8, sI_rM9, sI_rM10, sI_rM11, sI_rM12, sI_rM13, n_lit, ↓pk_rem, pk_div, pk_mul, pk_sub, nI_add, nI_clamp, nmod, Nat.add_sub_cancel, eAt, zAt, e_clI, e_clP, m5]; done) | fail) (c_isWithin_t hl0 _ (nI (tN B n t)) lo hi hin)) ?_; intro o M' h8; obtain ⟨h9, rfl⟩ := h8; replace h9 := h9.symm; subst h9) | fail) | fail)
      all_goals first | (with_reducible refine e_goK ?_) | (with_reducible refine e_ctK ?_) | (with_reducible refine vp_inK ?_; (try simp (disch := omega) only [mI_rM0, mI_rM1, mI_rM2, mI_rM3, mI_rM4, mI_rM5, mI_rM6, mI_rM7, mI_rM8, mI_rM9, mI_rM10, mI_rM11, mI_rM12, mI_rM13, sI_rM0, sI_rM1, sI_rM2, sI_rM3, sI_rM4, sI_rM5, sI_rM6, sI_rM7, sI_rM8, sI_rM9, sI_rM10, sI_rM11, sI_rM12, sI_rM13, ix_0, ix_1, ix_2, ix_3, ix_4, ix_5, ix_6, ix_7, ix_8, ix_9, ix_10, ix_11, ix_12, ix_13, ix_14, ix_15, ix_16, ix_20, ix_23, ix_24, ix_30, ix_36, ix_46, ix_76, mx_4, mx_6, mx_30, mx_136, mx_1100, mx_3324, xi_1, xi_30, nI_pred, eAt, zAt, tc_0, tc_1, tc_2, tc_3, tc_7, tc_15, tc_23, tc_30, nI_add, pk_mul, nI_clamp]); exact vp_in_nI (by omega) (by omega)) | rfl | exact trivial | exact Nat.zero_le _ | exact (e_fit_01 _).1 | exact (e_fit_01 _).2 | (with_reducible refine vp_in_iff.mpr ?_; decide +kernel) | (with_reducible refine e_nz _ (by decide)) | decide | skip
      all_goals first | contradiction | exact RC.yes hr (rT.rf.u (by omega)) e5 ⟨⟨h.u, m5⟩, by rw [mI_sI2, if_neg (by omega)]⟩ | trace_state
    · have hr : pN B n lo hi t = .inl (2, t) := by unfold pN; rw [if_pos ok, if_neg hin]
      refine e_step rfl hc 60 [] ?_
      repeat' (first | (with_reducible (intro h9; exact absurd rfl h9)) | (with_reducible (intro h9; exact absurd h9 e_10)) | (with_reducible (intro h9; first | exact absurd e_00 h9 | exact absurd h9 e_n10 | exact absurd h9 e_n20 | exact absurd h9 e_n30)) | (with_reducible intro _) | (refine And.intro ?_ ?_) | (with_reducible refine e_sw_nil ?_) | (refine e_ctK ?_; first | (refine Ct.mono (Ct.ar (by first | rfl | (simp (disch := omega) only [mI_rM0, mI_rM1, mI_rM2, mI_rM3, mI_rM4, mI_rM5, mI_rM6, mI_rM7, mI_rM8, mI_rM9, mI_rM10, mI_rM11, mI_rM12, mI_rM13, sI_rM0, sI_rM1, sI_rM2, sI_rM3, sI_rM4, sI_rM5, sI_rM6, sI_rM7, sI_rM8, sI_rM9, sI_rM10, sI_rM11, sI_rM12, sI_rM13, n_lit, ↓pk_rem, pk_div, pk_mul, pk_sub, nI_add, nI_clamp, nmod, Nat.add_sub_cancel, eAt, zAt, e_clI, e_clP, m5]; done) | fail) (by first | rfl | (simp (disch := omega) only [mI_rM0, mI_rM1, mI_rM2, mI_rM3, mI_rM4, mI_rM5, mI_rM6, mI_rM7, mI_rM8, mI_rM9, mI_rM10, mI_rM11, mI_rM12, mI_rM13, sI_rM0, sI_rM1, sI_rM2, sI_rM3, sI_rM4, sI_rM5, sI_rM6, sI_rM7, sI_rM8, sI_rM9, sI_rM10, sI_rM11, sI_rM12, sI_rM13, n_lit, ↓pk_rem, pk_div, pk_mul, pk_sub, nI_add, nI_clamp, nmod, Nat.add_sub_cancel, eAt, zAt, e_clI, e_clP, m5]; done) | fail) (c_isWithin_f hl0 _ (nI (tN B n t)) lo hi hin)) ?_; intro o M' h8; obtain ⟨h9, rfl⟩ := h8; replace h9 := h9.symm; subst h9) | (refine Ct.mono (Ct.ar (by first | rfl | (simp (disch := omega) only [mI_rM0, mI_rM1, mI_rM2, mI_rM3, mI_rM4, mI_rM5, mI_rM6, mI_rM7, mI_rM8, mI_rM9, mI_rM10, mI_rM11, mI_rM12, mI_rM13, sI_rM0, sI_rM1, sI_rM2, sI_rM3, sI_rM4, sI_rM5, sI_rM6, sI_rM7, sI_rM8, sI_rM9, sI_rM10, sI_rM11, sI_rM12, sI_rM13, n_lit, ↓pk_rem, pk_div, pk_mul, pk_sub, nI_add, nI_clamp, nmod, Nat.add_sub_cancel, eAt, zAt, e_clI, e_clP]; done) | fail) (by first | rfl | (simp (disch := omega) only [mI_rM0, mI_rM1, mI_rM2, mI_rM3, mI_rM4, mI_rM5, mI_rM6, mI_rM7, mI_rM8, mI_rM9, mI_rM10, mI_rM11, mI_rM12, mI_rM13, sI_rM0, sI_rM1, sI_rM2, sI_rM3, sI_rM4, sI_rM5, sI_rM6, sI_rM7, sI_rM8, sI_rM9, sI_rM10, sI_rM11, sI_rM12, sI_rM13, n_lit, ↓pk_rem, pk_div, pk_mul, pk_sub, nI_add, nI_clamp, nmod, Nat.add_sub_cancel, eAt, zAt, e_clI, e_clP]; done) | fail) (cc_fail hl0 (sI M r 5 (nI (tN B n t))) (c := 2) h.u)) ?_; intro o M' h8; obtain ⟨q1, rfl⟩ := h8.out) | fail) | fail)
      all_goals first | (with_reducible refine e_goK ?_) | (with_reducible refine e_ctK ?_) | (with_reducible refine vp_inK ?_; (try simp (disch := omega) only [mI_rM0, mI_rM1, mI_rM2, mI_rM3, mI_rM4, mI_rM5, mI_rM6, mI_rM7, mI_rM8, mI_rM9, mI_rM10, mI_rM11, mI_rM12, mI_rM13, sI_rM0, sI_rM1, sI_rM2, sI_rM3, sI_rM4, sI_rM5, sI_rM6, sI_rM7, sI_rM8, sI_rM9, sI_rM10, sI_rM11, sI_rM12, sI_rM13, ix_0, ix_1, ix_2, ix_3, ix_4, ix_5, ix_6, ix_7, ix_8, ix_9, ix_10, ix_11, ix_12, ix_13, ix_14, ix_15, ix_16, ix_20, ix_23, ix_24, ix_30, ix_36, ix_46, ix_76, mx_4, mx_6, mx_30, mx_136, mx_1100, mx_3324, xi_1, xi_30, nI_pred, eAt, zAt, tc_0, tc_1, tc_2, tc_3, tc_7, tc_15, tc_23, tc_30, nI_add, pk_mul, nI_clamp]); exact vp_in_nI (by omega) (by omega)) | rfl | exact trivial | exact Nat.zero_le _ | exact (e_fit_01 _).1 | exact (e_fit_01 _).2 | (with_reducible refine vp_in_iff.mpr ?_; decide +kernel) | (with_reducible refine e_nz _ (by decide)) | decide | skip
      all_goals first | contradiction | exact RC.no hr ((rT.rf.u (by omega)).tr q1.1) q1.2.2 | trace_state
  refine e_step rfl hc 60 [17] ?_
  repeat' (first | (with_reducible (intro h9; exact absurd rfl h9)) | (with_reducible (intro h9; exact absurd h9 e_10)) | (with_reducible (intro h9; first | exact absurd e_00 h9 | exact absurd h9 e_n10 | exact absurd h9 e_n20 | exact absurd h9 e_n30)) | (with_reducible intro _) | (refine And.intro ?_ ?_) | (with_reducible refine e_sw_nil ?_) | fail)
  all_goals first | (exfalso; first | exact c (by assumption) | exact (by assumption : ¬ _) c | fail) | skip
  all_goals first | (with_reducible refine e_goK ?_) | (with_reducible refine e_ctK ?_) | (with_reducible refine vp_inK ?_; (try simp (disch := omega) only [mI_rM0, mI_rM1, mI_rM2, mI_rM3, mI_rM4, mI_rM5, mI_rM6, mI_rM7, mI_rM8, mI_rM9, mI_rM10, mI_rM11, mI_rM12, mI_rM13, sI_rM0, sI_rM1, sI_rM2, sI_rM3, sI_rM4, sI_rM5, sI_rM6, sI_rM7, sI_rM8, sI_rM9, sI_rM10, sI_rM11, sI_rM12, sI_rM13, ix_0, ix_1, ix_2, ix_3, ix_4, ix_5, ix_6, ix_7, ix_8, ix_9, ix_10, ix_11, ix_12, ix_13, ix_14, ix_15, ix_16, ix_20, ix_23, ix_24, ix_30, ix_36, ix_46, ix_76, mx_4, mx_6, mx_30, mx_136, mx_1100, mx_3324, xi_1, xi_30, nI_pred, eAt, zAt, tc_0, tc_1, tc_2, tc_3, tc_7, tc_15, tc_23, tc_30, nI_add, pk_mul, nI_clamp]); exact vp_in_nI (by omega) (by omega)) | rfl | exact trivial | exact Nat.zero_le _ | exact (e_fit_01 _).1 | exact (e_fit_01 _).2 | (with_reducible refine vp_in_iff.mpr ?_; decide +kernel) | (with_reducible refine e_nz _ (by decide)) | decide | skip
  all_goals first | (exfalso; first | exact c (by assumption) | exact (by assumption : ¬ _) c | fail) | skip
  refine e_kk (K := K) ?_
  refine e_step rfl hc 60 [28] ?_
  repeat' (first | (with_reducible (intro h9; exact absurd rfl h9)) | (with_reducible (intro h9; exact absurd h9 e_10)) | (with_reducible (intro h9; first | exact absurd e_00 h9 | exact absurd h9 e_n10 | exact absurd h9 e_n20 | exact absurd h9 e_n30)) | (with_reducible intro _) | (refine And.intro ?_ ?_) | (with_reducible refine e_sw_nil ?_) | fail)
  all_goals first | (with_reducible refine e_goK ?_) | (with_reducible refine e_ctK ?_) | (with_reducible refine vp_inK ?_; (try simp (disch := omega) only [mI_rM0, mI_rM1, mI_rM2, mI_rM3, mI_rM4, mI_rM5, mI_rM6, mI_rM7, mI_rM8, mI_rM9, mI_rM10, mI_rM11, mI_rM12, mI_rM13, sI_rM0, sI_rM1, sI_rM2, sI_rM3, sI_rM4, sI_rM5, sI_rM6, sI_rM7, sI_rM8, sI_rM9, sI_rM10, sI_rM11, sI_rM12, sI_rM13, ix_0, ix_1, ix_2, ix_3, ix_4, ix_5, ix_6, ix_7, ix_8, ix_9, ix_10, ix_11, ix_12, ix_13, ix_14, ix_15, ix_16, ix_20, ix_23, ix_24, ix_30, ix_36, ix_46, ix_76, mx_4, mx_6, mx_30, mx_136, mx_1100, mx_3324, xi_1, xi_30, nI_pred, eAt, zAt, tc_0, tc_1, tc_2, tc_3, tc_7, tc_15, tc_23, tc_30, nI_add, pk_mul, nI_clamp]); exact vp_in_nI (by omega) (by omega)) | rfl | exact trivial | exact Nat.zero_le _ | exact (e_fit_01 _).1 | exact (e_fit_01 _).2 | (with_reducible refine vp_in_iff.mpr ?_; decide +kernel) | (with_reducible refine e_nz _ (by decide)) | decide | skip
  refine e_kk (K := K) ?_; refine e_kc (k28) (by (repeat' (first | (refine e_cc ?_ ?_) | (with_reducible rfl) | (simp (disch := omega) only [mI_rM0, mI_rM1, mI_rM2, mI_rM3, mI_rM4, mI_rM5, mI_rM6, mI_rM7, mI_rM8, mI_rM9, mI_rM10, mI_rM11, mI_rM12, mI_rM13, sI_rM0, sI_rM1, sI_rM2, sI_rM3, sI_rM4, sI_rM5, sI_rM6, sI_rM7, sI_rM8, sI_rM9, sI_rM10, sI_rM11, sI_rM12, sI_rM13, n_lit, ↓pk_rem, pk_div, pk_mul, pk_sub, nI_add, nI_clamp, nmod, Nat.add_sub_cancel, eAt, zAt, e_clI, e_clP, k5']; done) | ((try simp (disch := omega) only [mI_rM0, mI_rM1, mI_rM2, mI_rM3, mI_rM4, mI_rM5, mI_rM6, mI_rM7, mI_rM8, mI_rM9, mI_rM10, mI_rM11, mI_rM12, mI_rM13, sI_rM0, sI_rM1, sI_rM2, sI_rM3, sI_rM4, sI_rM5, sI_rM6, sI_rM7, sI_rM8, sI_rM9, sI_rM10, sI_rM11, sI_rM12, sI_rM13, n_lit, ↓pk_rem, pk_div, pk_mul, pk_sub, nI_add, nI_clamp, nmod, Nat.add_sub_cancel, eAt, zAt, e_clI, e_clP, k5']); exact e_cnI (by omega)) | rfl))) (by (repeat' (first | (refine e_cc ?_ ?_) | (with_reducible rfl) | (simp (disch := omega) only [mI_rM0, mI_rM1, mI_rM2, mI_rM3, mI_rM4, mI_rM5, mI_rM6, mI_rM7, mI_rM8, mI_rM9, mI_rM10, mI_rM11, mI_rM12, mI_rM13, sI_rM0, sI_rM1, sI_rM2, sI_rM3, sI_rM4, sI_rM5, sI_rM6, sI_rM7, sI_rM8, sI_rM9, sI_rM10, sI_rM11, sI_rM12, sI_rM13, n_lit, ↓pk_rem, pk_div, pk_mul, pk_sub, nI_add, nI_clamp, nmod, Nat.add_sub_cancel, eAt, zAt, e_clI, e_clP, k5']; done) | ((try simp (disch := omega) only [mI_rM0, mI_rM1, mI_rM2, mI_rM3, mI_rM4, mI_rM5, mI_rM6, mI_rM7, mI_rM8, mI_rM9, mI_rM10, mI_rM11, mI_rM12, mI_rM13, sI_rM0, sI_rM1, sI_rM2, sI_rM3, sI_rM4, sI_rM5, sI_rM6, sI_rM7, sI_rM8, sI_rM9, sI_rM10, sI_rM11, sI_rM12, sI_rM13, n_lit, ↓pk_rem, pk_div, pk_mul, pk_sub, nI_add, nI_clamp, nmod, Nat.add_sub_cancel, eAt, zAt, e_clI, e_clP, k5']); exact e_cnI (by omega)) | rfl))) (by first | (with_reducible rfl) | (simp (disch := omega) only [mI_rM0, mI_rM1, mI_rM2, mI_rM3, mI_rM4, mI_rM5, mI_rM6, mI_rM7, mI_rM8, mI_rM9, mI_rM10, mI_rM11, mI_rM12, mI_rM13, sI_rM0, sI_rM1, sI_rM2, sI_rM3, sI_rM4, sI_rM5, sI_rM6, sI_rM7, sI_rM8, sI_rM9, sI_rM10, sI_rM11, sI_rM12, sI_rM13, n_lit, ↓pk_rem, pk_div, pk_mul, pk_sub, nI_add, nI_clamp, nmod, Nat.add_sub_cancel, eAt, zAt, e_clI, e_clP, k5']; done) | rfl | fail)
theorem cc_seeNumber (hl0 : l.stackTraces = false) (M : EM) {r n t : Nat} {B : Nat → Nat} (h : CT M r B n t) (lo hi : Int32) : Ct l g sg_X6_seeNumber [.inr (.inr (.inr (.inr (2, r)))), .inl lo, .inl hi] M (fun o M' => RC (rT r) M r (pN B n lo hi t) (fun M' v _ => CT M' r B n t ∧ mI M' r 5 = nI v) o M') := Ct.mono (cc_seeNumberX hl0 M h lo hi) (fun o M' q => q.mono (fun _ _ _ z => z.1))
end
