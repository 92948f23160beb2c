/-! THE REFERENCE: its rows as one function; small methods. -/
section
variable {l : Launch} {g : EG}
abbrev eAt (p e : Nat) : Nat := 24 + 1100 * p + 12 + 136 * e
abbrev zAt (p z : Nat) : Nat := 24 + 1100 * p + 4 * z
theorem e_00 : (0 : Int32) ≤ 0 := Int32.le_refl 0
theorem e_n10 : ¬ (1 : Int32) ≤ 0 := by decide
theorem e_n20 : ¬ (2 : Int32) ≤ 0 := by decide
theorem e_n30 : ¬ (3 : Int32) ≤ 0 := by decide
theorem xi_1 {a : Nat} : 1 + nI a = nI (1 + a) := nI_add 1 a
theorem xi_30 {a : Nat} : 30 + nI a = nI (30 + a) := nI_add 30 a
theorem nmod (a d : Nat) : a - a / d * d = a % d := by
  have := Nat.div_add_mod a d
  rw [Nat.mul_comm] at this
  omega
theorem Ct.ar {σ : SG} {M M' : EM} {Q : EO → EM → Prop} {av av' : List EV} (h : av = av') (h2 : M = M') (H : Ct l g σ av M Q) : Ct l g σ av' M' Q := h ▸ h2 ▸ H
theorem e_kc {K : Nat → EK} {t nc ns : Nat} {ls ls' : List (Option EV)} {st st' : List EV} {M M' : EM} (h : K t ls' st' M' nc ns) (h1 : ls' = ls) (h2 : st' = st) (h3 : M' = M) : K t ls st M nc ns := h1 ▸ h2 ▸ h3 ▸ h
theorem e_cc {α : Type} {a a' : α} {t t' : List α} (h : a = a') (h2 : t = t') : a :: t = a' :: t' := h ▸ h2 ▸ rfl
theorem e_cn {α : Type} {t : List α} (h : t = []) : ([] : List α) = t := h.symm
theorem e_kk {K : Nat → EK} {t nc ns : Nat} {ls : List (Option EV)} {st : List EV} {M : EM} (h : K t ls st M nc ns) : K t ls st M nc ns := h
theorem vp_inK {x : Int32} {n : Nat} (h : vp_in x n) : vp_in x n := h
theorem e_clI {x : Int32} : e_cl (some (.inl x)) = some (.inl x) := rfl
theorem e_clP {t a : Nat} : e_cl (some (.inr (.inr (.inr (.inr (t, a)))))) = some (.inr (.inr (.inr (.inr (t, a))))) := rfl
theorem e_cnI {x y : Nat} (h : x = y) : (some (Sum.inl (nI x)) : Option EV) = some (Sum.inl (nI y)) := h ▸ rfl
theorem e_sw_nil {J : Nat → EK} {dt : Nat} {ls : List (Option EV)} {r : List EV} {M : EM} {nc ns : Nat} {x : Int32} {lo : Int} (h : J dt ls r M nc ns) : e_sw J dt ls r M nc ns x lo [] := fun _ => h
abbrev FM : Type := Nat → Nat → Int32
/-- the reference's cells from m on hold F -/
def rM (M : EM) (m : Nat) (F : FM) : EM := (M.1, fun c j => if m ≤ c ∧ c < m + 14 then F (c - m) j else M.2.1 c j, M.2.2)
def upF (F : FM) (i k : Nat) (v : Int32) : FM := fun a b => if a = i ∧ b = k then v else F a b
def rwF (F : FM) (i : Nat) (f : Nat → Int32) : FM := fun a => if a = i then f else F a
theorem rM_id {M : EM} {m : Nat} : rM M m (fun i => mI M (m + i)) = M := by
  unfold rM
  have : (fun c j => if m ≤ c ∧ c < m + 14 then (fun i => mI M (m + i)) (c - m) j else M.2.1 c j) = M.2.1 := by
    funext c j
    by_cases h : m ≤ c ∧ c < m + 14
    · rw [if_pos h]; show M.2.1 (m + (c - m)) j = _; rw [show m + (c - m) = c by omega]
    · rw [if_neg h]
  rw [this]
theorem rM_rM {M : EM} {m : Nat} {F G : FM} : rM (rM M m F) m G = rM M m G := by
  unfold rM
  refine Prod.ext rfl (Prod.ext ?_ rfl)
  funext c j
  by_cases h : m ≤ c ∧ c < m + 14 <;> simp [h]
theorem mI_rM {M : EM} {m i j : Nat} {F : FM} (h : i < 14) : mI (rM M m F) (m + i) j = F i j := by
  unfold mI rM
  simp [show m + i < m + 14 by omega]
theorem sI_rM {M : EM} {m i k : Nat} {F : FM} {v : Int32} (h : i < 14) : sI (rM M m F) (m + i) k v = rM M m (upF F i k v) := by
  unfold sI rM e_up upF
  refine Prod.ext rfl (Prod.ext ?_ rfl)
  funext c j
  show (if c = m + i then (if j = k then v else _) else _) = _
  by_cases h1 : m ≤ c ∧ c < m + 14
  · simp only [h1, and_self, if_true]
    by_cases h2 : c = m + i
    · subst h2; simp
    · rw [if_neg h2, if_neg (by omega)]
  · rw [if_neg (by omega)]; simp [h1]
theorem mI_rM0 {M : EM} {m j : Nat} {F : FM} : mI (rM M m F) m j = F 0 j := mI_rM (i := 0) (by decide)
theorem sI_rM0 {M : EM} {m k : Nat} {F : FM} {v : Int32} : sI (rM M m F) m k v = rM M m (upF F 0 k v) := sI_rM (i := 0) (by decide)
theorem mI_rM1 {M : EM} {m j : Nat} {F : FM} : mI (rM M m F) (m + 1) j = F 1 j := mI_rM (i := 1) (by decide)
theorem sI_rM1 {M : EM} {m k : Nat} {F : FM} {v : Int32} : sI (rM M m F) (m + 1) k v = rM M m (upF F 1 k v) := sI_rM (i := 1) (by decide)
theorem mI_rM2 {M : EM} {m j : Nat} {F : FM} : mI (rM M m F) (m + 2) j = F 2 j := mI_rM (i := 2) (by decide)
theorem sI_rM2 {M : EM} {m k : Nat} {F : FM} {v : Int32} : sI (rM M m F) (m + 2) k v = rM M m (upF F 2 k v) := sI_rM (i := 2) (by decide)
theorem mI_rM3 {M : EM} {m j : Nat} {F : FM} : mI (rM M m F) (m + 3) j = F 3 j := mI_rM (i := 3) (by decide)
theorem sI_rM3 {M : EM} {m k : Nat} {F : FM} {v : Int32} : sI (rM M m F) (m + 3) k v = rM M m (upF F 3 k v) := sI_rM (i := 3) (by decide)
theorem mI_rM4 {M : EM} {m j : Nat} {F : FM} : mI (rM M m F) (m + 4) j = F 4 j := mI_rM (i := 4) (by decide)
theorem sI_rM4 {M : EM} {m k : Nat} {F : FM} {v : Int32} : sI (rM M m F) (m + 4) k v = rM M m (upF F 4 k v) := sI_rM (i := 4) (by decide)
theorem mI_rM5 {M : EM} {m j : Nat} {F : FM} : mI (rM M m F) (m + 5) j = F 5 j := mI_rM (i := 5) (by decide)
theorem sI_rM5 {M : EM} {m k : Nat} {F : FM} {v : Int32} : sI (rM M m F) (m + 5) k v = rM M m (upF F 5 k v) := sI_rM (i := 5) (by decide)
theorem mI_rM6 {M : EM} {m j : Nat} {F : FM} : mI (rM M m F) (m + 6) j = F 6 j := mI_rM (i := 6) (by decide)
theorem sI_rM6 {M : EM} {m k : Nat} {F : FM} {v : Int32} : sI (rM M m F) (m + 6) k v = rM M m (upF F 6 k v) := sI_rM (i := 6) (by decide)
theorem mI_rM7 {M : EM} {m j : Nat} {F : FM} : mI (rM M m F) (m + 7) j = F 7 j := mI_rM (i := 7) (by decide)
theorem sI_rM7 {M : EM} {m k : Nat} {F : FM} {v : Int32} : sI (rM M m F) (m + 7) k v = rM M m (upF F 7 k v) := sI_rM (i := 7) (by decide)
theorem mI_rM8 {M : EM} {m j : Nat} {F : FM} : mI (rM M m F) (m + 8) j = F 8 j := mI_rM (i := 8) (by decide)
theorem sI_rM8 {M : EM} {m k : Nat} {F : FM} {v : Int32} : sI (rM M m F) (m + 8) k v = rM M m (upF F 8 k v) := sI_rM (i := 8) (by decide)
theorem mI_rM9 {M : EM} {m j : Nat} {F : FM} : mI (rM M m F) (m + 9) j = F 9 j := mI_rM (i := 9) (by decide)
theorem sI_rM9 {M : EM} {m k : Nat} {F : FM} {v : Int32} : sI (rM M m F) (m + 9) k v = rM M m (upF F 9 k v) := sI_rM (i := 9) (by decide)
theorem mI_rM10 {M : EM} {m j : Nat} {F : FM} : mI (rM M m F) (m + 10) j = F 10 j := mI_rM (i := 10) (by decide)
theorem sI_rM10 {M : EM} {m k : Nat} {F : FM} {v : Int32} : sI (rM M m F) (m + 10) k v = rM M m (upF F 10 k v) := sI_rM (i := 10) (by decide)
theorem mI_rM11 {M : EM} {m j : Nat} {F : FM} : mI (rM M m F) (m + 11) j = F 11 j := mI_rM (i := 11) (by decide)
theorem sI_rM11 {M : EM} {m k : Nat} {F : FM} {v : Int32} : sI (rM M m F) (m + 11) k v = rM M m (upF F 11 k v) := sI_rM (i := 11) (by decide)
theorem mI_rM12 {M : EM} {m j : Nat} {F : FM} : mI (rM M m F) (m + 12) j = F 12 j := mI_rM (i := 12) (by decide)
theorem sI_rM12 {M : EM} {m k : Nat} {F : FM} {v : Int32} : sI (rM M m F) (m + 12) k v = rM M m (upF F 12 k v) := sI_rM (i := 12) (by decide)
theorem mI_rM13 {M : EM} {m j : Nat} {F : FM} : mI (rM M m F) (m + 13) j = F 13 j := mI_rM (i := 13) (by decide)
theorem sI_rM13 {M : EM} {m k : Nat} {F : FM} {v : Int32} : sI (rM M m F) (m + 13) k v = rM M m (upF F 13 k v) := sI_rM (i := 13) (by decide)
theorem mL_rM {M : EM} {m : Nat} {F : FM} : mL (rM M m F) = mL M := rfl
theorem mP_rM {M : EM} {m : Nat} {F : FM} : mP (rM M m F) = mP M := rfl
theorem mI_rMo {M : EM} {m c j : Nat} {F : FM} (h : c < m ∨ m + 14 ≤ c) : mI (rM M m F) c j = mI M c j := by
  unfold mI rM
  simp only
  rw [if_neg (by omega)]
theorem upF_s {F : FM} {i k : Nat} {v : Int32} : upF F i k v i k = v := by simp [upF]
theorem upF_n {F : FM} {i k i' k' : Nat} {v : Int32} (h : ¬ (i' = i ∧ k' = k)) : upF F i k v i' k' = F i' k' := if_neg h
theorem upF_r {F : FM} {i k i' : Nat} {v : Int32} (h : ¬ i' = i) : upF F i k v i' = F i' := by funext j; exact if_neg (fun q => h q.1)
theorem e_01_p {c : Prop} [Decidable c] : e_01 c = 1 ↔ c := by unfold e_01; split <;> simp_all
theorem i_m1 : (-1 : Int32).toInt = -1 := rfl
theorem i_0 : (0 : Int32).toInt = 0 := rfl
theorem i_1 : (1 : Int32).toInt = 1 := rfl
theorem i_2 : (2 : Int32).toInt = 2 := rfl
theorem i_3 : (3 : Int32).toInt = 3 := rfl
theorem i_7 : (7 : Int32).toInt = 7 := rfl
theorem i_11 : (11 : Int32).toInt = 11 := rfl
theorem i_29 : (29 : Int32).toInt = 29 := rfl
theorem and1 (x : Int32) : x &&& 1 = 0 ∨ x &&& 1 = 1 := by
  have h := pk_and x (m := 1) 1 rfl
  rw [h]
  rcases (show x.toBitVec.toNat % 2 ^ 1 = 0 ∨ x.toBitVec.toNat % 2 ^ 1 = 1 by omega) with e | e <;> rw [e]
  · exact Or.inl rfl
  · exact Or.inr rfl
theorem and1n {x : Int32} : (¬ x &&& 1 = 1) ↔ x &&& 1 = 0 := by
  rcases and1 x with h | h <;> rw [h] <;> decide
theorem and1e {x : Int32} : (x &&& 1 = 1) ↔ ¬ x &&& 1 = 0 := by
  rcases and1 x with h | h <;> rw [h] <;> decide

theorem tc_0 : (0 : Int32).toNatClampNeg = 0 := rfl
theorem tc_1 : (1 : Int32).toNatClampNeg = 1 := rfl
theorem tc_2 : (2 : Int32).toNatClampNeg = 2 := rfl
theorem tc_3 : (3 : Int32).toNatClampNeg = 3 := rfl
theorem tc_7 : (7 : Int32).toNatClampNeg = 7 := rfl
theorem tc_15 : (15 : Int32).toNatClampNeg = 15 := rfl
theorem tc_23 : (23 : Int32).toNatClampNeg = 23 := rfl
theorem tc_30 : (30 : Int32).toNatClampNeg = 30 := rfl
theorem mx_4 {a : Nat} : 4 * nI a = nI (4 * a) := pk_mul 4 a
theorem mx_6 {a : Nat} : 6 * nI a = nI (6 * a) := pk_mul 6 a
theorem mx_30 {a : Nat} : 30 * nI a = nI (30 * a) := pk_mul 30 a
theorem mx_136 {a : Nat} : 136 * nI a = nI (136 * a) := pk_mul 136 a
theorem mx_1100 {a : Nat} : 1100 * nI a = nI (1100 * a) := pk_mul 1100 a
theorem mx_3324 {a : Nat} : 3324 * nI a = nI (3324 * a) := pk_mul 3324 a
theorem ix_0 {a : Nat} : nI a + 0 = nI (a + 0) := nI_add a 0
theorem ix_1 {a : Nat} : nI a + 1 = nI (a + 1) := nI_add a 1
theorem ix_2 {a : Nat} : nI a + 2 = nI (a + 2) := nI_add a 2
theorem ix_3 {a : Nat} : nI a + 3 = nI (a + 3) := nI_add a 3
theorem ix_4 {a : Nat} : nI a + 4 = nI (a + 4) := nI_add a 4
theorem ix_5 {a : Nat} : nI a + 5 = nI (a + 5) := nI_add a 5
theorem ix_6 {a : Nat} : nI a + 6 = nI (a + 6) := nI_add a 6
theorem ix_7 {a : Nat} : nI a + 7 = nI (a + 7) := nI_add a 7
theorem ix_8 {a : Nat} : nI a + 8 = nI (a + 8) := nI_add a 8
theorem ix_9 {a : Nat} : nI a + 9 = nI (a + 9) := nI_add a 9
theorem ix_10 {a : Nat} : nI a + 10 = nI (a + 10) := nI_add a 10
theorem ix_11 {a : Nat} : nI a + 11 = nI (a + 11) := nI_add a 11
theorem ix_12 {a : Nat} : nI a + 12 = nI (a + 12) := nI_add a 12
theorem ix_13 {a : Nat} : nI a + 13 = nI (a + 13) := nI_add a 13
theorem ix_14 {a : Nat} : nI a + 14 = nI (a + 14) := nI_add a 14
theorem ix_15 {a : Nat} : nI a + 15 = nI (a + 15) := nI_add a 15
theorem ix_16 {a : Nat} : nI a + 16 = nI (a + 16) := nI_add a 16
theorem ix_20 {a : Nat} : nI a + 20 = nI (a + 20) := nI_add a 20
theorem ix_23 {a : Nat} : nI a + 23 = nI (a + 23) := nI_add a 23
theorem ix_24 {a : Nat} : nI a + 24 = nI (a + 24) := nI_add a 24
theorem ix_30 {a : Nat} : nI a + 30 = nI (a + 30) := nI_add a 30
theorem ix_36 {a : Nat} : nI a + 36 = nI (a + 36) := nI_add a 36
theorem ix_46 {a : Nat} : nI a + 46 = nI (a + 46) := nI_add a 46
theorem ix_76 {a : Nat} : nI a + 76 = nI (a + 76) := nI_add a 76
def e_cnt (b : Int32) : Nat → Nat
  | 0 => 0
  | k + 1 => if e_bit b (nI k) then e_cnt b k + 1 else e_cnt b k
theorem e_cnt_le (b : Int32) : ∀ k, e_cnt b k ≤ k
  | 0 => Nat.le_refl _
  | k + 1 => by have := e_cnt_le b k; unfold e_cnt; split <;> omega
set_option maxRecDepth 20000 in
theorem cr_thrown (hl0 : l.stackTraces = false) (M : EM) {m : Nat} (F : FM) : Ct l g sg_X11_thrown [.inr (.inr (.inr (.inr (30, m))))] (rM M m F) (fun o M' => M' = rM M m (F) ∧ o = .inl (some (.inl (F 0 0)))) := by
  refine sem_of hl0 mt_X11_thrown ok_X11_thrown rfl (fun K hc hw => e_step rfl hc 80 [] ?_)
  clear hc hw
  repeat' (first | (with_reducible (intro h9; exact absurd rfl h9)) | (with_reducible (intro h9; exact absurd h9 e_10)) | (with_reducible (intro h9; first | exact absurd e_00 h9 | exact absurd h9 e_n10 | exact absurd h9 e_n20 | exact absurd h9 e_n30)) | (with_reducible intro _) | (refine And.intro ?_ ?_) | (with_reducible refine e_sw_nil ?_) | fail)
  all_goals first | (with_reducible refine e_goK ?_) | (with_reducible refine e_ctK ?_) | (with_reducible refine vp_inK ?_; (try simp (disch := omega) only [mI_rM0, mI_rM1, mI_rM2, mI_rM3, mI_rM4, mI_rM5, mI_rM6, mI_rM7, mI_rM8, mI_rM9, mI_rM10, mI_rM11, mI_rM12, mI_rM13, sI_rM0, sI_rM1, sI_rM2, sI_rM3, sI_rM4, sI_rM5, sI_rM6, sI_rM7, sI_rM8, sI_rM9, sI_rM10, sI_rM11, sI_rM12, sI_rM13, ix_0, ix_1, ix_2, ix_3, ix_4, ix_5, ix_6, ix_7, ix_8, ix_9, ix_10, ix_11, ix_12, ix_13, ix_14, ix_15, ix_16, ix_20, ix_23, ix_24, ix_30, ix_36, ix_46, ix_76, mx_4, mx_6, mx_30, mx_136, mx_1100, mx_3324, xi_1, xi_30, nI_pred, eAt, zAt, tc_0, tc_1, tc_2, tc_3, tc_7, tc_15, tc_23, tc_30, nI_add, pk_mul, nI_clamp]); exact vp_in_nI (by omega) (by omega)) | rfl | exact trivial | exact Nat.zero_le _ | exact (e_fit_01 _).1 | exact (e_fit_01 _).2 | (with_reducible refine vp_in_iff.mpr ?_; decide +kernel) | (with_reducible refine e_nz _ (by decide)) | decide | skip
  all_goals (try simp only [mI_rM0, mI_rM1, mI_rM2, mI_rM3, mI_rM4, mI_rM5, mI_rM6, mI_rM7, mI_rM8, mI_rM9, mI_rM10, mI_rM11, mI_rM12, mI_rM13, sI_rM0, sI_rM1, sI_rM2, sI_rM3, sI_rM4, sI_rM5, sI_rM6, sI_rM7, sI_rM8, sI_rM9, sI_rM10, sI_rM11, sI_rM12, sI_rM13])
set_option maxRecDepth 20000 in
theorem cr_refuse (hl0 : l.stackTraces = false) (M : EM) {m : Nat} (F : FM) (k : Int32) : Ct l g sg_X11_refuse [.inr (.inr (.inr (.inr (30, m)))), .inl k] (rM M m F) (fun o M' => M' = rM M m (upF F 0 0 k) ∧ o = .inl (some (.inl (0)))) := by
  refine sem_of hl0 mt_X11_refuse ok_X11_refuse rfl (fun K hc hw => e_step rfl hc 80 [] ?_)
  clear hc hw
  repeat' (first | (with_reducible (intro h9; exact absurd rfl h9)) | (with_reducible (intro h9; exact absurd h9 e_10)) | (with_reducible (intro h9; first | exact absurd e_00 h9 | exact absurd h9 e_n10 | exact absurd h9 e_n20 | exact absurd h9 e_n30)) | (with_reducible intro _) | (refine And.intro ?_ ?_) | (with_reducible refine e_sw_nil ?_) | fail)
  all_goals first | (with_reducible refine e_goK ?_) | (with_reducible refine e_ctK ?_) | (with_reducible refine vp_inK ?_; (try simp (disch := omega) only [mI_rM0, mI_rM1, mI_rM2, mI_rM3, mI_rM4, mI_rM5, mI_rM6, mI_rM7, mI_rM8, mI_rM9, mI_rM10, mI_rM11, mI_rM12, mI_rM13, sI_rM0, sI_rM1, sI_rM2, sI_rM3, sI_rM4, sI_rM5, sI_rM6, sI_rM7, sI_rM8, sI_rM9, sI_rM10, sI_rM11, sI_rM12, sI_rM13, ix_0, ix_1, ix_2, ix_3, ix_4, ix_5, ix_6, ix_7, ix_8, ix_9, ix_10, ix_11, ix_12, ix_13, ix_14, ix_15, ix_16, ix_20, ix_23, ix_24, ix_30, ix_36, ix_46, ix_76, mx_4, mx_6, mx_30, mx_136, mx_1100, mx_3324, xi_1, xi_30, nI_pred, eAt, zAt, tc_0, tc_1, tc_2, tc_3, tc_7, tc_15, tc_23, tc_30, nI_add, pk_mul, nI_clamp]); exact vp_in_nI (by omega) (by omega)) | rfl | exact trivial | exact Nat.zero_le _ | exact (e_fit_01 _).1 | exact (e_fit_01 _).2 | (with_reducible refine vp_in_iff.mpr ?_; decide +kernel) | (with_reducible refine e_nz _ (by decide)) | decide | skip
  all_goals (try simp only [mI_rM0, mI_rM1, mI_rM2, mI_rM3, mI_rM4, mI_rM5, mI_rM6, mI_rM7, mI_rM8, mI_rM9, mI_rM10, mI_rM11, mI_rM12, mI_rM13, sI_rM0, sI_rM1, sI_rM2, sI_rM3, sI_rM4, sI_rM5, sI_rM6, sI_rM7, sI_rM8, sI_rM9, sI_rM10, sI_rM11, sI_rM12, sI_rM13])
set_option maxRecDepth 20000 in
theorem cr_told (hl0 : l.stackTraces = false) (M : EM) {m : Nat} (F : FM) (k : Int32) : Ct l g sg_X11_told [.inr (.inr (.inr (.inr (30, m)))), .inl k] (rM M m F) (fun o M' => M' = rM M m (upF F 0 0 0) ∧ o = .inl (some (.inl (k)))) := by
  refine sem_of hl0 mt_X11_told ok_X11_told rfl (fun K hc hw => e_step rfl hc 80 [] ?_)
  clear hc hw
  repeat' (first | (with_reducible (intro h9; exact absurd rfl h9)) | (with_reducible (intro h9; exact absurd h9 e_10)) | (with_reducible (intro h9; first | exact absurd e_00 h9 | exact absurd h9 e_n10 | exact absurd h9 e_n20 | exact absurd h9 e_n30)) | (with_reducible intro _) | (refine And.intro ?_ ?_) | (with_reducible refine e_sw_nil ?_) | fail)
  all_goals first | (with_reducible refine e_goK ?_) | (with_reducible refine e_ctK ?_) | (with_reducible refine vp_inK ?_; (try simp (disch := omega) only [mI_rM0, mI_rM1, mI_rM2, mI_rM3, mI_rM4, mI_rM5, mI_rM6, mI_rM7, mI_rM8, mI_rM9, mI_rM10, mI_rM11, mI_rM12, mI_rM13, sI_rM0, sI_rM1, sI_rM2, sI_rM3, sI_rM4, sI_rM5, sI_rM6, sI_rM7, sI_rM8, sI_rM9, sI_rM10, sI_rM11, sI_rM12, sI_rM13, ix_0, ix_1, ix_2, ix_3, ix_4, ix_5, ix_6, ix_7, ix_8, ix_9, ix_10, ix_11, ix_12, ix_13, ix_14, ix_15, ix_16, ix_20, ix_23, ix_24, ix_30, ix_36, ix_46, ix_76, mx_4, mx_6, mx_30, mx_136, mx_1100, mx_3324, xi_1, xi_30, nI_pred, eAt, zAt, tc_0, tc_1, tc_2, tc_3, tc_7, tc_15, tc_23, tc_30, nI_add, pk_mul, nI_clamp]); exact vp_in_nI (by omega) (by omega)) | rfl | exact trivial | exact Nat.zero_le _ | exact (e_fit_01 _).1 | exact (e_fit_01 _).2 | (with_reducible refine vp_in_iff.mpr ?_; decide +kernel) | (with_reducible refine e_nz _ (by decide)) | decide | skip
  all_goals (try simp only [mI_rM0, mI_rM1, mI_rM2, mI_rM3, mI_rM4, mI_rM5, mI_rM6, mI_rM7, mI_rM8, mI_rM9, mI_rM10, mI_rM11, mI_rM12, mI_rM13, sI_rM0, sI_rM1, sI_rM2, sI_rM3, sI_rM4, sI_rM5, sI_rM6, sI_rM7, sI_rM8, sI_rM9, sI_rM10, sI_rM11, sI_rM12, sI_rM13])
set_option maxRecDepth 20000 in
theorem cr_isRefused (hl0 : l.stackTraces = false) (M : EM) {m : Nat} (F : FM) (k : Int32) : Ct l g sg_X11_isRefused [.inr (.inr (.inr (.inr (30, m)))), .inl k] (rM M m F) (fun o M' => M' = rM M m (upF F 0 0 k) ∧ o = .inl (some (.inl (e_01 (0 < k))))) := by
  refine sem_of hl0 mt_X11_isRefused ok_X11_isRefused rfl (fun K hc hw => e_step rfl hc 80 [] ?_)
  clear hc hw
  repeat' (first | (with_reducible (intro h9; exact absurd rfl h9)) | (with_reducible (intro h9; exact absurd h9 e_10)) | (with_reducible (intro h9; first | exact absurd e_00 h9 | exact absurd h9 e_n10 | exact absurd h9 e_n20 | exact absurd h9 e_n30)) | (with_reducible intro _) | (refine And.intro ?_ ?_) | (with_reducible refine e_sw_nil ?_) | fail)
  all_goals first | (with_reducible refine e_goK ?_) | (with_reducible refine e_ctK ?_) | (with_reducible refine vp_inK ?_; (try simp (disch := omega) only [mI_rM0, mI_rM1, mI_rM2, mI_rM3, mI_rM4, mI_rM5, mI_rM6, mI_rM7, mI_rM8, mI_rM9, mI_rM10, mI_rM11, mI_rM12, mI_rM13, sI_rM0, sI_rM1, sI_rM2, sI_rM3, sI_rM4, sI_rM5, sI_rM6, sI_rM7, sI_rM8, sI_rM9, sI_rM10, sI_rM11, sI_rM12, sI_rM13, ix_0, ix_1, ix_2, ix_3, ix_4, ix_5, ix_6, ix_7, ix_8, ix_9, ix_10, ix_11, ix_12, ix_13, ix_14, ix_15, ix_16, ix_20, ix_23, ix_24, ix_30, ix_36, ix_46, ix_76, mx_4, mx_6, mx_30, mx_136, mx_1100, mx_3324, xi_1, xi_30, nI_pred, eAt, zAt, tc_0, tc_1, tc_2, tc_3, tc_7, tc_15, tc_23, tc_30, nI_add, pk_mul, nI_clamp]); exact vp_in_nI (by omega) (by omega)) | rfl | exact trivial | exact Nat.zero_le _ | exact (e_fit_01 _).1 | exact (e_fit_01 _).2 | (with_reducible refine vp_in_iff.mpr ?_; decide +kernel) | (with_reducible refine e_nz _ (by decide)) | decide | skip
  all_goals (try simp only [mI_rM0, mI_rM1, mI_rM2, mI_rM3, mI_rM4, mI_rM5, mI_rM6, mI_rM7, mI_rM8, mI_rM9, mI_rM10, mI_rM11, mI_rM12, mI_rM13, sI_rM0, sI_rM1, sI_rM2, sI_rM3, sI_rM4, sI_rM5, sI_rM6, sI_rM7, sI_rM8, sI_rM9, sI_rM10, sI_rM11, sI_rM12, sI_rM13])
  all_goals (first | (rw [e_01_t (by (simp only [e_01_n, e_01_p, Classical.not_not, Int32.not_le, Int32.not_lt, Int32.le_iff_toInt_le, Int32.lt_iff_toInt_lt, i_m1, i_0, i_1, i_2, i_3, i_7, i_11, i_29] at *; first | omega | simp_all))]; done) | (rw [e_01_f (by (simp only [e_01_n, e_01_p, Classical.not_not, Int32.not_le, Int32.not_lt, Int32.le_iff_toInt_le, Int32.lt_iff_toInt_lt, i_m1, i_0, i_1, i_2, i_3, i_7, i_11, i_29] at *; first | omega | simp_all))]; done) | skip)
set_option maxRecDepth 20000 in
theorem cr_in (hl0 : l.stackTraces = false) (M : EM) (v lo hi : Int32) : Ct l g sg_X11_in [.inl v, .inl lo, .inl hi] M (fun o M' => M' = M ∧ o = .inl (some (.inl (e_01 (lo ≤ v ∧ v ≤ hi))))) := by
  refine sem_of hl0 mt_X11_in ok_X11_in rfl (fun K hc hw => e_step rfl hc 80 [] ?_)
  clear hc hw
  repeat' (first | (with_reducible (intro h9; exact absurd rfl h9)) | (with_reducible (intro h9; exact absurd h9 e_10)) | (with_reducible (intro h9; first | exact absurd e_00 h9 | exact absurd h9 e_n10 | exact absurd h9 e_n20 | exact absurd h9 e_n30)) | (with_reducible intro _) | (refine And.intro ?_ ?_) | (with_reducible refine e_sw_nil ?_) | fail)
  all_goals first | (with_reducible refine e_goK ?_) | (with_reducible refine e_ctK ?_) | (with_reducible refine vp_inK ?_; (try simp (disch := omega) only [mI_rM0, mI_rM1, mI_rM2, mI_rM3, mI_rM4, mI_rM5, mI_rM6, mI_rM7, mI_rM8, mI_rM9, mI_rM10, mI_rM11, mI_rM12, mI_rM13, sI_rM0, sI_rM1, sI_rM2, sI_rM3, sI_rM4, sI_rM5, sI_rM6, sI_rM7, sI_rM8, sI_rM9, sI_rM10, sI_rM11, sI_rM12, sI_rM13, ix_0, ix_1, ix_2, ix_3, ix_4, ix_5, ix_6, ix_7, ix_8, ix_9, ix_10, ix_11, ix_12, ix_13, ix_14, ix_15, ix_16, ix_20, ix_23, ix_24, ix_30, ix_36, ix_46, ix_76, mx_4, mx_6, mx_30, mx_136, mx_1100, mx_3324, xi_1, xi_30, nI_pred, eAt, zAt, tc_0, tc_1, tc_2, tc_3, tc_7, tc_15, tc_23, tc_30, nI_add, pk_mul, nI_clamp]); exact vp_in_nI (by omega) (by omega)) | rfl | exact trivial | exact Nat.zero_le _ | exact (e_fit_01 _).1 | exact (e_fit_01 _).2 | (with_reducible refine vp_in_iff.mpr ?_; decide +kernel) | (with_reducible refine e_nz _ (by decide)) | decide | skip
  all_goals (first | (rw [e_01_t (by (simp only [e_01_n, e_01_p, Classical.not_not, Int32.not_le, Int32.not_lt, Int32.le_iff_toInt_le, Int32.lt_iff_toInt_lt, i_m1, i_0, i_1, i_2, i_3, i_7, i_11, i_29] at *; first | omega | simp_all))]; done) | (rw [e_01_f (by (simp only [e_01_n, e_01_p, Classical.not_not, Int32.not_le, Int32.not_lt, Int32.le_iff_toInt_le, Int32.lt_iff_toInt_lt, i_m1, i_0, i_1, i_2, i_3, i_7, i_11, i_29] at *; first | omega | simp_all))]; done) | skip)
set_option maxRecDepth 20000 in
theorem cr_has (hl0 : l.stackTraces = false) (M : EM) (b k : Int32) : Ct l g sg_X11_has [.inl b, .inl k] M (fun o M' => M' = M ∧ o = .inl (some (.inl (e_01 (e_bit b k))))) := by
  refine sem_of hl0 mt_X11_has ok_X11_has rfl (fun K hc hw => e_step rfl hc 80 [] ?_)
  clear hc hw
  repeat' (first | (with_reducible (intro h9; exact absurd rfl h9)) | (with_reducible (intro h9; exact absurd h9 e_10)) | (with_reducible (intro h9; first | exact absurd e_00 h9 | exact absurd h9 e_n10 | exact absurd h9 e_n20 | exact absurd h9 e_n30)) | (with_reducible intro _) | (refine And.intro ?_ ?_) | (with_reducible refine e_sw_nil ?_) | fail)
  all_goals first | (with_reducible refine e_goK ?_) | (with_reducible refine e_ctK ?_) | (with_reducible refine vp_inK ?_; (try simp (disch := omega) only [mI_rM0, mI_rM1, mI_rM2, mI_rM3, mI_rM4, mI_rM5, mI_rM6, mI_rM7, mI_rM8, mI_rM9, mI_rM10, mI_rM11, mI_rM12, mI_rM13, sI_rM0, sI_rM1, sI_rM2, sI_rM3, sI_rM4, sI_rM5, sI_rM6, sI_rM7, sI_rM8, sI_rM9, sI_rM10, sI_rM11, sI_rM12, sI_rM13, ix_0, ix_1, ix_2, ix_3, ix_4, ix_5, ix_6, ix_7, ix_8, ix_9, ix_10, ix_11, ix_12, ix_13, ix_14, ix_15, ix_16, ix_20, ix_23, ix_24, ix_30, ix_36, ix_46, ix_76, mx_4, mx_6, mx_30, mx_136, mx_1100, mx_3324, xi_1, xi_30, nI_pred, eAt, zAt, tc_0, tc_1, tc_2, tc_3, tc_7, tc_15, tc_23, tc_30, nI_add, pk_mul, nI_clamp]); exact vp_in_nI (by omega) (by omega)) | rfl | exact trivial | exact Nat.zero_le _ | exact (e_fit_01 _).1 | exact (e_fit_01 _).2 | (with_reducible refine vp_in_iff.mpr ?_; decide +kernel) | (with_reducible refine e_nz _ (by decide)) | decide | skip
  all_goals (rename_i h1; first | (rw [e_01_t (and1e.mp h1)]) | (rw [e_01_f (not_not_intro (and1n.mp h1))]))
set_option maxRecDepth 20000 in
theorem cr_lesser (hl0 : l.stackTraces = false) (M : EM) (a b : Int32) : Ct l g sg_X11_lesser [.inl a, .inl b] M (fun o M' => M' = M ∧ o = .inl (some (.inl (if a < b then a else b)))) := by
  refine sem_of hl0 mt_X11_lesser ok_X11_lesser rfl (fun K hc hw => e_step rfl hc 80 [] ?_)
  clear hc hw
  repeat' (first | (with_reducible (intro h9; exact absurd rfl h9)) | (with_reducible (intro h9; exact absurd h9 e_10)) | (with_reducible (intro h9; first | exact absurd e_00 h9 | exact absurd h9 e_n10 | exact absurd h9 e_n20 | exact absurd h9 e_n30)) | (with_reducible intro _) | (refine And.intro ?_ ?_) | (with_reducible refine e_sw_nil ?_) | fail)
  all_goals first | (with_reducible refine e_goK ?_) | (with_reducible refine e_ctK ?_) | (with_reducible refine vp_inK ?_; (try simp (disch := omega) only [mI_rM0, mI_rM1, mI_rM2, mI_rM3, mI_rM4, mI_rM5, mI_rM6, mI_rM7, mI_rM8, mI_rM9, mI_rM10, mI_rM11, mI_rM12, mI_rM13, sI_rM0, sI_rM1, sI_rM2, sI_rM3, sI_rM4, sI_rM5, sI_rM6, sI_rM7, sI_rM8, sI_rM9, sI_rM10, sI_rM11, sI_rM12, sI_rM13, ix_0, ix_1, ix_2, ix_3, ix_4, ix_5, ix_6, ix_7, ix_8, ix_9, ix_10, ix_11, ix_12, ix_13, ix_14, ix_15, ix_16, ix_20, ix_23, ix_24, ix_30, ix_36, ix_46, ix_76, mx_4, mx_6, mx_30, mx_136, mx_1100, mx_3324, xi_1, xi_30, nI_pred, eAt, zAt, tc_0, tc_1, tc_2, tc_3, tc_7, tc_15, tc_23, tc_30, nI_add, pk_mul, nI_clamp]); exact vp_in_nI (by omega) (by omega)) | rfl | exact trivial | exact Nat.zero_le _ | exact (e_fit_01 _).1 | exact (e_fit_01 _).2 | (with_reducible refine vp_in_iff.mpr ?_; decide +kernel) | (with_reducible refine e_nz _ (by decide)) | decide | skip
  all_goals (rename_i h1; first | (rw [if_pos (Int32.not_le.mp h1)]) | (rw [if_neg (Int32.not_lt.mpr h1)]))
set_option maxRecDepth 20000 in
theorem cr_greater (hl0 : l.stackTraces = false) (M : EM) (a b : Int32) : Ct l g sg_X11_greater [.inl a, .inl b] M (fun o M' => M' = M ∧ o = .inl (some (.inl (if b < a then a else b)))) := by
  refine sem_of hl0 mt_X11_greater ok_X11_greater rfl (fun K hc hw => e_step rfl hc 80 [] ?_)
  clear hc hw
  repeat' (first | (with_reducible (intro h9; exact absurd rfl h9)) | (with_reducible (intro h9; exact absurd h9 e_10)) | (with_reducible (intro h9; first | exact absurd e_00 h9 | exact absurd h9 e_n10 | exact absurd h9 e_n20 | exact absurd h9 e_n30)) | (with_reducible intro _) | (refine And.intro ?_ ?_) | (with_reducible refine e_sw_nil ?_) | fail)
  all_goals first | (with_reducible refine e_goK ?_) | (with_reducible refine e_ctK ?_) | (with_reducible refine vp_inK ?_; (try simp (disch := omega) only [mI_rM0, mI_rM1, mI_rM2, mI_rM3, mI_rM4, mI_rM5, mI_rM6, mI_rM7, mI_rM8, mI_rM9, mI_rM10, mI_rM11, mI_rM12, mI_rM13, sI_rM0, sI_rM1, sI_rM2, sI_rM3, sI_rM4, sI_rM5, sI_rM6, sI_rM7, sI_rM8, sI_rM9, sI_rM10, sI_rM11, sI_rM12, sI_rM13, ix_0, ix_1, ix_2, ix_3, ix_4, ix_5, ix_6, ix_7, ix_8, ix_9, ix_10, ix_11, ix_12, ix_13, ix_14, ix_15, ix_16, ix_20, ix_23, ix_24, ix_30, ix_36, ix_46, ix_76, mx_4, mx_6, mx_30, mx_136, mx_1100, mx_3324, xi_1, xi_30, nI_pred, eAt, zAt, tc_0, tc_1, tc_2, tc_3, tc_7, tc_15, tc_23, tc_30, nI_add, pk_mul, nI_clamp]); exact vp_in_nI (by omega) (by omega)) | rfl | exact trivial | exact Nat.zero_le _ | exact (e_fit_01 _).1 | exact (e_fit_01 _).2 | (with_reducible refine vp_in_iff.mpr ?_; decide +kernel) | (with_reducible refine e_nz _ (by decide)) | decide | skip
  all_goals (rename_i h1; first | (rw [if_pos (Int32.not_le.mp h1)]) | (rw [if_neg (Int32.not_lt.mpr h1)]))
set_option maxRecDepth 20000 in
theorem cr_zoneAt (hl0 : l.stackTraces = false) (M : EM) (a b : Nat) : Ct l g sg_X11_zoneAt [.inl (nI a), .inl (nI b)] M (fun o M' => M' = M ∧ o = .inl (some (.inl (nI (24 + 1100 * a + 4 * b))))) := by
  refine sem_of hl0 mt_X11_zoneAt ok_X11_zoneAt rfl (fun K hc hw => e_step rfl hc 80 [] ?_)
  clear hc hw
  repeat' (first | (with_reducible (intro h9; exact absurd rfl h9)) | (with_reducible (intro h9; exact absurd h9 e_10)) | (with_reducible (intro h9; first | exact absurd e_00 h9 | exact absurd h9 e_n10 | exact absurd h9 e_n20 | exact absurd h9 e_n30)) | (with_reducible intro _) | (refine And.intro ?_ ?_) | (with_reducible refine e_sw_nil ?_) | fail)
  all_goals first | (with_reducible refine e_goK ?_) | (with_reducible refine e_ctK ?_) | (with_reducible refine vp_inK ?_; (try simp (disch := omega) only [mI_rM0, mI_rM1, mI_rM2, mI_rM3, mI_rM4, mI_rM5, mI_rM6, mI_rM7, mI_rM8, mI_rM9, mI_rM10, mI_rM11, mI_rM12, mI_rM13, sI_rM0, sI_rM1, sI_rM2, sI_rM3, sI_rM4, sI_rM5, sI_rM6, sI_rM7, sI_rM8, sI_rM9, sI_rM10, sI_rM11, sI_rM12, sI_rM13, ix_0, ix_1, ix_2, ix_3, ix_4, ix_5, ix_6, ix_7, ix_8, ix_9, ix_10, ix_11, ix_12, ix_13, ix_14, ix_15, ix_16, ix_20, ix_23, ix_24, ix_30, ix_36, ix_46, ix_76, mx_4, mx_6, mx_30, mx_136, mx_1100, mx_3324, xi_1, xi_30, nI_pred, eAt, zAt, tc_0, tc_1, tc_2, tc_3, tc_7, tc_15, tc_23, tc_30, nI_add, pk_mul, nI_clamp]); exact vp_in_nI (by omega) (by omega)) | rfl | exact trivial | exact Nat.zero_le _ | exact (e_fit_01 _).1 | exact (e_fit_01 _).2 | (with_reducible refine vp_in_iff.mpr ?_; decide +kernel) | (with_reducible refine e_nz _ (by decide)) | decide | skip
  show Sum.inl (some (Sum.inl (nI 24 + nI 1100 * nI a + nI 4 * nI b))) = _
  simp only [n_lit, pk_mul, nI_add]
set_option maxRecDepth 20000 in
theorem cr_eventAt (hl0 : l.stackTraces = false) (M : EM) (a b : Nat) : Ct l g sg_X11_eventAt [.inl (nI a), .inl (nI b)] M (fun o M' => M' = M ∧ o = .inl (some (.inl (nI (24 + 1100 * a + 12 + 136 * b))))) := by
  refine sem_of hl0 mt_X11_eventAt ok_X11_eventAt rfl (fun K hc hw => e_step rfl hc 80 [] ?_)
  clear hc hw
  repeat' (first | (with_reducible (intro h9; exact absurd rfl h9)) | (with_reducible (intro h9; exact absurd h9 e_10)) | (with_reducible (intro h9; first | exact absurd e_00 h9 | exact absurd h9 e_n10 | exact absurd h9 e_n20 | exact absurd h9 e_n30)) | (with_reducible intro _) | (refine And.intro ?_ ?_) | (with_reducible refine e_sw_nil ?_) | fail)
  all_goals first | (with_reducible refine e_goK ?_) | (with_reducible refine e_ctK ?_) | (with_reducible refine vp_inK ?_; (try simp (disch := omega) only [mI_rM0, mI_rM1, mI_rM2, mI_rM3, mI_rM4, mI_rM5, mI_rM6, mI_rM7, mI_rM8, mI_rM9, mI_rM10, mI_rM11, mI_rM12, mI_rM13, sI_rM0, sI_rM1, sI_rM2, sI_rM3, sI_rM4, sI_rM5, sI_rM6, sI_rM7, sI_rM8, sI_rM9, sI_rM10, sI_rM11, sI_rM12, sI_rM13, ix_0, ix_1, ix_2, ix_3, ix_4, ix_5, ix_6, ix_7, ix_8, ix_9, ix_10, ix_11, ix_12, ix_13, ix_14, ix_15, ix_16, ix_20, ix_23, ix_24, ix_30, ix_36, ix_46, ix_76, mx_4, mx_6, mx_30, mx_136, mx_1100, mx_3324, xi_1, xi_30, nI_pred, eAt, zAt, tc_0, tc_1, tc_2, tc_3, tc_7, tc_15, tc_23, tc_30, nI_add, pk_mul, nI_clamp]); exact vp_in_nI (by omega) (by omega)) | rfl | exact trivial | exact Nat.zero_le _ | exact (e_fit_01 _).1 | exact (e_fit_01 _).2 | (with_reducible refine vp_in_iff.mpr ?_; decide +kernel) | (with_reducible refine e_nz _ (by decide)) | decide | skip
  show Sum.inl (some (Sum.inl (nI 24 + nI 1100 * nI a + nI 12 + nI 136 * nI b))) = _
  simp only [n_lit, pk_mul, nI_add]
set_option maxRecDepth 20000 in
theorem cr_isDay (hl0 : l.stackTraces = false) (M : EM) (v : Int32) : Ct l g sg_X11_isDay [.inl v] M (fun o M' => M' = M ∧ o = .inl (some (.inl (e_01 (0 ≤ v ∧ v ≤ 1094))))) := by
  refine sem_of hl0 mt_X11_isDay ok_X11_isDay rfl (fun K hc hw => e_step rfl hc 80 [] ?_)
  clear hc hw
  repeat' (first | (with_reducible (intro h9; exact absurd rfl h9)) | (with_reducible (intro h9; exact absurd h9 e_10)) | (with_reducible (intro h9; first | exact absurd e_00 h9 | exact absurd h9 e_n10 | exact absurd h9 e_n20 | exact absurd h9 e_n30)) | (with_reducible intro _) | (refine And.intro ?_ ?_) | (with_reducible refine e_sw_nil ?_) | (refine e_ctK ?_; first | (refine Ct.mono (cr_in hl0 _ _ _ _) ?_; intro o M' h8; obtain ⟨h9, rfl⟩ := h8; replace h9 := h9.symm; subst h9) | fail) | fail)
  all_goals first | (with_reducible refine e_goK ?_) | (with_reducible refine e_ctK ?_) | (with_reducible refine vp_inK ?_; (try simp (disch := omega) only [mI_rM0, mI_rM1, mI_rM2, mI_rM3, mI_rM4, mI_rM5, mI_rM6, mI_rM7, mI_rM8, mI_rM9, mI_rM10, mI_rM11, mI_rM12, mI_rM13, sI_rM0, sI_rM1, sI_rM2, sI_rM3, sI_rM4, sI_rM5, sI_rM6, sI_rM7, sI_rM8, sI_rM9, sI_rM10, sI_rM11, sI_rM12, sI_rM13, ix_0, ix_1, ix_2, ix_3, ix_4, ix_5, ix_6, ix_7, ix_8, ix_9, ix_10, ix_11, ix_12, ix_13, ix_14, ix_15, ix_16, ix_20, ix_23, ix_24, ix_30, ix_36, ix_46, ix_76, mx_4, mx_6, mx_30, mx_136, mx_1100, mx_3324, xi_1, xi_30, nI_pred, eAt, zAt, tc_0, tc_1, tc_2, tc_3, tc_7, tc_15, tc_23, tc_30, nI_add, pk_mul, nI_clamp]); exact vp_in_nI (by omega) (by omega)) | rfl | exact trivial | exact Nat.zero_le _ | exact (e_fit_01 _).1 | exact (e_fit_01 _).2 | (with_reducible refine vp_in_iff.mpr ?_; decide +kernel) | (with_reducible refine e_nz _ (by decide)) | decide | skip
set_option maxRecDepth 20000 in
theorem cr_isMinute (hl0 : l.stackTraces = false) (M : EM) (v : Int32) : Ct l g sg_X11_isMinute [.inl v] M (fun o M' => M' = M ∧ o = .inl (some (.inl (e_01 (0 ≤ v ∧ v ≤ 1439))))) := by
  refine sem_of hl0 mt_X11_isMinute ok_X11_isMinute rfl (fun K hc hw => e_step rfl hc 80 [] ?_)
  clear hc hw
  repeat' (first | (with_reducible (intro h9; exact absurd rfl h9)) | (with_reducible (intro h9; exact absurd h9 e_10)) | (with_reducible (intro h9; first | exact absurd e_00 h9 | exact absurd h9 e_n10 | exact absurd h9 e_n20 | exact absurd h9 e_n30)) | (with_reducible intro _) | (refine And.intro ?_ ?_) | (with_reducible refine e_sw_nil ?_) | (refine e_ctK ?_; first | (refine Ct.mono (cr_in hl0 _ _ _ _) ?_; intro o M' h8; obtain ⟨h9, rfl⟩ := h8; replace h9 := h9.symm; subst h9) | fail) | fail)
  all_goals first | (with_reducible refine e_goK ?_) | (with_reducible refine e_ctK ?_) | (with_reducible refine vp_inK ?_; (try simp (disch := omega) only [mI_rM0, mI_rM1, mI_rM2, mI_rM3, mI_rM4, mI_rM5, mI_rM6, mI_rM7, mI_rM8, mI_rM9, mI_rM10, mI_rM11, mI_rM12, mI_rM13, sI_rM0, sI_rM1, sI_rM2, sI_rM3, sI_rM4, sI_rM5, sI_rM6, sI_rM7, sI_rM8, sI_rM9, sI_rM10, sI_rM11, sI_rM12, sI_rM13, ix_0, ix_1, ix_2, ix_3, ix_4, ix_5, ix_6, ix_7, ix_8, ix_9, ix_10, ix_11, ix_12, ix_13, ix_14, ix_15, ix_16, ix_20, ix_23, ix_24, ix_30, ix_36, ix_46, ix_76, mx_4, mx_6, mx_30, mx_136, mx_1100, mx_3324, xi_1, xi_30, nI_pred, eAt, zAt, tc_0, tc_1, tc_2, tc_3, tc_7, tc_15, tc_23, tc_30, nI_add, pk_mul, nI_clamp]); exact vp_in_nI (by omega) (by omega)) | rfl | exact trivial | exact Nat.zero_le _ | exact (e_fit_01 _).1 | exact (e_fit_01 _).2 | (with_reducible refine vp_in_iff.mpr ?_; decide +kernel) | (with_reducible refine e_nz _ (by decide)) | decide | skip
set_option maxRecDepth 20000 in
theorem cr_isPlace (hl0 : l.stackTraces = false) (M : EM) (v : Int32) : Ct l g sg_X11_isPlace [.inl v] M (fun o M' => M' = M ∧ o = .inl (some (.inl (e_01 (0 ≤ v ∧ v ≤ 2))))) := by
  refine sem_of hl0 mt_X11_isPlace ok_X11_isPlace rfl (fun K hc hw => e_step rfl hc 80 [] ?_)
  clear hc hw
  repeat' (first | (with_reducible (intro h9; exact absurd rfl h9)) | (with_reducible (intro h9; exact absurd h9 e_10)) | (with_reducible (intro h9; first | exact absurd e_00 h9 | exact absurd h9 e_n10 | exact absurd h9 e_n20 | exact absurd h9 e_n30)) | (with_reducible intro _) | (refine And.intro ?_ ?_) | (with_reducible refine e_sw_nil ?_) | (refine e_ctK ?_; first | (refine Ct.mono (cr_in hl0 _ _ _ _) ?_; intro o M' h8; obtain ⟨h9, rfl⟩ := h8; replace h9 := h9.symm; subst h9) | fail) | fail)
  all_goals first | (with_reducible refine e_goK ?_) | (with_reducible refine e_ctK ?_) | (with_reducible refine vp_inK ?_; (try simp (disch := omega) only [mI_rM0, mI_rM1, mI_rM2, mI_rM3, mI_rM4, mI_rM5, mI_rM6, mI_rM7, mI_rM8, mI_rM9, mI_rM10, mI_rM11, mI_rM12, mI_rM13, sI_rM0, sI_rM1, sI_rM2, sI_rM3, sI_rM4, sI_rM5, sI_rM6, sI_rM7, sI_rM8, sI_rM9, sI_rM10, sI_rM11, sI_rM12, sI_rM13, ix_0, ix_1, ix_2, ix_3, ix_4, ix_5, ix_6, ix_7, ix_8, ix_9, ix_10, ix_11, ix_12, ix_13, ix_14, ix_15, ix_16, ix_20, ix_23, ix_24, ix_30, ix_36, ix_46, ix_76, mx_4, mx_6, mx_30, mx_136, mx_1100, mx_3324, xi_1, xi_30, nI_pred, eAt, zAt, tc_0, tc_1, tc_2, tc_3, tc_7, tc_15, tc_23, tc_30, nI_add, pk_mul, nI_clamp]); exact vp_in_nI (by omega) (by omega)) | rfl | exact trivial | exact Nat.zero_le _ | exact (e_fit_01 _).1 | exact (e_fit_01 _).2 | (with_reducible refine vp_in_iff.mpr ?_; decide +kernel) | (with_reducible refine e_nz _ (by decide)) | decide | skip
set_option maxRecDepth 20000 in
theorem cr_isSide (hl0 : l.stackTraces = false) (M : EM) (v : Int32) : Ct l g sg_X11_isSide [.inl v] M (fun o M' => M' = M ∧ o = .inl (some (.inl (e_01 (0 ≤ v ∧ v ≤ 1))))) := by
  refine sem_of hl0 mt_X11_isSide ok_X11_isSide rfl (fun K hc hw => e_step rfl hc 80 [] ?_)
  clear hc hw
  repeat' (first | (with_reducible (intro h9; exact absurd rfl h9)) | (with_reducible (intro h9; exact absurd h9 e_10)) | (with_reducible (intro h9; first | exact absurd e_00 h9 | exact absurd h9 e_n10 | exact absurd h9 e_n20 | exact absurd h9 e_n30)) | (with_reducible intro _) | (refine And.intro ?_ ?_) | (with_reducible refine e_sw_nil ?_) | (refine e_ctK ?_; first | (refine Ct.mono (cr_in hl0 _ _ _ _) ?_; intro o M' h8; obtain ⟨h9, rfl⟩ := h8; replace h9 := h9.symm; subst h9) | fail) | fail)
  all_goals first | (with_reducible refine e_goK ?_) | (with_reducible refine e_ctK ?_) | (with_reducible refine vp_inK ?_; (try simp (disch := omega) only [mI_rM0, mI_rM1, mI_rM2, mI_rM3, mI_rM4, mI_rM5, mI_rM6, mI_rM7, mI_rM8, mI_rM9, mI_rM10, mI_rM11, mI_rM12, mI_rM13, sI_rM0, sI_rM1, sI_rM2, sI_rM3, sI_rM4, sI_rM5, sI_rM6, sI_rM7, sI_rM8, sI_rM9, sI_rM10, sI_rM11, sI_rM12, sI_rM13, ix_0, ix_1, ix_2, ix_3, ix_4, ix_5, ix_6, ix_7, ix_8, ix_9, ix_10, ix_11, ix_12, ix_13, ix_14, ix_15, ix_16, ix_20, ix_23, ix_24, ix_30, ix_36, ix_46, ix_76, mx_4, mx_6, mx_30, mx_136, mx_1100, mx_3324, xi_1, xi_30, nI_pred, eAt, zAt, tc_0, tc_1, tc_2, tc_3, tc_7, tc_15, tc_23, tc_30, nI_add, pk_mul, nI_clamp]); exact vp_in_nI (by omega) (by omega)) | rfl | exact trivial | exact Nat.zero_le _ | exact (e_fit_01 _).1 | exact (e_fit_01 _).2 | (with_reducible refine vp_in_iff.mpr ?_; decide +kernel) | (with_reducible refine e_nz _ (by decide)) | decide | skip
set_option maxRecDepth 20000 in
theorem cr_isEvent (hl0 : l.stackTraces = false) (M : EM) (v : Int32) : Ct l g sg_X11_isEvent [.inl v] M (fun o M' => M' = M ∧ o = .inl (some (.inl (e_01 (0 ≤ v ∧ v ≤ 7))))) := by
  refine sem_of hl0 mt_X11_isEvent ok_X11_isEvent rfl (fun K hc hw => e_step rfl hc 80 [] ?_)
  clear hc hw
  repeat' (first | (with_reducible (intro h9; exact absurd rfl h9)) | (with_reducible (intro h9; exact absurd h9 e_10)) | (with_reducible (intro h9; first | exact absurd e_00 h9 | exact absurd h9 e_n10 | exact absurd h9 e_n20 | exact absurd h9 e_n30)) | (with_reducible intro _) | (refine And.intro ?_ ?_) | (with_reducible refine e_sw_nil ?_) | (refine e_ctK ?_; first | (refine Ct.mono (cr_in hl0 _ _ _ _) ?_; intro o M' h8; obtain ⟨h9, rfl⟩ := h8; replace h9 := h9.symm; subst h9) | fail) | fail)
  all_goals first | (with_reducible refine e_goK ?_) | (with_reducible refine e_ctK ?_) | (with_reducible refine vp_inK ?_; (try simp (disch := omega) only [mI_rM0, mI_rM1, mI_rM2, mI_rM3, mI_rM4, mI_rM5, mI_rM6, mI_rM7, mI_rM8, mI_rM9, mI_rM10, mI_rM11, mI_rM12, mI_rM13, sI_rM0, sI_rM1, sI_rM2, sI_rM3, sI_rM4, sI_rM5, sI_rM6, sI_rM7, sI_rM8, sI_rM9, sI_rM10, sI_rM11, sI_rM12, sI_rM13, ix_0, ix_1, ix_2, ix_3, ix_4, ix_5, ix_6, ix_7, ix_8, ix_9, ix_10, ix_11, ix_12, ix_13, ix_14, ix_15, ix_16, ix_20, ix_23, ix_24, ix_30, ix_36, ix_46, ix_76, mx_4, mx_6, mx_30, mx_136, mx_1100, mx_3324, xi_1, xi_30, nI_pred, eAt, zAt, tc_0, tc_1, tc_2, tc_3, tc_7, tc_15, tc_23, tc_30, nI_add, pk_mul, nI_clamp]); exact vp_in_nI (by omega) (by omega)) | rfl | exact trivial | exact Nat.zero_le _ | exact (e_fit_01 _).1 | exact (e_fit_01 _).2 | (with_reducible refine vp_in_iff.mpr ?_; decide +kernel) | (with_reducible refine e_nz _ (by decide)) | decide | skip
set_option maxRecDepth 20000 in
theorem cr_isZone (hl0 : l.stackTraces = false) (M : EM) {m : Nat} (F : FM) (v : Int32) : Ct l g sg_X11_isZone [.inr (.inr (.inr (.inr (30, m)))), .inl v] (rM M m F) (fun o M' => M' = rM M m (F) ∧ o = .inl (some (.inl (e_01 (0 ≤ v ∧ v ≤ F 0 1 - 1))))) := by
  refine sem_of hl0 mt_X11_isZone ok_X11_isZone rfl (fun K hc hw => e_step rfl hc 80 [] ?_)
  clear hc hw
  repeat' (first | (with_reducible (intro h9; exact absurd rfl h9)) | (with_reducible (intro h9; exact absurd h9 e_10)) | (with_reducible (intro h9; first | exact absurd e_00 h9 | exact absurd h9 e_n10 | exact absurd h9 e_n20 | exact absurd h9 e_n30)) | (with_reducible intro _) | (refine And.intro ?_ ?_) | (with_reducible refine e_sw_nil ?_) | (refine e_ctK ?_; first | (refine Ct.mono (cr_in hl0 _ _ _ _) ?_; intro o M' h8; obtain ⟨h9, rfl⟩ := h8; replace h9 := h9.symm; subst h9) | fail) | fail)
  all_goals first | (with_reducible refine e_goK ?_) | (with_reducible refine e_ctK ?_) | (with_reducible refine vp_inK ?_; (try simp (disch := omega) only [mI_rM0, mI_rM1, mI_rM2, mI_rM3, mI_rM4, mI_rM5, mI_rM6, mI_rM7, mI_rM8, mI_rM9, mI_rM10, mI_rM11, mI_rM12, mI_rM13, sI_rM0, sI_rM1, sI_rM2, sI_rM3, sI_rM4, sI_rM5, sI_rM6, sI_rM7, sI_rM8, sI_rM9, sI_rM10, sI_rM11, sI_rM12, sI_rM13, ix_0, ix_1, ix_2, ix_3, ix_4, ix_5, ix_6, ix_7, ix_8, ix_9, ix_10, ix_11, ix_12, ix_13, ix_14, ix_15, ix_16, ix_20, ix_23, ix_24, ix_30, ix_36, ix_46, ix_76, mx_4, mx_6, mx_30, mx_136, mx_1100, mx_3324, xi_1, xi_30, nI_pred, eAt, zAt, tc_0, tc_1, tc_2, tc_3, tc_7, tc_15, tc_23, tc_30, nI_add, pk_mul, nI_clamp]); exact vp_in_nI (by omega) (by omega)) | rfl | exact trivial | exact Nat.zero_le _ | exact (e_fit_01 _).1 | exact (e_fit_01 _).2 | (with_reducible refine vp_in_iff.mpr ?_; decide +kernel) | (with_reducible refine e_nz _ (by decide)) | decide | skip
  all_goals (try simp only [mI_rM0, mI_rM1, mI_rM2, mI_rM3, mI_rM4, mI_rM5, mI_rM6, mI_rM7, mI_rM8, mI_rM9, mI_rM10, mI_rM11, mI_rM12, mI_rM13, sI_rM0, sI_rM1, sI_rM2, sI_rM3, sI_rM4, sI_rM5, sI_rM6, sI_rM7, sI_rM8, sI_rM9, sI_rM10, sI_rM11, sI_rM12, sI_rM13])
set_option maxRecDepth 20000 in
theorem cr_bitsIn (hl0 : l.stackTraces = false) (M : EM) (b : Int32) : Ct l g sg_X11_bitsIn [.inl b] M (fun o M' => M' = M ∧ o = .inl (some (.inl (nI (e_cnt b 30))))) := by
  refine sem_of hl0 mt_X11_bitsIn ok_X11_bitsIn rfl (fun K hc hw => ?_)
  have loop : ∀ (zn : Nat) (k : Nat), k + zn = 30 → K 4 [some (.inl b), some (.inl (nI (e_cnt b k))), some (.inl (nI k))] [] M 0 0 := by
    intro zn
    induction zn with
    | zero =>
      intro k hk
      obtain rfl : k = 30 := by omega
      refine e_step rfl hc 60 [4] ?_
      repeat' (first | (with_reducible (intro h9; exact absurd rfl h9)) | (with_reducible (intro h9; exact absurd h9 e_10)) | (with_reducible intro _) | (refine And.intro ?_ ?_))
      all_goals first | (with_reducible refine e_goK ?_) | (with_reducible refine e_ctK ?_) | rfl | exact trivial | exact Nat.zero_le _ | exact (e_fit_01 _).1 | exact (e_fit_01 _).2 | (with_reducible refine vp_in_iff.mpr ?_; decide +kernel) | (with_reducible refine e_nz _ (by decide)) | decide | skip
      all_goals (exfalso; first | (rename_i g1; exact g1 (by decide)) | (rename_i g1 g2; exact g1 (by decide)) | (rename_i g1 g2 g3; exact g1 (by decide)))
    | succ zn ih =>
      intro k hk
      refine e_step rfl hc 60 [4] ?_
      repeat' (first | (with_reducible (intro h9; exact absurd rfl h9)) | (with_reducible (intro h9; exact absurd h9 e_10)) | (with_reducible (intro h9; first | exact absurd e_00 h9 | exact absurd h9 e_n10 | exact absurd h9 e_n20 | exact absurd h9 e_n30)) | (with_reducible intro _) | (refine And.intro ?_ ?_) | (with_reducible refine e_sw_nil ?_) | (refine e_ctK ?_; first | (refine Ct.mono (cr_has hl0 _ _ _) ?_; intro o M' h8; obtain ⟨h9, rfl⟩ := h8; replace h9 := h9.symm; subst h9) | fail) | fail)
      all_goals first | (with_reducible refine e_goK ?_) | (with_reducible refine e_ctK ?_) | rfl | exact trivial | exact Nat.zero_le _ | exact (e_fit_01 _).1 | exact (e_fit_01 _).2 | (with_reducible refine vp_in_iff.mpr ?_; decide +kernel) | (with_reducible refine e_nz _ (by decide)) | decide | skip
      · rename_i g1; exact absurd g1 (nI_ge (b := 30) (by omega) (by omega))
      · rename_i g1 g2
        rw [e_01_n, Classical.not_not] at g2
        show K 4 [some (.inl b), some (.inl (nI (e_cnt b k))), some (.inl (nI k + 1))] [] M 0 0
        rw [nI_1, show e_cnt b k = e_cnt b (k + 1) from (if_neg (not_not_intro g2)).symm]
        exact ih (k + 1) (by omega)
      · rename_i g1 g2
        rw [e_01_n, Classical.not_not] at g2
        show K 4 [some (.inl b), some (.inl (nI (e_cnt b k) + 1)), some (.inl (nI k + 1))] [] M 0 0
        rw [nI_1, nI_1, show e_cnt b k + 1 = e_cnt b (k + 1) from (if_pos g2).symm]
        exact ih (k + 1) (by omega)
  
  refine e_step rfl hc 60 [4] ?_
  exact loop 30 0 rfl
end
