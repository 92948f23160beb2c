/-! THE REFERENCE: its rows as one function; small methods. -/
section
variable {l : Launch} {g : EG}
abbrev eAt (p e : Nat) : Nat := 24 + 1100 * p + 12 + 136 * e
abbrev zAt (p z : Nat) : Nat := 24 + 1100 * p + 4 * z
theorem e_00 : (0 : Int32) ≤ 0 := Int32.le_refl 0
theorem e_n10 : ¬ (1 : Int32) ≤ 0 := by decide
theorem e_n20 : ¬ (2 : Int32) ≤ 0 := by decide
theorem e_n30 : ¬ (3 : Int32) ≤ 0 := by decide
theorem xi_1 {a : Nat} : 1 + nI a = nI (1 + a) := nI_add 1 a
theorem xi_30 {a : Nat} : 30 + nI a = nI (30 + a) := nI_add 30 a
theorem nmod (a d : Nat) : a - a / d * d = a % d := by
  have := Nat.div_add_mod a d
  rw [Nat.mul_comm] at this
  omega
theorem Ct.ar {σ : SG} {M M' : EM} {Q : EO → EM → Prop} {av av' : List EV} (h : av = av') (h2 : M = M') (H : Ct l g σ av M Q) : Ct l g σ av' M' Q := h ▸ h2 ▸ H
theorem e_kc {K : Nat → EK} {t nc ns : Nat} {ls ls' : List (Option EV)} {st st' : List EV} {M M' : EM} (h : K t ls' st' M' nc ns) (h1 : ls' = ls) (h2 : st' = st) (h3 : M' = M) : K t ls st M nc ns := h1 ▸ h2 ▸ h3 ▸ h
theorem e_cc {α : Type} {a a' : α} {t t' : List α} (h : a = a') (h2 : t = t') : a :: t = a' :: t' := h ▸ h2 ▸ rfl
theorem e_kk {K : Nat → EK} {t nc ns : Nat} {ls : List (Option EV)} {st : List EV} {M : EM} (h : K t ls st M nc ns) : K t ls st M nc ns := h
theorem vp_inK {x : Int32} {n : Nat} (h : vp_in x n) : vp_in x n := h
theorem e_clI {x : Int32} : e_cl (some (.inl x)) = some (.inl x) := rfl
theorem e_clP {t a : Nat} : e_cl (some (.inr (.inr (.inr (.inr (t, a)))))) = some (.inr (.inr (.inr (.inr (t, a))))) := rfl
theorem e_cnI {x y : Nat} (h : x = y) : (some (Sum.inl (nI x)) : Option EV) = some (Sum.inl (nI y)) := h ▸ rfl
theorem e_sw_nil {J : Nat → EK} {dt : Nat} {ls : List (Option EV)} {r : List EV} {M : EM} {nc ns : Nat} {x : Int32} {lo : Int} (h : J dt ls r M nc ns) : e_sw J dt ls r M nc ns x lo [] := fun _ => h
abbrev FM : Type := Nat → Nat → Int32
/-- the reference's cells from m on hold F -/
def rM (M : EM) (m : Nat) (F : FM) : EM := (M.1, fun c j => if m ≤ c ∧ c < m + 14 then F (c - m) j else M.2.1 c j, M.2.2)
def upF (F : FM) (i k : Nat) (v : Int32) : FM := fun a b => if a = i ∧ b = k then v else F a b
def rwF (F : FM) (i : Nat) (f : Nat → Int32) : FM := fun a => if a = i then f else F a
theorem mI_rM {M : EM} {m i j : Nat} {F : FM} (h : i < 14) : mI (rM M m F) (m + i) j = F i j := by
  unfold mI rM
  simp [show m + i < m + 14 by omega]
theorem sI_rM {M : EM} {m i k : Nat} {F : FM} {v : Int32} (h : i < 14) : sI (rM M m F) (m + i) k v = rM M m (upF F i k v) := by
  unfold sI rM e_up upF
  refine Prod.ext rfl (Prod.ext ?_ rfl)
  funext c j
  show (if c = m + i then (if j = k then v else _) else _) = _
  by_cases h1 : m ≤ c ∧ c < m + 14
  · simp only [h1, and_self, if_true]
    by_cases h2 : c = m + i
    · subst h2; simp
    · rw [if_neg h2, if_neg (by omega)]
  · rw [if_neg (by omega)]; simp [h1]
theorem mI_rM0 {M : EM} {m j : Nat} {F : FM} : mI (rM M m F) m j = F 0 j := mI_rM (i := 0) (by decide)
theorem sI_rM0 {M : EM} {m k : Nat} {F : FM} {v : Int32} : sI (rM M m F) m k v = rM M m (upF F 0 k v) := sI_rM (i := 0) (by decide)
theorem mI_rM1 {M : EM} {m j : Nat} {F : FM} : mI (rM M m F) (m + 1) j = F 1 j := mI_rM (i := 1) (by decide)
theorem sI_rM1 {M : EM} {m k : Nat} {F : FM} {v : Int32} : sI (rM M m F) (m + 1) k v = rM M m (upF F 1 k v) := sI_rM (i := 1) (by decide)
theorem mI_rM2 {M : EM} {m j : Nat} {F : FM} : mI (rM M m F) (m + 2) j = F 2 j := mI_rM (i := 2) (by decide)
theorem sI_rM2 {M : EM} {m k : Nat} {F : FM} {v : Int32} : sI (rM M m F) (m + 2) k v = rM M m (upF F 2 k v) := sI_rM (i := 2) (by decide)
theorem mI_rM3 {M : EM} {m j : Nat} {F : FM} : mI (rM M m F) (m + 3) j = F 3 j := mI_rM (i := 3) (by decide)
theorem sI_rM3 {M : EM} {m k : Nat} {F : FM} {v : Int32} : sI (rM M m F) (m + 3) k v = rM M m (upF F 3 k v) := sI_rM (i := 3) (by decide)
theorem mI_rM4 {M : EM} {m j : Nat} {F : FM} : mI (rM M m F) (m + 4) j = F 4 j := mI_rM (i := 4) (by decide)
theorem sI_rM4 {M : EM} {m k : Nat} {F : FM} {v : Int32} : sI (rM M m F) (m + 4) k v = rM M m (upF F 4 k v) := sI_rM (i := 4) (by decide)
theorem mI_rM5 {M : EM} {m j : Nat} {F : FM} : mI (rM M m F) (m + 5) j = F 5 j := mI_rM (i := 5) (by decide)
theorem sI_rM5 {M : EM} {m k : Nat} {F : FM} {v : Int32} : sI (rM M m F) (m + 5) k v = rM M m (upF F 5 k v) := sI_rM (i := 5) (by decide)
theorem mI_rM6 {M : EM} {m j : Nat} {F : FM} : mI (rM M m F) (m + 6) j = F 6 j := mI_rM (i := 6) (by decide)
theorem sI_rM6 {M : EM} {m k : Nat} {F : FM} {v : Int32} : sI (rM M m F) (m + 6) k v = rM M m (upF F 6 k v) := sI_rM (i := 6) (by decide)
theorem mI_rM7 {M : EM} {m j : Nat} {F : FM} : mI (rM M m F) (m + 7) j = F 7 j := mI_rM (i := 7) (by decide)
theorem sI_rM7 {M : EM} {m k : Nat} {F : FM} {v : Int32} : sI (rM M m F) (m + 7) k v = rM M m (upF F 7 k v) := sI_rM (i := 7) (by decide)
theorem mI_rM8 {M : EM} {m j : Nat} {F : FM} : mI (rM M m F) (m + 8) j = F 8 j := mI_rM (i := 8) (by decide)
theorem sI_rM8 {M : EM} {m k : Nat} {F : FM} {v : Int32} : sI (rM M m F) (m + 8) k v = rM M m (upF F 8 k v) := sI_rM (i := 8) (by decide)
theorem mI_rM9 {M : EM} {m j : Nat} {F : FM} : mI (rM M m F) (m + 9) j = F 9 j := mI_rM (i := 9) (by decide)
theorem sI_rM9 {M : EM} {m k : Nat} {F : FM} {v : Int32} : sI (rM M m F) (m + 9) k v = rM M m (upF F 9 k v) := sI_rM (i := 9) (by decide)
theorem mI_rM10 {M : EM} {m j : Nat} {F : FM} : mI (rM M m F) (m + 10) j = F 10 j := mI_rM (i := 10) (by decide)
theorem sI_rM10 {M : EM} {m k : Nat} {F : FM} {v : Int32} : sI (rM M m F) (m + 10) k v = rM M m (upF F 10 k v) := sI_rM (i := 10) (by decide)
theorem mI_rM11 {M : EM} {m j : Nat} {F : FM} : mI (rM M m F) (m + 11) j = F 11 j := mI_rM (i := 11) (by decide)
theorem sI_rM11 {M : EM} {m k : Nat} {F : FM} {v : Int32} : sI (rM M m F) (m + 11) k v = rM M m (upF F 11 k v) := sI_rM (i := 11) (by decide)
theorem mI_rM12 {M : EM} {m j : Nat} {F : FM} : mI (rM M m F) (m + 12) j = F 12 j := mI_rM (i := 12) (by decide)
theorem sI_rM12 {M : EM} {m k : Nat} {F : FM} {v : Int32} : sI (rM M m F) (m + 12) k v = rM M m (upF F 12 k v) := sI_rM (i := 12) (by decide)
theorem mI_rM13 {M : EM} {m j : Nat} {F : FM} : mI (rM M m F) (m + 13) j = F 13 j := mI_rM (i := 13) (by decide)
theorem sI_rM13 {M : EM} {m k : Nat} {F : FM} {v : Int32} : sI (rM M m F) (m + 13) k v = rM M m (upF F 13 k v) := sI_rM (i := 13) (by decide)
theorem upF_s {F : FM} {i k : Nat} {v : Int32} : upF F i k v i k = v := by simp [upF]
theorem upF_n {F : FM} {i k i' k' : Nat} {v : Int32} (h : ¬ (i' = i ∧ k' = k)) : upF F i k v i' k' = F i' k' := if_neg h
theorem upF_r {F : FM} {i k i' : Nat} {v : Int32} (h : ¬ i' = i) : upF F i k v i' = F i' := by funext j; exact if_neg (fun q => h q.1)
theorem e_01_p {c : Prop} [Decidable c] : e_01 c = 1 ↔ c := by unfold e_01; split <;> simp_all
theorem i_0 : (0 : Int32).toInt = 0 := rfl
theorem tc_0 : (0 : Int32).toNatClampNeg = 0 := rfl
theorem tc_1 : (1 : Int32).toNatClampNeg = 1 := rfl
theorem tc_2 : (2 : Int32).toNatClampNeg = 2 := rfl
theorem tc_3 : (3 : Int32).toNatClampNeg = 3 := rfl
theorem tc_7 : (7 : Int32).toNatClampNeg = 7 := rfl
theorem tc_15 : (15 : Int32).toNatClampNeg = 15 := rfl
theorem tc_23 : (23 : Int32).toNatClampNeg = 23 := rfl
theorem tc_30 : (30 : Int32).toNatClampNeg = 30 := rfl
theorem mx_4 {a : Nat} : 4 * nI a = nI (4 * a) := pk_mul 4 a
theorem mx_6 {a : Nat} : 6 * nI a = nI (6 * a) := pk_mul 6 a
theorem mx_30 {a : Nat} : 30 * nI a = nI (30 * a) := pk_mul 30 a
theorem mx_136 {a : Nat} : 136 * nI a = nI (136 * a) := pk_mul 136 a
theorem mx_1100 {a : Nat} : 1100 * nI a = nI (1100 * a) := pk_mul 1100 a
theorem mx_3324 {a : Nat} : 3324 * nI a = nI (3324 * a) := pk_mul 3324 a
theorem ix_0 {a : Nat} : nI a + 0 = nI (a + 0) := nI_add a 0
theorem ix_1 {a : Nat} : nI a + 1 = nI (a + 1) := nI_add a 1
theorem ix_2 {a : Nat} : nI a + 2 = nI (a + 2) := nI_add a 2
theorem ix_3 {a : Nat} : nI a + 3 = nI (a + 3) := nI_add a 3
theorem ix_4 {a : Nat} : nI a + 4 = nI (a + 4) := nI_add a 4
theorem ix_5 {a : Nat} : nI a + 5 = nI (a + 5) := nI_add a 5
theorem ix_6 {a : Nat} : nI a + 6 = nI (a + 6) := nI_add a 6
theorem ix_7 {a : Nat} : nI a + 7 = nI (a + 7) := nI_add a 7
theorem ix_8 {a : Nat} : nI a + 8 = nI (a + 8) := nI_add a 8
theorem ix_9 {a : Nat} : nI a + 9 = nI (a + 9) := nI_add a 9
theorem ix_10 {a : Nat} : nI a + 10 = nI (a + 10) := nI_add a 10
theorem ix_11 {a : Nat} : nI a + 11 = nI (a + 11) := nI_add a 11
theorem ix_12 {a : Nat} : nI a + 12 = nI (a + 12) := nI_add a 12
theorem ix_13 {a : Nat} : nI a + 13 = nI (a + 13) := nI_add a 13
theorem ix_14 {a : Nat} : nI a + 14 = nI (a + 14) := nI_add a 14
theorem ix_15 {a : Nat} : nI a + 15 = nI (a + 15) := nI_add a 15
theorem ix_16 {a : Nat} : nI a + 16 = nI (a + 16) := nI_add a 16
theorem ix_20 {a : Nat} : nI a + 20 = nI (a + 20) := nI_add a 20
theorem ix_23 {a : Nat} : nI a + 23 = nI (a + 23) := nI_add a 23
theorem ix_24 {a : Nat} : nI a + 24 = nI (a + 24) := nI_add a 24
theorem ix_30 {a : Nat} : nI a + 30 = nI (a + 30) := nI_add a 30
theorem ix_36 {a : Nat} : nI a + 36 = nI (a + 36) := nI_add a 36
theorem ix_46 {a : Nat} : nI a + 46 = nI (a + 46) := nI_add a 46
theorem ix_76 {a : Nat} : nI a + 76 = nI (a + 76) := nI_add a 76
def e_cnt (b : Int32) : Nat → Nat
  | 0 => 0
  | k + 1 => if e_bit b (nI k) then e_cnt b k + 1 else e_cnt b k
end
