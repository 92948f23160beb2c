/-! THE ENGINE, 4: fields and arrays. -/
theorem e_kd_n : ∀ t, 200 ≤ t → t < 2000 → e_kd t = none := by
  intro t ht ht2
  have hb : Nat.ble 2000 t = false := by
    cases hb : Nat.ble 2000 t with
    | false => rfl
    | true => exact absurd (Nat.le_of_ble_eq_true hb) (by omega)
  unfold e_kd
  split <;> first | omega | (rw [hb]; rfl)
/-- byte arrays of any length -/
theorem e_kd_b (n : Nat) : e_kd (2000 + n) = some (.inr (1, n)) := by
  have hb : Nat.ble 2000 (2000 + n) = true := Nat.ble_eq_true_of_le (by omega)
  unfold e_kd
  split <;> first | omega | (rw [hb, Nat.add_sub_cancel_left]; rfl)
theorem e_ro_kd {g : EG} {t a : Nat} (h : e_ro g t a) : e_kd t = none := by
  have key : ∀ t, 200 ≤ t → t < 2000 → e_kd t = none := e_kd_n
  rcases h with ⟨rfl, -⟩ | ⟨h1, h2, -⟩ | ⟨h1, h2, -⟩ | rfl
  · rfl
  · exact key t h1 (by omega)
  · exact key t (by omega) (by omega)
  · rfl
/-- the class of a tag -/
def e_isO (t ci : Nat) : Bool := match e_kd t with
  | some (.inl c) => Nat.beq c ci
  | _ => false
theorem e_isO_kd {t ci : Nat} (h : e_isO t ci = true) : e_kd t = some (.inl ci) := by
  unfold e_isO at h
  split at h
  · rename_i c hc
    rw [hc, Nat.eq_of_beq_eq_true h]
  · cases h
/-- an array's length, if its tag is of that kind -/
def e_aN (t ai : Nat) : Option Nat := match e_kd t with
  | some (.inr q) => bif Nat.beq q.1 ai then some q.2 else none
  | _ => none
theorem e_aN_kd {t ai n : Nat} (h : e_aN t ai = some n) : e_kd t = some (.inr (ai, n)) := by
  unfold e_aN at h
  split at h
  · rename_i q hc
    cases hb : Nat.beq q.1 ai with
    | true =>
      rw [hb] at h
      have h2 : q.2 = n := by simpa using h
      rw [hc, ← Nat.eq_of_beq_eq_true hb, ← h2]
    | false => rw [hb] at h; simp at h
  · cases h
theorem e_vok_in {g : EG} {M : EM} {q : Nat × Nat} {k : Nat ⊕ (Nat × Nat)} (h : e_vok g M (.inr (.inr (.inr (.inr q))))) (hk : e_kd q.1 = some k) : q.2 ∈ mA M ∧ mT M q.2 = q.1 := by
  rcases h with h | h
  · exact h
  · rw [e_ro_kd h] at hk; cases hk
theorem e_ent_o {g : EG} {M : EM} {a t ci : Nat} (h : mT M a = t) (hk : e_kd t = some (.inl ci)) : e_ent g M a = .inr (ci, (List.range (e_cN ci)).map (fun k => e_fv M (e_cT ci k) a k)) := by
  unfold e_ent
  rw [h, hk]
theorem e_ent_a {g : EG} {M : EM} {a t ai n : Nat} (h : mT M a = t) (hk : e_kd t = some (.inr (ai, n))) : e_ent g M a = .inl (gC g ai, n, e_arr M a ai) := by
  unfold e_ent
  rw [h, hk]
theorem e_cl_at : ∀ ci, ci < 12 → vwCl[ci]? = some (e_cR ci, e_cF ci, e_cN ci) := by
  intro ci h
  rcases ci with _ | _ | _ | _ | _ | _ | _ | _ | _ | _ | _ | _ | ci <;> first | rfl | omega
theorem e_cl_ty : ∀ ci, ci < 12 → ∀ k, k < e_cN ci → parseFieldDescriptor (e_cF ci k).2.2.1 = some (e_cT ci k) := by
  intro ci h
  rcases ci with _ | _ | _ | _ | _ | _ | _ | _ | _ | _ | _ | _ | ci
  · exact tyX0_ok
  · exact tyX2_ok
  · exact tyX3_ok
  · exact tyX4_ok
  · exact tyX5_ok
  · exact tyX6_ok
  · exact tyX7_ok
  · exact tyX8_ok
  · exact tyX9_ok
  · exact tyX10_ok
  · exact tyJ4_ok
  · exact tyJ0_ok
  · omega
theorem e_cl_nm : ∀ ci, ci < 12 → ∀ a, a < e_cN ci → ∀ b, b < e_cN ci → a ≠ b → (e_cF ci a).2.1 ≠ (e_cF ci b).2.1 := by
  intro ci h
  rcases ci with _ | _ | _ | _ | _ | _ | _ | _ | _ | _ | _ | _ | ci
  · exact nmX0
  · exact nmX2
  · exact nmX3
  · exact nmX4
  · exact nmX5
  · exact nmX6
  · exact nmX7
  · exact nmX8
  · exact nmX9
  · exact nmX10
  · exact nmJ4
  · exact nmJ0
  · omega
set_option maxRecDepth 100000 in
theorem e_cl_ws : ∀ ci, ci < 12 → ∀ w ∈ u_ws (e_cR ci) (e_cF ci) (e_cN ci), w ∈ e_good := by
  have key : ∀ {L : List Cond}, L.all (fun w => goodWord w) = true → (∀ w ∈ L, w ∈ e_tbl) → ∀ w ∈ L, w ∈ e_good := fun h1 h2 w hw => List.mem_filter.mpr ⟨h2 w hw, List.all_eq_true.mp h1 w hw⟩
  intro ci h
  rcases ci with _ | _ | _ | _ | _ | _ | _ | _ | _ | _ | _ | _ | ci
  · exact key (by decide +kernel) (by decide +kernel)
  · exact key (by decide +kernel) (by decide +kernel)
  · exact key (by decide +kernel) (by decide +kernel)
  · exact key (by decide +kernel) (by decide +kernel)
  · exact key (by decide +kernel) (by decide +kernel)
  · exact key (by decide +kernel) (by decide +kernel)
  · exact key (by decide +kernel) (by decide +kernel)
  · exact key (by decide +kernel) (by decide +kernel)
  · exact key (by decide +kernel) (by decide +kernel)
  · exact key (by decide +kernel) (by decide +kernel)
  · exact key (by decide +kernel) (by decide +kernel)
  · exact key (by decide +kernel) (by decide +kernel)
  · omega
def e_isI : FieldType → Bool
  | .object _ => false
  | .array _ => false
  | .long => false
  | _ => true
theorem e_fv_I {M : EM} {ty : FieldType} {a k : Nat} (h : e_isI ty = true) : e_fv M ty a k = .int (mI M a k) := by
  cases ty <;> first | rfl | (cases h; done)
def e_isR : FieldType → Bool
  | .object _ => true
  | .array _ => true
  | _ => false
theorem e_fv_R {M : EM} {ty : FieldType} {a k : Nat} (h : e_isR ty = true) : e_fv M ty a k = va_rf (mP M a k) := by
  cases ty <;> first | rfl | (cases h; done)
theorem e_lset {N k : Nat} {F F' : Nat → Value} {v : Value} (h : ∀ j, j < N → j ≠ k → F' j = F j) (hk : F' k = v) : ((List.range N).map F).set k v = (List.range N).map F' := by
  apply List.ext_getElem?
  intro j
  rw [List.getElem?_set]
  by_cases hj : k = j
  · subst hj
    by_cases hl : k < N
    · simp [hl, hk]
    · simp [hl]
  · rw [if_neg hj]
    by_cases hl : j < N
    · simp [hl, h j hl (Ne.symm hj)]
    · simp [hl]
theorem e_get {N k : Nat} {F : Nat → Value} (h : k < N) : ((List.range N).map F)[k]? = some (F k) := by simp [h]
theorem e_pt_9 {t k : Nat} (h : e_pt t k = 999) : t = 54 ∨ t = 56 ∨ t = 57 := by
  unfold e_pt at h
  split at h <;> first | omega | (left; rfl) | (right; left; rfl) | (right; right; rfl)
theorem e_pt_n {t ci k : Nat} (h : e_isO t ci = true) (hci : ci < 10) : ¬ e_pt t k = 999 := by
  intro h9
  rcases e_pt_9 h9 with rfl | rfl | rfl
  · cases h
  · have h2 : Nat.beq 11 ci = true := h
    have := Nat.eq_of_beq_eq_true h2
    omega
  · have h2 : Nat.beq 10 ci = true := h
    have := Nat.eq_of_beq_eq_true h2
    omega
