/-! FLOATS: the share of busy minutes, its bits. -/
section
variable {l : Launch} {g : EG}
theorem fcv_gt : Op.cmpValue (some .gt) .l = 1 := rfl
theorem fcv_lt : Op.cmpValue (some .lt) .g = -1 := rfl
theorem agB1_r {ln : Nat → Int32} {f t : Int32} {q : Int32 × Int32} {x : AG} (h1 : t.toInt - f.toInt ≤ 100000) (h : (0 ≤ q.1.toInt ∧ q.1.toInt ≤ q.2.toInt - f.toInt) ∧ f.toInt ≤ q.2.toInt ∧ q.2.toInt ≤ t.toInt) : (0 ≤ (agB1 ln t q x).1.toInt ∧ (agB1 ln t q x).1.toInt ≤ (agB1 ln t q x).2.toInt - f.toInt) ∧ f.toInt ≤ (agB1 ln t q x).2.toInt ∧ (agB1 ln t q x).2.toInt ≤ t.toInt := by
  obtain ⟨⟨a, b⟩, c, d⟩ := h
  unfold agB1
  have hS : q.2.toInt ≤ (if q.2 < x.1 then x.1 else q.2).toInt := by
    split
    · rename_i z; rw [Int32.lt_iff_toInt_lt] at z; omega
    · exact Int.le_refl _
  have hE : (if x.1 + ln x.2.1 < t then x.1 + ln x.2.1 else t).toInt ≤ t.toInt := by
    split
    · rename_i z; rw [Int32.lt_iff_toInt_lt] at z; omega
    · exact Int.le_refl _
  generalize (if q.2 < x.1 then x.1 else q.2) = S at *
  generalize (if x.1 + ln x.2.1 < t then x.1 + ln x.2.1 else t) = E at *
  split
  · rename_i z
    rw [Int32.lt_iff_toInt_lt] at z
    dsimp only
    have e : (q.1 + E - S).toInt = q.1.toInt + E.toInt - S.toInt := by
      rw [Int32.toInt_sub, Int32.toInt_add]
      simp only [Int.bmod]
      repeat' split
      all_goals omega
    rw [e]
    omega
  · exact ⟨⟨a, b⟩, c, d⟩
theorem agBm_r {ln : Nat → Int32} {A : List AG} {f t : Int32} (h0 : f.toInt ≤ t.toInt) (h1 : t.toInt - f.toInt ≤ 100000) : ∀ k, (0 ≤ (agBm ln A f t k).1.toInt ∧ (agBm ln A f t k).1.toInt ≤ (agBm ln A f t k).2.toInt - f.toInt) ∧ f.toInt ≤ (agBm ln A f t k).2.toInt ∧ (agBm ln A f t k).2.toInt ≤ t.toInt
  | 0 => ⟨⟨Int.le_refl _, by show (0 : Int32).toInt ≤ f.toInt - f.toInt; rw [i_0]; omega⟩, Int.le_refl _, h0⟩
  | k + 1 => agB1_r h1 (agBm_r h0 h1 k)
theorem tm_i {f t : Int32} (h : tmOk f t) : 1 ≤ t.toInt - f.toInt ∧ t.toInt - f.toInt ≤ 100000 := by
  obtain ⟨h1, h2⟩ := h
  unfold lg_cmp at h1 h2
  have e := i64_s (f := f) (t := t)
  constructor
  · apply Classical.byContradiction
    intro z
    apply h1
    rw [if_neg (fun w => by rw [gt_iff_lt, Int64.lt_iff_toInt_lt, e] at w; have : (1 : Int64).toInt = 1 := by decide
                            omega), if_neg (fun w => by rw [w] at e; have : (1 : Int64).toInt = 1 := by decide
                                                        omega)]
    decide
  · apply Classical.byContradiction
    intro z
    apply h2
    rw [if_pos (by rw [gt_iff_lt, Int64.lt_iff_toInt_lt, e]; have : (100000 : Int64).toInt = 100000 := by decide
                   omega)]
    decide
theorem tm_s {f t : Int32} (h : tmOk f t) : (t - f).toInt = t.toInt - f.toInt := by
  have := tm_i h
  rw [Int32.toInt_sub]
  simp only [Int.bmod]
  split <;> omega
theorem sh_ag {ln : Nat → Int32} {A : List AG} {f t : Int32} (h : tmOk f t) (k : Nat) : shOk (FP.fdiv (FP.i2f (agBm ln A f t k).1) (FP.i2f (t - f))) := by
  have e := tm_i h
  have s := tm_s h
  obtain ⟨⟨a, b⟩, c, d⟩ := agBm_r (ln := ln) (A := A) (f := f) (t := t) (by omega) (by omega) k
  exact sh_k a (by omega) (by omega) (by omega)
theorem l2f_s {f t : Int32} (h : tmOk f t) : FP.l2f (t.toInt64 - f.toInt64) = FP.i2f (t - f) := l2f_i (by rw [i64_s, tm_s h])
end
