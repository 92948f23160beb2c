/-! FLOATS: a share of whole minutes (pure). -/
section
variable {l : Launch} {g : EG}
section FPS
/-- a float of the normal range -/
def fE (C : Nat) (Q : Int) : Nat := FP.Core.encode FP.Core.b32 (.fin false C Q)
theorem b_tl : FP.Core.b32.tails = 8388608 := rfl
theorem b_ex : FP.Core.b32.exps = 256 := rfl
theorem b_qn : FP.Core.b32.qmin = -149 := rfl
theorem b_qx : FP.Core.b32.qmax = 104 := rfl
theorem b_p : FP.Core.b32.p = 24 := rfl
def nrm (C : Nat) : Prop := 8388608 ≤ C ∧ C < 16777216
def rng (Q : Int) : Prop := -149 ≤ Q ∧ Q ≤ 104
theorem fE_v {C : Nat} {Q : Int} (h : nrm C) : fE C Q = ((Q + 149).toNat + 1) * 8388608 + (C - 8388608) := by
  unfold fE FP.Core.encode
  have := h.1
  dsimp only
  rw [if_neg (show ¬ C < FP.Core.b32.tails by rw [b_tl]; omega)]
  unfold FP.Core.assemble
  rw [b_ex, b_tl, b_qn]
  show (0 * 256 + ((Q - -149).toNat + 1)) * 8388608 + (C - 8388608) = _
  have e : (Q - -149) = Q + 149 := by omega
  rw [e]
  simp
theorem fE_lt {C : Nat} {Q : Int} (h : nrm C) (hq : rng Q) : fE C Q < 2139095040 := by
  rw [fE_v h]
  obtain ⟨h1, h2⟩ := h
  obtain ⟨h3, h4⟩ := hq
  omega
theorem fE_dec {C : Nat} {Q : Int} (h : nrm C) (hq : rng Q) : FP.Core.decode FP.Core.b32 (fE C Q) = .fin false C Q := by
  have v := fE_v (Q := Q) h
  obtain ⟨h1, h2⟩ := h
  obtain ⟨h3, h4⟩ := hq
  have eE : FP.Core.fieldE FP.Core.b32 (fE C Q) = (Q + 149).toNat + 1 := by
    unfold FP.Core.fieldE; rw [b_tl, b_ex, v]; omega
  have eT : FP.Core.fieldT FP.Core.b32 (fE C Q) = C - 8388608 := by
    unfold FP.Core.fieldT; rw [b_tl, v]; omega
  have eS : FP.Core.fieldS FP.Core.b32 (fE C Q) = false := by
    unfold FP.Core.fieldS; rw [b_tl, b_ex, v]
    have : (((Q + 149).toNat + 1) * 8388608 + (C - 8388608)) / 8388608 / 256 % 2 = 0 := by omega
    rw [this]; rfl
  unfold FP.Core.decode
  rw [eE, eT, eS, b_ex, b_tl, b_qn, if_neg (by omega), if_neg (by omega)]
  have e1 : 8388608 + (C - 8388608) = C := by omega
  have e2 : (-149 : Int) + ((((Q + 149).toNat + 1 : Nat) : Int) - 1) = Q := by omega
  rw [e1, e2]
def fU (C : Nat) (Q : Int) : UInt32 := UInt32.ofNat (fE C Q)
theorem fU_n {C : Nat} {Q : Int} (h : nrm C) (hq : rng Q) : (fU C Q).toNat = fE C Q := by
  have := fE_lt h hq
  unfold fU
  rw [UInt32.toNat_ofNat']
  exact Nat.mod_eq_of_lt (by omega)
theorem fU_d {C : Nat} {Q : Int} (h : nrm C) (hq : rng Q) : FP.Core.decode FP.Core.b32 (fU C Q).toNat = .fin false C Q := by rw [fU_n h hq]; exact fE_dec h hq
theorem lg_n {c : Nat} (h0 : 0 < c) (h : c < 16777216) : c.log2 ≤ 23 ∧ nrm (c * 2 ^ (23 - c.log2)) := by
  have h1 := Nat.log2_self_le (n := c) (by omega)
  have h2 := Nat.lt_log2_self (n := c)
  have h3 : c.log2 ≤ 23 := by
    apply Classical.byContradiction
    intro z
    have : 2 ^ 24 ≤ 2 ^ c.log2 := Nat.pow_le_pow_right (by omega) (by omega)
    omega
  refine ⟨h3, ?_, ?_⟩
  · have : 2 ^ c.log2 * 2 ^ (23 - c.log2) ≤ c * 2 ^ (23 - c.log2) := Nat.mul_le_mul_right _ h1
    rw [← Nat.pow_add, show c.log2 + (23 - c.log2) = 23 by omega] at this
    exact this
  · have : c * 2 ^ (23 - c.log2) < 2 ^ (c.log2 + 1) * 2 ^ (23 - c.log2) := Nat.mul_lt_mul_of_pos_right h2 (Nat.pow_pos (by omega))
    rw [← Nat.pow_add, show c.log2 + 1 + (23 - c.log2) = 24 by omega] at this
    exact this
theorem nst_1 {n : Nat} : FP.Core.nearest n 1 = n := by
  unfold FP.Core.nearest
  rw [Nat.mod_one, if_pos (by omega), Nat.div_one]
theorem ldg_1 {c : Nat} (h : 0 < c) : FP.Core.leading c 1 = c.log2 := by
  unfold FP.Core.leading
  have e : (Nat.log2 1 : Int) = 0 := by decide
  dsimp only
  rw [e]
  have h1 := Nat.log2_self_le (n := c) (by omega)
  rw [if_pos]
  · omega
  · have e1 : ((c.log2 : Int) - 0).toNat = c.log2 := by omega
    have e2 : (-((c.log2 : Int) - 0)).toNat = 0 := by omega
    rw [e1, e2]; omega
/-- a whole number with few digits is exact -/
theorem rr_1 {c : Nat} {q : Int} (h0 : 0 < c) (h : c < 16777216) (hq : -126 ≤ q) (hq2 : q ≤ 80) : FP.Core.roundRatio FP.Core.b32 false c 1 q = .fin false (c * 2 ^ (23 - c.log2)) (q - ((23 - c.log2 : Nat) : Int)) := by
  obtain ⟨l1, l2, l3⟩ := lg_n h0 h
  unfold FP.Core.roundRatio
  rw [if_neg (by omega)]
  have qu : FP.Core.quantum FP.Core.b32 c 1 q = q - ((23 - c.log2 : Nat) : Int) := by
    unfold FP.Core.quantum
    rw [ldg_1 h0, b_qn, b_p]
    omega
  rw [qu]
  unfold FP.Core.roundAt FP.Core.unitsNum FP.Core.unitsDen
  have e1 : (q - (q - ((23 - c.log2 : Nat) : Int))).toNat = 23 - c.log2 := by omega
  have e2 : ((q - ((23 - c.log2 : Nat) : Int)) - q).toNat = 0 := by omega
  rw [e1, e2, Nat.pow_zero, Nat.mul_one, nst_1]
  unfold FP.Core.settle
  rw [if_pos (by rw [b_p]; exact l3)]
  unfold FP.Core.bound
  rw [if_pos (by rw [b_qx]; omega)]
theorem i2f_v {n : Nat} (h0 : 0 < n) (h : n < 16777216) {v : Int32} (hv : v.toInt = n) : FP.Core.i2f v = fU (n * 2 ^ (23 - n.log2)) (-((23 - n.log2 : Nat) : Int)) := by
  unfold FP.Core.i2f FP.Core.fromInt FP.Core.ofInt
  rw [hv]
  show UInt32.ofNat (FP.Core.encode FP.Core.b32 (FP.Core.round FP.Core.b32 (.fin (decide ((n : Int) < 0)) (n : Int).natAbs 0))) = _
  have e : decide ((n : Int) < 0) = false := decide_eq_false (by omega)
  rw [e]
  show UInt32.ofNat (FP.Core.encode FP.Core.b32 (FP.Core.roundRatio FP.Core.b32 false n 1 0)) = _
  rw [rr_1 h0 h (by omega) (by omega), show (0 : Int) - ((23 - n.log2 : Nat) : Int) = -((23 - n.log2 : Nat) : Int) by omega]
  rfl
theorem i2f_0 {v : Int32} (hv : v.toInt = 0) : FP.Core.i2f v = 0 := by
  unfold FP.Core.i2f
  rw [hv]; rfl
theorem l2f_i {v : Int64} {w : Int32} (h : v.toInt = w.toInt) : FP.Core.l2f v = FP.Core.i2f w := by
  unfold FP.Core.l2f FP.Core.i2f; rw [h]
theorem nst_r {num den : Nat} (hd : 0 < den) : num / den ≤ FP.Core.nearest num den ∧ FP.Core.nearest num den ≤ num / den + 1 := by
  unfold FP.Core.nearest
  split
  · omega
  · split
    · omega
    · have := Nat.mod_lt (num / den) (show 2 > 0 by omega); omega
theorem nst_x {k den : Nat} (hd : 0 < den) : FP.Core.nearest (den * k) den = k := by
  unfold FP.Core.nearest
  rw [Nat.mul_mod_right, if_pos (by omega), Nat.mul_div_cancel_left _ hd]
theorem lg_nrm {c : Nat} (h : nrm c) : c.log2 = 23 := by
  obtain ⟨h1, h2⟩ := h
  have := (Nat.log2_eq_iff (n := c) (k := 23) (by omega)).mpr ⟨by omega, by omega⟩
  exact this
theorem bnd {s : Bool} {c : Nat} {q : Int} (h : q ≤ 104) : FP.Core.bound FP.Core.b32 s c q = .fin s c q := by
  unfold FP.Core.bound; rw [if_pos (by rw [b_qx]; exact h)]
/-- the quotient of two floats -/
theorem qt_v {c d : Nat} {e : Int} (hc : nrm c) (hd : nrm d) (he : -60 ≤ e) (he0 : e ≤ 0) (h : e = 0 → c ≤ d) : ∃ C Q, FP.Core.roundRatio FP.Core.b32 false c d e = .fin false C Q ∧ nrm C ∧ -90 ≤ Q ∧ Q ≤ -23 := by
  have lc := lg_nrm hc
  have ld := lg_nrm hd
  obtain ⟨c1, c2⟩ := hc
  obtain ⟨d1, d2⟩ := hd
  have hl : FP.Core.leading c d = if d ≤ c then 0 else -1 := by
    unfold FP.Core.leading
    rw [lc, ld]
    simp
  unfold FP.Core.roundRatio
  rw [if_neg (by omega)]
  by_cases q : d ≤ c
  · rw [if_pos q] at hl
    have qu : FP.Core.quantum FP.Core.b32 c d e = e - 23 := by
      unfold FP.Core.quantum
      rw [hl, b_qn, b_p]
      omega
    rw [qu]
    unfold FP.Core.roundAt FP.Core.unitsNum FP.Core.unitsDen
    have e1 : (e - (e - 23)).toNat = 23 := by omega
    have e2 : ((e - 23) - e).toNat = 0 := by omega
    rw [e1, e2, Nat.pow_zero, Nat.mul_one]
    obtain ⟨n1, n2⟩ := nst_r (num := c * 2 ^ 23) (den := d) (by omega)
    have lo : 8388608 ≤ c * 2 ^ 23 / d := by
      rw [Nat.le_div_iff_mul_le (by omega)]
      omega
    have hi : c * 2 ^ 23 / d < 16777216 := by
      rw [Nat.div_lt_iff_lt_mul (by omega)]
      omega
    by_cases z : e = 0
    · have cd : c = d := by have := h z; omega
      subst cd
      rw [nst_x (by omega)]
      unfold FP.Core.settle
      rw [if_pos (by rw [b_p]; decide), bnd (by omega)]
      exact ⟨_, _, rfl, ⟨by decide, by decide⟩, by omega, by omega⟩
    · unfold FP.Core.settle
      by_cases w : FP.Core.nearest (c * 2 ^ 23) d < 16777216
      · rw [if_pos (by rw [b_p]; exact w), bnd (by omega)]
        exact ⟨_, _, rfl, ⟨by omega, w⟩, by omega, by omega⟩
      · rw [if_neg (by rw [b_p]; exact w), bnd (by omega)]
        exact ⟨_, _, rfl, ⟨by decide, by decide⟩, by omega, by omega⟩
  · rw [if_neg q] at hl
    have qu : FP.Core.quantum FP.Core.b32 c d e = e - 24 := by
      unfold FP.Core.quantum
      rw [hl, b_qn, b_p]
      omega
    rw [qu]
    unfold FP.Core.roundAt FP.Core.unitsNum FP.Core.unitsDen
    have e1 : (e - (e - 24)).toNat = 24 := by omega
    have e2 : ((e - 24) - e).toNat = 0 := by omega
    rw [e1, e2, Nat.pow_zero, Nat.mul_one]
    obtain ⟨n1, n2⟩ := nst_r (num := c * 2 ^ 24) (den := d) (by omega)
    have lo : 8388608 ≤ c * 2 ^ 24 / d := by
      rw [Nat.le_div_iff_mul_le (by omega)]
      omega
    have hi : c * 2 ^ 24 / d < 16777216 := by
      rw [Nat.div_lt_iff_lt_mul (by omega)]
      omega
    unfold FP.Core.settle
    by_cases w : FP.Core.nearest (c * 2 ^ 24) d < 16777216
    · rw [if_pos (by rw [b_p]; exact w), bnd (by omega)]
      exact ⟨_, _, rfl, ⟨by omega, w⟩, by omega, by omega⟩
    · rw [if_neg (by rw [b_p]; exact w), bnd (by omega)]
      exact ⟨_, _, rfl, ⟨by decide, by decide⟩, by omega, by omega⟩
theorem lg_mono {m n : Nat} (h0 : 0 < m) (h : m ≤ n) : m.log2 ≤ n.log2 := by
  apply Classical.byContradiction
  intro z
  have h1 := Nat.log2_self_le (n := m) (by omega)
  have h2 := Nat.lt_log2_self (n := n)
  have : 2 ^ (n.log2 + 1) ≤ 2 ^ m.log2 := Nat.pow_le_pow_right (by omega) (by omega)
  omega
/-- a share of whole minutes -/
theorem sh_v {m n : Nat} (h0 : 0 < m) (h : m ≤ n) (hn : n < 16777216) {v w : Int32} (hv : v.toInt = m) (hw : w.toInt = n) : ∃ C Q, FP.Core.fdiv (FP.Core.i2f v) (FP.Core.i2f w) = fU C Q ∧ nrm C ∧ -90 ≤ Q ∧ Q ≤ -23 := by
  obtain ⟨a1, a2⟩ := lg_n h0 (by omega)
  obtain ⟨b1, b2⟩ := lg_n (c := n) (by omega) hn
  have lm := lg_mono h0 h
  have hq : (-((23 - m.log2 : Nat) : Int)) - (-((23 - n.log2 : Nat) : Int)) = (m.log2 : Int) - (n.log2 : Int) := by omega
  obtain ⟨C, Q, r1, r2, r3, r4⟩ := qt_v (e := (m.log2 : Int) - (n.log2 : Int)) a2 b2 (by omega) (by omega) (fun z => by
    have : m.log2 = n.log2 := by omega
    rw [this]; exact Nat.mul_le_mul_right _ h)
  refine ⟨C, Q, ?_, r2, r3, r4⟩
  rw [i2f_v h0 (by omega) hv, i2f_v (by omega) hn hw]
  unfold FP.Core.fdiv FP.Core.div
  rw [fU_d a2 ⟨by omega, by omega⟩, fU_d b2 ⟨by omega, by omega⟩]
  unfold FP.Core.quotient
  have nz : ¬ n * 2 ^ (23 - n.log2) = 0 := by have := b2.1; omega
  dsimp only
  rw [if_neg nz, hq]
  show UInt32.ofNat (FP.Core.encode FP.Core.b32 (FP.Core.roundRatio FP.Core.b32 false _ _ _)) = _
  rw [r1]; rfl
theorem sh_0 {n : Nat} (h : 0 < n) (hn : n < 16777216) {v w : Int32} (hv : v.toInt = 0) (hw : w.toInt = n) : FP.Core.fdiv (FP.Core.i2f v) (FP.Core.i2f w) = 0 := by
  obtain ⟨b1, b2⟩ := lg_n h hn
  rw [i2f_0 hv, i2f_v h hn hw]
  unfold FP.Core.fdiv FP.Core.div
  rw [fU_d b2 ⟨by omega, by omega⟩]
  have nz : ¬ n * 2 ^ (23 - n.log2) = 0 := by have := b2.1; omega
  have e : FP.Core.decode FP.Core.b32 (0 : UInt32).toNat = .fin false 0 (-149) := by decide
  rw [e]
  unfold FP.Core.quotient
  dsimp only
  rw [if_neg nz]
  unfold FP.Core.roundRatio
  rw [if_pos rfl]
  decide
theorem ldg_p {c : Nat} (h : nrm c) : (c * 8388608).log2 = 46 := by
  obtain ⟨h1, h2⟩ := h
  exact (Nat.log2_eq_iff (n := c * 8388608) (k := 46) (by omega)).mpr ⟨by omega, by omega⟩
/-- times a power of two -/
theorem fm_v {C : Nat} {Q P : Int} (h : nrm C) (hq : rng Q) (hp : rng P) (hr : -149 ≤ Q + P + 23) (hr2 : Q + P + 23 ≤ 104) : FP.Core.fmul (fU C Q) (fU 8388608 P) = fU C (Q + P + 23) := by
  unfold FP.Core.fmul FP.Core.mul
  rw [fU_d h hq, fU_d ⟨by decide, by decide⟩ hp]
  show UInt32.ofNat (FP.Core.encode FP.Core.b32 (FP.Core.roundRatio FP.Core.b32 false (C * 8388608) 1 (Q + P))) = UInt32.ofNat (FP.Core.encode FP.Core.b32 (.fin false C (Q + P + 23)))
  have l := ldg_p h
  obtain ⟨h1, h2⟩ := h
  obtain ⟨q1, q2⟩ := hq
  obtain ⟨p1, p2⟩ := hp
  unfold FP.Core.roundRatio
  rw [if_neg (by omega)]
  have qu : FP.Core.quantum FP.Core.b32 (C * 8388608) 1 (Q + P) = Q + P + 23 := by
    unfold FP.Core.quantum
    rw [ldg_1 (by omega), b_qn, b_p, l]
    omega
  rw [qu]
  unfold FP.Core.roundAt FP.Core.unitsNum FP.Core.unitsDen
  have e1 : (Q + P - (Q + P + 23)).toNat = 0 := by omega
  have e2 : (Q + P + 23 - (Q + P)).toNat = 23 := by omega
  rw [e1, e2, Nat.pow_zero, Nat.mul_one, Nat.one_mul, show (2 : Nat) ^ 23 = 8388608 by decide, Nat.mul_comm C 8388608, nst_x (by omega)]
  unfold FP.Core.settle
  rw [if_pos (by rw [b_p]; omega), bnd (by omega)]
theorem f1_u : FP.fconst1 = fU 8388608 (-23) := by decide
theorem f2_u : FP.fconst2 = fU 8388608 (-22) := by decide
theorem f8_u : (1258291200 : UInt32) = fU 8388608 0 := by decide
theorem fd_u : FP.fconst0 = 0 := rfl
theorem fc_0 {C : Nat} {Q : Int} (h : nrm C) (hq : rng Q) : FP.Core.fcmp (fU C Q) 0 = some .gt := by
  unfold FP.Core.fcmp FP.Core.cmp
  rw [fU_d h hq]
  have e : FP.Core.decode FP.Core.b32 (0 : UInt32).toNat = .fin false 0 (-149) := by decide
  rw [e]
  obtain ⟨h1, h2⟩ := h
  unfold FP.Core.order FP.Core.signed FP.Core.inUnits
  show some (compare ((C * 2 ^ (Q - min Q (-149)).toNat : Nat) : Int) ((0 * 2 ^ (-149 - min Q (-149)).toNat : Nat) : Int)) = some .gt
  rw [Nat.zero_mul]
  congr 1
  have : 0 < C * 2 ^ (Q - min Q (-149)).toNat := Nat.mul_pos (by omega) (Nat.pow_pos (by omega))
  exact Int.compare_eq_gt.mpr (by omega)
theorem fc_1 {C : Nat} {Q : Int} (h : nrm C) (hq : rng Q) : FP.Core.fcmp (fU C Q) (fU 8388608 (-23)) = some (if Q < -23 then .lt else if Q = -23 then compare (C : Int) 8388608 else .gt) := by
  unfold FP.Core.fcmp FP.Core.cmp
  rw [fU_d h hq, fU_d ⟨by decide, by decide⟩ ⟨by omega, by omega⟩]
  obtain ⟨h1, h2⟩ := h
  unfold FP.Core.order FP.Core.signed FP.Core.inUnits
  show some (compare ((C * 2 ^ (Q - min Q (-23)).toNat : Nat) : Int) ((8388608 * 2 ^ (-23 - min Q (-23)).toNat : Nat) : Int)) = _
  congr 1
  by_cases a : Q < -23
  · rw [if_pos a]
    have e1 : (Q - min Q (-23)).toNat = 0 := by omega
    have : 2 ^ 1 ≤ 2 ^ (-23 - min Q (-23)).toNat := Nat.pow_le_pow_right (by omega) (by omega)
    rw [e1]
    exact Int.compare_eq_lt.mpr (by omega)
  rw [if_neg a]
  have e2 : (-23 - min Q (-23)).toNat = 0 := by omega
  by_cases b : Q = -23
  · rw [if_pos b, e2]
    have e1 : (Q - min Q (-23)).toNat = 0 := by omega
    rw [e1, Nat.pow_zero, Nat.mul_one]
    rfl
  · rw [if_neg b, e2]
    have : 2 ^ 1 ≤ 2 ^ (Q - min Q (-23)).toNat := Nat.pow_le_pow_right (by omega) (by omega)
    have : 8388608 * 2 ≤ C * 2 ^ (Q - min Q (-23)).toNat := Nat.mul_le_mul h1 this
    exact Int.compare_eq_gt.mpr (by omega)
theorem sm_0 : FP.Core.roundRatio FP.Core.b32 false 0 1 (-23) = .fin false 0 (-149) := rfl
theorem en_0 : UInt32.ofNat (FP.Core.encode FP.Core.b32 (.fin false 0 (-149))) = 0 := by decide
theorem sm_d {C : Nat} (h : nrm C) : FP.Core.exactSum (.fin false C (-23)) (FP.Core.negate (.fin false 8388608 (-23))) = .fin false (C - 8388608) (-23) := by
  obtain ⟨h1, h2⟩ := h
  have m : min (-23 : Int) (-23) = -23 := by omega
  have z : ((-23 : Int) - -23).toNat = 0 := by omega
  have es : FP.Core.sumUnits false C (-23) true 8388608 (-23) (-23) = ((C - 8388608 : Nat) : Int) := by
    unfold FP.Core.sumUnits FP.Core.inUnits
    rw [z, Nat.pow_zero, Nat.mul_one, Nat.mul_one]
    unfold FP.Core.signed
    rw [if_neg (by decide), if_pos rfl]
    omega
  have eg : FP.Core.sumSign false true ((C - 8388608 : Nat) : Int) = false := by
    unfold FP.Core.sumSign
    split
    · rfl
    · exact decide_eq_false (by omega)
  show FP.Core.Datum.fin (FP.Core.sumSign false true (FP.Core.sumUnits false C (-23) true 8388608 (-23) (min (-23) (-23)))) (FP.Core.sumUnits false C (-23) true 8388608 (-23) (min (-23) (-23))).natAbs (min (-23) (-23)) = _
  rw [m, es, eg, Int.natAbs_natCast]
/-- minus one -/
theorem fs_v {C : Nat} (h : nrm C) : FP.Core.fsub (fU C (-23)) (fU 8388608 (-23)) = if C = 8388608 then 0 else fU ((C - 8388608) * 2 ^ (23 - (C - 8388608).log2)) (-23 - ((23 - (C - 8388608).log2 : Nat) : Int)) := by
  unfold FP.Core.fsub FP.Core.sub
  rw [fU_d h ⟨by omega, by omega⟩, fU_d ⟨by decide, by decide⟩ ⟨by omega, by omega⟩, sm_d h]
  obtain ⟨h1, h2⟩ := h
  show UInt32.ofNat (FP.Core.encode FP.Core.b32 (FP.Core.roundRatio FP.Core.b32 false (C - 8388608) 1 (-23))) = _
  by_cases z : C = 8388608
  · rw [if_pos z, z, Nat.sub_self, sm_0, en_0]
  · rw [if_neg z, rr_1 (by omega) (by omega) (by omega) (by omega)]
    rfl
theorem ft_0 : FP.Core.f2i (FP.Core.fmul 0 (fU 8388608 0)) = 0 := by decide +kernel
theorem ti_v {d k : Nat} {q : Int} (hq : q = -(k : Int)) (hd : d < 2147483648) : FP.Core.toI (.fin false (d * 2 ^ k) q) = Int32.ofNat d := by
  have e1 : q.toNat = 0 := by omega
  have e2 : (-q).toNat = k := by omega
  have et : FP.Core.truncate false (d * 2 ^ k) q = (d : Int) := by
    unfold FP.Core.truncate FP.Core.signed
    rw [if_neg (by decide), e1, e2, Nat.pow_zero, Nat.mul_one, Nat.mul_div_cancel _ (Nat.pow_pos (by omega))]
  have e3 : FP.Core.toInt (-2 ^ 31) (2 ^ 31 - 1) (.fin false (d * 2 ^ k) q) = (d : Int) := by
    show max (-2 ^ 31) (min (2 ^ 31 - 1) (FP.Core.truncate false (d * 2 ^ k) q)) = _
    rw [et]
    omega
  unfold FP.Core.toI
  rw [e3]
  exact Int32.toInt_inj.mp (by rw [Int32.toInt_ofInt, Int32.toInt_ofNat'])
/-- the tail of a share, as a whole number -/
theorem ft_v {C : Nat} (h : nrm C) : FP.Core.f2i (FP.Core.fmul (FP.Core.fsub (fU C (-23)) (fU 8388608 (-23))) (fU 8388608 0)) = Int32.ofNat (C - 8388608) := by
  rw [fs_v h]
  obtain ⟨h1, h2⟩ := h
  by_cases z : C = 8388608
  · rw [if_pos z, z, Nat.sub_self, ft_0]; rfl
  rw [if_neg z]
  obtain ⟨l1, l2⟩ := lg_n (c := C - 8388608) (by omega) (by omega)
  rw [fm_v l2 ⟨by omega, by omega⟩ ⟨by omega, by omega⟩ (by omega) (by omega)]
  unfold FP.Core.f2i
  rw [fU_d l2 ⟨by omega, by omega⟩]
  exact ti_v (k := 23 - (C - 8388608).log2) (by omega) (by omega)
theorem fn_v {C : Nat} {Q : Int} (h : nrm C) (hq : rng Q) : FP.Core.fIsNaN (fU C Q) = false := by
  unfold FP.Core.fIsNaN FP.Core.isNaN
  rw [fU_d h hq]; exact decide_eq_false (by simp)
theorem nn_lt {x : UInt32} (h : x.toNat ≤ 2139095040) : x &&& 0x7fffffff ≤ 0x7f800000 := by
  rw [UInt32.le_iff_toNat_le, UInt32.toNat_and]
  have : x.toNat &&& (2147483647 : Nat) = x.toNat % 2147483648 := Nat.and_two_pow_sub_one_eq_mod x.toNat 31
  show x.toNat &&& 2147483647 ≤ 2139095040
  rw [this]; omega
theorem fU_nn {C : Nat} {Q : Int} (h : nrm C) (hq : rng Q) : fU C Q &&& 0x7fffffff ≤ 0x7f800000 := nn_lt (by rw [fU_n h hq]; exact Nat.le_of_lt (fE_lt h hq))
theorem fs_nn {C : Nat} (h : nrm C) : FP.Core.fsub (fU C (-23)) (fU 8388608 (-23)) &&& 0x7fffffff ≤ 0x7f800000 := by
  rw [fs_v h]
  obtain ⟨h1, h2⟩ := h
  by_cases z : C = 8388608
  · rw [if_pos z]; decide
  · rw [if_neg z]
    obtain ⟨l1, l2⟩ := lg_n (c := C - 8388608) (by omega) (by omega)
    exact fU_nn l2 ⟨by omega, by omega⟩
theorem fz_u : FP.Core.fmul 0 (fU 8388608 0) = 0 := by decide +kernel
theorem ft_nn {C : Nat} (h : nrm C) : FP.Core.fmul (FP.Core.fsub (fU C (-23)) (fU 8388608 (-23))) (fU 8388608 0) &&& 0x7fffffff ≤ 0x7f800000 := by
  rw [fs_v h]
  obtain ⟨h1, h2⟩ := h
  by_cases z : C = 8388608
  · rw [if_pos z, fz_u]; decide
  · rw [if_neg z]
    obtain ⟨l1, l2⟩ := lg_n (c := C - 8388608) (by omega) (by omega)
    rw [fm_v l2 ⟨by omega, by omega⟩ ⟨by omega, by omega⟩ (by omega) (by omega)]
    exact fU_nn l2 ⟨by omega, by omega⟩
theorem sh23s : ((23 : Int32) &&& 31).toBitVec.smod 32 = 23#32 := by decide
theorem sh23 {E : Nat} (h : E < 256) : (Int32.ofNat E <<< ((23 : Int32) &&& 31)).toBitVec.toNat = E * 8388608 := by
  rw [Int32.toBitVec_shiftLeft, sh23s, BitVec.shiftLeft_eq', BitVec.toNat_shiftLeft, Nat.shiftLeft_eq]
  have e1 : (Int32.ofNat E).toBitVec.toNat = E := by
    show (BitVec.ofNat 32 E).toNat = E
    rw [BitVec.toNat_ofNat]; omega
  have e2 : (2 : Nat) ^ (23#32).toNat = 8388608 := by decide
  rw [e1, e2]
  omega
theorem bit_a {E T : Nat} (h : E < 256) (hT : T < 8388608) : ((Int32.ofNat E <<< ((23 : Int32) &&& 31)) + Int32.ofNat T).toBitVec.toNat = E * 8388608 + T := by
  rw [Int32.toBitVec_add, BitVec.toNat_add, sh23 h]
  have e1 : (Int32.ofNat T).toBitVec.toNat = T := by
    show (BitVec.ofNat 32 T).toNat = T
    rw [BitVec.toNat_ofNat]; omega
  rw [e1]
  omega
theorem bit_v {C : Nat} {Q : Int} {E : Nat} (h : nrm C) (hq : rng Q) (hE : (E : Int) = Q + 150) : (Int32.ofNat E <<< ((23 : Int32) &&& 31)) + Int32.ofNat (C - 8388608) = (fU C Q).toInt32 := by
  have hv := fE_v (Q := Q) h
  have hn := fU_n h hq
  obtain ⟨h1, h2⟩ := h
  obtain ⟨q1, q2⟩ := hq
  have e1 : (Q + 149).toNat + 1 = E := by omega
  rw [e1] at hv
  apply Int32.toBitVec_inj.mp
  apply BitVec.eq_of_toNat_eq
  rw [bit_a (by omega) (by omega), ← hv, ← hn]
  rfl
/-- a share: none, or a float from 2^-67 up to 2 -/
def shOk (w : UInt32) : Prop := w = 0 ∨ ∃ C Q, w = fU C Q ∧ nrm C ∧ -90 ≤ Q ∧ Q ≤ -23
theorem shOk.nn {w : UInt32} (h : shOk w) : w &&& 0x7fffffff ≤ 0x7f800000 := by
  rcases h with rfl | ⟨C, Q, rfl, h1, h2, h3⟩
  · decide
  · exact fU_nn h1 ⟨by omega, by omega⟩
theorem shOk.na {w : UInt32} (h : shOk w) : FP.Core.fcmp w w = some .eq := by
  rcases h with rfl | ⟨C, Q, rfl, h1, h2, h3⟩
  · decide
  · unfold FP.Core.fcmp FP.Core.cmp
    rw [fU_d h1 ⟨by omega, by omega⟩]
    unfold FP.Core.order
    show some (compare _ _) = _
    rw [Int.compare_eq_eq.mpr rfl]
theorem sh_k {m n : Int32} (h0 : 0 ≤ m.toInt) (h : m.toInt ≤ n.toInt) (h1 : 1 ≤ n.toInt) (hn : n.toInt ≤ 100000) : shOk (FP.Core.fdiv (FP.Core.i2f m) (FP.Core.i2f n)) := by
  have e1 : m.toInt = ((m.toInt.toNat : Nat) : Int) := by omega
  have e2 : n.toInt = ((n.toInt.toNat : Nat) : Int) := by omega
  by_cases z : m.toInt = 0
  · exact .inl (sh_0 (n := n.toInt.toNat) (by omega) (by omega) z e2)
  · obtain ⟨C, Q, a, b, c, d⟩ := sh_v (m := m.toInt.toNat) (n := n.toInt.toNat) (by omega) (by omega) (by omega) e1 e2
    exact .inr ⟨C, Q, a, b, c, d⟩
theorem i64_s {f t : Int32} : (t.toInt64 - f.toInt64).toInt = t.toInt - f.toInt := by
  rw [Int64.toInt_sub, Int32.toInt_toInt64, Int32.toInt_toInt64]
  have a := Int32.toInt_lt f
  have b := Int32.le_toInt f
  have c := Int32.toInt_lt t
  have d := Int32.le_toInt t
  simp only [Int.bmod]
  split <;> omega
end FPS
end
